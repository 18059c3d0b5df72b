def ySch : MethodName := ⟨"java/lang/String", "charAt", "(I)C"⟩
abbrev cSch : ByteArray := prog_22_method_56_code
theorem kSch : Cond.code ySch cSch 2 (some .char) ∈ Ts := (tsI (inT3 _ (List.mem_of_getElem? (i := 55) rfl)) rfl)
def ySla : MethodName := ⟨"java/lang/String", "isLatin1", "()Z"⟩
abbrev cSla : ByteArray := prog_22_method_154_code
theorem kSla : Cond.code ySla cSla 1 (some .boolean) ∈ Ts := (tsI (inT3 _ (List.mem_of_getElem? (i := 59) rfl)) rfl)
def ySci : MethodName := ⟨"java/lang/String", "checkIndex", "(II)V"⟩
abbrev cSci : ByteArray := prog_22_method_155_code
theorem kSci : Cond.code ySci cSci 2 none ∈ Ts := (tsI (inT3 _ (List.mem_of_getElem? (i := 67) rfl)) rfl)
def yLch : MethodName := ⟨"java/lang/StringLatin1", "charAt", "([BI)C"⟩
abbrev cLch : ByteArray := prog_23_method_2_code
theorem kLch : Cond.code yLch cLch 2 (some .char) ∈ Ts := (tsI (inT3 _ (List.mem_of_getElem? (i := 64) rfl)) rfl)
def yPci : MethodName := ⟨"jdk/internal/util/Preconditions", "checkIndex", "(IILjava/util/function/BiFunction;)I"⟩
abbrev cPci : ByteArray := prog_31_method_11_code
theorem kPci : Cond.code yPci cPci 3 (some .int) ∈ Ts := (tsI (inT3 _ (List.mem_of_getElem? (i := 72) rfl)) rfl)
theorem dSch_0 : decode cSch 0 = .ok (.aload_n 0, 1) := by decide +kernel
theorem dSch_1 : decode cSch 1 = .ok (.invokevirtual 492, 3) := by decide +kernel
theorem dSch_4 : decode cSch 4 = .ok (.ifCond .eq 12, 3) := by decide +kernel
theorem dSch_7 : decode cSch 7 = .ok (.aload_n 0, 1) := by decide +kernel
theorem dSch_8 : decode cSch 8 = .ok (.getfield 9, 3) := by decide +kernel
theorem dSch_11 : decode cSch 11 = .ok (.iload_n 1, 1) := by decide +kernel
theorem dSch_12 : decode cSch 12 = .ok (.invokestatic 495, 3) := by decide +kernel
theorem dSch_15 : decode cSch 15 = .ok (.ireturn, 1) := by decide +kernel
theorem dSch_16 : decode cSch 16 = .ok (.aload_n 0, 1) := by decide +kernel
theorem dSch_17 : decode cSch 17 = .ok (.getfield 9, 3) := by decide +kernel
theorem dSch_20 : decode cSch 20 = .ok (.iload_n 1, 1) := by decide +kernel
theorem dSch_21 : decode cSch 21 = .ok (.invokestatic 498, 3) := by decide +kernel
theorem dSch_24 : decode cSch 24 = .ok (.ireturn, 1) := by decide +kernel
theorem dSla_0 : decode cSla 0 = .ok (.getstatic 38, 3) := by decide +kernel
theorem dSla_3 : decode cSla 3 = .ok (.ifCond .eq 14, 3) := by decide +kernel
theorem dSla_6 : decode cSla 6 = .ok (.aload_n 0, 1) := by decide +kernel
theorem dSla_7 : decode cSla 7 = .ok (.getfield 15, 3) := by decide +kernel
theorem dSla_10 : decode cSla 10 = .ok (.ifCond .ne 7, 3) := by decide +kernel
theorem dSla_13 : decode cSla 13 = .ok (.iconst 1, 1) := by decide +kernel
theorem dSla_14 : decode cSla 14 = .ok (.goto 4, 3) := by decide +kernel
theorem dSla_17 : decode cSla 17 = .ok (.iconst 0, 1) := by decide +kernel
theorem dSla_18 : decode cSla 18 = .ok (.ireturn, 1) := by decide +kernel
theorem dSci_0 : decode cSci 0 = .ok (.iload_n 0, 1) := by decide +kernel
theorem dSci_1 : decode cSci 1 = .ok (.iload_n 1, 1) := by decide +kernel
theorem dSci_2 : decode cSci 2 = .ok (.getstatic 1053, 3) := by decide +kernel
theorem dSci_5 : decode cSci 5 = .ok (.invokestatic 1059, 3) := by decide +kernel
theorem dSci_8 : decode cSci 8 = .ok (.pop, 1) := by decide +kernel
theorem dSci_9 : decode cSci 9 = .ok (.return_, 1) := by decide +kernel
theorem dLch_0 : decode cLch 0 = .ok (.iload_n 1, 1) := by decide +kernel
theorem dLch_1 : decode cLch 1 = .ok (.aload_n 0, 1) := by decide +kernel
theorem dLch_2 : decode cLch 2 = .ok (.arraylength, 1) := by decide +kernel
theorem dLch_3 : decode cLch 3 = .ok (.invokestatic 9, 3) := by decide +kernel
theorem dLch_6 : decode cLch 6 = .ok (.aload_n 0, 1) := by decide +kernel
theorem dLch_7 : decode cLch 7 = .ok (.iload_n 1, 1) := by decide +kernel
theorem dLch_8 : decode cLch 8 = .ok (.baload, 1) := by decide +kernel
theorem dLch_9 : decode cLch 9 = .ok (.sipush 255, 3) := by decide +kernel
theorem dLch_12 : decode cLch 12 = .ok (.iand, 1) := by decide +kernel
theorem dLch_13 : decode cLch 13 = .ok (.i2c, 1) := by decide +kernel
theorem dLch_14 : decode cLch 14 = .ok (.ireturn, 1) := by decide +kernel
theorem dPci_0 : decode cPci 0 = .ok (.iload_n 0, 1) := by decide +kernel
theorem dPci_1 : decode cPci 1 = .ok (.ifCond .lt 8, 3) := by decide +kernel
theorem dPci_4 : decode cPci 4 = .ok (.iload_n 0, 1) := by decide +kernel
theorem dPci_5 : decode cPci 5 = .ok (.iload_n 1, 1) := by decide +kernel
theorem dPci_6 : decode cPci 6 = .ok (.if_icmp .lt 10, 3) := by decide +kernel
theorem dPci_9 : decode cPci 9 = .ok (.aload_n 2, 1) := by decide +kernel
theorem dPci_10 : decode cPci 10 = .ok (.iload_n 0, 1) := by decide +kernel
theorem dPci_11 : decode cPci 11 = .ok (.iload_n 1, 1) := by decide +kernel
theorem dPci_12 : decode cPci 12 = .ok (.invokestatic 95, 3) := by decide +kernel
theorem dPci_15 : decode cPci 15 = .ok (.athrow, 1) := by decide +kernel
theorem dPci_16 : decode cPci 16 = .ok (.iload_n 0, 1) := by decide +kernel
theorem dPci_17 : decode cPci 17 = .ok (.ireturn, 1) := by decide +kernel
theorem dLow_0 : decode cX10_lettersOfWord 0 = .ok (.lconst 0, 1) := by decide +kernel
theorem dLow_1 : decode cX10_lettersOfWord 1 = .ok (.lstore_n 1, 1) := by decide +kernel
theorem dLow_2 : decode cX10_lettersOfWord 2 = .ok (.iconst 0, 1) := by decide +kernel
theorem dLow_3 : decode cX10_lettersOfWord 3 = .ok (.istore_n 3, 1) := by decide +kernel
theorem dLow_4 : decode cX10_lettersOfWord 4 = .ok (.iload_n 3, 1) := by decide +kernel
theorem dLow_5 : decode cX10_lettersOfWord 5 = .ok (.bipush 8, 2) := by decide +kernel
theorem dLow_7 : decode cX10_lettersOfWord 7 = .ok (.if_icmp .ge 38, 3) := by decide +kernel
theorem dLow_10 : decode cX10_lettersOfWord 10 = .ok (.ldc 55, 2) := by decide +kernel
theorem dLow_12 : decode cX10_lettersOfWord 12 = .ok (.iload_n 0, 1) := by decide +kernel
theorem dLow_13 : decode cX10_lettersOfWord 13 = .ok (.bipush 8, 2) := by decide +kernel
theorem dLow_15 : decode cX10_lettersOfWord 15 = .ok (.imul, 1) := by decide +kernel
theorem dLow_16 : decode cX10_lettersOfWord 16 = .ok (.iload_n 3, 1) := by decide +kernel
theorem dLow_17 : decode cX10_lettersOfWord 17 = .ok (.iadd, 1) := by decide +kernel
theorem dLow_18 : decode cX10_lettersOfWord 18 = .ok (.invokevirtual 57, 3) := by decide +kernel
theorem dLow_21 : decode cX10_lettersOfWord 21 = .ok (.istore 4, 2) := by decide +kernel
theorem dLow_23 : decode cX10_lettersOfWord 23 = .ok (.iload 4, 2) := by decide +kernel
theorem dLow_25 : decode cX10_lettersOfWord 25 = .ok (.bipush 32, 2) := by decide +kernel
theorem dLow_27 : decode cX10_lettersOfWord 27 = .ok (.if_icmp .eq 12, 3) := by decide +kernel
theorem dLow_30 : decode cX10_lettersOfWord 30 = .ok (.lload_n 1, 1) := by decide +kernel
theorem dLow_31 : decode cX10_lettersOfWord 31 = .ok (.bipush 8, 2) := by decide +kernel
theorem dLow_33 : decode cX10_lettersOfWord 33 = .ok (.lshl, 1) := by decide +kernel
theorem dLow_34 : decode cX10_lettersOfWord 34 = .ok (.iload 4, 2) := by decide +kernel
theorem dLow_36 : decode cX10_lettersOfWord 36 = .ok (.i2l, 1) := by decide +kernel
theorem dLow_37 : decode cX10_lettersOfWord 37 = .ok (.lor, 1) := by decide +kernel
theorem dLow_38 : decode cX10_lettersOfWord 38 = .ok (.lstore_n 1, 1) := by decide +kernel
theorem dLow_39 : decode cX10_lettersOfWord 39 = .ok (.iinc 3 1, 3) := by decide +kernel
theorem dLow_42 : decode cX10_lettersOfWord 42 = .ok (.goto (-38), 3) := by decide +kernel
theorem dLow_45 : decode cX10_lettersOfWord 45 = .ok (.lload_n 1, 1) := by decide +kernel
theorem dLow_46 : decode cX10_lettersOfWord 46 = .ok (.lreturn, 1) := by decide +kernel

/-- a word's letters in the constant: 8 places a word, blanks behind -/
def btw (j : Nat) : Int32 := nI ((wds.getD (j / 8) []).getD (j % 8) 32)
theorem btw_c : ∀ j, j < 224 → (((btw j) &&& 255).toUInt32 % 65536).toInt32 = btw j ∧ (btw j).toUInt32.toUInt16.toUInt32.toInt32 = btw j := by decide +kernel
abbrev stT : Term := .string "DanceWine$Tokens" 55
abbrev vaT : Term := .field stT "java/lang/String" "value" "[B"
def SK (g : Gv) (sa va : Nat) (U : State) (H : Heap) : Prop := va_O "java/lang/String" sa (fun q => g.1 ≤ q) U H ∧ va_OF "java/lang/String" "coder" "B" (.int 0) sa (fun q => g.1 ≤ q) U H ∧ va_OF "java/lang/String" "value" "[B" (.ref va) sa (fun q => g.1 ≤ q) U H ∧ va_T .byte va 224 (fun j => .int (btw j)) (fun q => g.1 ≤ q) U H ∧ va_Z "java/lang/String" "COMPACT_STRINGS" "Z" (.int 1) (fun q => g.1 ≤ q) U H ∧ va_Zq "jdk/internal/util/Preconditions" "SIOOBE_FORMATTER" "Ljava/util/function/BiFunction;" (fun q => g.1 ≤ q) U H
theorem SK.moved {g : Gv} {sa va : Nat} {u U : State} {H : Heap} (hv : u.vm.Alike U.vm) (h : SK g sa va u H) : SK g sa va U H := ⟨va_O.moved hv h.1, va_OF.moved hv h.2.1, va_OF.moved hv h.2.2.1, va_T.moved hv h.2.2.2.1, va_Z.moved hv h.2.2.2.2.1, va_Zq.moved hv h.2.2.2.2.2⟩
theorem SK.kept {g : Gv} {sa va : Nat} {U : State} {H H1 : Heap} (h : SK g sa va U H) (hq : ∀ a : Nat, a < H.size → ¬ g.1 ≤ a → H1[a]? = H[a]?) : SK g sa va U H1 := ⟨h.1.kept hq, h.2.1.kept hq, h.2.2.1.kept hq, h.2.2.2.1.kept hq, h.2.2.2.2.1.kept hq, h.2.2.2.2.2.kept hq⟩
theorem SK_blind {g : Gv} {sa va : Nat} {av : List Value} : FrameBlind (va_Pc av (fun U => SK g sa va U U.heap)) := by
  intro a U gg mk q
  exact ⟨q.1, SK.moved (u := U) (Vm.Alike.refl U.vm) q.2⟩
def elF (j : Nat) : Cond := Cond.eq (.elem vaT (.int (Int32.ofNat j))) (.int (btw j))
theorem el_l : ((flatC (Jvm.Cond.and given_1 narrow_1)).drop 58).take 224 = (List.range 224).map elF := by decide +kernel
theorem el_in (j : Nat) (hj : j < 224) : Cond.eq (.elem vaT (.int (Int32.ofNat j))) (.int (btw j)) ∈ flatC (Jvm.Cond.and given_1 narrow_1) := by
  have h : elF j ∈ ((flatC (Jvm.Cond.and given_1 narrow_1)).drop 58).take 224 := by
    rw [el_l]
    exact List.mem_map.mpr ⟨j, List.mem_range.mpr hj, rfl⟩
  exact List.mem_of_mem_drop (List.mem_of_mem_take h)
theorem BF.sk {g : Gv} {sx : Sx} {s : State} (h : BF g sx s s.heap) : ∃ sa va, vk_R "DanceWine$Tokens" 55 "hall    pillar  carriagedance   wine    glasses of      guest   at      way     age     stagger ahead   hop     left    right   rest    plain   waiter  lame    uncle   old     not     and     or      glass   step    drunk   " sa s ∧ SK g sa va s s.heap := by
  obtain ⟨s0, h1, h2, -, -, h5, h6, h7⟩ := h
  have hs := flat_of_before _ h2
  have hA : ∀ a : Nat, a < s0.heap.size → ¬ g.1 ≤ a := fun a ha => by omega
  obtain ⟨a, c, cA, kA, q1, q2, q3, q4, q5, q6, -⟩ := Cond.exactly_spec (args := #[Value.ref g.2]) (first := s0) (o := none) (s := s0) (idx := []) (t := stT) (cls := "java/lang/String") (hs _ (by decide +kernel))
  obtain ⟨t, ht, hT⟩ := va_Tof (args := #[Value.ref g.2]) (tm := vaT) (ty := .byte) (N := 224) (f := fun j => .int (btw j)) (A := fun q => g.1 ≤ q) (by decide) (hs _ (by decide +kernel)) (va_eqt (hs _ (by decide +kernel))) (fun j hj => va_eqt (hs _ (el_in j hj))) hA
  have hco := va_eqt (args := #[Value.ref g.2]) (hs (Cond.eq (.field stT "java/lang/String" "coder" "B") (.int 0)) (by decide +kernel))
  have hK : SK g a t s0 s0.heap := ⟨⟨cA, q3, q5, by rw [q6]; exact q2, hA a (Array.getElem?_eq_some_iff.mp q3).1⟩, vk_OFof q1 hco hA, vk_OFof q1 ht hA, hT, va_Zof (h1 _ (inT3 _ (List.mem_of_getElem? (i := 61) rfl))) (h1 _ (inT1 _ (List.mem_of_getElem? (i := 15) rfl))) (va_eqi (hs _ (by decide +kernel))) hA, va_Zqof (h1 _ (inT3 _ (List.mem_of_getElem? (i := 69) rfl))) (h1 _ (inT1 _ (List.mem_of_getElem? (i := 17) rfl))) (hs _ (by decide +kernel)) hA⟩
  exact ⟨a, t, vk_R.warm h6 (vk_R.of (A := #[Value.ref g.2]) (h1 _ (inT3 _ (List.mem_of_getElem? (i := 51) rfl))) q1), (hK.moved h6.alike).kept (fun a ha hna => h7 a (Nat.not_le.mp hna))⟩
def Qv (v : Option Value) : Array Value → State → Outcome → State → Prop := fun _ st oc t => oc = .returned v ∧ t.heap = st.heap
theorem Qv.F {v : Option Value} {a : Array Value} {st t : State} {oc : Outcome} {A : Nat → Prop} (h : Qv v a st oc t) : va_F A st t := ⟨by rw [h.2]; exact Nat.le_refl _, fun q _ _ => by rw [h.2]⟩
theorem callB_y {R : Room} {s : State} {args : Array Value} {own : String} {idx n d d' mc ms maxL : Nat} {y : MethodName} {bytes : ByteArray} {ret : Option FieldType} (hts : ∀ w ∈ Ts, w.before args s = true) (hc : Cond.code y bytes maxL ret ∈ Ts) (hi : Cond.initialized y.cls ∈ Ts) (hp : y.cls ≠ "java/lang/invoke/MethodHandle" ∧ y.cls ≠ "java/lang/invoke/VarHandle" ∧ (parseMethodDescriptor y.desc).map (fun d => d.parameters.length) = some n) (hm : maxL ≤ 80) (hl : Cond.methodLink own idx y ∈ Ts) (hd : d' + 1 ≤ d) (h1 : d ≤ R.frames) (h2 : 100 * d ≤ R.locals) :
    CallB R s args own idx y bytes maxL ret (.code y bytes maxL ret :: Ts) (rmD d' mc ms) mc ms n := by
  refine callB_of (Ts := Ts) n hts (fun w hw => ?_) rfl rfl rfl (hts _ hi) (hts _ hl) hp ⟨?_, ?_⟩
  · rcases List.mem_cons.mp hw with rfl | hw
    · exact tsG _ hc
    · exact tsG _ hw
  · show d' + 1 ≤ R.frames
    omega
  · show 8 + (maxL + 11) + 100 * d' ≤ R.locals
    omega
theorem pci_met {l : Launch} {g : Gv} {d i n : Nat} {x : Value} (hx : x = .null ∨ ∃ t, x = .ref t) (hi : i < n) (hn : n < 2147483648) : Met l yPci (.code yPci cPci 3 (some .int) :: Ts) (rmD d 0 0) (va_Pc [.int (nI i), .int (nI n), x] (fun _ => True)) (Qv (some (.int (nI i)))) 0 0 (fun q => g.1 ≤ q) := by
  refine MetF_ofW (cc := cPci) (maxL := 3) (ret := some .int) (by decide +kernel) rfl ?_
  intro p e s m args below meth c s₁ B hml hv
  obtain ⟨rfl, -⟩ := hv
  have hlv := lv_entry [Value.int (nI i), .int (nI n), x] (n := 3) (by rcases hx with rfl | ⟨t, rfl⟩ <;> exact Nat.le_of_ble_eq_true rfl)
  rw [lg_entry_eq]
  generalize (lg_sl [Value.int (nI i), .int (nI n), x] ++ List.replicate (3 - (lg_sl [Value.int (nI i), .int (nI n), x]).length) Slot.unset).toArray = lsA at hlv ⊢
  have hl0 := lv_at hlv 0 (i := 0) (v := .int (nI i)) rfl
  have hl1 := lv_at hlv 1 (i := 1) (v := .int (nI n)) rfl
  refine lv_iload_n B.exec B.bytes dPci_0 rfl hl0 ?_
  refine lv_if_lt (tgt := 9) B.exec B.bytes dPci_1 rfl (fun h => absurd h (nI_pos (by omega))) (fun _ => ?_)
  refine lv_iload_n B.exec B.bytes dPci_4 rfl hl0 ?_
  refine lv_iload_n B.exec B.bytes dPci_5 rfl hl1 ?_
  refine lv_icmp_lt (tgt := 16) B.exec B.bytes dPci_6 rfl (fun _ => ?_) (fun h => absurd ((nIlt (by omega) (by omega)).mpr hi) h)
  refine lv_iload_n B.exec B.bytes dPci_16 rfl hl0 ?_
  exact W.iret (v := nI i) B.exec B.bytes B.returns (fun t ht hW => ⟨rfl, ht⟩) (fun q hq => nomatch hq) dPci_17
theorem tr_blind {av : List Value} : FrameBlind (va_Pc av (fun _ => True)) := fun _ _ _ _ q => ⟨q.1, trivial⟩
theorem sci_met {l : Launch} {g : Gv} {sa va d i n : Nat} (hi : i < n) (hn : n < 2147483648) : Met l ySci (.code ySci cSci 2 none :: Ts) (rmD (d + 1) 0 0) (va_Pc [.int (nI i), .int (nI n)] (fun U => SK g sa va U U.heap)) (Qv none) 0 0 (fun q => g.1 ≤ q) := by
  refine MetF_ofW (cc := cSci) (maxL := 2) (ret := none) (by decide +kernel) rfl ?_
  intro p e s m args below meth c s₁ B hml hv
  obtain ⟨rfl, hK⟩ := hv
  have hts0 := atoms_spec (ws := .code ySci cSci 2 none :: Ts) B.pre
  have hts := fun w hw => hts0 w (List.mem_cons_of_mem _ hw)
  have hown : s.vm.findClass "java/lang/String" = some m.cls := findClass_of_methodNamed B.named
  have hlv := lv_entry [Value.int (nI i), .int (nI n)] (n := 2) (Nat.le_of_ble_eq_true rfl)
  rw [lg_entry_eq]
  generalize (lg_sl [Value.int (nI i), .int (nI n)] ++ List.replicate (2 - (lg_sl [Value.int (nI i), .int (nI n)]).length) Slot.unset).toArray = lsA at hlv ⊢
  have hl0 := lv_at hlv 0 (i := 0) (v := .int (nI i)) rfl
  have hl1 := lv_at hlv 1 (i := 1) (v := .int (nI n)) rfl
  refine lv_iload_n B.exec B.bytes dSci_0 rfl hl0 ?_
  refine lv_iload_n B.exec B.bytes dSci_1 rfl hl1 ?_
  have tail : ∀ x : Value, (x = .null ∨ ∃ t, x = .ref t) → W p l e (headSpec (.code ySci cSci 2 none :: Ts) (rmD (d + 1) 0 0)).room s m [Value.int (nI i), .int (nI n)].toArray below meth c s.heap [] 0 0 (MQ below (Qv none) [Value.int (nI i), .int (nI n)].toArray s 0 0 (fun q => g.1 ≤ q)) (F0 m 5 lsA [x, .int (nI n), .int (nI i)]) := by
    intro x hx
    refine W_call (va_runS (As := [Value.int (nI i), .int (nI n), x]) (rest := []) (n := 3) (nL := 2) (Ts := Ts) (own := "java/lang/String") ⟨B.exec, B.bytes, hml, hown, hts⟩ (pci_met (g := g) (d := d) hx hi hn) ⟨callB_y (d := d + 1) hts kPci (tsI (inT1 _ (List.mem_of_getElem? (i := 17) rfl)) rfl) (by decide +kernel) (by decide) (tsI (inT3 _ (List.mem_of_getElem? (i := 70) rfl)) rfl) (Nat.le_refl _) (Nat.le_refl _) (Nat.le_refl _), hts _ (tsI (inT3 _ (List.mem_of_getElem? (i := 71) rfl)) rfl)⟩ ⟨tr_blind, fun U hU hW => ⟨rfl, trivial⟩⟩ rfl rfl hlv.1 rfl (lv_room (Nat.le_of_ble_eq_true rfl)) dSci_5 ⟨Nat.le_refl _, Nat.le_refl _⟩) (va_S.rf (A := fun q => g.1 ≤ q)) (fun q h => h) (fun st o t h => Qv.F h) (fun v2 st2 t locs1 hst hva hq hS1 => ?_)
    obtain ⟨e1, e2⟩ := hq
    cases e1
    have e3 : t.heap = s.heap := e2.trans hst
    rw [e3] at hS1 ⊢
    refine lv_pop (va := .int (nI i)) B.exec B.bytes dSci_8 rfl ?_
    exact W.vret B.exec B.bytes B.returns (fun t ht hW => ⟨rfl, ht⟩) hS1.2.2 dSci_9
  rcases hK.2.2.2.2.2 with hZ | ⟨t, hZ⟩
  · exact va_gets B.exec B.bytes hZ va_S.rf hown (hts _ (tsI (inT3 _ (List.mem_of_getElem? (i := 68) rfl)) rfl)) (fun _ h => h) dSci_2 (tail _ (Or.inl rfl))
  · exact va_gets B.exec B.bytes hZ va_S.rf hown (hts _ (tsI (inT3 _ (List.mem_of_getElem? (i := 68) rfl)) rfl)) (fun _ h => h) dSci_2 (tail _ (Or.inr ⟨t, rfl⟩))
theorem nar_ch {x : Int32} (h : x.toUInt32.toUInt16.toUInt32.toInt32 = x) : narrow .char (.int x) = .int x := congrArg Value.int h
theorem lch_met {l : Launch} {g : Gv} {sa va d i : Nat} (hi : i < 224) : Met l yLch (.code yLch cLch 2 (some .char) :: Ts) (rmD (d + 2) 0 0) (va_Pc [.ref va, .int (nI i)] (fun U => SK g sa va U U.heap)) (Qv (some (.int (btw i)))) 0 0 (fun q => g.1 ≤ q) := by
  refine MetF_ofW (cc := cLch) (maxL := 2) (ret := some .char) (by decide +kernel) rfl ?_
  intro p e s m args below meth c s₁ B hml hv
  obtain ⟨rfl, hK⟩ := hv
  have hts0 := atoms_spec (ws := .code yLch cLch 2 (some .char) :: Ts) B.pre
  have hts := fun w hw => hts0 w (List.mem_cons_of_mem _ hw)
  have hown : s.vm.findClass "java/lang/StringLatin1" = some m.cls := findClass_of_methodNamed B.named
  have hlv := lv_entry [Value.ref va, .int (nI i)] (n := 2) (Nat.le_of_ble_eq_true rfl)
  rw [lg_entry_eq]
  generalize (lg_sl [Value.ref va, .int (nI i)] ++ List.replicate (2 - (lg_sl [Value.ref va, .int (nI i)]).length) Slot.unset).toArray = lsA at hlv ⊢
  have hl0 := lv_at hlv 0 (i := 0) (v := .ref va) rfl
  have hl1 := lv_at hlv 1 (i := 1) (v := .int (nI i)) rfl
  have hT := hK.2.2.2.1
  refine lv_iload_n B.exec B.bytes dLch_0 rfl hl1 ?_
  refine lv_aload_n B.exec B.bytes dLch_1 rfl hl0 ?_
  refine va_tlen (v := nI 224) B.exec B.bytes hT va_S.rf rfl dLch_2 ?_
  refine W_call (va_runS (As := [Value.int (nI i), .int (nI 224)]) (rest := []) (n := 2) (nL := 2) (Ts := Ts) (own := "java/lang/StringLatin1") ⟨B.exec, B.bytes, hml, hown, hts⟩ (sci_met (g := g) (sa := sa) (va := va) (d := d) hi (by decide)) ⟨callB_y (d := d + 2) hts kSci (tsI (inT1 _ (List.mem_of_getElem? (i := 15) rfl)) rfl) (by decide +kernel) (by decide) (tsI (inT3 _ (List.mem_of_getElem? (i := 65) rfl)) rfl) (Nat.le_refl _) (Nat.le_refl _) (Nat.le_refl _), hts _ (tsI (inT3 _ (List.mem_of_getElem? (i := 66) rfl)) rfl)⟩ ⟨SK_blind, fun U hU hW => ⟨rfl, by show SK g sa va U U.heap; rw [hU]; exact hK.moved hW.alike⟩⟩ rfl rfl hlv.1 rfl (lv_room (Nat.le_of_ble_eq_true rfl)) dLch_3 ⟨Nat.le_refl _, Nat.le_refl _⟩) (va_S.rf (A := fun q => g.1 ≤ q)) (fun q h => h) (fun st o t h => Qv.F h) (fun v2 st2 t locs1 hst hva hq hS1 => ?_)
  obtain ⟨e1, e2⟩ := hq
  cases e1
  have e3 : t.heap = s.heap := e2.trans hst
  rw [e3] at hS1 ⊢
  refine lv_aload_n B.exec B.bytes dLch_6 rfl hl0 ?_
  refine lv_iload_n B.exec B.bytes dLch_7 rfl hl1 ?_
  refine va_tb (v := .int (btw i)) B.exec B.bytes hT hS1 ((vpI (by omega)).mpr hi) (by rw [nIc (by omega)]) dLch_8 ?_
  refine lv_sipush (v := 255) B.exec B.bytes dLch_9 rfl ?_
  refine lv_iand B.exec B.bytes dLch_12 ?_
  refine lv_i2c (v := btw i) B.exec B.bytes dLch_13 (btw_c i hi).1 ?_
  exact W.zret (v := btw i) (ty := .char) B.exec B.bytes B.returns (nar_ch (btw_c i hi).2) (fun t ht hW => ⟨rfl, ht⟩) hS1.2.2 dLch_14
theorem sla_met {l : Launch} {g : Gv} {sa va d : Nat} : Met l ySla (.code ySla cSla 1 (some .boolean) :: Ts) (rmD d 0 0) (va_Pc [.ref sa] (fun U => SK g sa va U U.heap)) (Qv (some (.int 1))) 0 0 (fun q => g.1 ≤ q) := by
  refine MetF_ofW (cc := cSla) (maxL := 1) (ret := some .boolean) (by decide +kernel) rfl ?_
  intro p e s m args below meth c s₁ B hml hv
  obtain ⟨rfl, hK⟩ := hv
  have hts0 := atoms_spec (ws := .code ySla cSla 1 (some .boolean) :: Ts) B.pre
  have hts := fun w hw => hts0 w (List.mem_cons_of_mem _ hw)
  have hown : s.vm.findClass "java/lang/String" = some m.cls := findClass_of_methodNamed B.named
  have hlv := lv_entry [Value.ref sa] (n := 1) (Nat.le_of_ble_eq_true rfl)
  rw [lg_entry_eq]
  generalize (lg_sl [Value.ref sa] ++ List.replicate (1 - (lg_sl [Value.ref sa]).length) Slot.unset).toArray = lsA at hlv ⊢
  have hl0 := lv_at hlv 0 (i := 0) (v := .ref sa) rfl
  refine va_gets B.exec B.bytes hK.2.2.2.2.1 va_S.rf hown (hts _ (tsI (inT3 _ (List.mem_of_getElem? (i := 60) rfl)) rfl)) (fun _ h => h) dSla_0 ?_
  refine lv_if_eq (tgt := 17) B.exec B.bytes dSla_3 rfl (fun h => absurd h (by decide)) (fun _ => ?_)
  refine lv_aload_n B.exec B.bytes dSla_6 rfl hl0 ?_
  refine vk_getf B.exec B.bytes hK.2.1 va_S.rf hown (hts _ (tsI (inT8 _ (List.mem_of_getElem? (i := 19) rfl)) rfl)) (fun _ h => h) dSla_7 ?_
  refine lv_if_ne (tgt := 17) B.exec B.bytes dSla_10 rfl (fun h => absurd rfl h) (fun _ => ?_)
  refine lv_iconst (v := 1) B.exec B.bytes dSla_13 rfl ?_
  refine lv_goto (tgt := 18) B.exec B.bytes dSla_14 rfl ?_
  exact W.zret (v := 1) (ty := .boolean) B.exec B.bytes B.returns rfl (fun t ht hW => ⟨rfl, ht⟩) (fun q hq => nomatch hq) dSla_18
theorem sch_met {l : Launch} {g : Gv} {sa va d i : Nat} (hi : i < 224) : Met l ySch (.code ySch cSch 2 (some .char) :: Ts) (rmD (d + 3) 0 0) (va_Pc [.ref sa, .int (nI i)] (fun U => SK g sa va U U.heap)) (Qv (some (.int (btw i)))) 0 0 (fun q => g.1 ≤ q) := by
  refine MetF_ofW (cc := cSch) (maxL := 2) (ret := some .char) (by decide +kernel) rfl ?_
  intro p e s m args below meth c s₁ B hml hv
  obtain ⟨rfl, hK⟩ := hv
  have hts0 := atoms_spec (ws := .code ySch cSch 2 (some .char) :: Ts) B.pre
  have hts := fun w hw => hts0 w (List.mem_cons_of_mem _ hw)
  have hown : s.vm.findClass "java/lang/String" = some m.cls := findClass_of_methodNamed B.named
  have hlv := lv_entry [Value.ref sa, .int (nI i)] (n := 2) (Nat.le_of_ble_eq_true rfl)
  rw [lg_entry_eq]
  generalize (lg_sl [Value.ref sa, .int (nI i)] ++ List.replicate (2 - (lg_sl [Value.ref sa, .int (nI i)]).length) Slot.unset).toArray = lsA at hlv ⊢
  have hl0 := lv_at hlv 0 (i := 0) (v := .ref sa) rfl
  have hl1 := lv_at hlv 1 (i := 1) (v := .int (nI i)) rfl
  refine lv_aload_n B.exec B.bytes dSch_0 rfl hl0 ?_
  refine W_call (va_runV (As := []) (rest := []) (b := sa) (C := "java/lang/String") (n := 0) (nL := 2) (Ts := Ts) (own := "java/lang/String") ⟨B.exec, B.bytes, hml, hown, hts⟩ (sla_met (g := g) (sa := sa) (va := va) (d := d + 2)) ⟨callB_y (d := d + 3) hts kSla (tsI (inT1 _ (List.mem_of_getElem? (i := 15) rfl)) rfl) (by decide +kernel) (by decide) (tsI (inT3 _ (List.mem_of_getElem? (i := 56) rfl)) rfl) (Nat.le_refl _) (Nat.le_refl _) (Nat.le_refl _), hts _ (tsI (inT3 _ (List.mem_of_getElem? (i := 57) rfl)) rfl), hts _ (tsI (inT3 _ (List.mem_of_getElem? (i := 58) rfl)) rfl)⟩ ⟨SK_blind, ⟨_, hK.1.choose_spec.1, hK.1.choose_spec.2.1, hK.1.choose_spec.2.2.1⟩, fun U hU hW => ⟨rfl, by show SK g sa va U U.heap; rw [hU]; exact hK.moved hW.alike⟩⟩ rfl rfl hlv.1 rfl (lv_room (Nat.le_of_ble_eq_true rfl)) dSch_1 ⟨Nat.le_refl _, Nat.le_refl _⟩) (va_S.rf (A := fun q => g.1 ≤ q)) (fun q h => h) (fun st o t h => Qv.F h) (fun v2 st2 t locs1 hst hva hq hS1 => ?_)
  obtain ⟨e1, e2⟩ := hq
  cases e1
  have e3 : t.heap = s.heap := e2.trans hst
  rw [e3] at hS1 ⊢
  refine lv_if_eq (tgt := 16) B.exec B.bytes dSch_4 rfl (fun h => absurd h (by decide)) (fun _ => ?_)
  refine lv_aload_n B.exec B.bytes dSch_7 rfl hl0 ?_
  refine vk_getf B.exec B.bytes hK.2.2.1 hS1 hown (hts _ (tsI (inT8 _ (List.mem_of_getElem? (i := 20) rfl)) rfl)) (fun _ h => h) dSch_8 ?_
  refine lv_iload_n B.exec B.bytes dSch_11 rfl hl1 ?_
  refine W_call (va_runS (As := [Value.ref va, .int (nI i)]) (rest := []) (n := 2) (nL := 2) (Ts := Ts) (own := "java/lang/String") ⟨B.exec, B.bytes, hml, hown, hts⟩ (lch_met (g := g) (sa := sa) (va := va) (d := d) hi) ⟨callB_y (d := d + 3) hts kLch (tsI (inT1 _ (List.mem_of_getElem? (i := 16) rfl)) rfl) (by decide +kernel) (by decide) (tsI (inT3 _ (List.mem_of_getElem? (i := 62) rfl)) rfl) (Nat.le_refl _) (Nat.le_refl _) (Nat.le_refl _), hts _ (tsI (inT3 _ (List.mem_of_getElem? (i := 63) rfl)) rfl)⟩ ⟨SK_blind, fun U hU hW => ⟨rfl, by show SK g sa va U U.heap; rw [hU]; exact hK.moved hW.alike⟩⟩ rfl rfl hlv.1 rfl (lv_room (Nat.le_of_ble_eq_true rfl)) dSch_12 ⟨Nat.le_refl _, Nat.le_refl _⟩) hS1 (fun q h => h) (fun st o t h => Qv.F h) (fun v3 st3 t3 locs3 hst3 hva3 hq3 hS3 => ?_)
  obtain ⟨e4, e5⟩ := hq3
  cases e4
  have e6 : t3.heap = s.heap := e5.trans hst3
  rw [e6] at hS3 ⊢
  exact W.zret (v := btw i) (ty := .char) B.exec B.bytes B.returns (nar_ch (btw_c i hi).2) (fun t ht hW => ⟨rfl, ht⟩) hS3.2.2 dSch_15
/-- the letter at place j of the word k -/
theorem Y_word {d : Nat} {sx : Sx} {I : Ints} {L : Lngs} {R : Rfs} {q : Q3} {k j : Nat} {w : Int64} (hk : k < 28) (hj : j < 8) (h : Y mX10_lettersOfWord (d + 4) sx 21 [(0, .int (nI k)), (1, .long w), (3, .int (nI j))] [.int (btw (8 * k + j))] I L R q) : Y mX10_lettersOfWord (d + 4) sx 10 [(0, .int (nI k)), (1, .long w), (3, .int (nI j))] [] I L R q := by
  intro p l e Rm s m args below meth c D g ca H locs lsA hs hc
  obtain ⟨sa, va, hR, hK⟩ := hc.1.2.2.2.sk
  have hlv := hc.2.2.2.2.2.2
  have hS := hc.2.2.2.2.1
  have hts := hs.2.2.2.2.2.1
  have hKH : SK g sa va s H := hK.kept hS.2.1
  refine va_ldcS hs.1 hs.2.1 (own := "DanceWine$Tokens") hs.2.2.2.2.1 hR dLow_10 ?_
  refine lv_iload_n hs.1 hs.2.1 dLow_12 rfl (gL_has hlv (v := .int (nI k)) rfl) ?_
  refine lv_bipush (v := nI 8) hs.1 hs.2.1 dLow_13 rfl ?_
  refine lv_imul hs.1 hs.2.1 dLow_15 ?_
  refine lv_iload_n hs.1 hs.2.1 dLow_16 rfl (gL_has hlv (v := .int (nI j)) rfl) ?_
  refine lv_iadd hs.1 hs.2.1 dLow_17 ?_
  rw [show nI k * nI 8 + nI j = nI (8 * k + j) by rw [pk_mul, nI_add, Nat.mul_comm]]
  refine W_call (va_runV (As := [Value.int (nI (8 * k + j))]) (rest := []) (b := sa) (C := "java/lang/String") (n := 1) (nL := 5) (Ts := Ts) (own := "DanceWine$Tokens") ⟨hs.1, hs.2.1, hs.2.2.2.1, hs.2.2.2.2.1, hts⟩ (sch_met (g := g) (sa := sa) (va := va) (d := d) (i := 8 * k + j) (by omega)) ⟨callB_y (d := d + 4) hts kSch (tsI (inT1 _ (List.mem_of_getElem? (i := 15) rfl)) rfl) (by decide +kernel) (by decide) (tsI (inT3 _ (List.mem_of_getElem? (i := 52) rfl)) rfl) (Nat.le_refl _) hs.2.2.2.2.2.2.2.2.1 hs.2.2.2.2.2.2.2.2.2.1, hts _ (tsI (inT3 _ (List.mem_of_getElem? (i := 53) rfl)) rfl), hts _ (tsI (inT3 _ (List.mem_of_getElem? (i := 54) rfl)) rfl)⟩ ⟨SK_blind, ⟨_, hKH.1.choose_spec.1, hKH.1.choose_spec.2.1, hKH.1.choose_spec.2.2.1⟩, fun U hU hW => ⟨rfl, by show SK g sa va U U.heap; rw [hU]; exact hKH.moved hW.alike⟩⟩ rfl rfl hlv.1 rfl (lv_room (Nat.le_of_ble_eq_true rfl)) dLow_18 ⟨Nat.zero_le _, Nat.zero_le _⟩) hS (fun q h => h) (fun st o t h => Qv.F h) (fun v2 st2 t locs1 hst hva hq hS1 => ?_)
  obtain ⟨e1, e2⟩ := hq
  cases e1
  have e3 : t.heap = H := e2.trans hst
  rw [e3] at hS1 ⊢
  exact h p l e Rm s m args below meth c D g ca H locs1 lsA hs ⟨hc.1, hc.2.1, hc.2.2.1, hc.2.2.2.1, hS1, hc.2.2.2.2.2.1, hlv⟩
