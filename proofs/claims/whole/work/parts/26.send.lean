theorem dX11_send_0 : decode cX11_send 0 = .ok (.iload_n 1, 1) := by decide +kernel
theorem dX11_send_1 : decode cX11_send 1 = .ok (.aload_n 0, 1) := by decide +kernel
theorem dX11_send_2 : decode cX11_send 2 = .ok (.getfield 20, 3) := by decide +kernel
theorem dX11_send_5 : decode cX11_send 5 = .ok (.getfield 223, 3) := by decide +kernel
theorem dX11_send_8 : decode cX11_send 8 = .ok (.invokestatic 226, 3) := by decide +kernel
theorem dX11_send_11 : decode cX11_send 11 = .ok (.ifCond .ne 13, 3) := by decide +kernel
theorem dX11_send_14 : decode cX11_send 14 = .ok (.new 229, 3) := by decide +kernel
theorem dX11_send_17 : decode cX11_send 17 = .ok (.dup, 1) := by decide +kernel
theorem dX11_send_18 : decode cX11_send 18 = .ok (.ldc 231, 2) := by decide +kernel
theorem dX11_send_20 : decode cX11_send 20 = .ok (.invokespecial 233, 3) := by decide +kernel
theorem dX11_send_23 : decode cX11_send 23 = .ok (.athrow, 1) := by decide +kernel
theorem dX11_send_24 : decode cX11_send 24 = .ok (.aload_n 0, 1) := by decide +kernel
theorem dX11_send_25 : decode cX11_send 25 = .ok (.invokevirtual 200, 3) := by decide +kernel
theorem dX11_send_28 : decode cX11_send 28 = .ok (.aload_n 0, 1) := by decide +kernel
theorem dX11_send_29 : decode cX11_send 29 = .ok (.getfield 94, 3) := by decide +kernel
theorem dX11_send_32 : decode cX11_send 32 = .ok (.aload_n 0, 1) := by decide +kernel
theorem dX11_send_33 : decode cX11_send 33 = .ok (.getfield 20, 3) := by decide +kernel
theorem dX11_send_36 : decode cX11_send 36 = .ok (.aload_n 0, 1) := by decide +kernel
theorem dX11_send_37 : decode cX11_send 37 = .ok (.getfield 58, 3) := by decide +kernel
theorem dX11_send_40 : decode cX11_send 40 = .ok (.iload_n 1, 1) := by decide +kernel
theorem dX11_send_41 : decode cX11_send 41 = .ok (.invokevirtual 236, 3) := by decide +kernel
theorem dX11_send_44 : decode cX11_send 44 = .ok (.ireturn, 1) := by decide +kernel
abbrev cL_send : ByteArray := method_3_code
def yL_send : MethodName := ⟨"DanceWineLaw", "send", "(LDanceWine;I[J)I"⟩
def mL_send : MI := (13, yL_send, cL_send, 4, some .int)
theorem dL_send_0 : decode cL_send 0 = .ok (.aload_n 2, 1) := by decide +kernel
theorem dL_send_1 : decode cL_send 1 = .ok (.iconst 0, 1) := by decide +kernel
theorem dL_send_2 : decode cL_send 2 = .ok (.aload_n 0, 1) := by decide +kernel
theorem dL_send_3 : decode cL_send 3 = .ok (.iload_n 1, 1) := by decide +kernel
theorem dL_send_4 : decode cL_send 4 = .ok (.invokevirtual 7, 3) := by decide +kernel
theorem dL_send_7 : decode cL_send 7 = .ok (.i2l, 1) := by decide +kernel
theorem dL_send_8 : decode cL_send 8 = .ok (.lastore, 1) := by decide +kernel
theorem dL_send_9 : decode cL_send 9 = .ok (.goto 6, 3) := by decide +kernel
theorem dL_send_12 : decode cL_send 12 = .ok (.astore_n 3, 1) := by decide +kernel
theorem dL_send_13 : decode cL_send 13 = .ok (.iconst 1, 1) := by decide +kernel
theorem dL_send_14 : decode cL_send 14 = .ok (.ireturn, 1) := by decide +kernel
theorem dL_send_15 : decode cL_send 15 = .ok (.iconst 0, 1) := by decide +kernel
theorem dL_send_16 : decode cL_send 16 = .ok (.ireturn, 1) := by decide +kernel
def lvX11_send : List (Nat × List Nat) := [(0, [0, 1]), (24, [0, 1]), (28, [0, 1]), (44, [])]
def isX11_send_24_25 : List (Instr × Nat × List Int32) := [(.aload_n 0, 1, []), (.invokevirtual 200, 3, [])]
theorem cdX11_send_24_25 : cdB cX11_send isX11_send_24_25 24 = true := by decide +kernel
def isX11_send_28_41 : List (Instr × Nat × List Int32) := [(.aload_n 0, 1, []), (.getfield 94, 3, []), (.aload_n 0, 1, []), (.getfield 20, 3, []), (.aload_n 0, 1, []), (.getfield 58, 3, []), (.iload_n 1, 1, []), (.invokevirtual 236, 3, [])]
theorem cdX11_send_28_41 : cdB cX11_send isX11_send_28_41 28 = true := by decide +kernel
def isX11_send_44_44 : List (Instr × Nat × List Int32) := [(.ireturn, 1, [])]
theorem cdX11_send_44_44 : cdB cX11_send isX11_send_44_44 44 = true := by decide +kernel
theorem RX11_send_24 {d : Nat} {sx : Sx} {I : Ints} {L : Lngs} {R : Rfs} {q : Q3} {mc ms kc ks : Nat} (hk : kc ≤ mc ∧ ks ≤ ms) {v1 : Int32}  (h : E0 mX11_readyRoutines d sx [.ref 0] I L R (fun r J K T => YK mc ms kc ks mX11_send (d + 1) sx 28 [(0, .ref 0), (1, .int v1)] (r.toList ++ []) J K T q)) : YK mc ms kc ks mX11_send (d + 1) sx 24 [(0, .ref 0), (1, .int v1)] [] I L R q := (X_blkK hk lvX11_send isX11_send_24_25 cdX11_send_24_25 (And.intro rfl (And.intro sh_0 (And.intro (Nat.le_of_ble_eq_true rfl) h))))
theorem RX11_send_28 {d : Nat} {sx : Sx} {I : Ints} {L : Lngs} {R : Rfs} {q : Q3} {mc ms kc ks : Nat} (hk : kc ≤ mc ∧ ks ≤ ms) {v1 : Int32}  {r0_2 : Nat} (hr0_2 : isCel r0_2) (hqr0_2 : R 0 2 = some r0_2) (h : E0 mX9_goneBy d sx [.ref 56, .ref r0_2, .ref 42, .int v1] I L R (fun r J K T => YK mc ms kc ks mX11_send (d + 1) sx 44 [] (r.toList ++ []) J K T q)) : YK mc ms kc ks mX11_send (d + 1) sx 28 [(0, .ref 0), (1, .int v1)] [] I L R q := (X_blkK hk lvX11_send isX11_send_28_41 cdX11_send_28_41 (And.intro sh_0 (Exists.intro 56 (And.intro (Or.inl sr_0_16) (And.intro sh_0 (Exists.intro r0_2 (And.intro (Or.inr hqr0_2) (And.intro sh_0 (Exists.intro 42 (And.intro (Or.inl sr_0_9) (And.intro rfl (And.intro sh_56 (And.intro (Nat.le_of_ble_eq_true rfl) h)))))))))))))
theorem RX11_send_44 {d : Nat} {sx : Sx} {I : Ints} {L : Lngs} {R : Rfs} {q : Q3} {mc ms kc ks : Nat} (hk : kc ≤ mc ∧ ks ≤ ms) {s0 : Int32}  (h : q (some (.int s0)) I L R) : YK mc ms kc ks mX11_send (d + 1) sx 44 [] [.int s0] I L R q := (X_blkK hk lvX11_send isX11_send_44_44 cdX11_send_44_44 (And.intro rfl h))
def nseN : String := "java/util/NoSuchElementException"
def nseL : List String := ["java/lang/Exception"]
abbrev nseA : List Cond := xt_N "DanceWine" 233 nseN "java/lang/RuntimeException" nseL 13 prog_30_method_4_code
theorem nse_good : ∀ w ∈ nseA.filter goodWord, w ∈ lw_tbl := by decide +kernel
theorem nse_rest : ∀ w ∈ nseA.filter (fun w => !goodWord w), w ∈ [Cond.castable nseN nseN, Cond.declares (Bundle.initS "java/lang/RuntimeException"), Cond.declares (Bundle.initS "java/lang/Exception"), Cond.declares (Bundle.initS "java/lang/Throwable")] := by decide +kernel
theorem nse_ot : ∀ w ∈ Cond.classLink "DanceWine" 229 nseN :: Cond.initialized nseN :: nseA, vx_ot w = true := by decide +kernel
theorem BF.cast {g : Gv} {sx : Sx} {U : State} {H : Heap} {args : Array Value} (h : BF g sx U H) {C T : String} (hw : Cond.castable C T ∈ lw_tbl) : (Cond.castable C T).before args U = true := by
  obtain ⟨s0, h1, -, -, -, -, h6, -⟩ := h
  exact va_Nw.use rfl (va_Nw.warmC h6 (va_Nw.of rfl (h1 _ hw)))
theorem BF.decl {g : Gv} {sx : Sx} {U : State} {H : Heap} {args : Array Value} (h : BF g sx U H) {x : MethodName} (hw : Cond.declares x ∈ lw_tbl) : (Cond.declares x).before args U = true := by
  obtain ⟨s0, h1, -, -, -, -, h6, -⟩ := h
  exact va_Nw.use rfl (va_Nw.warmD h6 (va_Nw.of rfl (h1 _ hw)))
theorem nse_at {g : Gv} {sx : Sx} {s : State} {H : Heap} {args : Array Value} (hts : ∀ w ∈ Ts, w.before args s = true) (h : BF g sx s H) : ∀ w ∈ nseA, w.before args s = true :=
  vx_hat (fun w hw => hts w (tsI (nse_good w hw) (List.mem_filter.mp hw).2)) nse_rest (vx_c (h.cast ((inT5 _ (List.mem_of_getElem? (i := 108) rfl)) : Cond.castable nseN nseN ∈ lw_tbl)) (vx_c (h.decl (inT5 _ (List.mem_of_getElem? (i := 110) rfl))) (vx_c (h.decl (inT5 _ (List.mem_of_getElem? (i := 112) rfl))) (vx_c (h.decl (inT5 _ (List.mem_of_getElem? (i := 114) rfl))) vx_n))))
theorem BF.str {g : Gv} {sx : Sx} {s : State} {H : Heap} (h : BF g sx s H) : ∃ sa, vk_R "DanceWine" 231 "no order of all guests" sa s := by
  obtain ⟨s0, h1, h2, -, -, -, h6, -⟩ := h
  have hs := flat_of_before _ h2
  obtain ⟨a, c, cA, kA, q1, -⟩ := Cond.exactly_spec (args := #[Value.ref g.2]) (first := s0) (o := none) (s := s0) (idx := []) (t := .string "DanceWine" 231) (cls := "java/lang/String") (hs _ (by decide +kernel))
  exact ⟨a, vk_R.warm h6 (vk_R.of (A := #[Value.ref g.2]) (h1 _ (inT5 _ (List.mem_of_getElem? (i := 145) rfl))) q1)⟩
theorem BF.zq {g : Gv} {sx : Sx} {s : State} (h : BF g sx s s.heap) {n d : String} (hl : Cond.laysStatic "java/lang/Throwable" n d ∈ lw_tbl) (hi : Cond.isRef (.static "java/lang/Throwable" n d) ∈ flatC (Jvm.Cond.and given_1 narrow_1)) : vx_Zq Bundle.tN n d (fun q => g.1 ≤ q) s s.heap := by
  obtain ⟨s0, h1, h2, -, -, h5, h6, h7⟩ := h
  have h0 : vx_Zq "java/lang/Throwable" n d (fun q => g.1 ≤ q) s0 s0.heap := vx_Zqof (h1 _ hl) (h1 _ (inT1 _ (List.mem_of_getElem? (i := 21) rfl))) (flat_of_before _ h2 _ hi) (fun a ha => Nat.not_le.mpr (by omega))
  exact (h0.moved h6.alike).kept (fun a ha hna => h7 a (Nat.not_le.mp hna))
def XCs (g : Gv) (D : va_G) (ca : FieldType → ClassId) (qx : Ints → Lngs → Rfs → Prop) : String → State → State → Prop := fun E st t =>
  E = nseN ∧ (∃ I L R, qx I L R ∧ va_P D vwCl (wsW g ca S0 I L R) t.heap ∧ ∀ o k q, sr0 o k = some q → R o k = some q) ∧ va_F (fun q => g.1 ≤ q) st t
theorem W_getr {mi : MI} {d mc ms : Nat} {al : Bool × Bool} {sr : Sr} {sx : Sx} {S : List Shp} {kc ks pc kc2 : Nat} {ls : Lc} {st : List Value} {I : Ints} {L : Lngs} {R : Rfs} {o ci k idx q : Nat} {p : Program} {l : Launch} {e : Env} {Rm : Room} {s : State} {m : MethodId} {args : Array Value} {below : List Frame} {meth : Method} {c : Code} {D : va_G} {g : Gv} {ca : FieldType → ClassId} {H : Heap} {locs : List Loc} {lsA : Array Slot} {Z : State → Prop}
    (hs : CS mi d mc ms p l Rm s m args meth c) (hc : CD mi.2.2.2.1 kc2 al sr sx S ls I L R s D g ca H locs lsA) (hq : R o k = some q) (hf : FLok mi.1 idx ci k) (ht : isR (fty ci k) = true) (hS : S[o]? = some (Sum.inl ci)) (hd : decode mi.2.2.1 pc = .ok (.getfield idx, 3))
    (h : W p l e Rm s m args below meth c H locs kc ks Z (F0 m (pc + 3) lsA (.ref (g.1 + q) :: st))) : W p l e Rm s m args below meth c H locs kc ks Z (F0 m pc lsA (.ref (g.1 + o) :: st)) := by
  obtain ⟨w, h1, h2, h3⟩ := hf
  have ho := clOK ci w h1
  have hk : k < nfl ci := by rw [← ho.2.2.2]; exact h2
  exact va_get (D := D) (ci := ci) (v := .ref (g.1 + q)) (C := w.1) (T := w.2.1) (N := w.2.2) hs.1 hs.2.1 hs.2.2.2.2.2.1 ho.1 hs.2.2.2.2.1 hc.1.K hc.2.2.2.1 o (wsW_get hS) h1 k h2 (hs.2.2.2.2.2.1 _ h3) (fun _ h9 => h9) ((fs_get hk).trans (congrArg some ((fval_r ht).trans (by rw [hq]; rfl)))) hd h
theorem W_geti {mi : MI} {d mc ms : Nat} {al : Bool × Bool} {sr : Sr} {sx : Sx} {S : List Shp} {kc ks pc kc2 : Nat} {ls : Lc} {st : List Value} {I : Ints} {L : Lngs} {R : Rfs} {o ci k idx : Nat} {p : Program} {l : Launch} {e : Env} {Rm : Room} {s : State} {m : MethodId} {args : Array Value} {below : List Frame} {meth : Method} {c : Code} {D : va_G} {g : Gv} {ca : FieldType → ClassId} {H : Heap} {locs : List Loc} {lsA : Array Slot} {Z : State → Prop}
    (hs : CS mi d mc ms p l Rm s m args meth c) (hc : CD mi.2.2.2.1 kc2 al sr sx S ls I L R s D g ca H locs lsA) (hf : FLok mi.1 idx ci k) (ht : isI (fty ci k) = true) (hS : S[o]? = some (Sum.inl ci)) (hd : decode mi.2.2.1 pc = .ok (.getfield idx, 3))
    (h : W p l e Rm s m args below meth c H locs kc ks Z (F0 m (pc + 3) lsA (.int (I o k) :: st))) : W p l e Rm s m args below meth c H locs kc ks Z (F0 m pc lsA (.ref (g.1 + o) :: st)) := by
  obtain ⟨w, h1, h2, h3⟩ := hf
  have ho := clOK ci w h1
  have hk : k < nfl ci := by rw [← ho.2.2.2]; exact h2
  exact va_get (D := D) (ci := ci) (v := .int (I o k)) (C := w.1) (T := w.2.1) (N := w.2.2) hs.1 hs.2.1 hs.2.2.2.2.2.1 ho.1 hs.2.2.2.2.1 hc.1.K hc.2.2.2.1 o (wsW_get hS) h1 k h2 (hs.2.2.2.2.2.1 _ h3) (fun _ h9 => h9) ((fs_get hk).trans (congrArg some (fval_i ht))) hd h
set_option maxHeartbeats 4000000 in
/-- send: it returns, or it throws where the order is none -/
theorem send_met {l : Launch} (hl : l.stackTraces = false) {d : Nat} {sx : Sx} {I : Ints} {L : Lngs} {R : Rfs} {q : Q3} {qx : Ints → Lngs → Rfs → Prop} {v : Int32} {cc : Nat} (hcel : isCel cc) (hnow : R 0 2 = some cc)
    (h : E0 mX9_isOrder d sx [.int v, .int (I cc 11)] I L R (fun r J K T => ∃ z, r = some (.int z) ∧ (¬ z = 0 → YK 1 6 0 0 mX11_send (d + 7) sx 24 [(0, .ref 0), (1, .int v)] [] J K T q) ∧ (z = 0 → qx J K T))) (D : va_G) (g : Gv) (ca : FieldType → ClassId) :
    vx_Met l yX11_send (.code yX11_send cX11_send 2 (some .int) :: Ts) (rmD (d + 7) 1 6) (va_Pc ([Value.ref 0, .int v].map (cvV g)) (Pcx sr0 sx (false, false) D g ca S0 I L R)) (QQ g D ca (false, false) 1 sr0 (q0 q)) (XCs g D ca qx) 1 6 (fun q => g.1 ≤ q) := by
  refine vx_ofW (cc := cX11_send) (maxL := 2) (ret := some .int) (by decide) rfl ?_
  intro p e s m args below meth c s₁ B hml htab hv
  obtain ⟨rfl, hE, hR, hg, hP, -⟩ := hv
  have hts0 := atoms_spec (ws := .code yX11_send cX11_send 2 (some .int) :: Ts) B.pre
  have hown : s.vm.findClass (rn 11) = some m.cls := findClass_of_methodNamed B.named
  have hs : CS mX11_send (d + 7) 1 6 p l (rmD (d + 7) 1 6) s m ([Value.ref 0, .int v].map (cvV g)).toArray meth c := ⟨B.exec, B.bytes, B.returns, hml, hown, fun w hw => hts0 w (List.mem_cons_of_mem _ hw), B.notSynchronized, (name_of_methodNamed B.named B.method).1, Nat.le_refl _, Nat.le_refl _, Nat.le_refl _, Nat.le_refl _, hl⟩
  have hlv := lv_entry ([Value.ref 0, .int v].map (cvV g)) (n := 2) (Nat.le_of_ble_eq_true rfl)
  rw [lg_entry_eq]
  rw [lv_args_cv] at hlv
  generalize (lg_sl ([Value.ref 0, .int v].map (cvV g)) ++ List.replicate (2 - (lg_sl ([Value.ref 0, .int v].map (cvV g))).length) Slot.unset).toArray = lsA at hlv ⊢
  have hlv : lv_has lsA 2 (cvL g [(0, .ref 0), (1, .int v)]) := hlv
  have hcd : CD mX11_send.2.2.2.1 0 (false, false) sr0 sx S0 [(0, .ref 0), (1, .int v)] I L R s D g ca s.heap [] lsA := ⟨hE, hR, hg, hP, va_S.rf, fun z => absurd z (by decide), hlv⟩
  refine W_size (fun hz => ?_)
  refine lv_iload_n hs.1 hs.2.1 dX11_send_0 rfl (gL_has hlv (v := .int v) rfl) ?_
  refine lv_aload_n (x := g.1 + 0) hs.1 hs.2.1 dX11_send_1 rfl (gL_has hlv (v := .ref 0) rfl) ?_
  refine W_getr (o := 0) (k := 2) hs hcd hnow fl_11_20 rfl sh_0 dX11_send_2 ?_
  refine W_geti (o := cc) (k := 11) hs hcd fl_11_223 rfl (shCel_0 hcel) dX11_send_5 ?_
  refine W_call (va_runS (As := [Value.int v, .int (I cc 11)]) (rest := []) (n := 2) (nL := 2) (Ts := Ts) (own := rn 11) ⟨hs.1, hs.2.1, hs.2.2.2.1, hs.2.2.2.2.1, hs.2.2.2.2.2.1⟩ (h l hl D g ca) ⟨callB_mj (oc := 11) (d := d + 7) hs.2.2.2.2.2.1 mjX9_isOrder (ml_11_226.2 rfl).2.1 (by omega) (Nat.le_refl _) (Nat.le_refl _), hs.2.2.2.2.2.1 _ (ml_11_226.2 rfl).2.2⟩ ⟨Pcx_blind, fun U hU hW => ⟨rfl, Pcx_at hcd hz (fun z => z) hU hW⟩⟩ rfl rfl hlv.1 rfl (lv_room (Nat.le_of_ble_eq_true rfl)) dX11_send_8 ⟨Nat.le_of_ble_eq_true rfl, Nat.le_of_ble_eq_true rfl⟩) hcd.2.2.2.2.1 (fun q h => h) (fun st o t h => h.2) (fun v2 st2 t locs1 hst hva hq hS1 => ?_)
  obtain ⟨⟨r, S2, I2, L2, R2, e1, ⟨rfl, z, rfl, hA, hB⟩, e3, e4, e5, e6⟩, -⟩ := hq
  cases e1
  have hcd2 : CD mX11_send.2.2.2.1 0 (false, false) sr0 sx S0 [(0, .ref 0), (1, .int v)] I2 L2 R2 s D g ca t.heap locs1 lsA := ⟨hE, e5, hg, e3, hS1, fun z => absurd z (by decide), hlv⟩
  refine lv_if_ne (tgt := 24) hs.1 hs.2.1 dX11_send_11 rfl (fun hz0 => ?_) (fun hz0 => ?_)
  · exact vx_ret (hA hz0 p l e _ s m _ below meth c D g ca t.heap locs1 lsA hs hcd2)
  · obtain ⟨sa, hstr⟩ := hE.2.2.2.str
    have hno : ∀ x ∈ c.exceptionTable.toList, covers x 23 = false := fun x hx => (htab x hx).elim
    refine xt_throw (own := "DanceWine") (cls := nseN) (sup := "java/lang/RuntimeException") (i1 := 13) (b1 := prog_30_method_4_code) (text := "no order of all guests") (names := nseL) (ik := 229) (is := 231) (ic := 233) (A := fun q => g.1 ≤ q) hs.1 hs.2.1 hl hown (by decide +kernel) (by decide +kernel) (by decide +kernel) (by decide +kernel) (by decide +kernel) (by decide +kernel) (by decide +kernel) (hs.2.2.2.2.2.1 _ (tsI (inT5 _ (List.mem_of_getElem? (i := 106) rfl)) rfl)) (hs.2.2.2.2.2.1 _ (tsI (inT1 _ (List.mem_of_getElem? (i := 24) rfl)) rfl)) hstr (nse_at hs.2.2.2.2.2.1 hE.2.2.2) nse_ot (hE.2.2.2.zq (inT5 _ (List.mem_of_getElem? (i := 133) rfl)) (by decide +kernel)) (hE.2.2.2.zq (inT5 _ (List.mem_of_getElem? (i := 135) rfl)) (by decide +kernel)) hS1 (by rw [hs.2.2.2.1]; exact hlv.1) dX11_send_14 dX11_send_17 dX11_send_18 dX11_send_20 dX11_send_23 hno ?_ ?_ (Nat.le_of_ble_eq_true rfl) (Nat.le_of_ble_eq_true rfl) hs.2.2.2.2.2.2.1 (fun t2 ha2 hz2 hk2 => ?_) hS1.2.2 (Nat.le_of_ble_eq_true rfl) (Nat.le_of_ble_eq_true rfl)
    · show 5 < d + 7
      omega
    · show 82 ≤ 100 * (d + 7)
      omega
    · refine ⟨rfl, ⟨I2, L2, R2, hB hz0, e3.kept (fun k x hx => hk2 _ (e3 k x hx).lt), e5⟩, Nat.le_trans hS1.1 hz2, fun x h1 h2 => (hk2 x (Nat.lt_of_lt_of_le h1 hS1.1)).trans (hS1.2.1 x h1 h2)⟩
theorem W_xcall {p : Program} {l : Launch} {e : Env} {R : Room} {s : State} {m : MethodId} {args : Array Value} {below : List Frame} {meth : Method} {c : Code} {H : Heap} {locs : List Loc} {cells slots mc ms pc : Nat} {Q : State → Prop} {ls : Array Slot} {st0 rest : List Value} {Qa : State → Outcome → State → Prop} {XC : String → State → State → Prop} {free A : Nat → Prop}
    (hr : vx_Run p l e R s m args below meth c H locs cells slots mc ms (F0 m pc ls st0) rest Qa XC free) (hS : va_S A s.heap H locs) (hf : ∀ q, free q → A q) (hF : ∀ st o t, Qa st o t → va_F A st t) (hFX : ∀ E st t, XC E st t → va_F A st t)
    (kk : ∀ (v : Option Value) (st t : State) (locs1 : List Loc), st.heap = H → s.vm.Alike t.vm → Qa st (.returned v) t → va_S A s.heap t.heap locs1 → W p l e R s m args below meth c t.heap locs1 (cells + mc) (slots + ms) Q (F0 m (pc + 3) ls (v.toList ++ rest)))
    (kx : ∀ (q : Addr) (E : String) (ce : Cell) (st t : State) (locs1 : List Loc), st.heap = H → s.vm.Alike t.vm → XC E st t → t.heap[q]? = some ce → ce.vm = .none → s.vm.findClass E = some ce.cls → va_S A s.heap t.heap locs1 → vx_W p l e R s m args below meth c t.heap locs1 (cells + mc) (slots + ms) Q (F0 m pc ls rest) q) : W p l e R s m args below meth c H locs cells slots Q (F0 m pc ls st0) := by
  intro T hT X
  rcases hr T hT X with ⟨v, st₀, t, T', L, h0, X', hL, e1, e2, hq, st⟩ | ⟨q, st₀, t, T', L, E, ce, h0, X', hL, e1, e2, hq, hce, hcv, hcl, st⟩
  · obtain ⟨hz, hk⟩ := hF _ _ _ hq
    rw [h0] at hz hk
    obtain ⟨t2, a1, b1⟩ := kk v st₀ t (locs ++ L) h0 (by rw [← e2]; exact X'.warmed.alike) hq ⟨Nat.le_trans hS.1 hz, fun q h1 h2 => by rw [hk q (Nat.lt_of_lt_of_le h1 hS.1) h2]; exact hS.2.1 q h1 h2, fun q hq => by
      rcases List.mem_append.mp hq with h | h
      · exact hS.2.2 q h
      · exact hf _ (hL q h)⟩ T' e1 X'
    exact ⟨t2, st t2 a1, b1⟩
  · obtain ⟨hz, hk⟩ := hFX _ _ _ hq
    rw [h0] at hz hk
    obtain ⟨t2, a1, b1⟩ := kx q E ce st₀ t (locs ++ L) h0 (by rw [← e2]; exact X'.warmed.alike) hq hce hcv hcl ⟨Nat.le_trans hS.1 hz, fun q h1 h2 => by rw [hk q (Nat.lt_of_lt_of_le h1 hS.1) h2]; exact hS.2.1 q h1 h2, fun q hq => by
      rcases List.mem_append.mp hq with h | h
      · exact hS.2.2 q h
      · exact hf _ (hL q h)⟩ T' e1 X'
    exact ⟨t2, st.trans a1, b1⟩
def lsT : List (Nat × Nat × Nat × Nat) := [(0, 9, 12, 13)]
theorem kL_send : Cond.codeWith yL_send cL_send 4 (some .int) lsT ∈ Ts := tsI (inT5 _ (List.mem_of_getElem? (i := 97) rfl)) rfl
theorem MetH_ofW {l : Launch} {y : MethodName} {ws ws' : List Cond} {rm : Room} {Pc : Array Value → State → Prop} {Qc : Array Value → State → Outcome → State → Prop} {mc ms : Nat} {free : Addr → Prop} {cc : ByteArray} {maxL : Nat} {ret : Option FieldType} {hh : List (Nat × Nat × Nat × Nat)}
    (hy : plainName y.cls = true) (hw : ws = Cond.codeWith y cc maxL ret hh :: ws')
    (body : ∀ p e s m args below meth c s₁, BodyLoose p l y (headSpec ws rm) cc maxL ret e s m args below meth c s₁ → c.maxLocals = maxL → Pc args s →
      W p l e (headSpec ws rm).room s m args below meth c s.heap [] 0 0 (MQ below Qc args s mc ms free) (entryFrame m args maxL)) : Met l y ws rm Pc Qc mc ms free := by
  refine MetFree.of_bodyS (code := cc) (maxLocals := maxL) (ret := ret) hy ?_ ?_
  · intro args s m h hn
    obtain ⟨m9, meth, c, hn9, h1, h2, h3, h4, -, h5, h6, -⟩ := Cond.codeWith_spec (atoms_spec (ws := ws) h _ (by rw [hw]; exact List.mem_cons_self))
    cases hn.symm.trans hn9
    exact ⟨meth, c, h1, h2, h3, h4, h5, h6⟩
  · intro p e s m args below meth c s₁ B hml hP _
    have hh0 : s₁.heap = s.heap := by rw [B.state]; rfl
    obtain ⟨t, a1, o, b1, b2, b3⟩ := body p e s m args below meth c s₁ B hml hP s₁ hh0 (Stand.of_body B)
    exact ⟨t, o, a1, b1, b2, ⟨b3.1, b3.2⟩⟩
set_option maxHeartbeats 4000000 in
theorem lsend_met {l : Launch} (hl : l.stackTraces = false) {d : Nat} {sx : Sx} {I : Ints} {L : Lngs} {R : Rfs} {q : Q3} {v : Int32} {cc : Nat} (hcel : isCel cc) (hnow : R 0 2 = some cc)
    (h : E0 mX9_isOrder d sx [.int v, .int (I cc 11)] I L R (fun r J K T => ∃ z, r = some (.int z) ∧ (¬ z = 0 → YK 1 6 0 0 mX11_send (d + 7) sx 24 [(0, .ref 0), (1, .int v)] [] J K T (fun r J K T => ∃ y, r = some (.int y) ∧ q (some (.int 0)) J (u2 K 116 0 y.toInt64) T)) ∧ (z = 0 → q (some (.int 1)) J K T))) (D : va_G) (g : Gv) (ca : FieldType → ClassId) :
    Met l yL_send (.codeWith yL_send cL_send 4 (some .int) lsT :: Ts) (rmD (d + 9) 1 6) (va_Pc ([Value.ref 0, .int v, .ref 116].map (cvV g)) (Pcx sr0 sx (false, false) D g ca S0 I L R)) (QQ g D ca (false, false) 1 sr0 (q0 q)) 1 6 (fun q => g.1 ≤ q) := by
  refine MetH_ofW (cc := cL_send) (maxL := 4) (ret := some .int) (hh := lsT) (by decide) rfl ?_
  intro p e s m args below meth c s₁ B hml hv
  obtain ⟨rfl, hE, hR, hg, hP, -⟩ := hv
  have hts0 := atoms_spec (ws := .codeWith yL_send cL_send 4 (some .int) lsT :: Ts) B.pre
  have hown : s.vm.findClass (rn 13) = some m.cls := findClass_of_methodNamed B.named
  have hs : CS mL_send (d + 9) 1 6 p l (rmD (d + 9) 1 6) s m ([Value.ref 0, .int v, .ref 116].map (cvV g)).toArray meth c := ⟨B.exec, B.bytes, B.returns, hml, hown, fun w hw => hts0 w (List.mem_cons_of_mem _ hw), B.notSynchronized, (name_of_methodNamed B.named B.method).1, Nat.le_refl _, Nat.le_refl _, Nat.le_refl _, Nat.le_refl _, hl⟩
  have htab := vx_table (x := yL_send) B (hts0 _ List.mem_cons_self)
  have hlv := lv_entry ([Value.ref 0, .int v, .ref 116].map (cvV g)) (n := 4) (Nat.le_of_ble_eq_true rfl)
  rw [lg_entry_eq]
  rw [lv_args_cv] at hlv
  generalize (lg_sl ([Value.ref 0, .int v, .ref 116].map (cvV g)) ++ List.replicate (4 - (lg_sl ([Value.ref 0, .int v, .ref 116].map (cvV g))).length) Slot.unset).toArray = lsA at hlv ⊢
  have hlv : lv_has lsA 4 (cvL g [(0, .ref 0), (1, .int v), (2, .ref 116)]) := hlv
  have hcd : CD mL_send.2.2.2.1 0 (false, false) sr0 sx S0 [(0, .ref 0), (1, .int v), (2, .ref 116)] I L R s D g ca s.heap [] lsA := ⟨hE, hR, hg, hP, va_S.rf, fun z => absurd z (by decide), hlv⟩
  refine W_size (fun hz => ?_)
  refine lv_aload_n (x := g.1 + 116) hs.1 hs.2.1 dL_send_0 rfl (gL_has hlv (v := .ref 116) rfl) ?_
  refine lv_iconst (v := 0) hs.1 hs.2.1 dL_send_1 rfl ?_
  refine lv_aload_n (x := g.1 + 0) hs.1 hs.2.1 dL_send_2 rfl (gL_has hlv (v := .ref 0) rfl) ?_
  refine lv_iload_n hs.1 hs.2.1 dL_send_3 rfl (gL_has hlv (v := .int v) rfl) ?_
  have hw := ml_13_7.1 11 rfl
  refine W_xcall (vx_runV (As := [Value.int v]) (rest := [Value.int 0, .ref (g.1 + 116)]) (b := g.1 + 0) (C := "DanceWine") (n := 1) (nL := 4) (Ts := Ts) (own := rn 13) ⟨hs.1, hs.2.1, hs.2.2.2.1, hs.2.2.2.2.1, hs.2.2.2.2.2.1⟩ (send_met hl hcel hnow h D g ca) ⟨callB_mj (oc := 13) (d := d + 9) (mj := mX11_send) hs.2.2.2.2.2.1 hw.1 hw.2.1 (by omega) (Nat.le_refl _) (Nat.le_refl _), hs.2.2.2.2.2.1 _ hw.2.2.1, hs.2.2.2.2.2.1 _ hw.2.2.2.1⟩ ⟨Pcx_blind, va_recv hcd.1.K hcd.2.2.2.1 (q := (RX11, TX11, 18)) rfl (wsW_get sh_0), fun U hU hW => ⟨rfl, Pcx_at hcd hz (fun z => z) hU hW⟩⟩ rfl rfl hlv.1 rfl (lv_room (Nat.le_of_ble_eq_true rfl)) dL_send_4 ⟨Nat.le_of_ble_eq_true rfl, Nat.le_of_ble_eq_true rfl⟩) hcd.2.2.2.2.1 (fun q h => h) (fun st o t h => h.2) (fun E st t h => h.2.2) (fun v2 st2 t locs1 hst hva hq hS1 => ?_) (fun q9 E ce st2 t locs1 hst hva hq hce hcv hcl hS1 => ?_)
  · obtain ⟨⟨r, S2, I2, L2, R2, e1, ⟨rfl, y, rfl, hA⟩, e3, e4, e5, e6⟩, -⟩ := hq
    cases e1
    have hX : X mL_send (d + 9) 1 6 (false, false) sr0 sx S0 1 6 7 [(0, .ref 0), (1, .int v), (2, .ref 116)] [.int y, .int 0, .ref 116] I2 L2 R2 (q0 q) := by
      refine X_i2l dL_send_7 ?_
      refine X_last sh_116 (by unfold vp_in; decide) dL_send_8 ?_
      refine X_goto (tgt := 15) dL_send_9 rfl ?_
      refine X_iconst dL_send_15 ?_
      exact X_iret (st := []) rfl (Nat.le_refl _) (Nat.le_refl _) (fun z => absurd z (by decide)) dL_send_16 ⟨rfl, hA⟩
    exact hX p l e _ s m _ below meth c D g ca t.heap locs1 lsA hs ⟨hE, e5, hg, e3, hS1, fun z => absurd z (by decide), hlv⟩
  · obtain ⟨rfl, ⟨I2, L2, R2, hA, e3, e5⟩, -⟩ := hq
    refine vx_catch (own := rn 13) (name := nseN) (E := nseN) hown _ htab (by decide) (by decide) (hs.2.2.2.2.2.1 _ (tsI (inT5 _ (List.mem_of_getElem? (i := 98) rfl)) rfl)) (hE.2.2.2.cast (inT5 _ (List.mem_of_getElem? (i := 108) rfl))) hce hcv hcl ?_
    refine lv_astore_n hs.1 hs.2.1 dL_send_12 rfl hlv (by decide) rfl (fun ls2 hl2 => ?_)
    refine lv_iconst (v := 1) hs.1 hs.2.1 dL_send_13 rfl ?_
    have hlk := hs.2.2.2.2.2.2.1
    exact W.iret (v := 1) hs.1 hs.2.1 hs.2.2.1 (fun t2 ht hW => ⟨⟨some (.int 1), S0, I2, L2, R2, rfl, ⟨rfl, hA⟩, by rw [ht]; exact e3, hE.2.1.moved hW.alike, e5, fun z => absurd z (by decide)⟩, hS1.F ht⟩) hS1.2.2 dL_send_14
