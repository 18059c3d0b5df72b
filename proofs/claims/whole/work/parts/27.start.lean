def I1 : Ints := (u2 (u2 (u2 (u2 (u2 (u2 (u2 (u2 (u2 (u2 (u2 (u2 (u2 (u2 (u2 (u2 (u2 (u2 (u2 (u2 (u2 (u2 (u2 (u2 (u2 (u2 (u2 (u2 (u2 (u2 (u2 (u2 (u2 (u2 (u2 (u2 (u2 (u2 (u2 (u2 (u2 (u2 (u2 (u2 (u2 (u2 (u2 (u2 (u2 (u2 (u2 (u2 (u2 (u2 (u2 (u2 (u2 (u2 (u2 (u2 (u2 (u2 (u2 (u2 (u2 (u2 (u2 (u2 (u2 (u2 (u2 (u2 (u2 (u2 (u2 (u2 (u2 (u2 (u2 (u2 (u2 (u2 (u2 (u2 (u2 (u2 (u2 (u2 (u2 (u2 (u2 (u2 (u2 (u2 (u2 (u2 (u2 (u2 (u2 (u2 (u2 (u2 (u2 (u2 (u2 (u2 (u2 (u2 (u2 (u2 (u2 (u2 (u2 (u2 (u2 (u2 (u2 (u2 (u2 (u2 (u2 (u2 (u2 (fun _ _ => 0) 0 1 0) 2 0 2) 2 1 2) 2 3 0) 2 4 0) 2 7 0) 2 11 0) 11 1 0) 11 3 0) 11 4 0) 11 5 0) 14 0 2) 14 1 2) 14 3 0) 14 4 0) 14 7 0) 14 11 0) 23 1 0) 23 3 0) 23 4 0) 23 5 0) 27 3 0) 26 2 0) 26 3 0) 26 5 0) 26 8 0) 26 9 0) 26 10 0) 26 11 0) 37 0 (-1)) 37 1 (-1)) 37 2 (-1)) 37 3 (-1)) 37 4 (-1)) 37 5 (-1)) 38 1 0) 44 1 0) 44 2 0) 44 3 0) 44 5 0) 44 6 0) 48 1 0) 48 2 0) 48 3 0) 48 4 0) 48 5 0) 48 7 0) 54 1 0) 56 0 0) 56 1 0) 56 2 0) 56 6 0) 58 0 0) 58 1 (-1)) 58 2 (-1)) 58 3 0) 64 0 (-1)) 64 1 (-1)) 64 2 (-1)) 64 3 (-1)) 64 4 (-1)) 64 5 (-1)) 69 0 (-1)) 69 1 (-1)) 69 2 (-1)) 69 3 (-1)) 69 4 (-1)) 69 5 (-1)) 74 0 (-1)) 74 1 (-1)) 74 2 (-1)) 74 3 (-1)) 74 4 (-1)) 74 5 (-1)) 79 0 (-1)) 79 1 (-1)) 79 2 (-1)) 79 3 (-1)) 79 4 (-1)) 79 5 (-1)) 80 1 0) 80 2 0) 80 3 0) 80 5 0) 80 6 0) 82 1 0) 82 2 0) 82 3 0) 82 5 0) 82 6 0) 84 1 0) 84 2 0) 84 3 0) 84 5 0) 84 6 0) 86 1 0) 86 2 0) 86 3 0) 86 5 0) 86 6 0) 88 1 0) 88 2 0) 88 3 0) 88 5 0) 88 6 0) 90 1 0) 90 2 0) 90 3 0) 90 5 0) 90 6 0) 103 0 25) 103 1 26) 103 2 10) 103 3 27) 98 0 2) 98 1 2) 98 6 (-1)) 106 48 (-1)) 106 49 (-1)) 106 50 (-1)) 106 51 (-1)) 106 52 (-1)) 106 53 (-1))
def L1 : Lngs := (u2 (u2 (u2 (u2 (u2 (u2 (u2 (u2 (u2 (u2 (u2 (u2 (u2 (u2 (u2 (u2 (u2 (u2 (u2 (u2 (u2 (u2 (u2 (u2 (u2 (u2 (u2 (u2 (u2 (u2 (u2 (u2 (u2 (u2 (u2 (u2 (u2 (u2 (u2 (fun _ _ => 0) 2 2 0) 14 2 0) 26 7 0) 44 4 0) 54 2 0) 80 4 0) 82 4 0) 84 4 0) 86 4 0) 88 4 0) 90 4 0) 97 0 407049) 97 1 1126995080) 97 2 288643741442) 97 3 7566579) 97 4 1177863) 97 5 18795075130) 97 6 561) 97 7 14190408) 97 8 57) 97 9 31549) 97 10 1633) 97 11 50137919429) 97 12 2286271) 97 13 11523) 97 14 614923) 97 15 34200674) 97 16 919322) 97 17 30596128) 97 18 1597268632) 97 19 609691) 97 20 40071079) 97 21 20983) 97 22 19741) 97 23 1891) 97 24 573) 97 25 13729054) 97 26 989988) 97 27 8437676)
def R1 : Rfs := (u2 (u2 (u2 (u2 (u2 (u2 (u2 (u2 (u2 (u2 (u2 (u2 (u2 (u2 (u2 (u2 (u2 (u2 (u2 (u2 (u2 (u2 (u2 (u2 (u2 (u2 (u2 (u2 (u2 (u2 (u2 (u2 (u2 (u2 (u2 (u2 (u2 (u2 (u2 (u2 (u2 (u2 (u2 (u2 (u2 (u2 (u2 (u2 (u2 (u2 (u2 (u2 (u2 (u2 (u2 (u2 (u2 (u2 (u2 (u2 (u2 (u2 (u2 (u2 (u2 (u2 (u2 (u2 (u2 (u2 (u2 (u2 (u2 (u2 (u2 (u2 (u2 (u2 (u2 (u2 (u2 (u2 (u2 (u2 (u2 (u2 (u2 (u2 (u2 (u2 (u2 (u2 (u2 (u2 (u2 (u2 (u2 (u2 (u2 (u2 (u2 (u2 (u2 (u2 (u2 (u2 (u2 (u2 (u2 (u2 (u2 (u2 (u2 (u2 (u2 (u2 (u2 (u2 (u2 (u2 (fun _ _ => none) 0 0 (some 1)) 2 5 (some 3)) 2 6 (some 4)) 2 8 (some 5)) 2 9 (some 6)) 2 10 (some 7)) 2 12 (some 8)) 2 13 (some 9)) 2 14 (some 10)) 11 0 (some 12)) 11 2 (some 13)) 2 15 (some 11)) 0 2 (some 2)) 14 5 (some 15)) 14 6 (some 16)) 14 8 (some 17)) 14 9 (some 18)) 14 10 (some 19)) 14 12 (some 20)) 14 13 (some 21)) 14 14 (some 22)) 23 0 (some 24)) 23 2 (some 25)) 14 15 (some 23)) 0 3 (some 14)) 27 0 (some 28)) 27 1 (some 29)) 27 2 (some 30)) 26 0 (some 27)) 26 1 none) 26 4 (some 31)) 26 6 (some 32)) 0 4 (some 26)) 33 0 (some 34)) 33 1 (some 35)) 33 2 (some 36)) 33 3 (some 37)) 0 5 (some 33)) 38 0 (some 39)) 0 6 (some 38)) 0 7 (some 40)) 0 8 (some 41)) 0 9 (some 42)) 0 10 (some 43)) 44 0 (some 45)) 0 11 (some 44)) 0 12 (some 46)) 0 13 (some 47)) 48 0 (some 49)) 48 6 none) 48 8 (some 50)) 48 9 (some 51)) 48 10 (some 52)) 48 11 (some 53)) 0 14 (some 48)) 54 0 (some 55)) 0 15 (some 54)) 56 3 none) 56 4 none) 56 5 (some 57)) 0 16 (some 56)) 58 4 none) 58 5 none) 58 6 (some 59)) 0 17 (some 58)) 60 0 (some 61)) 60 1 (some 62)) 60 2 (some 63)) 60 3 (some 64)) 40 0 (some 60)) 65 0 (some 66)) 65 1 (some 67)) 65 2 (some 68)) 65 3 (some 69)) 40 1 (some 65)) 70 0 (some 71)) 70 1 (some 72)) 70 2 (some 73)) 70 3 (some 74)) 40 2 (some 70)) 75 0 (some 76)) 75 1 (some 77)) 75 2 (some 78)) 75 3 (some 79)) 40 3 (some 75)) 80 0 (some 81)) 42 0 (some 80)) 82 0 (some 83)) 42 1 (some 82)) 84 0 (some 85)) 42 2 (some 84)) 86 0 (some 87)) 42 3 (some 86)) 88 0 (some 89)) 42 4 (some 88)) 90 0 (some 91)) 42 5 (some 90)) 92 1 (some 93)) 92 4 (some 94)) 92 5 (some 95)) 92 6 (some 96)) 92 9 (some 97)) 92 10 (some 98)) 92 11 (some 99)) 92 12 (some 100)) 92 14 (some 101)) 92 15 (some 102)) 92 18 (some 103)) 92 19 (some 104)) 92 20 (some 105)) 92 21 (some 106)) 92 23 (some 107)) 92 24 (some 108)) 92 27 (some 109)) 92 31 (some 110)) 92 32 (some 111)) 92 34 (some 112)) 92 35 (some 113)) 92 36 (some 114)) 92 38 (some 115))
theorem sr1_all : ∀ o, o < 117 → ∀ k, k < 44 → ∀ q, sr0 o k = some q → R1 o k = some q := by
  have h : ∀ o, o < 117 → ∀ k, k < 44 → sr0 o k = none ∨ sr0 o k = R1 o k := by decide +kernel
  intro o ho k hk q hq
  rcases h o ho k hk with h | h
  · rw [h] at hq; cases hq
  · rw [← h]; exact hq
theorem srT_len : srT.length = 117 ∧ ∀ l ∈ srT, l.length ≤ 43 := by decide +kernel
theorem sr1 : ∀ o k q, sr0 o k = some q → R1 o k = some q := by
  intro o k q h
  by_cases ho : o < 117
  · by_cases hk : k < 44
    · exact sr1_all o ho k hk q h
    · exfalso
      unfold sr0 at h
      have hl : (srT.getD o []).length ≤ 43 := by
        rw [List.getD_eq_getElem?_getD, List.getElem?_eq_getElem (by rw [srT_len.1]; exact ho)]
        exact srT_len.2 _ (List.getElem_mem _)
      rw [List.getD_eq_getElem?_getD, List.getElem?_eq_none (by omega)] at h
      cases h
  · exfalso
    unfold sr0 at h
    rw [List.getD_eq_getElem?_getD (l := srT), List.getElem?_eq_none (by rw [srT_len.1]; omega)] at h
    cases h
theorem W_mono {p : Program} {l : Launch} {e : Env} {R : Room} {s : State} {m : MethodId} {args : Array Value} {below : List Frame} {meth : Method} {c : Code} {H : Heap} {locs : List Loc} {cells slots : Nat} {Z Z' : State → Prop} {g : JFrame} (h : ∀ t, Z t → Z' t) (k : W p l e R s m args below meth c H locs cells slots Z g) : W p l e R s m args below meth c H locs cells slots Z' g := by
  intro T hT X
  obtain ⟨t, a, b⟩ := k T hT X
  exact ⟨t, a, h t b⟩
theorem X_main {mi : MI} {d mc ms kc ks pc : Nat} {sx : Sx} {ls : Lc} {st : List Value} {I : Ints} {L : Lngs} {R : Rfs} {q : Q3} (hR : ∀ o k q, sr0 o k = some q → R o k = some q) (h : YK mc ms kc ks mi d sx pc ls st I L R q) : X mi d mc ms (true, false) srN sx (S0.take 117) kc ks pc ls st I L R (fun r _ I L R => q r I L R) := by
  intro p l e Rm s m args below meth c D g ca H locs lsA hs hc
  have eS : S0.take 117 = S0 := by decide +kernel
  rw [eS] at hc
  refine W_mono (fun t ht => ?_) (h p l e Rm s m args below meth c D g ca H locs lsA hs ⟨hc.1, hR, hc.2.2.1, hc.2.2.2.1, hc.2.2.2.2.1, fun z => absurd z (by decide), hc.2.2.2.2.2.2⟩)
  obtain ⟨o, b1, b2, ⟨⟨r, S2, I2, L2, R2, e1, e2, e3, e4, e5, e6⟩, hF⟩, b4⟩ := ht
  exact ⟨o, b1, b2, ⟨⟨r, S2, I2, L2, R2, e1, e2.2, e3, e4, fun o k q hq => (by cases hq), fun z => absurd z (by decide)⟩, hF⟩, b4⟩
theorem dL_law_0 : decode code 0 = .ok (.new 8, 3) := by decide +kernel
theorem dL_law_3 : decode code 3 = .ok (.dup, 1) := by decide +kernel
theorem dL_law_4 : decode code 4 = .ok (.invokespecial 15, 3) := by decide +kernel
theorem dL_law_7 : decode code 7 = .ok (.astore_n 1, 1) := by decide +kernel
theorem dL_law_8 : decode code 8 = .ok (.new 16, 3) := by decide +kernel
theorem dL_law_11 : decode code 11 = .ok (.dup, 1) := by decide +kernel
theorem dL_law_12 : decode code 12 = .ok (.invokespecial 18, 3) := by decide +kernel
theorem dL_law_15 : decode code 15 = .ok (.astore_n 2, 1) := by decide +kernel
theorem dL_law_16 : decode code 16 = .ok (.iconst 1, 1) := by decide +kernel
theorem dL_law_17 : decode code 17 = .ok (.newarray .long, 2) := by decide +kernel
theorem dL_law_19 : decode code 19 = .ok (.astore_n 3, 1) := by decide +kernel
theorem dL_law_20 : decode code 20 = .ok (.iconst 0, 1) := by decide +kernel
theorem dL_law_21 : decode code 21 = .ok (.istore 4, 2) := by decide +kernel
set_option maxHeartbeats 4000000 in
set_option maxRecDepth 100000 in
theorem law_start {d : Nat} {sx : Sx} {q : Q3} (h : YK 601024 7293034 117 37780 mL_law (d + 10) sx 23 [(0, .retAddr 0), (1, .ref 0), (2, .ref 92), (3, .ref 116), (4, .int 0)] [] I1 L1 R1 q) :
    X mL_law (d + 10) 601024 7293034 (true, false) srN sx (S0.take 0) 0 0 0 [(0, .retAddr 0)] [] (fun _ _ => 0) (fun _ _ => 0) (fun _ _ => none) (fun r _ I L R => q r I L R) := by
  refine XT_new (n := 0) (ci := 11) sh_0 ⟨(RX11, TX11, 18), rfl, (tsI (inT1 _ (List.mem_of_getElem? (i := 26) rfl)) rfl), (tsI (inT1 _ (List.mem_of_getElem? (i := 27) rfl)) rfl), (tsI (inT1 _ (List.mem_of_getElem? (i := 1) rfl)) rfl)⟩ (by decide) (fun k => ⟨rfl, rfl, rfl⟩) (by decide) (by decide) dL_law_0 ?_
  refine X_dup rfl dL_law_3 ?_
  refine X_callI (al' := (true, true)) (mj := mX11_init) (d' := d + 3) (mc' := 91) (ms' := 22092) (fun z => z) (fun _ => rfl) mjX11_init (tsI (inT1 _ (List.mem_of_getElem? (i := 28) rfl)) rfl) (tsI (inT1 _ (List.mem_of_getElem? (i := 29) rfl)) rfl) rfl rfl (Nat.le_of_ble_eq_true rfl) (by omega) (by decide) (by decide) dL_law_4 ?_
  refine ct_X11_init (fun j _ _ k => ⟨rfl, rfl, rfl⟩) ?_
  refine X_astore_n (by decide) dL_law_7 ?_
  refine XT_new (n := 92) (ci := 12) sh_92 ⟨(RX12, TX12, 43), rfl, (tsI (inT5 _ (List.mem_of_getElem? (i := 188) rfl)) rfl), (tsI (inT5 _ (List.mem_of_getElem? (i := 186) rfl)) rfl), (tsI (inT1 _ (List.mem_of_getElem? (i := 14) rfl)) rfl)⟩ (by decide) (fun k => ⟨rfl, rfl, rfl⟩) (by decide) (by decide) dL_law_8 ?_
  refine X_dup rfl dL_law_11 ?_
  refine X_callI (al' := (true, true)) (mj := mX12_init) (d' := d + 1) (mc' := 23) (ms' := 15626) (fun z => z) (fun _ => rfl) mjX12_init (tsI (inT5 _ (List.mem_of_getElem? (i := 189) rfl)) rfl) (tsI (inT5 _ (List.mem_of_getElem? (i := 190) rfl)) rfl) rfl rfl (Nat.le_of_ble_eq_true rfl) (by omega) (by decide) (by decide) dL_law_12 ?_
  refine ct_X12_init (fun j h1 h2 k => ?_) ?_
  · refine ⟨?_, ?_, ?_⟩ <;> (simp (disch := omega) only [u2_off])
  refine X_astore_n (by decide) dL_law_15 ?_
  refine X_iconst dL_law_16 ?_
  refine XT_newarr (n := 116) (N := 1) (ty := .long) sh_116 rfl rfl aw_long (by decide) (by decide) (by decide) (fun k => ⟨rfl, rfl⟩) (by decide) (by decide) dL_law_17 ?_
  refine X_astore_n (by decide) dL_law_19 ?_
  refine X_iconst dL_law_20 ?_
  refine X_istore (by decide) dL_law_21 ?_
  refine X_sub [0, 1, 2, 3, 4] ?_
  exact X_main sr1 h
theorem instOK : ∀ (ci : Nat) (q : vw_C), vwCl[ci]? = some q → Cond.instantiable q.1 q.2.2 ∈ Ts := by
  intro ci q h
  match ci, h with
  | 0, h => cases h; exact (tsI (inT1 _ (List.mem_of_getElem? (i := 35) rfl)) rfl)
  | 1, h => cases h; exact (tsI (inT2 _ (List.mem_of_getElem? (i := 1) rfl)) rfl)
  | 2, h => cases h; exact (tsI (inT2 _ (List.mem_of_getElem? (i := 125) rfl)) rfl)
  | 3, h => cases h; exact (tsI (inT1 _ (List.mem_of_getElem? (i := 41) rfl)) rfl)
  | 4, h => cases h; exact (tsI (inT2 _ (List.mem_of_getElem? (i := 27) rfl)) rfl)
  | 5, h => cases h; exact (tsI (inT1 _ (List.mem_of_getElem? (i := 171) rfl)) rfl)
  | 6, h => cases h; exact (tsI (inT2 _ (List.mem_of_getElem? (i := 174) rfl)) rfl)
  | 7, h => cases h; exact (tsI (inT2 _ (List.mem_of_getElem? (i := 43) rfl)) rfl)
  | 8, h => cases h; exact (tsI (inT2 _ (List.mem_of_getElem? (i := 77) rfl)) rfl)
  | 9, h => cases h; exact (tsI (inT2 _ (List.mem_of_getElem? (i := 143) rfl)) rfl)
  | 10, h => cases h; exact (tsI (inT1 _ (List.mem_of_getElem? (i := 177) rfl)) rfl)
  | 11, h => cases h; exact (tsI (inT1 _ (List.mem_of_getElem? (i := 27) rfl)) rfl)
  | 12, h => cases h; exact (tsI (inT5 _ (List.mem_of_getElem? (i := 186) rfl)) rfl)
  | (n + 13), h => exact absurd h (by simp [vwCl])
def R_law : String := "DanceWineLaw"
def lw_P (b : Addr) (xs : List Int32) (args : Array Value) (s : State) : Prop := args = #[.ref b] ∧ s.IntsAt b xs ∧ xs.length ≤ 3584 ∧ (Jvm.Cond.and given_1 narrow_1).before args s = true
def lw_Q (_ : Array Value) (s : State) (o : Outcome) (t : State) : Prop := o = .returned (some (.int 1)) ∧ Framed s o t [] 601024 7293034
def lw_Z (below : List Frame) (a : Array Value) (s : State) : State → Prop := fun t => ∃ o, t.status = .running ∧ Ended t below o ∧ lw_Q a s o t
/-- the law's own end, with 1 on the stack, nothing written that was there before, its room as the claim has it -/
theorem lw_ret {p : Program} {l : Launch} {e : Env} {s : State} {m : MethodId} {below : List Frame} {meth : Method} {c : Code} {b : Nat} (hx : p.tables.exec = Jvm.exec) (hb : c.code = code) (hr : meth.sig.returnType = ret) (hlocks : meth.locks = false) {pc : Nat} {H : Heap} {ls : Array Slot} (hdg : decode code pc = .ok (.ireturn, 1)) : W p l e room_1 s m #[Value.ref b] below meth c H [] 601024 7293034 (lw_Z below #[Value.ref b] s) (F0 m pc ls [.int 1]) := by
  intro T hT X
  obtain ⟨fs, hret, hrun, hended, hW, hframe⟩ := X.leave (v := some (.int 1)) (hlocks := hlocks) (fun h => by rw [hr] at h; cases h)
  have hmeth' : T.vm.method? m = some meth := X.method'
  refine ⟨T.setFrames fs, ?_, .returned (some (.int 1)), hrun, hended, rfl, ⟨_, rfl⟩, hW, hframe⟩
  jvm_step X.here [X.here.top, hx, hb, hdg, hmeth', hr, ret, narrow_b1]
  (try refine ⟨rfl, ?_⟩); (try refine ⟨rfl, ?_⟩)
  first | (intro acts; rw [hret _ acts rfl rfl rfl]) | rw [hret _ _ rfl rfl rfl]
  exact Steps.refl _
/-- what holds at the law's entry: the machine, the code, the tables' words (any of lw_tbl by 'hts w (by decide +kernel)'), the script of L ints xs at the cell b, what the Statement gives of the start (any of its parts by flat_of_before) -/
def lw_At (p : Program) (s : State) (m : MethodId) (meth : Method) (c : Code) (b L : Nat) (xs : Nat → Int32) : Prop :=
  p.tables.exec = Jvm.exec ∧ c.code = code ∧ meth.sig.returnType = ret ∧ c.maxLocals = 7 ∧ s.vm.findClass R_law = some m.cls ∧ (∀ w ∈ lw_tbl, w.before #[Value.ref b] s = true) ∧ va_X b L xs s s.heap ∧ b < s.heap.size ∧ meth.locks = false ∧ (Jvm.Cond.and given_1 narrow_1).before #[Value.ref b] s = true
theorem va_RA.uniq {s : State} {x y : ClassId} {ty : FieldType} (h1 : va_RA s x ty) (h2 : va_RA s y ty) : x = y := by
  cases ty with
  | object C =>
    obtain ⟨_, _, _, _, _, f1⟩ := h1
    obtain ⟨_, _, _, _, _, f2⟩ := h2
    exact Option.some.inj (f1.symm.trans f2)
  | _ => exact Option.some.inj ((show _ = _ from h1).symm.trans h2)
/-- the claim's walk out of the loop's -/
theorem whole_start {p : Program} {e : Env} {s : State} {m : MethodId} {below : List Frame} {meth : Method} {c : Code} (l : Launch) (hl : l.stackTraces = false) {b L : Nat} {xs : Nat → Int32} (hn : meth.name = mL_law.2.1.name) (C0 : lw_At p s m meth c b L xs)
    (hloop : YK 601024 7293034 117 37780 mL_law (90 + 10) (L, xs) 23 [(0, .retAddr 0), (1, .ref 0), (2, .ref 92), (3, .ref 116), (4, .int 0)] [] I1 L1 R1 (fun r _ _ _ => r = some (.int 1))) :
    W p l e room_1 s m #[Value.ref b] below meth c s.heap [] 0 0 (lw_Z below #[Value.ref b] s) (entryFrame m ([Value.ref b] : List Value).toArray 7) := by
  obtain ⟨h1, h2, h3, h4, h5, h6, h7, h8, h9, h10⟩ := C0
  have hts : ∀ w ∈ Ts, w.before #[Value.ref b] s = true := fun w hw => h6 w (List.mem_filter.mp hw).1
  have hD : ∀ ci : Nat, ∃ q : ClassId × (Nat → Nat), ∀ w : vw_C, vwCl[ci]? = some w → u_Kn s w.1 w.2.1 w.2.2 q.1 q.2 := by
    intro ci
    cases hw : vwCl[ci]? with
    | none => exact ⟨(0, fun _ => 0), fun w h => by cases h⟩
    | some w =>
      obtain ⟨cC, iS, h⟩ := u_known hts (clOK ci w hw).1 (hts _ (instOK ci w hw))
      exact ⟨(cC, iS), fun w' h' => by cases h'; exact h⟩
  obtain ⟨D, hD⟩ := Classical.axiomOfChoice hD
  have hca : ∀ ty : FieldType, ∃ x : ClassId, ∀ y, va_RA s y ty → x = y := by
    intro ty
    by_cases h : ∃ x, va_RA s x ty
    · obtain ⟨x, hx⟩ := h
      exact ⟨x, fun y hy => va_RA.uniq hx hy⟩
    · exact ⟨0, fun y hy => absurd ⟨y, hy⟩ h⟩
  obtain ⟨ca, hca⟩ := Classical.axiomOfChoice hca
  have hs : CS mL_law (90 + 10) 601024 7293034 p l room_1 s m #[Value.ref b] meth c := ⟨h1, h2, h3, h4, h5, hts, h9, hn, by decide, by decide, by decide, by decide, hl⟩
  · have hE : EnvW (s.heap.size, b) (L, xs) (fun ci => (D ci).1, fun ci => (D ci).2) ca [] s := ⟨fun ci q hq => hD ci q hq, fun k ty n hk => by simp at hk, fun ty x hx => hca ty x hx, s, h6, h10, h7, h8, rfl, State.WarmedH.refl s, fun q _ => rfl⟩
    have hlv := lv_entry ([Value.ref b]) (n := 7) (Nat.le_of_ble_eq_true rfl)
    have hX := law_start (d := 90) (sx := (L, xs)) hloop
    have hPP : va_P (fun ci => (D ci).1, fun ci => (D ci).2) vwCl (wsW (s.heap.size, b) ca (List.take 0 S0) (fun _ _ => 0) (fun _ _ => 0) (fun _ _ => none)) s.heap := fun k q hk => absurd hk (by simp [wsW])
    rw [lg_entry_eq]
    refine W_mono (fun t ht => ?_) (hX p l e room_1 s m #[Value.ref b] below meth c (fun ci => (D ci).1, fun ci => (D ci).2) (s.heap.size, b) ca s.heap [] _ hs ⟨hE, fun (o k q : Nat) hq => (by have hq' : (none : Option Nat) = some q := hq; cases hq'), Nat.le_refl _, hPP, va_S.rf, fun _ => rfl, hlv⟩)
    obtain ⟨o, b1, b2, ⟨⟨r, S2, I2, L2, R2, e1, rfl, -⟩, -⟩, Ls, ⟨g1, g2, g3⟩, g4⟩ := ht
    refine ⟨o, b1, b2, e1, g1, g2, g3.weaken (fun y hy hlt => ?_) (Nat.le_refl _) (Nat.le_refl _)⟩
    exact absurd (g4 y hy) (Nat.not_le.mpr hlt)
