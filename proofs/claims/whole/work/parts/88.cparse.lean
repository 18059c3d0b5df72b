/-! faults are numbers -/
theorem nmb_f {ts : List Tk} (hT : TkOk ts) {lo hi i v : Nat} {f : Nat → Pr} (h : nmb ts lo hi i f = .inl v) : isF v ∨ ∃ x, f x = .inl v := by
  unfold nmb at h
  split at h
  · split at h
    · cases h; exact Or.inl (fK_f hT (by decide) (by decide))
    · exact Or.inr ⟨_, h⟩
  · cases h; exact Or.inl (fK_f hT (by decide) (by decide))
theorem wrd_f {ts : List Tk} (hT : TkOk ts) {s i v : Nat} {f : Pr} (h : wrd ts s i f = .inl v) : isF v ∨ f = .inl v := by
  unfold wrd at h
  split at h
  · exact Or.inr h
  · cases h; exact Or.inl (fK_f hT (by decide) (by decide))
theorem plc_f {ts : List Tk} (hT : TkOk ts) {a : Ce} {tk : Nat → Bool} {i v : Nat} {f : Nat → Pr} (h : plc ts a tk i f = .inl v) : isF v ∨ ∃ x, f x = .inl v := by
  rcases nmb_f hT h with h | ⟨x, h⟩
  · exact Or.inl h
  · rcases nmb_f hT h with h | ⟨y, h⟩
    · exact Or.inl h
    · split at h
      · cases h; exact Or.inl (fK_f hT (by decide) (by decide))
      · exact Or.inr ⟨_, h⟩
theorem newN_f {ts : List Tk} (hT : TkOk ts) {nm : Nm} {tag i v : Nat} {f : Nm → Pr} (h : newN ts nm tag i f = .inl v) : isF v ∨ ∃ x, f x = .inl v := by
  unfold newN at h
  split at h
  · split at h
    · exact Or.inr ⟨_, h⟩
    · cases h; exact Or.inl (fK_f hT (by decide) (by decide))
  · cases h; exact Or.inl (fK_f hT (by decide) (by decide))
theorem stpF_f {ts : List Tk} (hT : TkOk ts) {d v : Nat} {f : Nat → Ce → Pr} : ∀ n i s a, stpF ts d f n i s a = .inl v → isF v ∨ ∃ j b, f j b = .inl v
  | 0, i, s, a, h => by cases h; exact Or.inl (fK_f hT (by decide) (by decide))
  | n + 1, i, s, a, h => by
    unfold stpF at h
    split at h
    · split at h
      · cases h; exact Or.inl (fK_f hT (by decide) (by decide))
      · exact stpF_f hT n _ _ _ h
    · split at h
      · cases h; exact Or.inl (fK_f hT (by decide) (by decide))
      · exact Or.inr ⟨_, _, h⟩
theorem prtF_f {ts : List Tk} (hT : TkOk ts) {nm : Nm} {w v : Nat} {f : Nat → Ce → Pr} : ∀ n i k a, prtF ts nm w f n i k a = .inl v → isF v ∨ ∃ j b, f j b = .inl v
  | 0, i, s, a, h => by cases h; exact Or.inl (fK_f hT (by decide) (by decide))
  | n + 1, i, s, a, h => by
    unfold prtF at h
    split at h
    · split at h
      · cases h; exact Or.inl (fK_f hT (by decide) (by decide))
      · split at h
        · cases h; exact Or.inl (fK_f hT (by decide) (by decide))
        split at h
        · cases h; exact Or.inl (fK_f hT (by decide) (by decide))
        split at h
        · cases h; exact Or.inl (fK_f hT (by decide) (by decide))
        rcases nmb_f hT h with h | ⟨x, h⟩
        · exact Or.inl h
        · exact prtF_f hT n _ _ _ h
    · split at h
      · cases h; exact Or.inl (fK_f hT (by decide) (by decide))
      · exact Or.inr ⟨_, _, h⟩
theorem rgL_f {ts : List Tk} (hT : TkOk ts) {i v : Nat} (e : rgL ts i = .inl v) : isF v := by
  rcases bnd_cs e with ⟨w, h1, h2⟩ | ⟨j1, e1, h1, h2⟩
  · cases h2; exact rgA_vp (rgQ_vp hT 5) _ _ h1
  · split at h2
    · cases h2
    · cases h2; exact fK_f hT (by decide) (by decide)
theorem wr_end {ts : List Tk} (hT : TkOk ts) {s i v : Nat} {st : Ps} (h : wrd ts s i (.inr st) = .inl v) : isF v := by
  rcases wrd_f hT h with h | h
  · exact h
  · cases h
theorem lin1_f {ts : List Tk} (hT : TkOk ts) {st : Ps} {v : Nat} (h : lin1 ts st = .inl v) : isF v := by
  obtain ⟨i, a, nm, dn, hc, lc⟩ := st
  unfold lin1 at h
  dsimp only at h
  split at h
  · rcases plc_f hT h with h | ⟨x, h⟩
    · exact h
    · exact wr_end hT h
  split at h
  · unfold lnCar at h
    split at h
    · cases h; exact fK_f hT (by decide) (by decide)
    rcases plc_f hT h with h | ⟨x, h⟩
    · exact h
    · exact wr_end hT h
  split at h
  · unfold lnDan at h
    split at h
    · cases h; exact fK_f hT (by decide) (by decide)
    rcases newN_f hT h with h | ⟨x, h⟩
    · exact h
    rcases stpF_f hT _ _ _ _ h with h | ⟨j, b, h⟩
    · exact h
    · exact wr_end hT h
  split at h
  · unfold lnWin at h
    split at h
    · cases h; exact fK_f hT (by decide) (by decide)
    rcases newN_f hT h with h | ⟨x, h⟩
    · exact h
    rcases wrd_f hT h with h | h
    · exact h
    rcases nmb_f hT h with h | ⟨x, h⟩
    · exact h
    rcases wrd_f hT h with h | h
    · exact h
    rcases prtF_f hT _ _ _ _ h with h | ⟨j, b, h⟩
    · exact h
    · exact wr_end hT h
  split at h
  · unfold lnGue at h
    split at h
    · cases h; exact fK_f hT (by decide) (by decide)
    rcases newN_f hT h with h | ⟨x, h⟩
    · exact h
    split at h
    rotate_left
    · cases h; exact fK_f hT (by decide) (by decide)
    rcases wrd_f hT h with h | h
    · exact h
    rcases plc_f hT h with h | ⟨x, h⟩
    · exact h
    rcases wrd_f hT h with h | h
    · exact h
    rcases nmb_f hT h with h | ⟨x, h⟩
    · exact h
    rcases wrd_f hT h with h | h
    · exact h
    rcases nmb_f hT h with h | ⟨x, h⟩
    · exact h
    · exact wr_end hT h
  split at h
  · unfold lnLaw at h
    split at h
    · cases h; exact fK_f hT (by decide) (by decide)
    split at h
    · rename_i w hr
      cases h; exact rgL_f hT hr
    · cases h
  · cases h; exact fK_f hT (by decide) (by decide)
theorem lins_f {ts : List Tk} (hT : TkOk ts) {v : Nat} : ∀ n st, lins ts n st = .inl v → isF v
  | 0, st, h => by cases h
  | n + 1, st, h => by
    unfold lins at h
    split at h
    · cases h
    · split at h
      · rename_i w hl
        cases h; exact lin1_f hT hl
      · exact lins_f hT n _ h
theorem cellS_f {ts : List Tk} (hT : TkOk ts) {v : Nat} (h : cellS ts = .inl v) : isF v := by
  rcases wrd_f hT h with h | h
  · exact h
  rcases nmb_f hT h with h | ⟨x, h⟩
  · exact h
  rcases nmb_f hT h with h | ⟨x, h⟩
  · exact h
  rcases wrd_f hT h with h | h
  · exact h
  · exact lins_f hT _ _ h
/-! the class reads a cellar -/
theorem line_ok {d : Nat} {sx : Sx} {I : Ints} {L : Lngs} {R : Rfs} {q : Q3} {ts : List Tk} {N c i : Nat} {a : Ce} {nm : Nm} {dn : List (List Nat)} {hc : Bool} {lc : Cd} (hP : PsC ts N c i a nm dn hc lc I L R) (hO : POk ts N (i, a, nm, dn, hc, lc)) (h33 : sK ts i ≠ 33)
    (hf : ∀ v J K, lin1 ts (i, a, nm, dn, hc, lc) = .inl v → J 26 3 = nI v → RdF c I J L K → q (some (.int 0)) J K R)
    (ht : ∀ i' a' nm' dn' hc' lc' J K, lin1 ts (i, a, nm, dn, hc, lc) = .inr (i', a', nm', dn', hc', lc') → PsC ts N c i' a' nm' dn' hc' lc' J K R → RdF c I J L K → q (some (.int 1)) J K R) : E0 mX5_line (d + 6) sx [.ref 26] I L R q := by
  obtain ⟨(hi : i ≤ N), (hW : WFc a), (hZ : Zr a), (hNo : NmOk a nm dn), (hl : lcOk lc)⟩ := hO
  have hPP := hP
  obtain ⟨hB, ⟨hcl, hR⟩, h2, h3, hNm, hDn, h8, h9, hGc, hC⟩ := hP
  have hiN := lt_N hB.2.1 hi h33
  have hlt := hB.1.lt i
  have w2 := hW.2.2.1
  have w3 := hW.2.2.2.1
  have w4 := hW.2.2.2.2.1
  have hw : ∀ k, 1 ≤ k → lin1 ts (i, a, nm, dn, hc, lc) = .inl (fK ts k i) → q (some (.int 0)) (u2 I 26 3 (nI (fK ts k i))) L R := fun k hk e => hf _ _ L e (u2_ss _ _ _ _) (RdF.k (Kp.rf.up (by simp)))
  have hoth : sK ts i ≠ 1 → sK ts i ≠ 2 → sK ts i ≠ 3 → sK ts i ≠ 4 → sK ts i ≠ 7 → sK ts i ≠ 11 → Y mX5_line (d + 6) sx 184 [(0, .ref 26)] [] I L R q := by
    intro n1 n2 n3 n4 n7 n11
    refine RX5_line_184 (wrongR_ok (k := 1) hB h2 hi (RX5_line_189 ⟨Or.inl rfl, hw 1 (by decide) ?_⟩))
    unfold lin1
    dsimp only
    rw [if_neg n1, if_neg n2, if_neg n3, if_neg n4, if_neg n7, if_neg n11]
  refine EX5_line (sortR_ok hB h2 hi ?_)
  refine RX5_line_4 hcl hR ⟨fun c1 => ?_, fun c1 => ⟨fun c2 => ⟨fun c3 => ?_, fun c3 => ?_⟩, fun c2 => ⟨fun c3 => ⟨fun c4 => ?_, fun c4 => ?_⟩, fun c3 => ⟨fun c4 => ⟨fun c5 => ?_, fun c5 => ?_⟩, fun c4 => ⟨fun c5 => ?_, fun c5 => ⟨fun c6 => ?_, fun c6 => ⟨fun c7 => ⟨fun c8 => ?_, fun c8 => ?_⟩, fun c7 => ⟨fun c8 => ?_, fun c8 => ⟨fun c9 => ?_, fun c9 => ⟨fun c10 => ?_, fun c10 => ⟨fun c11 => ⟨fun c12 => ?_, fun c12 => ?_⟩, fun c11 => ?_⟩⟩⟩⟩⟩⟩⟩⟩⟩⟩⟩
  · simp (disch := omega) only [nlit, natrem, nIrm, nIam, nIam',  nI_add, pk_mul, nIsub, nIrem, nIdiv, nIand1, nIand3, nIand7, nIand31, nIshr, nIle, nIlt, nIeq, nIc, vpI, nIm1, m1nI, m1lt, nIlm, m1le, nIlem, nIneg, u2_ss, u2_nn, u2_kk, nIm1n, m1nIn, m1ltn, nIlmn, m1len, nIlemn] at c1
    have e : lin1 ts (i, a, nm, dn, hc, lc) = lnPil ts i a nm dn hc lc := if_pos c1
    rw [e] at hf ht
    exact pillarLine_ok hPP hW (by omega) (fun v J K a b c => RX5_line_68 ⟨Or.inl rfl, hf v J K a b c⟩) (fun i' a' nm' dn' hc' lc' J K x y z => RX5_line_68 ⟨Or.inr rfl, ht i' a' nm' dn' hc' lc' J K x y z⟩)
  · simp (disch := omega) only [nlit, natrem, nIrm, nIam, nIam',  nI_add, pk_mul, nIsub, nIrem, nIdiv, nIand1, nIand3, nIand7, nIand31, nIshr, nIle, nIlt, nIeq, nIc, vpI, nIm1, m1nI, m1lt, nIlm, m1le, nIlem, nIneg, u2_ss, u2_nn, u2_kk, nIm1n, m1nIn, m1ltn, nIlmn, m1len, nIlemn] at c1 c2
    have ehc : hc = false := by
      cases hc with
      | false => rfl
      | true => rw [h8] at c3; exact absurd c3 (by decide)
    have e : lin1 ts (i, a, nm, dn, hc, lc) = lnCar ts i a nm dn hc lc := by unfold lin1; dsimp only; rw [if_neg c1, if_pos c2]
    rw [e] at hf ht
    exact carriageLine_ok hPP hW (by omega) ehc (fun v J K a b c => RX5_line_88 ⟨Or.inl rfl, hf v J K a b c⟩) (fun i' a' nm' dn' hc' lc' J K x y z => RX5_line_88 ⟨Or.inr rfl, ht i' a' nm' dn' hc' lc' J K x y z⟩)
  · simp (disch := omega) only [nlit, natrem, nIrm, nIam, nIam',  nI_add, pk_mul, nIsub, nIrem, nIdiv, nIand1, nIand3, nIand7, nIand31, nIshr, nIle, nIlt, nIeq, nIc, vpI, nIm1, m1nI, m1lt, nIlm, m1le, nIlem, nIneg, u2_ss, u2_nn, u2_kk, nIm1n, m1nIn, m1ltn, nIlmn, m1len, nIlemn] at c1 c2
    have ehc : hc = true := by
      cases hc with
      | true => rfl
      | false => rw [h8] at c3; exact absurd rfl c3
    refine wrongR_ok (k := 3) hB h2 hi (RX5_line_81 (RX5_line_88 ⟨Or.inl rfl, hw 3 (by decide) ?_⟩))
    unfold lin1
    dsimp only
    rw [if_neg c1, if_pos c2]
    exact if_pos ehc
  · simp (disch := omega) only [nlit, natrem, nIrm, nIam, nIam',  nI_add, pk_mul, nIsub, nIrem, nIdiv, nIand1, nIand3, nIand7, nIand31, nIshr, nIle, nIlt, nIeq, nIc, vpI, nIm1, m1nI, m1lt, nIlm, m1le, nIlem, nIneg, u2_ss, u2_nn, u2_kk, nIm1n, m1nIn, m1ltn, nIlmn, m1len, nIlemn] at c1 c2 c3
    rw [hC.1.2.2.2.1] at c4
    simp (disch := omega) only [nlit, natrem, nIrm, nIam, nIam',  nI_add, pk_mul, nIsub, nIrem, nIdiv, nIand1, nIand3, nIand7, nIand31, nIshr, nIle, nIlt, nIeq, nIc, vpI, nIm1, m1nI, m1lt, nIlm, m1le, nIlem, nIneg, u2_ss, u2_nn, u2_kk, nIm1n, m1nIn, m1ltn, nIlmn, m1len, nIlemn] at c4
    have e : lin1 ts (i, a, nm, dn, hc, lc) = lnDan ts i a nm dn hc lc := by unfold lin1; dsimp only; rw [if_neg c1, if_neg c2, if_pos c3]
    rw [e] at hf ht
    exact danceLine_ok hPP hW hZ hNo (by omega) c4 (fun v J K a b c => RX5_line_113 ⟨Or.inl rfl, hf v J K a b c⟩) (fun i' a' nm' dn' hc' lc' J K x y z => RX5_line_113 ⟨Or.inr rfl, ht i' a' nm' dn' hc' lc' J K x y z⟩)
  · simp (disch := omega) only [nlit, natrem, nIrm, nIam, nIam',  nI_add, pk_mul, nIsub, nIrem, nIdiv, nIand1, nIand3, nIand7, nIand31, nIshr, nIle, nIlt, nIeq, nIc, vpI, nIm1, m1nI, m1lt, nIlm, m1le, nIlem, nIneg, u2_ss, u2_nn, u2_kk, nIm1n, m1nIn, m1ltn, nIlmn, m1len, nIlemn] at c1 c2 c3
    rw [hC.1.2.2.2.1] at c4
    simp (disch := omega) only [nlit, natrem, nIrm, nIam, nIam',  nI_add, pk_mul, nIsub, nIrem, nIdiv, nIand1, nIand3, nIand7, nIand31, nIshr, nIle, nIlt, nIeq, nIc, vpI, nIm1, m1nI, m1lt, nIlm, m1le, nIlem, nIneg, u2_ss, u2_nn, u2_kk, nIm1n, m1nIn, m1ltn, nIlmn, m1len, nIlemn] at c4
    refine wrongR_ok (k := 5) hB h2 hi (RX5_line_106 (RX5_line_113 ⟨Or.inl rfl, hw 5 (by decide) ?_⟩))
    unfold lin1
    dsimp only
    rw [if_neg c1, if_neg c2, if_pos c3]
    exact if_pos (by omega)
  · simp (disch := omega) only [nlit, natrem, nIrm, nIam, nIam',  nI_add, pk_mul, nIsub, nIrem, nIdiv, nIand1, nIand3, nIand7, nIand31, nIshr, nIle, nIlt, nIeq, nIc, vpI, nIm1, m1nI, m1lt, nIlm, m1le, nIlem, nIneg, u2_ss, u2_nn, u2_kk, nIm1n, m1nIn, m1ltn, nIlmn, m1len, nIlemn] at c1 c2 c3 c4
    rw [hC.1.2.2.2.2.1] at c5
    simp (disch := omega) only [nlit, natrem, nIrm, nIam, nIam',  nI_add, pk_mul, nIsub, nIrem, nIdiv, nIand1, nIand3, nIand7, nIand31, nIshr, nIle, nIlt, nIeq, nIc, vpI, nIm1, m1nI, m1lt, nIlm, m1le, nIlem, nIneg, u2_ss, u2_nn, u2_kk, nIm1n, m1nIn, m1ltn, nIlmn, m1len, nIlemn] at c5
    have e : lin1 ts (i, a, nm, dn, hc, lc) = lnWin ts i a nm dn hc lc := by unfold lin1; dsimp only; rw [if_neg c1, if_neg c2, if_neg c3, if_pos c4]
    rw [e] at hf ht
    exact wineLine_ok hPP hW hZ hNo (by omega) c5 (fun v J K a b c => RX5_line_138 ⟨Or.inl rfl, hf v J K a b c⟩) (fun i' a' nm' dn' hc' lc' J K x y z => RX5_line_138 ⟨Or.inr rfl, ht i' a' nm' dn' hc' lc' J K x y z⟩)
  · simp (disch := omega) only [nlit, natrem, nIrm, nIam, nIam',  nI_add, pk_mul, nIsub, nIrem, nIdiv, nIand1, nIand3, nIand7, nIand31, nIshr, nIle, nIlt, nIeq, nIc, vpI, nIm1, m1nI, m1lt, nIlm, m1le, nIlem, nIneg, u2_ss, u2_nn, u2_kk, nIm1n, m1nIn, m1ltn, nIlmn, m1len, nIlemn] at c1 c2 c3 c4
    rw [hC.1.2.2.2.2.1] at c5
    simp (disch := omega) only [nlit, natrem, nIrm, nIam, nIam',  nI_add, pk_mul, nIsub, nIrem, nIdiv, nIand1, nIand3, nIand7, nIand31, nIshr, nIle, nIlt, nIeq, nIc, vpI, nIm1, m1nI, m1lt, nIlm, m1le, nIlem, nIneg, u2_ss, u2_nn, u2_kk, nIm1n, m1nIn, m1ltn, nIlmn, m1len, nIlemn] at c5
    refine wrongR_ok (k := 5) hB h2 hi (RX5_line_131 (RX5_line_138 ⟨Or.inl rfl, hw 5 (by decide) ?_⟩))
    unfold lin1
    dsimp only
    rw [if_neg c1, if_neg c2, if_neg c3, if_pos c4]
    exact if_pos (by omega)
  · simp (disch := omega) only [nlit, natrem, nIrm, nIam, nIam',  nI_add, pk_mul, nIsub, nIrem, nIdiv, nIand1, nIand3, nIand7, nIand31, nIshr, nIle, nIlt, nIeq, nIc, vpI, nIm1, m1nI, m1lt, nIlm, m1le, nIlem, nIneg, u2_ss, u2_nn, u2_kk, nIm1n, m1nIn, m1ltn, nIlmn, m1len, nIlemn] at c1 c2 c3 c4 c5
    exact hoth c1 c2 c3 c4 (by omega) (by omega)
  · simp (disch := omega) only [nlit, natrem, nIrm, nIam, nIam',  nI_add, pk_mul, nIsub, nIrem, nIdiv, nIand1, nIand3, nIand7, nIand31, nIshr, nIle, nIlt, nIeq, nIc, vpI, nIm1, m1nI, m1lt, nIlm, m1le, nIlem, nIneg, u2_ss, u2_nn, u2_kk, nIm1n, m1nIn, m1ltn, nIlmn, m1len, nIlemn] at c1 c2 c3 c4 c6
    exact hoth c1 c2 c3 c4 (by omega) (by omega)
  · simp (disch := omega) only [nlit, natrem, nIrm, nIam, nIam',  nI_add, pk_mul, nIsub, nIrem, nIdiv, nIand1, nIand3, nIand7, nIand31, nIshr, nIle, nIlt, nIeq, nIc, vpI, nIm1, m1nI, m1lt, nIlm, m1le, nIlem, nIneg, u2_ss, u2_nn, u2_kk, nIm1n, m1nIn, m1ltn, nIlmn, m1len, nIlemn] at c1 c2 c3 c4 c7
    rw [hC.1.2.2.2.2.2] at c8
    simp (disch := omega) only [nlit, natrem, nIrm, nIam, nIam',  nI_add, pk_mul, nIsub, nIrem, nIdiv, nIand1, nIand3, nIand7, nIand31, nIshr, nIle, nIlt, nIeq, nIc, vpI, nIm1, m1nI, m1lt, nIlm, m1le, nIlem, nIneg, u2_ss, u2_nn, u2_kk, nIm1n, m1nIn, m1ltn, nIlmn, m1len, nIlemn] at c8
    have e : lin1 ts (i, a, nm, dn, hc, lc) = lnGue ts i a nm dn hc lc := by unfold lin1; dsimp only; rw [if_neg c1, if_neg c2, if_neg c3, if_neg c4, if_pos c7]
    rw [e] at hf ht
    exact guestLine_ok hPP hW hNo (by omega) c8 (fun v J K a b c => RX5_line_163 ⟨Or.inl rfl, hf v J K a b c⟩) (fun i' a' nm' dn' hc' lc' J K x y z => RX5_line_163 ⟨Or.inr rfl, ht i' a' nm' dn' hc' lc' J K x y z⟩)
  · simp (disch := omega) only [nlit, natrem, nIrm, nIam, nIam',  nI_add, pk_mul, nIsub, nIrem, nIdiv, nIand1, nIand3, nIand7, nIand31, nIshr, nIle, nIlt, nIeq, nIc, vpI, nIm1, m1nI, m1lt, nIlm, m1le, nIlem, nIneg, u2_ss, u2_nn, u2_kk, nIm1n, m1nIn, m1ltn, nIlmn, m1len, nIlemn] at c1 c2 c3 c4 c7
    rw [hC.1.2.2.2.2.2] at c8
    simp (disch := omega) only [nlit, natrem, nIrm, nIam, nIam',  nI_add, pk_mul, nIsub, nIrem, nIdiv, nIand1, nIand3, nIand7, nIand31, nIshr, nIle, nIlt, nIeq, nIc, vpI, nIm1, m1nI, m1lt, nIlm, m1le, nIlem, nIneg, u2_ss, u2_nn, u2_kk, nIm1n, m1nIn, m1ltn, nIlmn, m1len, nIlemn] at c8
    refine wrongR_ok (k := 5) hB h2 hi (RX5_line_156 (RX5_line_163 ⟨Or.inl rfl, hw 5 (by decide) ?_⟩))
    unfold lin1
    dsimp only
    rw [if_neg c1, if_neg c2, if_neg c3, if_neg c4, if_pos c7]
    exact if_pos (by omega)
  · simp (disch := omega) only [nlit, natrem, nIrm, nIam, nIam',  nI_add, pk_mul, nIsub, nIrem, nIdiv, nIand1, nIand3, nIand7, nIand31, nIshr, nIle, nIlt, nIeq, nIc, vpI, nIm1, m1nI, m1lt, nIlm, m1le, nIlem, nIneg, u2_ss, u2_nn, u2_kk, nIm1n, m1nIn, m1ltn, nIlmn, m1len, nIlemn] at c1 c2 c3 c4 c7 c8
    exact hoth c1 c2 c3 c4 (by omega) (by omega)
  · simp (disch := omega) only [nlit, natrem, nIrm, nIam, nIam',  nI_add, pk_mul, nIsub, nIrem, nIdiv, nIand1, nIand3, nIand7, nIand31, nIshr, nIle, nIlt, nIeq, nIc, vpI, nIm1, m1nI, m1lt, nIlm, m1le, nIlem, nIneg, u2_ss, u2_nn, u2_kk, nIm1n, m1nIn, m1ltn, nIlmn, m1len, nIlemn] at c1 c2 c3 c4 c7 c9
    exact hoth c1 c2 c3 c4 (by omega) (by omega)
  · simp (disch := omega) only [nlit, natrem, nIrm, nIam, nIam',  nI_add, pk_mul, nIsub, nIrem, nIdiv, nIand1, nIand3, nIand7, nIand31, nIshr, nIle, nIlt, nIeq, nIc, vpI, nIm1, m1nI, m1lt, nIlm, m1le, nIlem, nIneg, u2_ss, u2_nn, u2_kk, nIm1n, m1nIn, m1ltn, nIlmn, m1len, nIlemn] at c1 c2 c3 c4 c7 c10
    exact hoth c1 c2 c3 c4 (by omega) (by omega)
  · simp (disch := omega) only [nlit, natrem, nIrm, nIam, nIam',  nI_add, pk_mul, nIsub, nIrem, nIdiv, nIand1, nIand3, nIand7, nIand31, nIshr, nIle, nIlt, nIeq, nIc, vpI, nIm1, m1nI, m1lt, nIlm, m1le, nIlem, nIneg, u2_ss, u2_nn, u2_kk, nIm1n, m1nIn, m1ltn, nIlmn, m1len, nIlemn] at c1 c2 c3 c4 c7 c11
    have elc : lc = [] := by
      by_cases e : lc = []
      · exact e
      · rw [h9, if_neg e] at c12; exact absurd c12 (by decide)
    have e : lin1 ts (i, a, nm, dn, hc, lc) = lnLaw ts i a nm dn hc lc := by unfold lin1; dsimp only; rw [if_neg c1, if_neg c2, if_neg c3, if_neg c4, if_neg c7, if_pos c11]
    rw [e] at hf ht
    exact lawLine_ok hPP hW (by omega) elc (fun v J K a b c => RX5_line_183 ⟨Or.inl rfl, hf v J K a b c⟩) (fun i' a' nm' dn' hc' lc' J K x y z => RX5_line_183 ⟨Or.inr rfl, ht i' a' nm' dn' hc' lc' J K x y z⟩)
  · simp (disch := omega) only [nlit, natrem, nIrm, nIam, nIam',  nI_add, pk_mul, nIsub, nIrem, nIdiv, nIand1, nIand3, nIand7, nIand31, nIshr, nIle, nIlt, nIeq, nIc, vpI, nIm1, m1nI, m1lt, nIlm, m1le, nIlem, nIneg, u2_ss, u2_nn, u2_kk, nIm1n, m1nIn, m1ltn, nIlmn, m1len, nIlemn] at c1 c2 c3 c4 c7 c11
    have elc : lc ≠ [] := fun e => by rw [h9, if_pos e] at c12; exact c12 rfl
    refine wrongR_ok (k := 3) hB h2 hi (RX5_line_176 (RX5_line_183 ⟨Or.inl rfl, hw 3 (by decide) ?_⟩))
    unfold lin1
    dsimp only
    rw [if_neg c1, if_neg c2, if_neg c3, if_neg c4, if_neg c7, if_pos c11]
    exact if_pos elc
  · simp (disch := omega) only [nlit, natrem, nIrm, nIam, nIam',  nI_add, pk_mul, nIsub, nIrem, nIdiv, nIand1, nIand3, nIand7, nIand31, nIshr, nIle, nIlt, nIeq, nIc, vpI, nIm1, m1nI, m1lt, nIlm, m1le, nIlem, nIneg, u2_ss, u2_nn, u2_kk, nIm1n, m1nIn, m1ltn, nIlmn, m1len, nIlemn] at c1 c2 c3 c4 c7 c11
    exact hoth c1 c2 c3 c4 c7 c11
