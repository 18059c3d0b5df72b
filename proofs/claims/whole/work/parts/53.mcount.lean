/-! the model's count and mark -/
theorem seen_ok {d : Nat} {sx : Sx} {I : Ints} {L : Lngs} {R : Rfs} {q : Q3} {a : Ce} {lc : List (Nat × Nat)} {lf : Nat → Nat} {gl : Nat → List Nat} {sn : Nat → Nat} (hM : MC a lc lf gl sn I) (h : q (some (.int (nI (cntS sn (a 4).val)))) I L R) : E0 mX12_seen (d + 2) sx [.ref 92] I L R q := by
  obtain ⟨hW, hE, hM, hl, hEv, hS⟩ := hM
  have w4 := hW.2.2.2.2.1
  have hlp : ∀ n w : Nat, n = (a 4).val - w → w ≤ (a 4).val → Y mX12_seen (d + 2) sx 4 [(0, .ref 92), (1, .int (nI (cntS sn w))), (2, .int (nI w))] [] I L R q := by
    intro n
    induction n with
    | zero =>
      intro w hn hw
      have e : w = (a 4).val := by omega
      refine RX12_seen_4 (guests_ok hM ?_)
      refine RX12_seen_9  ⟨fun c1 => ?_, fun c1 => ⟨?_, ⟨fun c2 => ?_, fun c2 => ?_⟩⟩⟩
      · (try simp (disch := omega) only [nlit, natrem, nIrm, nIam, nIam',  nI_add, pk_mul, nIsub, nIrem, nIdiv, nIand1, nIand3, nIand7, nIand31, nIshr, nIle, nIlt, nIeq, nIc, vpI, nIm1, m1nI, m1lt, nIlm, m1le, nIlem, nIneg, u2_ss, u2_nn, u2_kk, nIm1n, m1nIn, m1ltn, nIlmn, m1len, nIlemn] at c1); (try simp (disch := omega) only [nlit, natrem, nIrm, nIam, nIam',  nI_add, pk_mul, nIsub, nIrem, nIdiv, nIand1, nIand3, nIand7, nIand31, nIshr, nIle, nIlt, nIeq, nIc, vpI, nIm1, m1nI, m1lt, nIlm, m1le, nIlem, nIneg, u2_ss, u2_nn, u2_kk, nIm1n, m1nIn, m1ltn, nIlmn, m1len, nIlemn])
        rw [e]
        exact h
      · (try simp (disch := omega) only [nlit, natrem, nIrm, nIam, nIam',  nI_add, pk_mul, nIsub, nIrem, nIdiv, nIand1, nIand3, nIand7, nIand31, nIshr, nIle, nIlt, nIeq, nIc, vpI, nIm1, m1nI, m1lt, nIlm, m1le, nIlem, nIneg, u2_ss, u2_nn, u2_kk, nIm1n, m1nIn, m1ltn, nIlmn, m1len, nIlemn] at c1) <;> (try simp (disch := omega) only [nlit, natrem, nIrm, nIam, nIam',  nI_add, pk_mul, nIsub, nIrem, nIdiv, nIand1, nIand3, nIand7, nIand31, nIshr, nIle, nIlt, nIeq, nIc, vpI, nIm1, m1nI, m1lt, nIlm, m1le, nIlem, nIneg, u2_ss, u2_nn, u2_kk, nIm1n, m1nIn, m1ltn, nIlmn, m1len, nIlemn]) <;> (first | omega | trivial)
      · (try simp (disch := omega) only [nlit, natrem, nIrm, nIam, nIam',  nI_add, pk_mul, nIsub, nIrem, nIdiv, nIand1, nIand3, nIand7, nIand31, nIshr, nIle, nIlt, nIeq, nIc, vpI, nIm1, m1nI, m1lt, nIlm, m1le, nIlem, nIneg, u2_ss, u2_nn, u2_kk, nIm1n, m1nIn, m1ltn, nIlmn, m1len, nIlemn] at c1 c2) <;> (first | omega | exact absurd rfl c1 | exact absurd trivial c1 | exact absurd rfl c2 | exact absurd trivial c2)
      · (try simp (disch := omega) only [nlit, natrem, nIrm, nIam, nIam',  nI_add, pk_mul, nIsub, nIrem, nIdiv, nIand1, nIand3, nIand7, nIand31, nIshr, nIle, nIlt, nIeq, nIc, vpI, nIm1, m1nI, m1lt, nIlm, m1le, nIlem, nIneg, u2_ss, u2_nn, u2_kk, nIm1n, m1nIn, m1ltn, nIlmn, m1len, nIlemn] at c1 c2) <;> (first | omega | exact absurd rfl c1 | exact absurd trivial c1 | exact absurd rfl c2 | exact absurd trivial c2)
    | succ n ih =>
      intro w hn hw
      have e4 : I 106 (48 + w) = snV (sn w) := by have := hS w (by omega); rw [Nat.zero_add] at this; exact this
      have := cntS_le sn w
      have := hE.2.2.1 w (by omega)
      have hi := ih (w + 1) (by omega) (by omega)
      refine RX12_seen_4 (guests_ok hM ?_)
      by_cases h0 : sn w = 0
      · have e5 : I 106 (48 + w) = -nI 1 := by rw [e4, snV_0 h0]; rfl
        have e6 : (-nI 1 < nI 0) = True := eq_true (by decide)
        rw [show cntS sn (w + 1) = cntS sn w by show _ + (if _ then 0 else 1) = _; rw [if_pos h0]; rfl] at hi
        refine RX12_seen_9  ⟨fun c1 => ?_, fun c1 => ⟨?_, ⟨fun c2 => ?_, fun c2 => ?_⟩⟩⟩
        · (try simp (disch := omega) only [nlit, natrem, nIrm, nIam, nIam',  nI_add, pk_mul, nIsub, nIrem, nIdiv, nIand1, nIand3, nIand7, nIand31, nIshr, nIle, nIlt, nIeq, nIc, vpI, nIm1, m1nI, m1lt, nIlm, m1le, nIlem, nIneg, u2_ss, u2_nn, u2_kk, nIm1n, m1nIn, m1ltn, nIlmn, m1len, nIlemn, e5, e6, Nat.add_zero] at c1); (try simp (disch := omega) only [nlit, natrem, nIrm, nIam, nIam',  nI_add, pk_mul, nIsub, nIrem, nIdiv, nIand1, nIand3, nIand7, nIand31, nIshr, nIle, nIlt, nIeq, nIc, vpI, nIm1, m1nI, m1lt, nIlm, m1le, nIlem, nIneg, u2_ss, u2_nn, u2_kk, nIm1n, m1nIn, m1ltn, nIlmn, m1len, nIlemn, e5, e6, Nat.add_zero])
          omega
        · (try simp (disch := omega) only [nlit, natrem, nIrm, nIam, nIam',  nI_add, pk_mul, nIsub, nIrem, nIdiv, nIand1, nIand3, nIand7, nIand31, nIshr, nIle, nIlt, nIeq, nIc, vpI, nIm1, m1nI, m1lt, nIlm, m1le, nIlem, nIneg, u2_ss, u2_nn, u2_kk, nIm1n, m1nIn, m1ltn, nIlmn, m1len, nIlemn, e5, e6, Nat.add_zero] at c1) <;> (try simp (disch := omega) only [nlit, natrem, nIrm, nIam, nIam',  nI_add, pk_mul, nIsub, nIrem, nIdiv, nIand1, nIand3, nIand7, nIand31, nIshr, nIle, nIlt, nIeq, nIc, vpI, nIm1, m1nI, m1lt, nIlm, m1le, nIlem, nIneg, u2_ss, u2_nn, u2_kk, nIm1n, m1nIn, m1ltn, nIlmn, m1len, nIlemn, e5, e6, Nat.add_zero]) <;> (first | omega | trivial)
        · (try simp (disch := omega) only [nlit, natrem, nIrm, nIam, nIam',  nI_add, pk_mul, nIsub, nIrem, nIdiv, nIand1, nIand3, nIand7, nIand31, nIshr, nIle, nIlt, nIeq, nIc, vpI, nIm1, m1nI, m1lt, nIlm, m1le, nIlem, nIneg, u2_ss, u2_nn, u2_kk, nIm1n, m1nIn, m1ltn, nIlmn, m1len, nIlemn, e5, e6, Nat.add_zero] at c1 c2); (try simp (disch := omega) only [nlit, natrem, nIrm, nIam, nIam',  nI_add, pk_mul, nIsub, nIrem, nIdiv, nIand1, nIand3, nIand7, nIand31, nIshr, nIle, nIlt, nIeq, nIc, vpI, nIm1, m1nI, m1lt, nIlm, m1le, nIlem, nIneg, u2_ss, u2_nn, u2_kk, nIm1n, m1nIn, m1ltn, nIlmn, m1len, nIlemn, e5, e6, Nat.add_zero])
          exact hi
        · (try simp (disch := omega) only [nlit, natrem, nIrm, nIam, nIam',  nI_add, pk_mul, nIsub, nIrem, nIdiv, nIand1, nIand3, nIand7, nIand31, nIshr, nIle, nIlt, nIeq, nIc, vpI, nIm1, m1nI, m1lt, nIlm, m1le, nIlem, nIneg, u2_ss, u2_nn, u2_kk, nIm1n, m1nIn, m1ltn, nIlmn, m1len, nIlemn, e5, e6, Nat.add_zero] at c1 c2) <;> (first | omega | exact absurd rfl c1 | exact absurd trivial c1 | exact absurd rfl c2 | exact absurd trivial c2)
      · rw [snV_1 h0] at e4
        rw [show cntS sn (w + 1) = cntS sn w + 1 by show _ + (if _ then 0 else 1) = _; rw [if_neg h0]] at hi
        refine RX12_seen_9  ⟨fun c1 => ?_, fun c1 => ⟨?_, ⟨fun c2 => ?_, fun c2 => ?_⟩⟩⟩
        · (try simp (disch := omega) only [nlit, natrem, nIrm, nIam, nIam',  nI_add, pk_mul, nIsub, nIrem, nIdiv, nIand1, nIand3, nIand7, nIand31, nIshr, nIle, nIlt, nIeq, nIc, vpI, nIm1, m1nI, m1lt, nIlm, m1le, nIlem, nIneg, u2_ss, u2_nn, u2_kk, nIm1n, m1nIn, m1ltn, nIlmn, m1len, nIlemn, e4] at c1); (try simp (disch := omega) only [nlit, natrem, nIrm, nIam, nIam',  nI_add, pk_mul, nIsub, nIrem, nIdiv, nIand1, nIand3, nIand7, nIand31, nIshr, nIle, nIlt, nIeq, nIc, vpI, nIm1, m1nI, m1lt, nIlm, m1le, nIlem, nIneg, u2_ss, u2_nn, u2_kk, nIm1n, m1nIn, m1ltn, nIlmn, m1len, nIlemn, e4])
          omega
        · (try simp (disch := omega) only [nlit, natrem, nIrm, nIam, nIam',  nI_add, pk_mul, nIsub, nIrem, nIdiv, nIand1, nIand3, nIand7, nIand31, nIshr, nIle, nIlt, nIeq, nIc, vpI, nIm1, m1nI, m1lt, nIlm, m1le, nIlem, nIneg, u2_ss, u2_nn, u2_kk, nIm1n, m1nIn, m1ltn, nIlmn, m1len, nIlemn, e4] at c1) <;> (try simp (disch := omega) only [nlit, natrem, nIrm, nIam, nIam',  nI_add, pk_mul, nIsub, nIrem, nIdiv, nIand1, nIand3, nIand7, nIand31, nIshr, nIle, nIlt, nIeq, nIc, vpI, nIm1, m1nI, m1lt, nIlm, m1le, nIlem, nIneg, u2_ss, u2_nn, u2_kk, nIm1n, m1nIn, m1ltn, nIlmn, m1len, nIlemn, e4]) <;> (first | omega | trivial)
        · (try simp (disch := omega) only [nlit, natrem, nIrm, nIam, nIam',  nI_add, pk_mul, nIsub, nIrem, nIdiv, nIand1, nIand3, nIand7, nIand31, nIshr, nIle, nIlt, nIeq, nIc, vpI, nIm1, m1nI, m1lt, nIlm, m1le, nIlem, nIneg, u2_ss, u2_nn, u2_kk, nIm1n, m1nIn, m1ltn, nIlmn, m1len, nIlemn, e4] at c1 c2); (try simp (disch := omega) only [nlit, natrem, nIrm, nIam, nIam',  nI_add, pk_mul, nIsub, nIrem, nIdiv, nIand1, nIand3, nIand7, nIand31, nIshr, nIle, nIlt, nIeq, nIc, vpI, nIm1, m1nI, m1lt, nIlm, m1le, nIlem, nIneg, u2_ss, u2_nn, u2_kk, nIm1n, m1nIn, m1ltn, nIlmn, m1len, nIlemn, e4])
          omega
        · (try simp (disch := omega) only [nlit, natrem, nIrm, nIam, nIam',  nI_add, pk_mul, nIsub, nIrem, nIdiv, nIand1, nIand3, nIand7, nIand31, nIshr, nIle, nIlt, nIeq, nIc, vpI, nIm1, m1nI, m1lt, nIlm, m1le, nIlem, nIneg, u2_ss, u2_nn, u2_kk, nIm1n, m1nIn, m1ltn, nIlmn, m1len, nIlemn, e4] at c1 c2); (try simp (disch := omega) only [nlit, natrem, nIrm, nIam, nIam',  nI_add, pk_mul, nIsub, nIrem, nIdiv, nIand1, nIand3, nIand7, nIand31, nIshr, nIle, nIlt, nIeq, nIc, vpI, nIm1, m1nI, m1lt, nIlm, m1le, nIlem, nIneg, u2_ss, u2_nn, u2_kk, nIm1n, m1nIn, m1ltn, nIlmn, m1len, nIlemn, e4])
          exact hi
  exact EX12_seen (hlp _ 0 rfl (Nat.zero_le _))
theorem m_count {d : Nat} {sx : Sx} {I : Ints} {L : Lngs} {R : Rfs} {q : Q3} {a : Ce} {lc : List (Nat × Nat)} {lf : Nat → Nat} {gl : Nat → List Nat} {sn : Nat → Nat} {un tn : Nat} (hM : MC a lc lf gl sn I) (hu : I 92 22 = nI un) (ht : I 92 2 = nI tn) {x : Int32} (h : ∀ J, Fr AQ FQ I J → q (some (.int (spCount a lf sn un tn x))) J L R) : E0 mX12_count (d + 3) sx [.ref 92, .int x] I L R q := by
  have h := h _ (fq0 (v := nI 0))
  have hMJ := hM.fr (fq0 (v := nI 0))
  obtain ⟨hW, hE, hM0, _, _, _⟩ := hM
  have e0 := hM0 0 (by decide) (by decide)
  have e1 := hM0 1 (by decide) (by decide)
  have e2 := hM0 2 (by decide) (by decide)
  have e5 := hM0 5 (by decide) (by decide)
  have w4 := hW.2.2.2.2.1
  have w3 := hW.2.2.2.1
  by_cases hx : inR x 10
  · obtain ⟨m, hm, e⟩ := inR_of (by decide) hx.1 hx.2
    subst e
    have e : spCount a lf sn un tn (nI m) = nI (cq a lf sn un tn m) := by unfold spCount; rw [if_pos hx, nIc (by omega)]
    rw [e] at h
    refine EX12_count  ⟨fun c1 => ?_, fun c1 => ⟨fun c2 => ?_, fun c2 => ⟨fun c3 => ?_, fun c3 => ⟨fun c4 => ?_, fun c4 => ⟨fun c5 => ?_, fun c5 => ⟨fun c6 => ?_, fun c6 => ⟨fun c7 => ?_, fun c7 => ⟨fun c8 => ?_, fun c8 => ⟨fun c9 => ?_, fun c9 => ⟨fun c10 => ?_, fun c10 => ?_⟩⟩⟩⟩⟩⟩⟩⟩⟩⟩
    · (try simp (disch := omega) only [nlit, natrem, nIrm, nIam, nIam',  nI_add, pk_mul, nIsub, nIrem, nIdiv, nIand1, nIand3, nIand7, nIand31, nIshr, nIle, nIlt, nIeq, nIc, vpI, nIm1, m1nI, m1lt, nIlm, m1le, nIlem, nIneg, u2_ss, u2_nn, u2_kk, nIm1n, m1nIn, m1ltn, nIlmn, m1len, nIlemn, e0, e1, e2, e5, hu, ht] at c1); (try simp (disch := omega) only [nlit, natrem, nIrm, nIam, nIam',  nI_add, pk_mul, nIsub, nIrem, nIdiv, nIand1, nIand3, nIand7, nIand31, nIshr, nIle, nIlt, nIeq, nIc, vpI, nIm1, m1nI, m1lt, nIlm, m1le, nIlem, nIneg, u2_ss, u2_nn, u2_kk, nIm1n, m1nIn, m1ltn, nIlmn, m1len, nIlemn, e0, e1, e2, e5, hu, ht])
      unfold cq at h
      repeat (first | rw [if_pos (by omega)] at h | rw [if_neg (by omega)] at h)
      exact h
    · (try simp (disch := omega) only [nlit, natrem, nIrm, nIam, nIam',  nI_add, pk_mul, nIsub, nIrem, nIdiv, nIand1, nIand3, nIand7, nIand31, nIshr, nIle, nIlt, nIeq, nIc, vpI, nIm1, m1nI, m1lt, nIlm, m1le, nIlem, nIneg, u2_ss, u2_nn, u2_kk, nIm1n, m1nIn, m1ltn, nIlmn, m1len, nIlemn, e0, e1, e2, e5, hu, ht] at c1 c2); (try simp (disch := omega) only [nlit, natrem, nIrm, nIam, nIam',  nI_add, pk_mul, nIsub, nIrem, nIdiv, nIand1, nIand3, nIand7, nIand31, nIshr, nIle, nIlt, nIeq, nIc, vpI, nIm1, m1nI, m1lt, nIlm, m1le, nIlem, nIneg, u2_ss, u2_nn, u2_kk, nIm1n, m1nIn, m1ltn, nIlmn, m1len, nIlemn, e0, e1, e2, e5, hu, ht])
      unfold cq at h
      repeat (first | rw [if_pos (by omega)] at h | rw [if_neg (by omega)] at h)
      exact h
    · (try simp (disch := omega) only [nlit, natrem, nIrm, nIam, nIam',  nI_add, pk_mul, nIsub, nIrem, nIdiv, nIand1, nIand3, nIand7, nIand31, nIshr, nIle, nIlt, nIeq, nIc, vpI, nIm1, m1nI, m1lt, nIlm, m1le, nIlem, nIneg, u2_ss, u2_nn, u2_kk, nIm1n, m1nIn, m1ltn, nIlmn, m1len, nIlemn, e0, e1, e2, e5, hu, ht] at c1 c2 c3); (try simp (disch := omega) only [nlit, natrem, nIrm, nIam, nIam',  nI_add, pk_mul, nIsub, nIrem, nIdiv, nIand1, nIand3, nIand7, nIand31, nIshr, nIle, nIlt, nIeq, nIc, vpI, nIm1, m1nI, m1lt, nIlm, m1le, nIlem, nIneg, u2_ss, u2_nn, u2_kk, nIm1n, m1nIn, m1ltn, nIlmn, m1len, nIlemn, e0, e1, e2, e5, hu, ht])
      unfold cq at h
      repeat (first | rw [if_pos (by omega)] at h | rw [if_neg (by omega)] at h)
      exact h
    · (try simp (disch := omega) only [nlit, natrem, nIrm, nIam, nIam',  nI_add, pk_mul, nIsub, nIrem, nIdiv, nIand1, nIand3, nIand7, nIand31, nIshr, nIle, nIlt, nIeq, nIc, vpI, nIm1, m1nI, m1lt, nIlm, m1le, nIlem, nIneg, u2_ss, u2_nn, u2_kk, nIm1n, m1nIn, m1ltn, nIlmn, m1len, nIlemn, e0, e1, e2, e5, hu, ht] at c1 c2 c3 c4); (try simp (disch := omega) only [nlit, natrem, nIrm, nIam, nIam',  nI_add, pk_mul, nIsub, nIrem, nIdiv, nIand1, nIand3, nIand7, nIand31, nIshr, nIle, nIlt, nIeq, nIc, vpI, nIm1, m1nI, m1lt, nIlm, m1le, nIlem, nIneg, u2_ss, u2_nn, u2_kk, nIm1n, m1nIn, m1ltn, nIlmn, m1len, nIlemn, e0, e1, e2, e5, hu, ht])
      unfold cq at h
      repeat (first | rw [if_pos (by omega)] at h | rw [if_neg (by omega)] at h)
      exact wines_ok hMJ.2.2.1 (RX12_count_89 h)
    · (try simp (disch := omega) only [nlit, natrem, nIrm, nIam, nIam',  nI_add, pk_mul, nIsub, nIrem, nIdiv, nIand1, nIand3, nIand7, nIand31, nIshr, nIle, nIlt, nIeq, nIc, vpI, nIm1, m1nI, m1lt, nIlm, m1le, nIlem, nIneg, u2_ss, u2_nn, u2_kk, nIm1n, m1nIn, m1ltn, nIlmn, m1len, nIlemn, e0, e1, e2, e5, hu, ht] at c1 c2 c3 c4 c5); (try simp (disch := omega) only [nlit, natrem, nIrm, nIam, nIam',  nI_add, pk_mul, nIsub, nIrem, nIdiv, nIand1, nIand3, nIand7, nIand31, nIshr, nIle, nIlt, nIeq, nIc, vpI, nIm1, m1nI, m1lt, nIlm, m1le, nIlem, nIneg, u2_ss, u2_nn, u2_kk, nIm1n, m1nIn, m1ltn, nIlmn, m1len, nIlemn, e0, e1, e2, e5, hu, ht])
      unfold cq at h
      repeat (first | rw [if_pos (by omega)] at h | rw [if_neg (by omega)] at h)
      exact guests_ok hMJ.2.2.1 (RX12_count_94 h)
    · (try simp (disch := omega) only [nlit, natrem, nIrm, nIam, nIam',  nI_add, pk_mul, nIsub, nIrem, nIdiv, nIand1, nIand3, nIand7, nIand31, nIshr, nIle, nIlt, nIeq, nIc, vpI, nIm1, m1nI, m1lt, nIlm, m1le, nIlem, nIneg, u2_ss, u2_nn, u2_kk, nIm1n, m1nIn, m1ltn, nIlmn, m1len, nIlemn, e0, e1, e2, e5, hu, ht] at c1 c2 c3 c4 c5 c6); (try simp (disch := omega) only [nlit, natrem, nIrm, nIam, nIam',  nI_add, pk_mul, nIsub, nIrem, nIdiv, nIand1, nIand3, nIand7, nIand31, nIshr, nIle, nIlt, nIeq, nIc, vpI, nIm1, m1nI, m1lt, nIlm, m1le, nIlem, nIneg, u2_ss, u2_nn, u2_kk, nIm1n, m1nIn, m1ltn, nIlmn, m1len, nIlemn, e0, e1, e2, e5, hu, ht])
      unfold cq at h
      repeat (first | rw [if_pos (by omega)] at h | rw [if_neg (by omega)] at h)
      have hM1 := hMJ.2.2.1
      have hE1 := hMJ.2.2.2.2.1
      generalize u2 I 92 0 (nI 0) = I at *
      have hlp : ∀ n w : Nat, n = (a 3).val - w → w ≤ (a 3).val → Y mX12_count (d + 3) sx 97 [(0, .ref 92), (2, .int (nI (sumL lf w))), (3, .int (nI w))] [] I L R q := by
        intro n
        induction n with
        | zero =>
          intro w hn hw
          have e : w = (a 3).val := by omega
          refine RX12_count_97 (wines_ok hM1 ?_)
          refine RX12_count_102  ⟨fun c1 => ?_, fun c1 => ⟨?_, ?_⟩⟩
          · (try simp (disch := omega) only [nlit, natrem, nIrm, nIam, nIam',  nI_add, pk_mul, nIsub, nIrem, nIdiv, nIand1, nIand3, nIand7, nIand31, nIshr, nIle, nIlt, nIeq, nIc, vpI, nIm1, m1nI, m1lt, nIlm, m1le, nIlem, nIneg, u2_ss, u2_nn, u2_kk, nIm1n, m1nIn, m1ltn, nIlmn, m1len, nIlemn] at c1); (try simp (disch := omega) only [nlit, natrem, nIrm, nIam, nIam',  nI_add, pk_mul, nIsub, nIrem, nIdiv, nIand1, nIand3, nIand7, nIand31, nIshr, nIle, nIlt, nIeq, nIc, vpI, nIm1, m1nI, m1lt, nIlm, m1le, nIlem, nIneg, u2_ss, u2_nn, u2_kk, nIm1n, m1nIn, m1ltn, nIlmn, m1len, nIlemn])
            have e9 := sumL_cut (lf := lf) (k := (a 3).val) (fun w hw h3 => hE.2.2.2.1 w hw h3) (6 - (a 3).val) (by omega)
            rw [show (a 3).val + (6 - (a 3).val) = 6 by omega] at e9
            rw [e9] at h
            rw [e]
            exact h
          · (try simp (disch := omega) only [nlit, natrem, nIrm, nIam, nIam',  nI_add, pk_mul, nIsub, nIrem, nIdiv, nIand1, nIand3, nIand7, nIand31, nIshr, nIle, nIlt, nIeq, nIc, vpI, nIm1, m1nI, m1lt, nIlm, m1le, nIlem, nIneg, u2_ss, u2_nn, u2_kk, nIm1n, m1nIn, m1ltn, nIlmn, m1len, nIlemn] at c1) <;> (try simp (disch := omega) only [nlit, natrem, nIrm, nIam, nIam',  nI_add, pk_mul, nIsub, nIrem, nIdiv, nIand1, nIand3, nIand7, nIand31, nIshr, nIle, nIlt, nIeq, nIc, vpI, nIm1, m1nI, m1lt, nIlm, m1le, nIlem, nIneg, u2_ss, u2_nn, u2_kk, nIm1n, m1nIn, m1ltn, nIlmn, m1len, nIlemn]) <;> (first | omega | trivial)
          · (try simp (disch := omega) only [nlit, natrem, nIrm, nIam, nIam',  nI_add, pk_mul, nIsub, nIrem, nIdiv, nIand1, nIand3, nIand7, nIand31, nIshr, nIle, nIlt, nIeq, nIc, vpI, nIm1, m1nI, m1lt, nIlm, m1le, nIlem, nIneg, u2_ss, u2_nn, u2_kk, nIm1n, m1nIn, m1ltn, nIlmn, m1len, nIlemn] at c1) <;> (first | omega | exact absurd rfl c1 | exact absurd trivial c1)
        | succ n ih =>
          intro w hn hw
          have e4 := hE1.lef (w := w) (by omega)
          have := sumL_le hE.1 w (by omega)
          have := hE.1 w (by omega)
          refine RX12_count_97 (wines_ok hM1 ?_)
          refine RX12_count_102  ⟨fun c1 => ?_, fun c1 => ⟨?_, ?_⟩⟩
          · (try simp (disch := omega) only [nlit, natrem, nIrm, nIam, nIam',  nI_add, pk_mul, nIsub, nIrem, nIdiv, nIand1, nIand3, nIand7, nIand31, nIshr, nIle, nIlt, nIeq, nIc, vpI, nIm1, m1nI, m1lt, nIlm, m1le, nIlem, nIneg, u2_ss, u2_nn, u2_kk, nIm1n, m1nIn, m1ltn, nIlmn, m1len, nIlemn, e4] at c1); (try simp (disch := omega) only [nlit, natrem, nIrm, nIam, nIam',  nI_add, pk_mul, nIsub, nIrem, nIdiv, nIand1, nIand3, nIand7, nIand31, nIshr, nIle, nIlt, nIeq, nIc, vpI, nIm1, m1nI, m1lt, nIlm, m1le, nIlem, nIneg, u2_ss, u2_nn, u2_kk, nIm1n, m1nIn, m1ltn, nIlmn, m1len, nIlemn, e4])
            omega
          · (try simp (disch := omega) only [nlit, natrem, nIrm, nIam, nIam',  nI_add, pk_mul, nIsub, nIrem, nIdiv, nIand1, nIand3, nIand7, nIand31, nIshr, nIle, nIlt, nIeq, nIc, vpI, nIm1, m1nI, m1lt, nIlm, m1le, nIlem, nIneg, u2_ss, u2_nn, u2_kk, nIm1n, m1nIn, m1ltn, nIlmn, m1len, nIlemn, e4] at c1) <;> (try simp (disch := omega) only [nlit, natrem, nIrm, nIam, nIam',  nI_add, pk_mul, nIsub, nIrem, nIdiv, nIand1, nIand3, nIand7, nIand31, nIshr, nIle, nIlt, nIeq, nIc, vpI, nIm1, m1nI, m1lt, nIlm, m1le, nIlem, nIneg, u2_ss, u2_nn, u2_kk, nIm1n, m1nIn, m1ltn, nIlmn, m1len, nIlemn, e4]) <;> (first | omega | trivial)
          · (try simp (disch := omega) only [nlit, natrem, nIrm, nIam, nIam',  nI_add, pk_mul, nIsub, nIrem, nIdiv, nIand1, nIand3, nIand7, nIand31, nIshr, nIle, nIlt, nIeq, nIc, vpI, nIm1, m1nI, m1lt, nIlm, m1le, nIlem, nIneg, u2_ss, u2_nn, u2_kk, nIm1n, m1nIn, m1ltn, nIlmn, m1len, nIlemn, e4] at c1); (try simp (disch := omega) only [nlit, natrem, nIrm, nIam, nIam',  nI_add, pk_mul, nIsub, nIrem, nIdiv, nIand1, nIand3, nIand7, nIand31, nIshr, nIle, nIlt, nIeq, nIc, vpI, nIm1, m1nI, m1lt, nIlm, m1le, nIlem, nIneg, u2_ss, u2_nn, u2_kk, nIm1n, m1nIn, m1ltn, nIlmn, m1len, nIlemn, e4])
            exact ih (w + 1) (by omega) (by omega)
      exact hlp _ 0 rfl (Nat.zero_le _)
    · (try simp (disch := omega) only [nlit, natrem, nIrm, nIam, nIam',  nI_add, pk_mul, nIsub, nIrem, nIdiv, nIand1, nIand3, nIand7, nIand31, nIshr, nIle, nIlt, nIeq, nIc, vpI, nIm1, m1nI, m1lt, nIlm, m1le, nIlem, nIneg, u2_ss, u2_nn, u2_kk, nIm1n, m1nIn, m1ltn, nIlmn, m1len, nIlemn, e0, e1, e2, e5, hu, ht] at c1 c2 c3 c4 c5 c6 c7); (try simp (disch := omega) only [nlit, natrem, nIrm, nIam, nIam',  nI_add, pk_mul, nIsub, nIrem, nIdiv, nIand1, nIand3, nIand7, nIand31, nIshr, nIle, nIlt, nIeq, nIc, vpI, nIm1, m1nI, m1lt, nIlm, m1le, nIlem, nIneg, u2_ss, u2_nn, u2_kk, nIm1n, m1nIn, m1ltn, nIlmn, m1len, nIlemn, e0, e1, e2, e5, hu, ht])
      unfold cq at h
      repeat (first | rw [if_pos (by omega)] at h | rw [if_neg (by omega)] at h)
      have e9 := cntS_cut (sn := sn) (k := (a 4).val) (fun w hw h3 => (hE.2.2.2.2 w hw h3).1) (6 - (a 4).val) (by omega)
      rw [show (a 4).val + (6 - (a 4).val) = 6 by omega] at e9
      rw [e9] at h
      exact seen_ok hMJ (RX12_count_126 h)
    · (try simp (disch := omega) only [nlit, natrem, nIrm, nIam, nIam',  nI_add, pk_mul, nIsub, nIrem, nIdiv, nIand1, nIand3, nIand7, nIand31, nIshr, nIle, nIlt, nIeq, nIc, vpI, nIm1, m1nI, m1lt, nIlm, m1le, nIlem, nIneg, u2_ss, u2_nn, u2_kk, nIm1n, m1nIn, m1ltn, nIlmn, m1len, nIlemn, e0, e1, e2, e5, hu, ht] at c1 c2 c3 c4 c5 c6 c7 c8); (try simp (disch := omega) only [nlit, natrem, nIrm, nIam, nIam',  nI_add, pk_mul, nIsub, nIrem, nIdiv, nIand1, nIand3, nIand7, nIand31, nIshr, nIle, nIlt, nIeq, nIc, vpI, nIm1, m1nI, m1lt, nIlm, m1le, nIlem, nIneg, u2_ss, u2_nn, u2_kk, nIm1n, m1nIn, m1ltn, nIlmn, m1len, nIlemn, e0, e1, e2, e5, hu, ht])
      unfold cq at h
      repeat (first | rw [if_pos (by omega)] at h | rw [if_neg (by omega)] at h)
      exact h
    · (try simp (disch := omega) only [nlit, natrem, nIrm, nIam, nIam',  nI_add, pk_mul, nIsub, nIrem, nIdiv, nIand1, nIand3, nIand7, nIand31, nIshr, nIle, nIlt, nIeq, nIc, vpI, nIm1, m1nI, m1lt, nIlm, m1le, nIlem, nIneg, u2_ss, u2_nn, u2_kk, nIm1n, m1nIn, m1ltn, nIlmn, m1len, nIlemn, e0, e1, e2, e5, hu, ht] at c1 c2 c3 c4 c5 c6 c7 c8 c9); (try simp (disch := omega) only [nlit, natrem, nIrm, nIam, nIam',  nI_add, pk_mul, nIsub, nIrem, nIdiv, nIand1, nIand3, nIand7, nIand31, nIshr, nIle, nIlt, nIeq, nIc, vpI, nIm1, m1nI, m1lt, nIlm, m1le, nIlem, nIneg, u2_ss, u2_nn, u2_kk, nIm1n, m1nIn, m1ltn, nIlmn, m1len, nIlemn, e0, e1, e2, e5, hu, ht])
      unfold cq at h
      repeat (first | rw [if_pos (by omega)] at h | rw [if_neg (by omega)] at h)
      exact h
    · (try simp (disch := omega) only [nlit, natrem, nIrm, nIam, nIam',  nI_add, pk_mul, nIsub, nIrem, nIdiv, nIand1, nIand3, nIand7, nIand31, nIshr, nIle, nIlt, nIeq, nIc, vpI, nIm1, m1nI, m1lt, nIlm, m1le, nIlem, nIneg, u2_ss, u2_nn, u2_kk, nIm1n, m1nIn, m1ltn, nIlmn, m1len, nIlemn, e0, e1, e2, e5, hu, ht] at c1 c2 c3 c4 c5 c6 c7 c8 c9 c10); (try simp (disch := omega) only [nlit, natrem, nIrm, nIam, nIam',  nI_add, pk_mul, nIsub, nIrem, nIdiv, nIand1, nIand3, nIand7, nIand31, nIshr, nIle, nIlt, nIeq, nIc, vpI, nIm1, m1nI, m1lt, nIlm, m1le, nIlem, nIneg, u2_ss, u2_nn, u2_kk, nIm1n, m1nIn, m1ltn, nIlmn, m1len, nIlemn, e0, e1, e2, e5, hu, ht])
      unfold cq at h
      repeat (first | rw [if_pos (by omega)] at h | rw [if_neg (by omega)] at h)
      exact h
    · (try simp (disch := omega) only [nlit, natrem, nIrm, nIam, nIam',  nI_add, pk_mul, nIsub, nIrem, nIdiv, nIand1, nIand3, nIand7, nIand31, nIshr, nIle, nIlt, nIeq, nIc, vpI, nIm1, m1nI, m1lt, nIlm, m1le, nIlem, nIneg, u2_ss, u2_nn, u2_kk, nIm1n, m1nIn, m1ltn, nIlmn, m1len, nIlemn, e0, e1, e2, e5, hu, ht] at c1 c2 c3 c4 c5 c6 c7 c8 c9 c10) <;> (first | omega | exact absurd rfl c1 | exact absurd trivial c1 | exact absurd rfl c2 | exact absurd trivial c2 | exact absurd rfl c3 | exact absurd trivial c3 | exact absurd rfl c4 | exact absurd trivial c4 | exact absurd rfl c5 | exact absurd trivial c5 | exact absurd rfl c6 | exact absurd trivial c6 | exact absurd rfl c7 | exact absurd trivial c7 | exact absurd rfl c8 | exact absurd trivial c8 | exact absurd rfl c9 | exact absurd trivial c9 | exact absurd rfl c10 | exact absurd trivial c10)
  · have e : spCount a lf sn un tn x = -1 := by unfold spCount; rw [if_neg hx]
    rw [e] at h
    have n0 := notIn (by decide) hx 0 (by decide)
    have n1 := notIn (by decide) hx 1 (by decide)
    have n2 := notIn (by decide) hx 2 (by decide)
    have n3 := notIn (by decide) hx 3 (by decide)
    have n4 := notIn (by decide) hx 4 (by decide)
    have n5 := notIn (by decide) hx 5 (by decide)
    have n6 := notIn (by decide) hx 6 (by decide)
    have n7 := notIn (by decide) hx 7 (by decide)
    have n8 := notIn (by decide) hx 8 (by decide)
    have n9 := notIn (by decide) hx 9 (by decide)
    refine EX12_count  ⟨fun c1 => ?_, fun c1 => ⟨fun c2 => ?_, fun c2 => ⟨fun c3 => ?_, fun c3 => ⟨fun c4 => ?_, fun c4 => ⟨fun c5 => ?_, fun c5 => ⟨fun c6 => ?_, fun c6 => ⟨fun c7 => ?_, fun c7 => ⟨fun c8 => ?_, fun c8 => ⟨fun c9 => ?_, fun c9 => ⟨fun c10 => ?_, fun c10 => ?_⟩⟩⟩⟩⟩⟩⟩⟩⟩⟩
    · (try simp (disch := omega) only [nlit, natrem, nIrm, nIam, nIam',  nI_add, pk_mul, nIsub, nIrem, nIdiv, nIand1, nIand3, nIand7, nIand31, nIshr, nIle, nIlt, nIeq, nIc, vpI, nIm1, m1nI, m1lt, nIlm, m1le, nIlem, nIneg, u2_ss, u2_nn, u2_kk, nIm1n, m1nIn, m1ltn, nIlmn, m1len, nIlemn, n0, n1, n2, n3, n4, n5, n6, n7, n8, n9] at c1) <;> (first | omega | exact absurd rfl c1 | exact absurd trivial c1)
    · (try simp (disch := omega) only [nlit, natrem, nIrm, nIam, nIam',  nI_add, pk_mul, nIsub, nIrem, nIdiv, nIand1, nIand3, nIand7, nIand31, nIshr, nIle, nIlt, nIeq, nIc, vpI, nIm1, m1nI, m1lt, nIlm, m1le, nIlem, nIneg, u2_ss, u2_nn, u2_kk, nIm1n, m1nIn, m1ltn, nIlmn, m1len, nIlemn, n0, n1, n2, n3, n4, n5, n6, n7, n8, n9] at c1 c2) <;> (first | omega | exact absurd rfl c1 | exact absurd trivial c1 | exact absurd rfl c2 | exact absurd trivial c2)
    · (try simp (disch := omega) only [nlit, natrem, nIrm, nIam, nIam',  nI_add, pk_mul, nIsub, nIrem, nIdiv, nIand1, nIand3, nIand7, nIand31, nIshr, nIle, nIlt, nIeq, nIc, vpI, nIm1, m1nI, m1lt, nIlm, m1le, nIlem, nIneg, u2_ss, u2_nn, u2_kk, nIm1n, m1nIn, m1ltn, nIlmn, m1len, nIlemn, n0, n1, n2, n3, n4, n5, n6, n7, n8, n9] at c1 c2 c3) <;> (first | omega | exact absurd rfl c1 | exact absurd trivial c1 | exact absurd rfl c2 | exact absurd trivial c2 | exact absurd rfl c3 | exact absurd trivial c3)
    · (try simp (disch := omega) only [nlit, natrem, nIrm, nIam, nIam',  nI_add, pk_mul, nIsub, nIrem, nIdiv, nIand1, nIand3, nIand7, nIand31, nIshr, nIle, nIlt, nIeq, nIc, vpI, nIm1, m1nI, m1lt, nIlm, m1le, nIlem, nIneg, u2_ss, u2_nn, u2_kk, nIm1n, m1nIn, m1ltn, nIlmn, m1len, nIlemn, n0, n1, n2, n3, n4, n5, n6, n7, n8, n9] at c1 c2 c3 c4) <;> (first | omega | exact absurd rfl c1 | exact absurd trivial c1 | exact absurd rfl c2 | exact absurd trivial c2 | exact absurd rfl c3 | exact absurd trivial c3 | exact absurd rfl c4 | exact absurd trivial c4)
    · (try simp (disch := omega) only [nlit, natrem, nIrm, nIam, nIam',  nI_add, pk_mul, nIsub, nIrem, nIdiv, nIand1, nIand3, nIand7, nIand31, nIshr, nIle, nIlt, nIeq, nIc, vpI, nIm1, m1nI, m1lt, nIlm, m1le, nIlem, nIneg, u2_ss, u2_nn, u2_kk, nIm1n, m1nIn, m1ltn, nIlmn, m1len, nIlemn, n0, n1, n2, n3, n4, n5, n6, n7, n8, n9] at c1 c2 c3 c4 c5) <;> (first | omega | exact absurd rfl c1 | exact absurd trivial c1 | exact absurd rfl c2 | exact absurd trivial c2 | exact absurd rfl c3 | exact absurd trivial c3 | exact absurd rfl c4 | exact absurd trivial c4 | exact absurd rfl c5 | exact absurd trivial c5)
    · (try simp (disch := omega) only [nlit, natrem, nIrm, nIam, nIam',  nI_add, pk_mul, nIsub, nIrem, nIdiv, nIand1, nIand3, nIand7, nIand31, nIshr, nIle, nIlt, nIeq, nIc, vpI, nIm1, m1nI, m1lt, nIlm, m1le, nIlem, nIneg, u2_ss, u2_nn, u2_kk, nIm1n, m1nIn, m1ltn, nIlmn, m1len, nIlemn, n0, n1, n2, n3, n4, n5, n6, n7, n8, n9] at c1 c2 c3 c4 c5 c6) <;> (first | omega | exact absurd rfl c1 | exact absurd trivial c1 | exact absurd rfl c2 | exact absurd trivial c2 | exact absurd rfl c3 | exact absurd trivial c3 | exact absurd rfl c4 | exact absurd trivial c4 | exact absurd rfl c5 | exact absurd trivial c5 | exact absurd rfl c6 | exact absurd trivial c6)
    · (try simp (disch := omega) only [nlit, natrem, nIrm, nIam, nIam',  nI_add, pk_mul, nIsub, nIrem, nIdiv, nIand1, nIand3, nIand7, nIand31, nIshr, nIle, nIlt, nIeq, nIc, vpI, nIm1, m1nI, m1lt, nIlm, m1le, nIlem, nIneg, u2_ss, u2_nn, u2_kk, nIm1n, m1nIn, m1ltn, nIlmn, m1len, nIlemn, n0, n1, n2, n3, n4, n5, n6, n7, n8, n9] at c1 c2 c3 c4 c5 c6 c7) <;> (first | omega | exact absurd rfl c1 | exact absurd trivial c1 | exact absurd rfl c2 | exact absurd trivial c2 | exact absurd rfl c3 | exact absurd trivial c3 | exact absurd rfl c4 | exact absurd trivial c4 | exact absurd rfl c5 | exact absurd trivial c5 | exact absurd rfl c6 | exact absurd trivial c6 | exact absurd rfl c7 | exact absurd trivial c7)
    · (try simp (disch := omega) only [nlit, natrem, nIrm, nIam, nIam',  nI_add, pk_mul, nIsub, nIrem, nIdiv, nIand1, nIand3, nIand7, nIand31, nIshr, nIle, nIlt, nIeq, nIc, vpI, nIm1, m1nI, m1lt, nIlm, m1le, nIlem, nIneg, u2_ss, u2_nn, u2_kk, nIm1n, m1nIn, m1ltn, nIlmn, m1len, nIlemn, n0, n1, n2, n3, n4, n5, n6, n7, n8, n9] at c1 c2 c3 c4 c5 c6 c7 c8) <;> (first | omega | exact absurd rfl c1 | exact absurd trivial c1 | exact absurd rfl c2 | exact absurd trivial c2 | exact absurd rfl c3 | exact absurd trivial c3 | exact absurd rfl c4 | exact absurd trivial c4 | exact absurd rfl c5 | exact absurd trivial c5 | exact absurd rfl c6 | exact absurd trivial c6 | exact absurd rfl c7 | exact absurd trivial c7 | exact absurd rfl c8 | exact absurd trivial c8)
    · (try simp (disch := omega) only [nlit, natrem, nIrm, nIam, nIam',  nI_add, pk_mul, nIsub, nIrem, nIdiv, nIand1, nIand3, nIand7, nIand31, nIshr, nIle, nIlt, nIeq, nIc, vpI, nIm1, m1nI, m1lt, nIlm, m1le, nIlem, nIneg, u2_ss, u2_nn, u2_kk, nIm1n, m1nIn, m1ltn, nIlmn, m1len, nIlemn, n0, n1, n2, n3, n4, n5, n6, n7, n8, n9] at c1 c2 c3 c4 c5 c6 c7 c8 c9) <;> (first | omega | exact absurd rfl c1 | exact absurd trivial c1 | exact absurd rfl c2 | exact absurd trivial c2 | exact absurd rfl c3 | exact absurd trivial c3 | exact absurd rfl c4 | exact absurd trivial c4 | exact absurd rfl c5 | exact absurd trivial c5 | exact absurd rfl c6 | exact absurd trivial c6 | exact absurd rfl c7 | exact absurd trivial c7 | exact absurd rfl c8 | exact absurd trivial c8 | exact absurd rfl c9 | exact absurd trivial c9)
    · (try simp (disch := omega) only [nlit, natrem, nIrm, nIam, nIam',  nI_add, pk_mul, nIsub, nIrem, nIdiv, nIand1, nIand3, nIand7, nIand31, nIshr, nIle, nIlt, nIeq, nIc, vpI, nIm1, m1nI, m1lt, nIlm, m1le, nIlem, nIneg, u2_ss, u2_nn, u2_kk, nIm1n, m1nIn, m1ltn, nIlmn, m1len, nIlemn, n0, n1, n2, n3, n4, n5, n6, n7, n8, n9] at c1 c2 c3 c4 c5 c6 c7 c8 c9 c10) <;> (first | omega | exact absurd rfl c1 | exact absurd trivial c1 | exact absurd rfl c2 | exact absurd trivial c2 | exact absurd rfl c3 | exact absurd trivial c3 | exact absurd rfl c4 | exact absurd trivial c4 | exact absurd rfl c5 | exact absurd trivial c5 | exact absurd rfl c6 | exact absurd trivial c6 | exact absurd rfl c7 | exact absurd trivial c7 | exact absurd rfl c8 | exact absurd trivial c8 | exact absurd rfl c9 | exact absurd trivial c9 | exact absurd rfl c10 | exact absurd trivial c10)
    · (try simp (disch := omega) only [nlit, natrem, nIrm, nIam, nIam',  nI_add, pk_mul, nIsub, nIrem, nIdiv, nIand1, nIand3, nIand7, nIand31, nIshr, nIle, nIlt, nIeq, nIc, vpI, nIm1, m1nI, m1lt, nIlm, m1le, nIlem, nIneg, u2_ss, u2_nn, u2_kk, nIm1n, m1nIn, m1ltn, nIlmn, m1len, nIlemn, n0, n1, n2, n3, n4, n5, n6, n7, n8, n9] at c1 c2 c3 c4 c5 c6 c7 c8 c9 c10); (try simp (disch := omega) only [nlit, natrem, nIrm, nIam, nIam',  nI_add, pk_mul, nIsub, nIrem, nIdiv, nIand1, nIand3, nIand7, nIand31, nIshr, nIle, nIlt, nIeq, nIc, vpI, nIm1, m1nI, m1lt, nIlm, m1le, nIlem, nIneg, u2_ss, u2_nn, u2_kk, nIm1n, m1nIn, m1ltn, nIlmn, m1len, nIlemn, n0, n1, n2, n3, n4, n5, n6, n7, n8, n9])
      exact h
theorem m_mark {d : Nat} {sx : Sx} {I : Ints} {L : Lngs} {R : Rfs} {q : Q3} {a : Ce} {lc : List (Nat × Nat)} {lf : Nat → Nat} {gl : Nat → List Nat} {sn : Nat → Nat} {mk : Mk} {us : List Es} {b : Nat} (hM : MA a lc lf gl sn us mk I) (hb : b ≤ 1) {x : Int32}
    (h1 : b = 0 → inR x 4 → ∀ J, MA a lc lf gl sn us (up1 mk x.toNatClampNeg (some ((lf, gl), sn))) J → Fr AA FA I J → q (some (.int 1)) J L R)
    (h2 : b = 1 → inR x 4 → ∀ e, mk x.toNatClampNeg = some e → ∀ J, MA a lc e.1.1 e.1.2 e.2 [] mk J → Fr AA FA I J → q (some (.int 1)) J L R)
    (h3 : ¬ (inR x 4 ∧ (b = 0 ∨ mk x.toNatClampNeg ≠ none)) → ∀ J, Fr AQ FQ I J → q (some (.int 0)) J L R) : E0 mX12_mark (d + 2) sx [.ref 92, .int x, .int (nI b)] I L R q := by
  refine EX12_mark ?_
  have h3 : ¬ (inR x 4 ∧ (b = 0 ∨ mk x.toNatClampNeg ≠ none)) → q (some (.int 0)) (u2 I 92 0 0) L R := fun hn => h3 hn _ fq0
  have h1 : b = 0 → inR x 4 → ∀ J, MA a lc lf gl sn us (up1 mk x.toNatClampNeg (some ((lf, gl), sn))) J → Fr AA FA (u2 I 92 0 0) J → q (some (.int 1)) J L R := fun k1 k2 J k3 hF => h1 k1 k2 J k3 ((Fr.rf.uf rfl).tr hF)
  have h2 : b = 1 → inR x 4 → ∀ e, mk x.toNatClampNeg = some e → ∀ J, MA a lc e.1.1 e.1.2 e.2 [] mk J → Fr AA FA (u2 I 92 0 0) J → q (some (.int 1)) J L R := fun k1 k2 e k3 J k4 hF => h2 k1 k2 e k3 J k4 ((Fr.rf.uf rfl).tr hF)
  have hM := hM.fq (fq0 (v := 0))
  generalize u2 I 92 0 0 = I at *
  obtain ⟨⟨hW, hE, hM, hl, hEv, hS⟩, hU, hKW, ⟨u1, u2', u3⟩, hMk⟩ := hM
  have hlx : ∀ x, x < 6 → (gl x).length ≤ 6 := fun x hx => (hE.2.1 x hx).1
  refine within_ok (n := 3) (by decide) (fun m hm e => ?_) (fun hx => RX12_mark_11 ⟨fun _ => h3 (fun w => hx w.1), fun w => absurd rfl w⟩)
  subst e
  have hx : inR (nI m) 4 := (inR_nI (by omega) (by decide)).mpr hm
  rw [nIc (by omega)] at h1 h2 h3
  have e1 : vp_nar .boolean (nI 1) = nI 1 := by decide
  refine RX12_mark_11  ⟨fun c1 => ?_, fun c1 => ⟨fun c2 => ⟨?_, ?_⟩, fun c2 => ⟨?_, ⟨fun c3 => ?_, fun c3 => ?_⟩⟩⟩⟩
  · (try simp (disch := omega) only [nlit, natrem, nIrm, nIam, nIam',  nI_add, pk_mul, nIsub, nIrem, nIdiv, nIand1, nIand3, nIand7, nIand31, nIshr, nIle, nIlt, nIeq, nIc, vpI, nIm1, m1nI, m1lt, nIlm, m1le, nIlem, nIneg, u2_ss, u2_nn, u2_kk, nIm1n, m1nIn, m1ltn, nIlmn, m1len, nIlemn, e1] at c1) <;> (first | omega | exact absurd rfl c1 | exact absurd trivial c1)
  · (try simp (disch := omega) only [nlit, natrem, nIrm, nIam, nIam',  nI_add, pk_mul, nIsub, nIrem, nIdiv, nIand1, nIand3, nIand7, nIand31, nIshr, nIle, nIlt, nIeq, nIc, vpI, nIm1, m1nI, m1lt, nIlm, m1le, nIlem, nIneg, u2_ss, u2_nn, u2_kk, nIm1n, m1nIn, m1ltn, nIlmn, m1len, nIlemn, e1] at c1 c2) <;> (try simp (disch := omega) only [nlit, natrem, nIrm, nIam, nIam',  nI_add, pk_mul, nIsub, nIrem, nIdiv, nIand1, nIand3, nIand7, nIand31, nIshr, nIle, nIlt, nIeq, nIc, vpI, nIm1, m1nI, m1lt, nIlm, m1le, nIlem, nIneg, u2_ss, u2_nn, u2_kk, nIm1n, m1nIn, m1ltn, nIlmn, m1len, nIlemn, e1]) <;> (first | omega | trivial)
  · (try simp (disch := omega) only [nlit, natrem, nIrm, nIam, nIam',  nI_add, pk_mul, nIsub, nIrem, nIdiv, nIand1, nIand3, nIand7, nIand31, nIshr, nIle, nIlt, nIeq, nIc, vpI, nIm1, m1nI, m1lt, nIlm, m1le, nIlem, nIneg, u2_ss, u2_nn, u2_kk, nIm1n, m1nIn, m1ltn, nIlmn, m1len, nIlemn, e1] at c1 c2); (try simp (disch := omega) only [nlit, natrem, nIrm, nIam, nIam',  nI_add, pk_mul, nIsub, nIrem, nIdiv, nIand1, nIand3, nIand7, nIand31, nIshr, nIle, nIlt, nIeq, nIc, vpI, nIm1, m1nI, m1lt, nIlm, m1le, nIlem, nIneg, u2_ss, u2_nn, u2_kk, nIm1n, m1nIn, m1ltn, nIlmn, m1len, nIlemn, e1])
    refine copies_ok (f := 0) (n := 56) (by decide) (by omega) (by omega) (by decide) (fun K k1 k2 k3 => RX12_mark_68 ?_)
    have hF1 : Fr AA FA I (u2 I 107 m (nI 1)) := Fr.rf.ua rfl
    have hFI : Fr AA FA I K := hF1.tr (k3.mn rfl rfl)
    have e6 : ∀ i, (u2 I 107 m (nI 1)) 106 i = I 106 i := fun i => u2_nn _ _ _ _ (by decide)
    have o6 : ∀ i, i < 56 * (1 + m) ∨ 56 * (1 + m) + 56 ≤ i → K 106 i = I 106 i := fun i hi => (k2 i hi).trans (e6 i)
    have i6 : ∀ k, k < 56 → K 106 (56 * (1 + m) + k) = I 106 (0 + k) := fun k hk => by rw [k1 k hk, e6]
    refine h1 (by omega) hx K ⟨⟨hW, hE, hM.fr hFI rfl rfl, hl.fr hFI rfl rfl rfl rfl, hEv.cpz hlx (fun k hk => o6 k (by omega)), hS.cp (fun k hk => o6 _ (by omega))⟩, hU, fun m' hm' e he => ?_, ⟨?_, u2', UnM.cp _ hU u3 (fun i h1 h2 => o6 i (by omega))⟩, fun m' hm' => ?_⟩ hFI
    · by_cases em : m' = m
      · rw [em, up1_s] at he
        cases he
        exact hE
      · rw [up1_n _ _ em] at he
        exact hKW m' hm' e he
    · rw [k3.ar 92 rfl rfl, u2_nn _ _ _ _ (by decide)]; exact u1
    · by_cases em : m' = m
      · subst em
        refine Or.inr ⟨((lf, gl), sn), up1_s _ _ _, ?_, ?_, ?_⟩
        · rw [k3.ar 107 rfl rfl, u2_ss]
        · exact hEv.cp hlx (fun k hk => i6 k (by omega))
        · exact hS.cp (fun k hk => i6 k (by omega))
      · rw [up1_n _ _ em]
        have e7 : K 107 m' = I 107 m' := by rw [k3.ar 107 rfl rfl, u2_kk _ _ _ _ em]
        rcases hMk m' hm' with ⟨j1, j2⟩ | ⟨e, j1, j2, j3, j4⟩
        · exact Or.inl ⟨j1, e7.trans j2⟩
        · exact Or.inr ⟨e, j1, e7.trans j2, j3.cp (fun x hx => ((hKW m' hm' e j1).2.1 x hx).1) (fun k hk => o6 _ (by omega)), j4.cp (fun k hk => o6 _ (by omega))⟩
  · (try simp (disch := omega) only [nlit, natrem, nIrm, nIam, nIam',  nI_add, pk_mul, nIsub, nIrem, nIdiv, nIand1, nIand3, nIand7, nIand31, nIshr, nIle, nIlt, nIeq, nIc, vpI, nIm1, m1nI, m1lt, nIlm, m1le, nIlem, nIneg, u2_ss, u2_nn, u2_kk, nIm1n, m1nIn, m1ltn, nIlmn, m1len, nIlemn, e1] at c1 c2) <;> (try simp (disch := omega) only [nlit, natrem, nIrm, nIam, nIam',  nI_add, pk_mul, nIsub, nIrem, nIdiv, nIand1, nIand3, nIand7, nIand31, nIshr, nIle, nIlt, nIeq, nIc, vpI, nIm1, m1nI, m1lt, nIlm, m1le, nIlem, nIneg, u2_ss, u2_nn, u2_kk, nIm1n, m1nIn, m1ltn, nIlmn, m1len, nIlemn, e1]) <;> (first | omega | trivial)
  · (try simp (disch := omega) only [nlit, natrem, nIrm, nIam, nIam',  nI_add, pk_mul, nIsub, nIrem, nIdiv, nIand1, nIand3, nIand7, nIand31, nIshr, nIle, nIlt, nIeq, nIc, vpI, nIm1, m1nI, m1lt, nIlm, m1le, nIlem, nIneg, u2_ss, u2_nn, u2_kk, nIm1n, m1nIn, m1ltn, nIlmn, m1len, nIlemn, e1] at c1 c2 c3); (try simp (disch := omega) only [nlit, natrem, nIrm, nIam, nIam',  nI_add, pk_mul, nIsub, nIrem, nIdiv, nIand1, nIand3, nIand7, nIand31, nIshr, nIle, nIlt, nIeq, nIc, vpI, nIm1, m1nI, m1lt, nIlm, m1le, nIlem, nIneg, u2_ss, u2_nn, u2_kk, nIm1n, m1nIn, m1ltn, nIlmn, m1len, nIlemn, e1])
    rcases hMk m hm with ⟨j1, j2⟩ | ⟨e, j1, j2, j3, j4⟩
    · exact absurd j2 c3
    · have hWm := hKW m hm e j1
      refine copies_ok (t := 0) (n := 56) (by omega) (by decide) (by omega) (by decide) (fun K k1 k2 k3 => RX12_mark_43 (RX12_mark_68 ?_))
      have hFI : Fr AA FA I (u2 K 92 22 0) := (show Fr AA FA I K from k3.mn rfl rfl).uf rfl
      have e6 : ∀ i, (u2 K 92 22 0) 106 i = K 106 i := fun i => u2_nn _ _ _ _ (by decide)
      refine h2 (by omega) hx e j1 _ ⟨⟨hW, hWm, hM.fr hFI rfl rfl, hl.fr hFI rfl rfl rfl rfl, j3.cp (fun x hx => (hWm.2.1 x hx).1) (fun k hk => ?_), j4.cp (fun k hk => ?_)⟩, fun p hp => absurd hp List.not_mem_nil, hKW, ⟨by rw [u2_ss]; rfl, by decide, trivial⟩, hMk.cp hKW (fun i => ?_) (fun i h1 h2 => ?_)⟩ hFI
      · rw [e6]; exact k1 k (by omega)
      · rw [e6]; exact k1 k (by omega)
      · rw [u2_nn _ _ _ _ (by decide), k3.ar 107 rfl rfl]
      · rw [e6, k2 i (by omega)]
  · (try simp (disch := omega) only [nlit, natrem, nIrm, nIam, nIam',  nI_add, pk_mul, nIsub, nIrem, nIdiv, nIand1, nIand3, nIand7, nIand31, nIshr, nIle, nIlt, nIeq, nIc, vpI, nIm1, m1nI, m1lt, nIlm, m1le, nIlem, nIneg, u2_ss, u2_nn, u2_kk, nIm1n, m1nIn, m1ltn, nIlmn, m1len, nIlemn, e1] at c1 c2 c3); (try simp (disch := omega) only [nlit, natrem, nIrm, nIam, nIam',  nI_add, pk_mul, nIsub, nIrem, nIdiv, nIand1, nIand3, nIand7, nIand31, nIshr, nIle, nIlt, nIeq, nIc, vpI, nIm1, m1nI, m1lt, nIlm, m1le, nIlem, nIneg, u2_ss, u2_nn, u2_kk, nIm1n, m1nIn, m1ltn, nIlmn, m1len, nIlemn, e1])
    rcases hMk m hm with ⟨j1, j2⟩ | ⟨e, j1, j2, j3, j4⟩
    · refine h3 (fun w => ?_)
      rcases w.2 with w | w
      · omega
      · exact w j1
    · rw [j2] at c3; exact absurd c3 (by decide)
