/-! a wine's steps -/
def wP (a : Ce) (w k : Nat) : Nat := (dL a (wD a w k).val).val * (wT a w k).val
def wl (a : Ce) (w : Nat) : Nat → Nat
  | 0 => 0
  | k + 1 => wl a w k + wP a w k
def wL (a : Ce) (w : Nat) : Nat := wl a w (wM a w).val
def wsr (a : Ce) (w : Nat) : Nat → Nat → Nat → Nat
  | 0, _, _ => 0
  | n + 1, k, l => if l < wP a w k then (dS a (wD a w k).val (l % (dL a (wD a w k).val).val)).val else wsr a w n (k + 1) (l - wP a w k)
def wS (a : Ce) (w i : Nat) : Nat := wsr a w (wM a w).val 0 i
theorem wP_le {a : Ce} (hW : WFc a) {w k : Nat} (hw : w < (a 3).val) (hk : k < (wM a w).val) : 1 ≤ wP a w k ∧ wP a w k ≤ 32 := by
  have h1 := (hW.2.2.2.2.2.2.2.2.1 w hw).2.2.2 k hk
  have h2 := hW.2.2.2.2.2.2.2.1 _ h1.1
  unfold wP
  exact ⟨Nat.mul_le_mul h2.1 h1.2.1, Nat.mul_le_mul h2.2.1 h1.2.2⟩
theorem wl_le {a : Ce} (hW : WFc a) {w : Nat} (hw : w < (a 3).val) : ∀ k, k ≤ (wM a w).val → wl a w k ≤ 32 * k
  | 0, _ => Nat.le_refl 0
  | k + 1, hk => by
    have := wl_le hW hw k (by omega)
    have := wP_le hW hw (k := k) (by omega)
    show wl a w k + wP a w k ≤ _
    omega
theorem wL_le {a : Ce} (hW : WFc a) {w : Nat} (hw : w < (a 3).val) : wL a w ≤ 96 := by
  have h1 := (hW.2.2.2.2.2.2.2.2.1 w hw).2.2.1
  have := wl_le hW hw _ (Nat.le_refl (wM a w).val)
  unfold wL
  omega
theorem wsr_le {a : Ce} (hW : WFc a) {w : Nat} (hw : w < (a 3).val) : ∀ n k l, n + k = (wM a w).val → wsr a w n k l ≤ 4
  | 0, _, _, _ => Nat.zero_le _
  | n + 1, k, l, h => by
    have h1 := (hW.2.2.2.2.2.2.2.2.1 w hw).2.2.2 k (by omega)
    have h2 := hW.2.2.2.2.2.2.2.1 _ h1.1
    unfold wsr
    split
    · refine h2.2.2 _ ?_
      have : l % (dL a (wD a w k).val).val < (dL a (wD a w k).val).val := Nat.mod_lt _ (by omega)
      omega
    · exact wsr_le hW hw n (k + 1) _ (by omega)
theorem wS_le {a : Ce} (hW : WFc a) {w : Nat} (hw : w < (a 3).val) (i : Nat) : wS a w i ≤ 4 := wsr_le hW hw _ 0 i rfl
theorem wsr_part {a : Ce} {w : Nat} : ∀ n k j l, k ≤ j → j < k + n → (wl a w j - wl a w k ≤ l ∧ l < wl a w (j + 1) - wl a w k) → wsr a w n k l = (dS a (wD a w j).val ((l - (wl a w j - wl a w k)) % (dL a (wD a w j).val).val)).val
  | 0, k, j, l, h1, h2, _ => absurd h2 (by omega)
  | n + 1, k, j, l, h1, h2, h3 => by
    unfold wsr
    by_cases e : k = j
    · subst e
      have : wl a w (k + 1) = wl a w k + wP a w k := rfl
      rw [if_pos (by omega)]
      simp
    · have hm : ∀ i, wl a w (k + 1) ≤ wl a w (k + 1 + i) := by
        intro i
        induction i with
        | zero => exact Nat.le_refl _
        | succ i ih => exact Nat.le_trans ih (Nat.le_add_right _ _)
      have hm1 := hm (j - (k + 1))
      rw [show k + 1 + (j - (k + 1)) = j by omega] at hm1
      have : wl a w (k + 1) = wl a w k + wP a w k := rfl
      rw [if_neg (by omega), wsr_part n (k + 1) j (l - wP a w k) (by omega) (by omega) (by omega)]
      rw [show l - wP a w k - (wl a w j - wl a w (k + 1)) = l - (wl a w j - wl a w k) by omega]
theorem wS_part {a : Ce} {w j l : Nat} (hj : j < (wM a w).val) (h1 : wl a w j ≤ l) (h2 : l < wl a w (j + 1)) : wS a w l = (dS a (wD a w j).val ((l - wl a w j) % (dL a (wD a w j).val).val)).val := by
  have := wsr_part (a := a) (w := w) (wM a w).val 0 j l (by omega) (by omega) ⟨by show wl a w j - 0 ≤ l; omega, by show l < wl a w (j + 1) - 0; omega⟩
  exact this
theorem lengthOf_lp {d : Nat} {sx : Sx} {I : Ints} {L : Lngs} {R : Rfs} {q : Q3} {a : Ce} (hM : CelM a I) (hW : WFc a) {w : Nat} (hw : w < (a 3).val) (h : q (some (.int (nI (wL a w)))) I L R) :
    ∀ n k : Nat, n = (wM a w).val - k → k ≤ (wM a w).val → Y mX12_lengthOf (d + 1) sx 13 [(0, .ref 92), (2, .int (nI (125 + 8 * w))), (3, .int (nI (wl a w k))), (4, .int (nI k))] [] I L R q := by
  have w3 := hW.2.2.2.1
  have hm3 := (hW.2.2.2.2.2.2.2.2.1 w hw).2.2.1
  have eM := cm_wM hM (w := w) (by omega)
  intro n
  induction n with
  | zero =>
    intro k hn hk
    refine RX12_lengthOf_13  ⟨?_, ⟨fun c1 => ?_, fun c1 => ⟨?_, ⟨?_, ⟨?_, ?_⟩⟩⟩⟩⟩
    · (try simp (disch := omega) only [nlit, natrem, nIrm, nIam, nIam',  nI_add, pk_mul, nIsub, nIrem, nIdiv, nIand1, nIand3, nIand7, nIand31, nIshr, nIle, nIlt, nIeq, nIc, vpI, nIm1, m1nI, m1lt, nIlm, m1le, nIlem, nIneg, u2_ss, u2_nn, u2_kk, eM]); (first | omega | trivial)
    · (try simp (disch := omega) only [nlit, natrem, nIrm, nIam, nIam',  nI_add, pk_mul, nIsub, nIrem, nIdiv, nIand1, nIand3, nIand7, nIand31, nIshr, nIle, nIlt, nIeq, nIc, vpI, nIm1, m1nI, m1lt, nIlm, m1le, nIlem, nIneg, u2_ss, u2_nn, u2_kk, eM] at c1); (try simp (disch := omega) only [nlit, natrem, nIrm, nIam, nIam',  nI_add, pk_mul, nIsub, nIrem, nIdiv, nIand1, nIand3, nIand7, nIand31, nIshr, nIle, nIlt, nIeq, nIc, vpI, nIm1, m1nI, m1lt, nIlm, m1le, nIlem, nIneg, u2_ss, u2_nn, u2_kk, eM])
      have e : k = (wM a w).val := by omega
      rw [e]; exact h
    · (try simp (disch := omega) only [nlit, natrem, nIrm, nIam, nIam',  nI_add, pk_mul, nIsub, nIrem, nIdiv, nIand1, nIand3, nIand7, nIand31, nIshr, nIle, nIlt, nIeq, nIc, vpI, nIm1, m1nI, m1lt, nIlm, m1le, nIlem, nIneg, u2_ss, u2_nn, u2_kk, eM] at c1); (try simp (disch := omega) only [nlit, natrem, nIrm, nIam, nIam',  nI_add, pk_mul, nIsub, nIrem, nIdiv, nIand1, nIand3, nIand7, nIand31, nIshr, nIle, nIlt, nIeq, nIc, vpI, nIm1, m1nI, m1lt, nIlm, m1le, nIlem, nIneg, u2_ss, u2_nn, u2_kk, eM]); (first | omega | trivial)
    · (try simp (disch := omega) only [nlit, natrem, nIrm, nIam, nIam',  nI_add, pk_mul, nIsub, nIrem, nIdiv, nIand1, nIand3, nIand7, nIand31, nIshr, nIle, nIlt, nIeq, nIc, vpI, nIm1, m1nI, m1lt, nIlm, m1le, nIlem, nIneg, u2_ss, u2_nn, u2_kk, eM] at c1); (try simp (disch := omega) only [nlit, natrem, nIrm, nIam, nIam',  nI_add, pk_mul, nIsub, nIrem, nIdiv, nIand1, nIand3, nIand7, nIand31, nIshr, nIle, nIlt, nIeq, nIc, vpI, nIm1, m1nI, m1lt, nIlm, m1le, nIlem, nIneg, u2_ss, u2_nn, u2_kk, eM]); (first | omega | trivial)
    · (try simp (disch := omega) only [nlit, natrem, nIrm, nIam, nIam',  nI_add, pk_mul, nIsub, nIrem, nIdiv, nIand1, nIand3, nIand7, nIand31, nIshr, nIle, nIlt, nIeq, nIc, vpI, nIm1, m1nI, m1lt, nIlm, m1le, nIlem, nIneg, u2_ss, u2_nn, u2_kk, eM] at c1); (try simp (disch := omega) only [nlit, natrem, nIrm, nIam, nIam',  nI_add, pk_mul, nIsub, nIrem, nIdiv, nIand1, nIand3, nIand7, nIand31, nIshr, nIle, nIlt, nIeq, nIc, vpI, nIm1, m1nI, m1lt, nIlm, m1le, nIlem, nIneg, u2_ss, u2_nn, u2_kk, eM]); (first | omega | trivial)
    · (try simp (disch := omega) only [nlit, natrem, nIrm, nIam, nIam',  nI_add, pk_mul, nIsub, nIrem, nIdiv, nIand1, nIand3, nIand7, nIand31, nIshr, nIle, nIlt, nIeq, nIc, vpI, nIm1, m1nI, m1lt, nIlm, m1le, nIlem, nIneg, u2_ss, u2_nn, u2_kk, eM] at c1); omega
  | succ n ih =>
    intro k hn hk
    have eD := cm_wD hM (w := w) (k := k) (by omega) (by omega)
    have eT := cm_wT hM (w := w) (k := k) (by omega) (by omega)
    have h1 := (hW.2.2.2.2.2.2.2.2.1 w hw).2.2.2 k (by omega)
    have w2 := hW.2.2.1
    have eL := cm_dL hM (d := (wD a w k).val) (by omega)
    refine RX12_lengthOf_13  ⟨?_, ⟨fun c1 => ?_, fun c1 => ⟨?_, ⟨?_, ⟨?_, ?_⟩⟩⟩⟩⟩
    · (try simp (disch := omega) only [nlit, natrem, nIrm, nIam, nIam',  nI_add, pk_mul, nIsub, nIrem, nIdiv, nIand1, nIand3, nIand7, nIand31, nIshr, nIle, nIlt, nIeq, nIc, vpI, nIm1, m1nI, m1lt, nIlm, m1le, nIlem, nIneg, u2_ss, u2_nn, u2_kk, eM, eD, eT, eL]); (first | omega | trivial)
    · (try simp (disch := omega) only [nlit, natrem, nIrm, nIam, nIam',  nI_add, pk_mul, nIsub, nIrem, nIdiv, nIand1, nIand3, nIand7, nIand31, nIshr, nIle, nIlt, nIeq, nIc, vpI, nIm1, m1nI, m1lt, nIlm, m1le, nIlem, nIneg, u2_ss, u2_nn, u2_kk, eM, eD, eT, eL] at c1); (try simp (disch := omega) only [nlit, natrem, nIrm, nIam, nIam',  nI_add, pk_mul, nIsub, nIrem, nIdiv, nIand1, nIand3, nIand7, nIand31, nIshr, nIle, nIlt, nIeq, nIc, vpI, nIm1, m1nI, m1lt, nIlm, m1le, nIlem, nIneg, u2_ss, u2_nn, u2_kk, eM, eD, eT, eL])
      omega
    · (try simp (disch := omega) only [nlit, natrem, nIrm, nIam, nIam',  nI_add, pk_mul, nIsub, nIrem, nIdiv, nIand1, nIand3, nIand7, nIand31, nIshr, nIle, nIlt, nIeq, nIc, vpI, nIm1, m1nI, m1lt, nIlm, m1le, nIlem, nIneg, u2_ss, u2_nn, u2_kk, eM, eD, eT, eL] at c1); (try simp (disch := omega) only [nlit, natrem, nIrm, nIam, nIam',  nI_add, pk_mul, nIsub, nIrem, nIdiv, nIand1, nIand3, nIand7, nIand31, nIshr, nIle, nIlt, nIeq, nIc, vpI, nIm1, m1nI, m1lt, nIlm, m1le, nIlem, nIneg, u2_ss, u2_nn, u2_kk, eM, eD, eT, eL]); (first | omega | trivial)
    · (try simp (disch := omega) only [nlit, natrem, nIrm, nIam, nIam',  nI_add, pk_mul, nIsub, nIrem, nIdiv, nIand1, nIand3, nIand7, nIand31, nIshr, nIle, nIlt, nIeq, nIc, vpI, nIm1, m1nI, m1lt, nIlm, m1le, nIlem, nIneg, u2_ss, u2_nn, u2_kk, eM, eD, eT, eL] at c1); (try simp (disch := omega) only [nlit, natrem, nIrm, nIam, nIam',  nI_add, pk_mul, nIsub, nIrem, nIdiv, nIand1, nIand3, nIand7, nIand31, nIshr, nIle, nIlt, nIeq, nIc, vpI, nIm1, m1nI, m1lt, nIlm, m1le, nIlem, nIneg, u2_ss, u2_nn, u2_kk, eM, eD, eT, eL]); (first | omega | trivial)
    · (try simp (disch := omega) only [nlit, natrem, nIrm, nIam, nIam',  nI_add, pk_mul, nIsub, nIrem, nIdiv, nIand1, nIand3, nIand7, nIand31, nIshr, nIle, nIlt, nIeq, nIc, vpI, nIm1, m1nI, m1lt, nIlm, m1le, nIlem, nIneg, u2_ss, u2_nn, u2_kk, eM, eD, eT, eL] at c1); (try simp (disch := omega) only [nlit, natrem, nIrm, nIam, nIam',  nI_add, pk_mul, nIsub, nIrem, nIdiv, nIand1, nIand3, nIand7, nIand31, nIshr, nIle, nIlt, nIeq, nIc, vpI, nIm1, m1nI, m1lt, nIlm, m1le, nIlem, nIneg, u2_ss, u2_nn, u2_kk, eM, eD, eT, eL]); (first | omega | trivial)
    · (try simp (disch := omega) only [nlit, natrem, nIrm, nIam, nIam',  nI_add, pk_mul, nIsub, nIrem, nIdiv, nIand1, nIand3, nIand7, nIand31, nIshr, nIle, nIlt, nIeq, nIc, vpI, nIm1, m1nI, m1lt, nIlm, m1le, nIlem, nIneg, u2_ss, u2_nn, u2_kk, eM, eD, eT, eL] at c1); (try simp (disch := omega) only [nlit, natrem, nIrm, nIam, nIam',  nI_add, pk_mul, nIsub, nIrem, nIdiv, nIand1, nIand3, nIand7, nIand31, nIshr, nIle, nIlt, nIeq, nIc, vpI, nIm1, m1nI, m1lt, nIlm, m1le, nIlem, nIneg, u2_ss, u2_nn, u2_kk, eM, eD, eT, eL])
      exact ih (k + 1) (by omega) (by omega)
theorem lengthOf_ok {d : Nat} {sx : Sx} {I : Ints} {L : Lngs} {R : Rfs} {q : Q3} {a : Ce} (hM : CelM a I) (hW : WFc a) {w : Nat} (hw : w < (a 3).val) (h : q (some (.int (nI (wL a w)))) I L R) : E0 mX12_lengthOf (d + 1) sx [.ref 92, .int (nI w)] I L R q := by
  refine EX12_lengthOf  ?_
  · (try simp (disch := omega) only [nlit, natrem, nIrm, nIam, nIam',  nI_add, pk_mul, nIsub, nIrem, nIdiv, nIand1, nIand3, nIand7, nIand31, nIshr, nIle, nIlt, nIeq, nIc, vpI, nIm1, m1nI, m1lt, nIlm, m1le, nIlem, nIneg, u2_ss, u2_nn, u2_kk])
    exact lengthOf_lp hM hW hw h _ 0 rfl (by omega)
theorem stepOf_lp {d : Nat} {sx : Sx} {I : Ints} {L : Lngs} {R : Rfs} {q : Q3} {a : Ce} (hM : CelM a I) (hW : WFc a) {w i : Nat} (hw : w < (a 3).val) (hi : i < wL a w) (h : q (some (.int (nI (wS a w i)))) I L R) :
    ∀ n k : Nat, n = (wM a w).val - k → k < (wM a w).val → wl a w k ≤ i → Y mX12_stepOf (d + 1) sx 14 [(0, .ref 92), (3, .int (nI (125 + 8 * w))), (4, .int (nI (i - wl a w k))), (5, .int (nI k))] [] I L R q := by
  have w3 := hW.2.2.2.1
  have hm3 := (hW.2.2.2.2.2.2.2.2.1 w hw).2.2.1
  have hL := wL_le hW hw
  intro n
  induction n with
  | zero => intro k hn hk; omega
  | succ n ih =>
    intro k hn hk hl
    have eD := cm_wD hM (w := w) (k := k) (by omega) (by omega)
    have eT := cm_wT hM (w := w) (k := k) (by omega) (by omega)
    have h1 := (hW.2.2.2.2.2.2.2.2.1 w hw).2.2.2 k (by omega)
    have w2 := hW.2.2.1
    have eL := cm_dL hM (d := (wD a w k).val) (by omega)
    have h2 := hW.2.2.2.2.2.2.2.1 _ h1.1
    have hp := wP_le hW hw hk
    have hpe : (dL a (wD a w k).val).val * (wT a w k).val = wP a w k := rfl
    have hk1 : wl a w (k + 1) = wl a w k + wP a w k := rfl
    have hmod : (i - wl a w k) % (dL a (wD a w k).val).val < (dL a (wD a w k).val).val := Nat.mod_lt _ (by omega)
    have eS := cm_dS hM (d := (wD a w k).val) (s := (i - wl a w k) % (dL a (wD a w k).val).val) (by omega) (by omega)
    refine RX12_stepOf_14  ⟨?_, ⟨?_, ⟨?_, ⟨fun c1 => ⟨?_, ⟨?_, ⟨?_, ⟨?_, ?_⟩⟩⟩⟩, fun c1 => ⟨?_, ⟨?_, ⟨?_, ?_⟩⟩⟩⟩⟩⟩⟩
    · (try simp (disch := omega) only [nlit, natrem, nIrm, nIam, nIam',  nI_add, pk_mul, nIsub, nIrem, nIdiv, nIand1, nIand3, nIand7, nIand31, nIshr, nIle, nIlt, nIeq, nIc, vpI, nIm1, m1nI, m1lt, nIlm, m1le, nIlem, nIneg, u2_ss, u2_nn, u2_kk, eD, eT, eL, hpe, eS]); (first | omega | trivial)
    · (try simp (disch := omega) only [nlit, natrem, nIrm, nIam, nIam',  nI_add, pk_mul, nIsub, nIrem, nIdiv, nIand1, nIand3, nIand7, nIand31, nIshr, nIle, nIlt, nIeq, nIc, vpI, nIm1, m1nI, m1lt, nIlm, m1le, nIlem, nIneg, u2_ss, u2_nn, u2_kk, eD, eT, eL, hpe, eS]); (first | omega | trivial)
    · (try simp (disch := omega) only [nlit, natrem, nIrm, nIam, nIam',  nI_add, pk_mul, nIsub, nIrem, nIdiv, nIand1, nIand3, nIand7, nIand31, nIshr, nIle, nIlt, nIeq, nIc, vpI, nIm1, m1nI, m1lt, nIlm, m1le, nIlem, nIneg, u2_ss, u2_nn, u2_kk, eD, eT, eL, hpe, eS]); (first | omega | trivial)
    · (try simp (disch := omega) only [nlit, natrem, nIrm, nIam, nIam',  nI_add, pk_mul, nIsub, nIrem, nIdiv, nIand1, nIand3, nIand7, nIand31, nIshr, nIle, nIlt, nIeq, nIc, vpI, nIm1, m1nI, m1lt, nIlm, m1le, nIlem, nIneg, u2_ss, u2_nn, u2_kk, eD, eT, eL, hpe, eS] at c1); (try simp (disch := omega) only [nlit, natrem, nIrm, nIam, nIam',  nI_add, pk_mul, nIsub, nIrem, nIdiv, nIand1, nIand3, nIand7, nIand31, nIshr, nIle, nIlt, nIeq, nIc, vpI, nIm1, m1nI, m1lt, nIlm, m1le, nIlem, nIneg, u2_ss, u2_nn, u2_kk, eD, eT, eL, hpe, eS]); (first | omega | trivial)
    · (try simp (disch := omega) only [nlit, natrem, nIrm, nIam, nIam',  nI_add, pk_mul, nIsub, nIrem, nIdiv, nIand1, nIand3, nIand7, nIand31, nIshr, nIle, nIlt, nIeq, nIc, vpI, nIm1, m1nI, m1lt, nIlm, m1le, nIlem, nIneg, u2_ss, u2_nn, u2_kk, eD, eT, eL, hpe, eS] at c1); (try simp (disch := omega) only [nlit, natrem, nIrm, nIam, nIam',  nI_add, pk_mul, nIsub, nIrem, nIdiv, nIand1, nIand3, nIand7, nIand31, nIshr, nIle, nIlt, nIeq, nIc, vpI, nIm1, m1nI, m1lt, nIlm, m1le, nIlem, nIneg, u2_ss, u2_nn, u2_kk, eD, eT, eL, hpe, eS]); (first | omega | trivial)
    · (try simp (disch := omega) only [nlit, natrem, nIrm, nIam, nIam',  nI_add, pk_mul, nIsub, nIrem, nIdiv, nIand1, nIand3, nIand7, nIand31, nIshr, nIle, nIlt, nIeq, nIc, vpI, nIm1, m1nI, m1lt, nIlm, m1le, nIlem, nIneg, u2_ss, u2_nn, u2_kk, eD, eT, eL, hpe, eS] at c1); (try simp (disch := omega) only [nlit, natrem, nIrm, nIam, nIam',  nI_add, pk_mul, nIsub, nIrem, nIdiv, nIand1, nIand3, nIand7, nIand31, nIshr, nIle, nIlt, nIeq, nIc, vpI, nIm1, m1nI, m1lt, nIlm, m1le, nIlem, nIneg, u2_ss, u2_nn, u2_kk, eD, eT, eL, hpe, eS]); (first | omega | trivial)
    · (try simp (disch := omega) only [nlit, natrem, nIrm, nIam, nIam',  nI_add, pk_mul, nIsub, nIrem, nIdiv, nIand1, nIand3, nIand7, nIand31, nIshr, nIle, nIlt, nIeq, nIc, vpI, nIm1, m1nI, m1lt, nIlm, m1le, nIlem, nIneg, u2_ss, u2_nn, u2_kk, eD, eT, eL, hpe, eS] at c1); (try simp (disch := omega) only [nlit, natrem, nIrm, nIam, nIam',  nI_add, pk_mul, nIsub, nIrem, nIdiv, nIand1, nIand3, nIand7, nIand31, nIshr, nIle, nIlt, nIeq, nIc, vpI, nIm1, m1nI, m1lt, nIlm, m1le, nIlem, nIneg, u2_ss, u2_nn, u2_kk, eD, eT, eL, hpe, eS]); (first | omega | trivial)
    · (try simp (disch := omega) only [nlit, natrem, nIrm, nIam, nIam',  nI_add, pk_mul, nIsub, nIrem, nIdiv, nIand1, nIand3, nIand7, nIand31, nIshr, nIle, nIlt, nIeq, nIc, vpI, nIm1, m1nI, m1lt, nIlm, m1le, nIlem, nIneg, u2_ss, u2_nn, u2_kk, eD, eT, eL, hpe, eS] at c1); (try simp (disch := omega) only [nlit, natrem, nIrm, nIam, nIam',  nI_add, pk_mul, nIsub, nIrem, nIdiv, nIand1, nIand3, nIand7, nIand31, nIshr, nIle, nIlt, nIeq, nIc, vpI, nIm1, m1nI, m1lt, nIlm, m1le, nIlem, nIneg, u2_ss, u2_nn, u2_kk, eD, eT, eL, hpe, eS])
      rw [wS_part hk hl (by omega)] at h
      exact h
    · (try simp (disch := omega) only [nlit, natrem, nIrm, nIam, nIam',  nI_add, pk_mul, nIsub, nIrem, nIdiv, nIand1, nIand3, nIand7, nIand31, nIshr, nIle, nIlt, nIeq, nIc, vpI, nIm1, m1nI, m1lt, nIlm, m1le, nIlem, nIneg, u2_ss, u2_nn, u2_kk, eD, eT, eL, hpe, eS] at c1); (try simp (disch := omega) only [nlit, natrem, nIrm, nIam, nIam',  nI_add, pk_mul, nIsub, nIrem, nIdiv, nIand1, nIand3, nIand7, nIand31, nIshr, nIle, nIlt, nIeq, nIc, vpI, nIm1, m1nI, m1lt, nIlm, m1le, nIlem, nIneg, u2_ss, u2_nn, u2_kk, eD, eT, eL, hpe, eS]); (first | omega | trivial)
    · (try simp (disch := omega) only [nlit, natrem, nIrm, nIam, nIam',  nI_add, pk_mul, nIsub, nIrem, nIdiv, nIand1, nIand3, nIand7, nIand31, nIshr, nIle, nIlt, nIeq, nIc, vpI, nIm1, m1nI, m1lt, nIlm, m1le, nIlem, nIneg, u2_ss, u2_nn, u2_kk, eD, eT, eL, hpe, eS] at c1); (try simp (disch := omega) only [nlit, natrem, nIrm, nIam, nIam',  nI_add, pk_mul, nIsub, nIrem, nIdiv, nIand1, nIand3, nIand7, nIand31, nIshr, nIle, nIlt, nIeq, nIc, vpI, nIm1, m1nI, m1lt, nIlm, m1le, nIlem, nIneg, u2_ss, u2_nn, u2_kk, eD, eT, eL, hpe, eS]); (first | omega | trivial)
    · (try simp (disch := omega) only [nlit, natrem, nIrm, nIam, nIam',  nI_add, pk_mul, nIsub, nIrem, nIdiv, nIand1, nIand3, nIand7, nIand31, nIshr, nIle, nIlt, nIeq, nIc, vpI, nIm1, m1nI, m1lt, nIlm, m1le, nIlem, nIneg, u2_ss, u2_nn, u2_kk, eD, eT, eL, hpe, eS] at c1); (try simp (disch := omega) only [nlit, natrem, nIrm, nIam, nIam',  nI_add, pk_mul, nIsub, nIrem, nIdiv, nIand1, nIand3, nIand7, nIand31, nIshr, nIle, nIlt, nIeq, nIc, vpI, nIm1, m1nI, m1lt, nIlm, m1le, nIlem, nIneg, u2_ss, u2_nn, u2_kk, eD, eT, eL, hpe, eS]); (first | omega | trivial)
    · (try simp (disch := omega) only [nlit, natrem, nIrm, nIam, nIam',  nI_add, pk_mul, nIsub, nIrem, nIdiv, nIand1, nIand3, nIand7, nIand31, nIshr, nIle, nIlt, nIeq, nIc, vpI, nIm1, m1nI, m1lt, nIlm, m1le, nIlem, nIneg, u2_ss, u2_nn, u2_kk, eD, eT, eL, hpe, eS] at c1); (try simp (disch := omega) only [nlit, natrem, nIrm, nIam, nIam',  nI_add, pk_mul, nIsub, nIrem, nIdiv, nIand1, nIand3, nIand7, nIand31, nIshr, nIle, nIlt, nIeq, nIc, vpI, nIm1, m1nI, m1lt, nIlm, m1le, nIlem, nIneg, u2_ss, u2_nn, u2_kk, eD, eT, eL, hpe, eS])
      rw [show i - wl a w k - wP a w k = i - wl a w (k + 1) by omega]
      refine ih (k + 1) (by omega) ?_ (by omega)
      refine Nat.lt_of_not_le (fun hc => ?_)
      have e : k + 1 = (wM a w).val := by omega
      have : wL a w = wl a w (k + 1) := by rw [e]; rfl
      omega
theorem stepOf_ok {d : Nat} {sx : Sx} {I : Ints} {L : Lngs} {R : Rfs} {q : Q3} {a : Ce} (hM : CelM a I) (hW : WFc a) {w i : Nat} (hw : w < (a 3).val) (hi : i < wL a w) (h : q (some (.int (nI (wS a w i)))) I L R) : E0 mX12_stepOf (d + 1) sx [.ref 92, .int (nI w), .int (nI i)] I L R q := by
  have h1 := (hW.2.2.2.2.2.2.2.2.1 w hw).2.1
  have hw3 := hW.2.2.2.1
  refine EX12_stepOf  ?_
  · (try simp (disch := omega) only [nlit, natrem, nIrm, nIam, nIam',  nI_add, pk_mul, nIsub, nIrem, nIdiv, nIand1, nIand3, nIand7, nIand31, nIshr, nIle, nIlt, nIeq, nIc, vpI, nIm1, m1nI, m1lt, nIlm, m1le, nIlem, nIneg, u2_ss, u2_nn, u2_kk])
    exact stepOf_lp hM hW hw hi h _ 0 rfl (by omega) (Nat.zero_le _)
