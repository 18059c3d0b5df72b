/-! the fewest glasses -/
def fS (a : Ce) (lc : List (Nat × Nat)) (lf : Nat → Nat) (g ce : Nat) : Nat → List Nat → Option (List Nat)
  | 0, ws => if wkA a lc g ws / 4 = ce then some ws else none
  | rem + 1, ws => (List.range (a 3).val).findSome? (fun w => if ws.count w < lf w then fS a lc lf g ce rem (ws ++ [w]) else none)
def fSP (a : Ce) (lc : List (Nat × Nat)) (lf : Nat → Nat) (g ce rem : Nat) (ws : List Nat) (n : Nat) : Option (List Nat) := (List.range n).findSome? (fun w => if ws.count w < lf w then fS a lc lf g ce rem (ws ++ [w]) else none)
theorem fSP_s {a : Ce} {lc : List (Nat × Nat)} {lf : Nat → Nat} {g ce rem : Nat} {ws : List Nat} (n : Nat) : fSP a lc lf g ce rem ws (n + 1) = (fSP a lc lf g ce rem ws n).or (if ws.count n < lf n then fS a lc lf g ce rem (ws ++ [n]) else none) := by
  unfold fSP
  rw [List.range_succ, List.findSome?_append]
  congr 1
  simp
def fwP (a : Ce) (lc : List (Nat × Nat)) (lf : Nat → Nat) (g ce n : Nat) : Option (List Nat) := (List.range n).findSome? (fun k => fS a lc lf g ce k [])
def fwS (a : Ce) (lc : List (Nat × Nat)) (lf : Nat → Nat) (g ce : Nat) : Option (List Nat) := fwP a lc lf g ce 7
theorem fwP_s {a : Ce} {lc : List (Nat × Nat)} {lf : Nat → Nat} {g ce : Nat} (n : Nat) : fwP a lc lf g ce (n + 1) = (fwP a lc lf g ce n).or (fS a lc lf g ce n []) := by
  unfold fwP
  rw [List.range_succ, List.findSome?_append]
  congr 1
  simp
theorem fwP_none {a : Ce} {lc : List (Nat × Nat)} {lf : Nat → Nat} {g ce : Nat} {n : Nat} (h : ∀ k, k < n → fS a lc lf g ce k [] = none) : fwP a lc lf g ce n = none := by
  unfold fwP
  rw [List.findSome?_eq_none_iff]
  intro x hx
  exact h x (List.mem_range.mp hx)
theorem fwP_some {a : Ce} {lc : List (Nat × Nat)} {lf : Nat → Nat} {g ce : Nat} {n : Nat} {r : List Nat} (h : fwP a lc lf g ce n = some r) : ∀ m, n ≤ m → fwP a lc lf g ce m = some r := by
  intro m
  induction m with
  | zero => intro hm; have : n = 0 := by omega
            subst this
            exact h
  | succ m ih =>
    intro hm
    by_cases e : n = m + 1
    · rw [← e]; exact h
    · rw [fwP_s, ih (by omega)]
      rfl
/-- what a found row is -/
theorem fS_some {a : Ce} {lc : List (Nat × Nat)} {lf : Nat → Nat} {g ce : Nat} : ∀ rem ws r, fS a lc lf g ce rem ws = some r → (∀ x, x ∈ ws → x < (a 3).val ∧ ws.count x ≤ lf x) → r.length = ws.length + rem ∧ wkA a lc g r / 4 = ce ∧ (∀ x, x ∈ r → x < (a 3).val ∧ r.count x ≤ lf x)
  | 0, ws, r, h, hw => by
    unfold fS at h
    split at h
    · rename_i hc
      cases h
      exact ⟨rfl, hc, hw⟩
    · cases h
  | rem + 1, ws, r, h, hw => by
    unfold fS at h
    obtain ⟨w, hwm, hwr⟩ := List.exists_of_findSome?_eq_some h
    split at hwr
    · rename_i hc
      have hwW := List.mem_range.mp hwm
      have := fS_some rem (ws ++ [w]) r hwr (fun x hx => by
        rw [List.count_append]
        by_cases e : x = w
        · subst e
          refine ⟨hwW, ?_⟩
          rw [List.count_singleton_self]
          omega
        · have hx' : x ∈ ws := by
            rcases List.mem_append.mp hx with h | h
            · exact h
            · exact absurd (List.mem_singleton.mp h) e
          have h2 := hw x hx'
          refine ⟨h2.1, ?_⟩
          rw [List.count_eq_zero.mpr (fun hm => e (List.mem_singleton.mp hm))]
          exact h2.2)
      refine ⟨?_, this.2.1, this.2.2⟩
      rw [this.1, List.length_append, List.length_singleton]
      omega
    · cases hwr
theorem sum_cnt {n : Nat} : ∀ r : List Nat, (∀ x, x ∈ r → x < n) → sumL (fun w => r.count w) n = r.length
  | [], _ => by
    have : ∀ n, sumL (fun w => ([] : List Nat).count w) n = 0 := by
      intro n
      induction n with
      | zero => rfl
      | succ n ih => show sumL _ n + _ = 0; rw [ih]; rfl
    exact this n
  | x :: r, h => by
    have ih := sum_cnt r (fun y hy => h y (List.mem_cons_of_mem _ hy))
    have hx := h x (List.mem_cons_self ..)
    have key : ∀ m, sumL (fun w => (x :: r).count w) m = sumL (fun w => r.count w) m + (if x < m then 1 else 0) := by
      intro m
      induction m with
      | zero => rfl
      | succ m ihm =>
        show sumL _ m + (x :: r).count m = sumL _ m + r.count m + _
        rw [ihm]
        by_cases e : x = m
        · have ec : (x :: r).count m = r.count m + 1 := by rw [e, List.count_cons_self]
          rw [ec, if_neg (show ¬ x < m by omega), if_pos (show x < m + 1 by omega)]
          omega
        · have ec : (x :: r).count m = r.count m := by rw [List.count_cons]; simp [e]
          rw [ec]
          by_cases e2 : x < m
          · rw [if_pos e2, if_pos (show x < m + 1 by omega)]
            omega
          · rw [if_neg e2, if_neg (show ¬ x < m + 1 by omega)]
            omega
    rw [key, ih, if_pos hx]
    rfl
theorem sumL_mono {f h : Nat → Nat} : ∀ n, (∀ w, w < n → f w ≤ h w) → sumL f n ≤ sumL h n
  | 0, _ => Nat.le_refl 0
  | n + 1, hh => by
    have := sumL_mono n (fun w hw => hh w (by omega))
    have := hh n (by omega)
    show sumL f n + f n ≤ sumL h n + h n
    omega
theorem fS_big {a : Ce} {lc : List (Nat × Nat)} {lf : Nat → Nat} {g ce n : Nat} (h : sumL lf (a 3).val < n) : fS a lc lf g ce n [] = none := by
  match hf : fS a lc lf g ce n [] with
  | none => rfl
  | some r =>
    exfalso
    obtain ⟨h1, h2, h3⟩ := fS_some n [] r hf (fun x hx => absurd hx List.not_mem_nil)
    have hs := sum_cnt (n := (a 3).val) r (fun x hx => (h3 x hx).1)
    have hm := sumL_mono (f := fun w => r.count w) (h := lf) (a 3).val (fun w hw => by
      by_cases hm : w ∈ r
      · exact (h3 w hm).2
      · show r.count w ≤ _
        rw [List.count_eq_zero.mpr hm]
        exact Nat.zero_le _)
    simp at h1
    omega
theorem fS_wait {a : Ce} {lc : List (Nat × Nat)} {lf : Nat → Nat} {g ce n : Nat} (hk : (gK a g).val = 1) (h0 : fS a lc lf g ce 0 [] = none) : fS a lc lf g ce n [] = none := by
  match hf : fS a lc lf g ce n [] with
  | none => rfl
  | some r =>
    exfalso
    obtain ⟨h1, h2, h3⟩ := fS_some n [] r hf (fun x hx => absurd hx List.not_mem_nil)
    have hw : ∀ ws, wkA a lc g ws = hom a g := fun ws => by unfold wkA; rw [hk, wk_w]
    unfold fS at h0
    rw [hw] at h0 h2
    rw [if_pos h2] at h0
    cases h0
/-! choose -/
def LfC (a : Ce) (lf : Nat → Nat) (ws : List Nat) (J : Ints) : Prop := ∀ w, w < (a 3).val → J 50 w = nI (lf w - ws.count w)
theorem fSP_some {a : Ce} {lc : List (Nat × Nat)} {lf : Nat → Nat} {g ce rem : Nat} {ws : List Nat} {n : Nat} {r : List Nat} (h : fSP a lc lf g ce rem ws n = some r) : ∀ m, n ≤ m → fSP a lc lf g ce rem ws m = some r := by
  intro m
  induction m with
  | zero => intro hm; have : n = 0 := by omega
            subst this
            exact h
  | succ m ih =>
    intro hm
    by_cases e : n = m + 1
    · rw [← e]; exact h
    · rw [fSP_s, ih (by omega)]
      rfl
def ChP (a : Ce) (lc : List (Nat × Nat)) (lf : Nat → Nat) (g n : Nat) (ws : List Nat) (I J : Ints) : Prop := LfC a lf ws J ∧ RwI a lc g n J ∧ Kp (fun k => k ≠ 49 ∧ k ≠ 50 ∧ k ≠ 52) I J ∧ ∀ i, i < ws.length → J 49 i = I 49 i
theorem choose_ok {a : Ce} {lc : List (Nat × Nat)} {lf : Nat → Nat} {gl : Nat → List Nat} {sn : Nat → Nat} {c n g ce : Nat} {R : Rfs} {L : Lngs} {sx : Sx} (hc : isCel c) (hW : WFc a) (hg : g < (a 4).val) (hE : WFe a lf gl sn) (hR6 : R 48 6 = some c) {I0 : Ints} (hC : CelC a lc c I0 L) (hn : n ≤ 6) (hce : ce < 64) :
    ∀ (rem d : Nat) (ws : List Nat) (I : Ints) (q : Q3), ws.length + rem = n → wsOk a ws → (∀ w, w < (a 3).val → ws.count w ≤ lf w) → LfC a lf ws I → ALo I 49 0 ws → RwI a lc g n I → I 48 5 = nI ce → RwF c I0 I →
      (fS a lc lf g ce rem ws = none → ∀ J, ChP a lc lf g n ws I J → q (some (.int 0)) J L R) → (∀ r, fS a lc lf g ce rem ws = some r → ∀ J, ChP a lc lf g n ws I J → ALo J 49 0 r → q (some (.int 1)) J L R) →
      E0 mX8_choose (d + rem + 6) sx [.ref 48, .int (nI ws.length)] I L R q := by
  have w3 := hW.2.2.2.1
  have w4 := hW.2.2.2.2.1
  have hc' : c = 2 ∨ c = 14 := hc
  intro rem
  induction rem with
  | zero =>
    intro d ws I q hl hws hcn hLf hA hI h5 hF h0 h1
    have hln : ws.length = n := by omega
    have e1 := hI.2.1
    have hwk := wkA_lt hW (lc := lc) (ws := ws) hg
    have hCI := hF.cel hc hC
    refine EX8_choose  ⟨fun c1 => ?_, fun c1 => ?_⟩
    · (try simp (disch := omega) only [nlit, natrem, nIrm, nIam, nIam',  nI_add, pk_mul, nIsub, nIrem, nIdiv, nIand1, nIand3, nIand7, nIand31, nIshr, nIle, nIlt, nIeq, nIc, vpI, nIm1, m1nI, m1lt, nIlm, m1le, nIlem, nIneg, u2_ss, u2_nn, u2_kk, nIm1n, m1nIn, m1ltn, nIlmn, m1len, nIlemn, e1] at c1); (try simp (disch := omega) only [nlit, natrem, nIrm, nIam, nIam',  nI_add, pk_mul, nIsub, nIrem, nIdiv, nIand1, nIand3, nIand7, nIand31, nIshr, nIle, nIlt, nIeq, nIc, vpI, nIm1, m1nI, m1lt, nIlm, m1le, nIlem, nIneg, u2_ss, u2_nn, u2_kk, nIm1n, m1nIn, m1ltn, nIlmn, m1len, nIlemn, e1])
      omega
    · (try simp (disch := omega) only [nlit, natrem, nIrm, nIam, nIam',  nI_add, pk_mul, nIsub, nIrem, nIdiv, nIand1, nIand3, nIand7, nIand31, nIshr, nIle, nIlt, nIeq, nIc, vpI, nIm1, m1nI, m1lt, nIlm, m1le, nIlem, nIneg, u2_ss, u2_nn, u2_kk, nIm1n, m1nIn, m1ltn, nIlmn, m1len, nIlemn, e1] at c1); (try simp (disch := omega) only [nlit, natrem, nIrm, nIam, nIam',  nI_add, pk_mul, nIsub, nIrem, nIdiv, nIand1, nIand3, nIand7, nIand31, nIshr, nIle, nIlt, nIeq, nIc, vpI, nIm1, m1nI, m1lt, nIlm, m1le, nIlem, nIneg, u2_ss, u2_nn, u2_kk, nIm1n, m1nIn, m1ltn, nIlmn, m1len, nIlemn, e1])
      refine endR_ok (ws := ws) hc hW hg hR6 hCI (by rw [hln]; exact hI) hws hA (fun J hJ hFJ => ?_)
      rw [hln] at hJ
      have e5 : J 48 5 = nI ce := by rw [hFJ 48 (by decide)]; exact h5
      have hP : ChP a lc lf g n ws I J := ⟨fun w hw => by rw [hFJ 50 (by decide)]; exact hLf w hw, hJ, hFJ.mn (fun k hk => hk.2.2), fun i _ => by rw [hFJ 49 (by decide)]⟩
      have hAJ : ALo J 49 0 ws := hA.congr (fun i => by rw [hFJ 49 (by decide)])
      unfold fS at h0 h1
      refine RX8_choose_12  ⟨fun c1 => ?_, fun c1 => ?_⟩
      · (try simp (disch := omega) only [nlit, natrem, nIrm, nIam, nIam',  nI_add, pk_mul, nIsub, nIrem, nIdiv, nIand1, nIand3, nIand7, nIand31, nIshr, nIle, nIlt, nIeq, nIc, vpI, nIm1, m1nI, m1lt, nIlm, m1le, nIlem, nIneg, u2_ss, u2_nn, u2_kk, nIm1n, m1nIn, m1ltn, nIlmn, m1len, nIlemn, e5, Nat.reduceMod, Nat.reducePow] at c1); (try simp (disch := omega) only [nlit, natrem, nIrm, nIam, nIam',  nI_add, pk_mul, nIsub, nIrem, nIdiv, nIand1, nIand3, nIand7, nIand31, nIshr, nIle, nIlt, nIeq, nIc, vpI, nIm1, m1nI, m1lt, nIlm, m1le, nIlem, nIneg, u2_ss, u2_nn, u2_kk, nIm1n, m1nIn, m1ltn, nIlmn, m1len, nIlemn, e5, Nat.reduceMod, Nat.reducePow])
        rw [if_neg c1] at h0
        exact h0 rfl J hP
      · (try simp (disch := omega) only [nlit, natrem, nIrm, nIam, nIam',  nI_add, pk_mul, nIsub, nIrem, nIdiv, nIand1, nIand3, nIand7, nIand31, nIshr, nIle, nIlt, nIeq, nIc, vpI, nIm1, m1nI, m1lt, nIlm, m1le, nIlem, nIneg, u2_ss, u2_nn, u2_kk, nIm1n, m1nIn, m1ltn, nIlmn, m1len, nIlemn, e5, Nat.reduceMod, Nat.reducePow] at c1); (try simp (disch := omega) only [nlit, natrem, nIrm, nIam, nIam',  nI_add, pk_mul, nIsub, nIrem, nIdiv, nIand1, nIand3, nIand7, nIand31, nIshr, nIle, nIlt, nIeq, nIc, vpI, nIm1, m1nI, m1lt, nIlm, m1le, nIlem, nIneg, u2_ss, u2_nn, u2_kk, nIm1n, m1nIn, m1ltn, nIlmn, m1len, nIlemn, e5, Nat.reduceMod, Nat.reducePow])
        rw [if_pos c1] at h1
        exact h1 ws rfl J hP hAJ
  | succ rem ih =>
    intro d ws I q hl hws hcn hLf hA hI h5 hF h0 h1
    rw [show d + (rem + 1) + 6 = (d + rem + 6) + 1 by omega]
    have hfs : fS a lc lf g ce (rem + 1) ws = fSP a lc lf g ce rem ws (a 3).val := rfl
    rw [hfs] at h0 h1
    have hlp : ∀ m w : Nat, ∀ J, m = (a 3).val - w → w ≤ (a 3).val → fSP a lc lf g ce rem ws w = none → ChP a lc lf g n ws I J → Y mX8_choose ((d + rem + 6) + 1) sx 29 [(0, .ref 48), (1, .int (nI ws.length)), (2, .int (nI w))] [] J L R q := by
      intro m
      induction m with
      | zero =>
        intro w J hm hw hno hP
        have e : w = (a 3).val := by omega
        subst e
        have hFJ : RwF c I0 J := Kp.tr hF (hP.2.2.1.mn (fun k hk => by omega))
        have e7 := (hFJ.cel hc hC).1.2.2.2.2.1
        refine RX8_choose_29 hc hR6 ⟨fun c1 => ?_, fun c1 => ⟨?_, ⟨fun c2 => ?_, fun c2 => ⟨?_, ⟨?_, ⟨?_, ?_⟩⟩⟩⟩⟩⟩
        · (try simp (disch := omega) only [nlit, natrem, nIrm, nIam, nIam',  nI_add, pk_mul, nIsub, nIrem, nIdiv, nIand1, nIand3, nIand7, nIand31, nIshr, nIle, nIlt, nIeq, nIc, vpI, nIm1, m1nI, m1lt, nIlm, m1le, nIlem, nIneg, u2_ss, u2_nn, u2_kk, nIm1n, m1nIn, m1ltn, nIlmn, m1len, nIlemn, e7] at c1); (try simp (disch := omega) only [nlit, natrem, nIrm, nIam, nIam',  nI_add, pk_mul, nIsub, nIrem, nIdiv, nIand1, nIand3, nIand7, nIand31, nIshr, nIle, nIlt, nIeq, nIc, vpI, nIm1, m1nI, m1lt, nIlm, m1le, nIlem, nIneg, u2_ss, u2_nn, u2_kk, nIm1n, m1nIn, m1ltn, nIlmn, m1len, nIlemn, e7])
          exact h0 hno J hP
        · (try simp (disch := omega) only [nlit, natrem, nIrm, nIam, nIam',  nI_add, pk_mul, nIsub, nIrem, nIdiv, nIand1, nIand3, nIand7, nIand31, nIshr, nIle, nIlt, nIeq, nIc, vpI, nIm1, m1nI, m1lt, nIlm, m1le, nIlem, nIneg, u2_ss, u2_nn, u2_kk, nIm1n, m1nIn, m1ltn, nIlmn, m1len, nIlemn, e7] at c1) <;> (try simp (disch := omega) only [nlit, natrem, nIrm, nIam, nIam',  nI_add, pk_mul, nIsub, nIrem, nIdiv, nIand1, nIand3, nIand7, nIand31, nIshr, nIle, nIlt, nIeq, nIc, vpI, nIm1, m1nI, m1lt, nIlm, m1le, nIlem, nIneg, u2_ss, u2_nn, u2_kk, nIm1n, m1nIn, m1ltn, nIlmn, m1len, nIlemn, e7]) <;> (first | omega | trivial)
        · (try simp (disch := omega) only [nlit, natrem, nIrm, nIam, nIam',  nI_add, pk_mul, nIsub, nIrem, nIdiv, nIand1, nIand3, nIand7, nIand31, nIshr, nIle, nIlt, nIeq, nIc, vpI, nIm1, m1nI, m1lt, nIlm, m1le, nIlem, nIneg, u2_ss, u2_nn, u2_kk, nIm1n, m1nIn, m1ltn, nIlmn, m1len, nIlemn, e7] at c1 c2) <;> (first | omega | exact absurd rfl c1 | exact absurd trivial c1 | exact absurd rfl c2 | exact absurd trivial c2)
        · (try simp (disch := omega) only [nlit, natrem, nIrm, nIam, nIam',  nI_add, pk_mul, nIsub, nIrem, nIdiv, nIand1, nIand3, nIand7, nIand31, nIshr, nIle, nIlt, nIeq, nIc, vpI, nIm1, m1nI, m1lt, nIlm, m1le, nIlem, nIneg, u2_ss, u2_nn, u2_kk, nIm1n, m1nIn, m1ltn, nIlmn, m1len, nIlemn, e7] at c1 c2) <;> (try simp (disch := omega) only [nlit, natrem, nIrm, nIam, nIam',  nI_add, pk_mul, nIsub, nIrem, nIdiv, nIand1, nIand3, nIand7, nIand31, nIshr, nIle, nIlt, nIeq, nIc, vpI, nIm1, m1nI, m1lt, nIlm, m1le, nIlem, nIneg, u2_ss, u2_nn, u2_kk, nIm1n, m1nIn, m1ltn, nIlmn, m1len, nIlemn, e7]) <;> (first | omega | trivial)
        · (try simp (disch := omega) only [nlit, natrem, nIrm, nIam, nIam',  nI_add, pk_mul, nIsub, nIrem, nIdiv, nIand1, nIand3, nIand7, nIand31, nIshr, nIle, nIlt, nIeq, nIc, vpI, nIm1, m1nI, m1lt, nIlm, m1le, nIlem, nIneg, u2_ss, u2_nn, u2_kk, nIm1n, m1nIn, m1ltn, nIlmn, m1len, nIlemn, e7] at c1 c2) <;> (try simp (disch := omega) only [nlit, natrem, nIrm, nIam, nIam',  nI_add, pk_mul, nIsub, nIrem, nIdiv, nIand1, nIand3, nIand7, nIand31, nIshr, nIle, nIlt, nIeq, nIc, vpI, nIm1, m1nI, m1lt, nIlm, m1le, nIlem, nIneg, u2_ss, u2_nn, u2_kk, nIm1n, m1nIn, m1ltn, nIlmn, m1len, nIlemn, e7]) <;> (first | omega | trivial)
        · (try simp (disch := omega) only [nlit, natrem, nIrm, nIam, nIam',  nI_add, pk_mul, nIsub, nIrem, nIdiv, nIand1, nIand3, nIand7, nIand31, nIshr, nIle, nIlt, nIeq, nIc, vpI, nIm1, m1nI, m1lt, nIlm, m1le, nIlem, nIneg, u2_ss, u2_nn, u2_kk, nIm1n, m1nIn, m1ltn, nIlmn, m1len, nIlemn, e7] at c1 c2) <;> (try simp (disch := omega) only [nlit, natrem, nIrm, nIam, nIam',  nI_add, pk_mul, nIsub, nIrem, nIdiv, nIand1, nIand3, nIand7, nIand31, nIshr, nIle, nIlt, nIeq, nIc, vpI, nIm1, m1nI, m1lt, nIlm, m1le, nIlem, nIneg, u2_ss, u2_nn, u2_kk, nIm1n, m1nIn, m1ltn, nIlmn, m1len, nIlemn, e7]) <;> (first | omega | trivial)
        · (try simp (disch := omega) only [nlit, natrem, nIrm, nIam, nIam',  nI_add, pk_mul, nIsub, nIrem, nIdiv, nIand1, nIand3, nIand7, nIand31, nIshr, nIle, nIlt, nIeq, nIc, vpI, nIm1, m1nI, m1lt, nIlm, m1le, nIlem, nIneg, u2_ss, u2_nn, u2_kk, nIm1n, m1nIn, m1ltn, nIlmn, m1len, nIlemn, e7] at c1 c2) <;> (first | omega | exact absurd rfl c1 | exact absurd trivial c1 | exact absurd rfl c2 | exact absurd trivial c2)
      | succ m ihm =>
        intro w J hm hw hno hP
        have hFJ : RwF c I0 J := Kp.tr hF (hP.2.2.1.mn (fun k hk => by omega))
        have e7 := (hFJ.cel hc hC).1.2.2.2.2.1
        have e50 := hP.1 w (by omega)
        have h99 := hE.1 w (by omega)
        have hstep := fSP_s (a := a) (lc := lc) (lf := lf) (g := g) (ce := ce) (rem := rem) (ws := ws) w
        rw [hno] at hstep
        have hnx := ihm (w + 1)
        refine RX8_choose_29 hc hR6 ⟨fun c1 => ?_, fun c1 => ⟨?_, ⟨fun c2 => ?_, fun c2 => ⟨?_, ⟨?_, ⟨?_, ?_⟩⟩⟩⟩⟩⟩
        · (try simp (disch := omega) only [nlit, natrem, nIrm, nIam, nIam',  nI_add, pk_mul, nIsub, nIrem, nIdiv, nIand1, nIand3, nIand7, nIand31, nIshr, nIle, nIlt, nIeq, nIc, vpI, nIm1, m1nI, m1lt, nIlm, m1le, nIlem, nIneg, u2_ss, u2_nn, u2_kk, nIm1n, m1nIn, m1ltn, nIlmn, m1len, nIlemn, e7, e50] at c1); (try simp (disch := omega) only [nlit, natrem, nIrm, nIam, nIam',  nI_add, pk_mul, nIsub, nIrem, nIdiv, nIand1, nIand3, nIand7, nIand31, nIshr, nIle, nIlt, nIeq, nIc, vpI, nIm1, m1nI, m1lt, nIlm, m1le, nIlem, nIneg, u2_ss, u2_nn, u2_kk, nIm1n, m1nIn, m1ltn, nIlmn, m1len, nIlemn, e7, e50])
          omega
        · (try simp (disch := omega) only [nlit, natrem, nIrm, nIam, nIam',  nI_add, pk_mul, nIsub, nIrem, nIdiv, nIand1, nIand3, nIand7, nIand31, nIshr, nIle, nIlt, nIeq, nIc, vpI, nIm1, m1nI, m1lt, nIlm, m1le, nIlem, nIneg, u2_ss, u2_nn, u2_kk, nIm1n, m1nIn, m1ltn, nIlmn, m1len, nIlemn, e7, e50] at c1) <;> (try simp (disch := omega) only [nlit, natrem, nIrm, nIam, nIam',  nI_add, pk_mul, nIsub, nIrem, nIdiv, nIand1, nIand3, nIand7, nIand31, nIshr, nIle, nIlt, nIeq, nIc, vpI, nIm1, m1nI, m1lt, nIlm, m1le, nIlem, nIneg, u2_ss, u2_nn, u2_kk, nIm1n, m1nIn, m1ltn, nIlmn, m1len, nIlemn, e7, e50]) <;> (first | omega | trivial)
        · (try simp (disch := omega) only [nlit, natrem, nIrm, nIam, nIam',  nI_add, pk_mul, nIsub, nIrem, nIdiv, nIand1, nIand3, nIand7, nIand31, nIshr, nIle, nIlt, nIeq, nIc, vpI, nIm1, m1nI, m1lt, nIlm, m1le, nIlem, nIneg, u2_ss, u2_nn, u2_kk, nIm1n, m1nIn, m1ltn, nIlmn, m1len, nIlemn, e7, e50] at c1 c2); (try simp (disch := omega) only [nlit, natrem, nIrm, nIam, nIam',  nI_add, pk_mul, nIsub, nIrem, nIdiv, nIand1, nIand3, nIand7, nIand31, nIshr, nIle, nIlt, nIeq, nIc, vpI, nIm1, m1nI, m1lt, nIlm, m1le, nIlem, nIneg, u2_ss, u2_nn, u2_kk, nIm1n, m1nIn, m1ltn, nIlmn, m1len, nIlemn, e7, e50])
          refine hnx J (by omega) (by omega) ?_ hP
          rw [hstep, if_neg (by omega)]
          rfl
        · (try simp (disch := omega) only [nlit, natrem, nIrm, nIam, nIam',  nI_add, pk_mul, nIsub, nIrem, nIdiv, nIand1, nIand3, nIand7, nIand31, nIshr, nIle, nIlt, nIeq, nIc, vpI, nIm1, m1nI, m1lt, nIlm, m1le, nIlem, nIneg, u2_ss, u2_nn, u2_kk, nIm1n, m1nIn, m1ltn, nIlmn, m1len, nIlemn, e7, e50] at c1 c2) <;> (try simp (disch := omega) only [nlit, natrem, nIrm, nIam, nIam',  nI_add, pk_mul, nIsub, nIrem, nIdiv, nIand1, nIand3, nIand7, nIand31, nIshr, nIle, nIlt, nIeq, nIc, vpI, nIm1, m1nI, m1lt, nIlm, m1le, nIlem, nIneg, u2_ss, u2_nn, u2_kk, nIm1n, m1nIn, m1ltn, nIlmn, m1len, nIlemn, e7, e50]) <;> (first | omega | trivial)
        · (try simp (disch := omega) only [nlit, natrem, nIrm, nIam, nIam',  nI_add, pk_mul, nIsub, nIrem, nIdiv, nIand1, nIand3, nIand7, nIand31, nIshr, nIle, nIlt, nIeq, nIc, vpI, nIm1, m1nI, m1lt, nIlm, m1le, nIlem, nIneg, u2_ss, u2_nn, u2_kk, nIm1n, m1nIn, m1ltn, nIlmn, m1len, nIlemn, e7, e50] at c1 c2) <;> (try simp (disch := omega) only [nlit, natrem, nIrm, nIam, nIam',  nI_add, pk_mul, nIsub, nIrem, nIdiv, nIand1, nIand3, nIand7, nIand31, nIshr, nIle, nIlt, nIeq, nIc, vpI, nIm1, m1nI, m1lt, nIlm, m1le, nIlem, nIneg, u2_ss, u2_nn, u2_kk, nIm1n, m1nIn, m1ltn, nIlmn, m1len, nIlemn, e7, e50]) <;> (first | omega | trivial)
        · (try simp (disch := omega) only [nlit, natrem, nIrm, nIam, nIam',  nI_add, pk_mul, nIsub, nIrem, nIdiv, nIand1, nIand3, nIand7, nIand31, nIshr, nIle, nIlt, nIeq, nIc, vpI, nIm1, m1nI, m1lt, nIlm, m1le, nIlem, nIneg, u2_ss, u2_nn, u2_kk, nIm1n, m1nIn, m1ltn, nIlmn, m1len, nIlemn, e7, e50] at c1 c2) <;> (try simp (disch := omega) only [nlit, natrem, nIrm, nIam, nIam',  nI_add, pk_mul, nIsub, nIrem, nIdiv, nIand1, nIand3, nIand7, nIand31, nIshr, nIle, nIlt, nIeq, nIc, vpI, nIm1, m1nI, m1lt, nIlm, m1le, nIlem, nIneg, u2_ss, u2_nn, u2_kk, nIm1n, m1nIn, m1ltn, nIlmn, m1len, nIlemn, e7, e50]) <;> (first | omega | trivial)
        · (try simp (disch := omega) only [nlit, natrem, nIrm, nIam, nIam',  nI_add, pk_mul, nIsub, nIrem, nIdiv, nIand1, nIand3, nIand7, nIand31, nIshr, nIle, nIlt, nIeq, nIc, vpI, nIm1, m1nI, m1lt, nIlm, m1le, nIlem, nIneg, u2_ss, u2_nn, u2_kk, nIm1n, m1nIn, m1ltn, nIlmn, m1len, nIlemn, e7, e50] at c1 c2); (try simp (disch := omega) only [nlit, natrem, nIrm, nIam, nIam',  nI_add, pk_mul, nIsub, nIrem, nIdiv, nIand1, nIand3, nIand7, nIand31, nIshr, nIle, nIlt, nIeq, nIc, vpI, nIm1, m1nI, m1lt, nIlm, m1le, nIlem, nIneg, u2_ss, u2_nn, u2_kk, nIm1n, m1nIn, m1ltn, nIlmn, m1len, nIlemn, e7, e50])
          rw [if_pos (by omega)] at hstep
          have hstep : fSP a lc lf g ce rem ws (w + 1) = fS a lc lf g ce rem (ws ++ [w]) := hstep
          have hlen : (ws ++ [w]).length = ws.length + 1 := by rw [List.length_append, List.length_singleton]
          have hcw : ∀ x, (ws ++ [w]).count x = ws.count x + (if x = w then 1 else 0) := by
            intro x
            rw [List.count_append]
            congr 1
            by_cases e : x = w
            · rw [if_pos e, e, List.count_singleton_self]
            · rw [if_neg e, List.count_eq_zero.mpr (fun hm => e (List.mem_singleton.mp hm))]
          rw [← hlen]
          refine ih d (ws ++ [w]) _ _ (by rw [hlen]; omega) ⟨by rw [hlen]; omega, fun i hi => ?_⟩ (fun x hx => ?_) (fun x hx => ?_) ?_ (hP.2.1.fr ?_ ?_ ?_ ?_) ?_ ?_ (fun hn0 K hK => ?_) (fun r hr K hK hKr => ?_)
          · rw [hlen] at hi
            by_cases e : i = ws.length
            · rw [e, getD_r (Nat.le_refl _), Nat.sub_self]; show w < _; omega
            · rw [getD_l (by omega)]; exact hws.2 i (by omega)
          · rw [hcw]
            have := hcn x hx
            split
            · rename_i e; subst e; omega
            · exact this
          · rw [u2_nn _ _ _ _ (by decide), hcw]
            by_cases e : x = w
            · subst e
              rw [u2_ss, if_pos rfl]
              congr 1
            · rw [u2_kk _ _ _ _ e, if_neg e, Nat.add_zero]; exact hP.1 x hx
          · refine ALo.push (l := ws) ?_ (by omega)
            intro i hi
            rw [Nat.zero_add, u2_nn _ _ _ _ (by decide), hP.2.2.2 i hi]
            have := hA i hi
            rw [Nat.zero_add] at this
            exact this
          · rw [u2_nn _ _ _ _ (by decide), u2_nn _ _ _ _ (by decide)]
          · rw [u2_nn _ _ _ _ (by decide), u2_nn _ _ _ _ (by decide)]
          · intro i; rw [u2_nn _ _ _ _ (by decide), u2_nn _ _ _ _ (by decide)]
          · intro i; rw [u2_nn _ _ _ _ (by decide), u2_nn _ _ _ _ (by decide)]
          · rw [u2_nn _ _ _ _ (by decide), u2_nn _ _ _ _ (by decide), hP.2.2.1 48 (by decide)]; exact h5
          · exact (hFJ.up (by omega)).up (by omega)
          · skip
            have hKF : Kp (fun k => k ≠ 49 ∧ k ≠ 50 ∧ k ≠ 52) I (u2 K 50 w (nI (lf w - ws.count w))) := (Kp.tr (Kp.tr hP.2.2.1 ((Kp.rf.up (by simp)).up (by simp))) hK.2.2.1).up (by simp)
            have hK50 := hK.1 w (by omega)
            rw [hcw, if_pos rfl] at hK50
            have hPK : ChP a lc lf g n ws I (u2 K 50 w (nI (lf w - ws.count w))) := by
              refine ⟨fun x hx => ?_, hK.2.1.fr (u2_nn _ _ _ _ (by decide)) (u2_nn _ _ _ _ (by decide)) (fun i => u2_nn _ _ _ _ (by decide)) (fun i => u2_nn _ _ _ _ (by decide)), hKF, fun i hi => ?_⟩
              · by_cases e : x = w
                · rw [e, u2_ss]
                · rw [u2_kk _ _ _ _ e, hK.1 x hx, hcw, if_neg e]; rfl
              · rw [u2_nn _ _ _ _ (by decide), hK.2.2.2 i (by rw [hlen]; omega), u2_kk _ _ _ _ (by omega), u2_nn _ _ _ _ (by decide)]
                exact hP.2.2.2 i hi
            have ead : lf w - (ws.count w + 1) + 1 = lf w - ws.count w := by omega
            refine RX8_choose_73  ⟨?_, ⟨?_, ⟨fun c1 => ?_, fun c1 => ?_⟩⟩⟩
            · (try simp (disch := omega) only [nlit, natrem, nIrm, nIam, nIam',  nI_add, pk_mul, nIsub, nIrem, nIdiv, nIand1, nIand3, nIand7, nIand31, nIshr, nIle, nIlt, nIeq, nIc, vpI, nIm1, m1nI, m1lt, nIlm, m1le, nIlem, nIneg, u2_ss, u2_nn, u2_kk, nIm1n, m1nIn, m1ltn, nIlmn, m1len, nIlemn, hK50, ead]) <;> (first | omega | trivial)
            · (try simp (disch := omega) only [nlit, natrem, nIrm, nIam, nIam',  nI_add, pk_mul, nIsub, nIrem, nIdiv, nIand1, nIand3, nIand7, nIand31, nIshr, nIle, nIlt, nIeq, nIc, vpI, nIm1, m1nI, m1lt, nIlm, m1le, nIlem, nIneg, u2_ss, u2_nn, u2_kk, nIm1n, m1nIn, m1ltn, nIlmn, m1len, nIlemn, hK50, ead]) <;> (first | omega | trivial)
            · (try simp (disch := omega) only [nlit, natrem, nIrm, nIam, nIam',  nI_add, pk_mul, nIsub, nIrem, nIdiv, nIand1, nIand3, nIand7, nIand31, nIshr, nIle, nIlt, nIeq, nIc, vpI, nIm1, m1nI, m1lt, nIlm, m1le, nIlem, nIneg, u2_ss, u2_nn, u2_kk, nIm1n, m1nIn, m1ltn, nIlmn, m1len, nIlemn, hK50, ead] at c1); (try simp (disch := omega) only [nlit, natrem, nIrm, nIam, nIam',  nI_add, pk_mul, nIsub, nIrem, nIdiv, nIand1, nIand3, nIand7, nIand31, nIshr, nIle, nIlt, nIeq, nIc, vpI, nIm1, m1nI, m1lt, nIlm, m1le, nIlem, nIneg, u2_ss, u2_nn, u2_kk, nIm1n, m1nIn, m1ltn, nIlmn, m1len, nIlemn, hK50, ead])
              exact hnx _ (by omega) (by omega) (by rw [hstep]; exact hn0) hPK
            · (try simp (disch := omega) only [nlit, natrem, nIrm, nIam, nIam',  nI_add, pk_mul, nIsub, nIrem, nIdiv, nIand1, nIand3, nIand7, nIand31, nIshr, nIle, nIlt, nIeq, nIc, vpI, nIm1, m1nI, m1lt, nIlm, m1le, nIlem, nIneg, u2_ss, u2_nn, u2_kk, nIm1n, m1nIn, m1ltn, nIlmn, m1len, nIlemn, hK50, ead] at c1) <;> (first | omega | exact absurd rfl c1 | exact absurd trivial c1)
          · skip
            have hKF : Kp (fun k => k ≠ 49 ∧ k ≠ 50 ∧ k ≠ 52) I (u2 K 50 w (nI (lf w - ws.count w))) := (Kp.tr (Kp.tr hP.2.2.1 ((Kp.rf.up (by simp)).up (by simp))) hK.2.2.1).up (by simp)
            have hK50 := hK.1 w (by omega)
            rw [hcw, if_pos rfl] at hK50
            have hPK : ChP a lc lf g n ws I (u2 K 50 w (nI (lf w - ws.count w))) := by
              refine ⟨fun x hx => ?_, hK.2.1.fr (u2_nn _ _ _ _ (by decide)) (u2_nn _ _ _ _ (by decide)) (fun i => u2_nn _ _ _ _ (by decide)) (fun i => u2_nn _ _ _ _ (by decide)), hKF, fun i hi => ?_⟩
              · by_cases e : x = w
                · rw [e, u2_ss]
                · rw [u2_kk _ _ _ _ e, hK.1 x hx, hcw, if_neg e]; rfl
              · rw [u2_nn _ _ _ _ (by decide), hK.2.2.2 i (by rw [hlen]; omega), u2_kk _ _ _ _ (by omega), u2_nn _ _ _ _ (by decide)]
                exact hP.2.2.2 i hi
            have ead : lf w - (ws.count w + 1) + 1 = lf w - ws.count w := by omega
            refine RX8_choose_73  ⟨?_, ⟨?_, ⟨fun c1 => ?_, fun c1 => ?_⟩⟩⟩
            · (try simp (disch := omega) only [nlit, natrem, nIrm, nIam, nIam',  nI_add, pk_mul, nIsub, nIrem, nIdiv, nIand1, nIand3, nIand7, nIand31, nIshr, nIle, nIlt, nIeq, nIc, vpI, nIm1, m1nI, m1lt, nIlm, m1le, nIlem, nIneg, u2_ss, u2_nn, u2_kk, nIm1n, m1nIn, m1ltn, nIlmn, m1len, nIlemn, hK50, ead]) <;> (first | omega | trivial)
            · (try simp (disch := omega) only [nlit, natrem, nIrm, nIam, nIam',  nI_add, pk_mul, nIsub, nIrem, nIdiv, nIand1, nIand3, nIand7, nIand31, nIshr, nIle, nIlt, nIeq, nIc, vpI, nIm1, m1nI, m1lt, nIlm, m1le, nIlem, nIneg, u2_ss, u2_nn, u2_kk, nIm1n, m1nIn, m1ltn, nIlmn, m1len, nIlemn, hK50, ead]) <;> (first | omega | trivial)
            · (try simp (disch := omega) only [nlit, natrem, nIrm, nIam, nIam',  nI_add, pk_mul, nIsub, nIrem, nIdiv, nIand1, nIand3, nIand7, nIand31, nIshr, nIle, nIlt, nIeq, nIc, vpI, nIm1, m1nI, m1lt, nIlm, m1le, nIlem, nIneg, u2_ss, u2_nn, u2_kk, nIm1n, m1nIn, m1ltn, nIlmn, m1len, nIlemn, hK50, ead] at c1) <;> (first | omega | exact absurd rfl c1 | exact absurd trivial c1)
            · (try simp (disch := omega) only [nlit, natrem, nIrm, nIam, nIam',  nI_add, pk_mul, nIsub, nIrem, nIdiv, nIand1, nIand3, nIand7, nIand31, nIshr, nIle, nIlt, nIeq, nIc, vpI, nIm1, m1nI, m1lt, nIlm, m1le, nIlem, nIneg, u2_ss, u2_nn, u2_kk, nIm1n, m1nIn, m1ltn, nIlmn, m1len, nIlemn, hK50, ead] at c1); (try simp (disch := omega) only [nlit, natrem, nIrm, nIam, nIam',  nI_add, pk_mul, nIsub, nIrem, nIdiv, nIand1, nIand3, nIand7, nIand31, nIshr, nIle, nIlt, nIeq, nIc, vpI, nIm1, m1nI, m1lt, nIlm, m1le, nIlem, nIneg, u2_ss, u2_nn, u2_kk, nIm1n, m1nIn, m1ltn, nIlmn, m1len, nIlemn, hK50, ead])
              exact h1 r (fSP_some (by rw [hstep]; exact hr) _ (by omega)) _ hPK (hKr.congr (fun i => u2_nn _ _ _ _ (by decide)))
    have e1 := hI.2.1
    refine EX8_choose  ⟨fun c1 => ?_, fun c1 => ?_⟩
    · (try simp (disch := omega) only [nlit, natrem, nIrm, nIam, nIam',  nI_add, pk_mul, nIsub, nIrem, nIdiv, nIand1, nIand3, nIand7, nIand31, nIshr, nIle, nIlt, nIeq, nIc, vpI, nIm1, m1nI, m1lt, nIlm, m1le, nIlem, nIneg, u2_ss, u2_nn, u2_kk, nIm1n, m1nIn, m1ltn, nIlmn, m1len, nIlemn, e1] at c1); (try simp (disch := omega) only [nlit, natrem, nIrm, nIam, nIam',  nI_add, pk_mul, nIsub, nIrem, nIdiv, nIand1, nIand3, nIand7, nIand31, nIshr, nIle, nIlt, nIeq, nIc, vpI, nIm1, m1nI, m1lt, nIlm, m1le, nIlem, nIneg, u2_ss, u2_nn, u2_kk, nIm1n, m1nIn, m1ltn, nIlmn, m1len, nIlemn, e1])
      exact hlp _ 0 I rfl (Nat.zero_le _) rfl ⟨hLf, hI, Kp.rf, fun i _ => rfl⟩
    · (try simp (disch := omega) only [nlit, natrem, nIrm, nIam, nIam',  nI_add, pk_mul, nIsub, nIrem, nIdiv, nIand1, nIand3, nIand7, nIand31, nIshr, nIle, nIlt, nIeq, nIc, vpI, nIm1, m1nI, m1lt, nIlm, m1le, nIlem, nIneg, u2_ss, u2_nn, u2_kk, nIm1n, m1nIn, m1ltn, nIlmn, m1len, nIlemn, e1] at c1); (try simp (disch := omega) only [nlit, natrem, nIrm, nIam, nIam',  nI_add, pk_mul, nIsub, nIrem, nIdiv, nIand1, nIand3, nIand7, nIand31, nIshr, nIle, nIlt, nIeq, nIc, vpI, nIm1, m1nI, m1lt, nIlm, m1le, nIlem, nIneg, u2_ss, u2_nn, u2_kk, nIm1n, m1nIn, m1ltn, nIlmn, m1len, nIlemn, e1])
      omega
