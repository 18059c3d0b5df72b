/-! what is kept -/
def Fr (As : List Nat) (Fs : List (Nat × Nat)) (I J : Ints) : Prop := ∀ k i, As.contains k = false → Fs.contains (k, i) = false → J k i = I k i
theorem Fr.rf {As : List Nat} {Fs : List (Nat × Nat)} {I : Ints} : Fr As Fs I I := fun _ _ _ _ => rfl
theorem Fr.tr {As : List Nat} {Fs : List (Nat × Nat)} {I J K : Ints} (h1 : Fr As Fs I J) (h2 : Fr As Fs J K) : Fr As Fs I K := fun k i a b => (h2 k i a b).trans (h1 k i a b)
theorem Fr.mn {As As' : List Nat} {Fs Fs' : List (Nat × Nat)} {I J : Ints} (h : Fr As Fs I J) (ha : (As.all fun x => As'.contains x) = true) (hf : (Fs.all fun x => Fs'.contains x || As'.contains x.1) = true) : Fr As' Fs' I J := by
  intro k i h1 h2
  refine h k i ?_ ?_
  · cases hc : As.contains k with
    | false => rfl
    | true =>
      have := List.all_eq_true.mp ha k (List.contains_iff_mem.mp hc)
      rw [h1] at this
      exact this.symm
  · cases hc : Fs.contains (k, i) with
    | false => rfl
    | true =>
      have := List.all_eq_true.mp hf (k, i) (List.contains_iff_mem.mp hc)
      rw [h2, h1] at this
      exact this.symm
theorem Fr.uf {As : List Nat} {Fs : List (Nat × Nat)} {I J : Ints} (h : Fr As Fs I J) {o k : Nat} {v : Int32} (hc : Fs.contains (o, k) = true) : Fr As Fs I (u2 J o k v) := by
  intro a b h1 h2
  rw [← h a b h1 h2]
  unfold u2
  by_cases ha : a = o
  · by_cases hb : b = k
    · subst ha; subst hb; rw [hc] at h2; cases h2
    · rw [if_pos ha, if_neg hb]
  · rw [if_neg ha]
theorem Fr.ua {As : List Nat} {Fs : List (Nat × Nat)} {I J : Ints} (h : Fr As Fs I J) {o k : Nat} {v : Int32} (hc : As.contains o = true) : Fr As Fs I (u2 J o k v) := by
  intro a b h1 h2
  rw [← h a b h1 h2]
  unfold u2
  by_cases ha : a = o
  · subst ha; rw [hc] at h1; cases h1
  · rw [if_neg ha]
/-! the cellar, and the model's cells that hold it -/
def dL (a : Ce) (d : Nat) : Fin 128 := a (71 + 9 * d)
def dS (a : Ce) (d s : Nat) : Fin 128 := a (72 + 9 * d + s)
def wG (a : Ce) (w : Nat) : Fin 128 := a (125 + 8 * w)
def wM (a : Ce) (w : Nat) : Fin 128 := a (126 + 8 * w)
def wD (a : Ce) (w k : Nat) : Fin 128 := a (127 + 8 * w + 2 * k)
def wT (a : Ce) (w k : Nat) : Fin 128 := a (128 + 8 * w + 2 * k)
def gK (a : Ce) (g : Nat) : Fin 128 := a (173 + 4 * g)
def gC (a : Ce) (g : Nat) : Fin 128 := a (174 + 4 * g)
def gW (a : Ce) (g : Nat) : Fin 128 := a (175 + 4 * g)
def gA (a : Ce) (g : Nat) : Fin 128 := a (176 + 4 * g)
def CelM (a : Ce) (I : Ints) : Prop := ∀ k, k < 204 → k ≠ 6 → I 98 k = nI (a k).val
theorem CelM.fr {a : Ce} {I J : Ints} {As : List Nat} {Fs : List (Nat × Nat)} (h : CelM a I) (hF : Fr As Fs I J) (h1 : As.contains 98 = false) (h2 : (Fs.all fun x => x.1 != 98) = true) : CelM a J := by
  intro k hk h6
  rw [hF 98 k h1 ?_]
  · exact h k hk h6
  · cases hc : Fs.contains (98, k) with
    | false => rfl
    | true =>
      have := List.all_eq_true.mp h2 _ (List.contains_iff_mem.mp hc)
      simp at this
theorem CelM.ix {a : Ce} {I : Ints} (h : CelM a I) {k j : Nat} (e : k = j) (hk : j < 204) (h6 : j ≠ 6) : I 98 k = nI (a j).val := by rw [e]; exact h j hk h6
theorem cm_n {a : Ce} {I : Ints} (h : CelM a I) (k : Nat) (hk : k < 204) (h6 : k ≠ 6) : I 98 k = nI (a k).val := h k hk h6
theorem cm_dL {a : Ce} {I : Ints} (h : CelM a I) {d : Nat} (hd : d < 6) : I 98 (71 + 9 * d) = nI (dL a d).val := h.ix rfl (by omega) (by omega)
theorem cm_dS {a : Ce} {I : Ints} (h : CelM a I) {d s : Nat} (hd : d < 6) (hs : s < 8) : I 98 (71 + 9 * d + 1 + s) = nI (dS a d s).val := h.ix (by omega) (by omega) (by omega)
theorem cm_wG {a : Ce} {I : Ints} (h : CelM a I) {w : Nat} (hw : w < 6) : I 98 (125 + 8 * w) = nI (wG a w).val := h.ix rfl (by omega) (by omega)
theorem cm_wM {a : Ce} {I : Ints} (h : CelM a I) {w : Nat} (hw : w < 6) : I 98 (125 + 8 * w + 1) = nI (wM a w).val := h.ix (by omega) (by omega) (by omega)
theorem cm_wD {a : Ce} {I : Ints} (h : CelM a I) {w k : Nat} (hw : w < 6) (hk : k < 3) : I 98 (125 + 8 * w + 2 + 2 * k) = nI (wD a w k).val := h.ix (by omega) (by omega) (by omega)
theorem cm_wT {a : Ce} {I : Ints} (h : CelM a I) {w k : Nat} (hw : w < 6) (hk : k < 3) : I 98 (125 + 8 * w + 3 + 2 * k) = nI (wT a w k).val := h.ix (by omega) (by omega) (by omega)
theorem cm_gK {a : Ce} {I : Ints} (h : CelM a I) {g : Nat} (hg : g < 6) : I 98 (173 + 4 * g + 0) = nI (gK a g).val := h.ix (by omega) (by omega) (by omega)
theorem cm_gC {a : Ce} {I : Ints} (h : CelM a I) {g : Nat} (hg : g < 6) : I 98 (173 + 4 * g + 1) = nI (gC a g).val := h.ix (by omega) (by omega) (by omega)
theorem cm_gW {a : Ce} {I : Ints} (h : CelM a I) {g : Nat} (hg : g < 6) : I 98 (173 + 4 * g + 2) = nI (gW a g).val := h.ix (by omega) (by omega) (by omega)
theorem cm_gA {a : Ce} {I : Ints} (h : CelM a I) {g : Nat} (hg : g < 6) : I 98 (173 + 4 * g + 3) = nI (gA a g).val := h.ix (by omega) (by omega) (by omega)
theorem cm_pi {a : Ce} {I : Ints} (h : CelM a I) {x y : Nat} (hc : 8 * y + x < 64) : I 98 (7 + 8 * y + x) = nI (a (7 + (8 * y + x))).val := h.ix (by omega) (by omega) (by omega)
def WFc (a : Ce) : Prop :=
  (2 ≤ (a 0).val ∧ (a 0).val ≤ 8) ∧ (2 ≤ (a 1).val ∧ (a 1).val ≤ 8) ∧ (a 2).val ≤ 6 ∧ (a 3).val ≤ 6 ∧ (a 4).val ≤ 6 ∧ (a 5).val < 64 ∧
  (∀ c, c < 64 → (a (7 + c)).val ≤ 1) ∧
  (∀ d, d < (a 2).val → 1 ≤ (dL a d).val ∧ (dL a d).val ≤ 8 ∧ ∀ s, s < 8 → (dS a d s).val ≤ 4) ∧
  (∀ w, w < (a 3).val → (wG a w).val ≤ 99 ∧ 1 ≤ (wM a w).val ∧ (wM a w).val ≤ 3 ∧ ∀ k, k < (wM a w).val → (wD a w k).val < (a 2).val ∧ 1 ≤ (wT a w k).val ∧ (wT a w k).val ≤ 4) ∧
  (∀ g, g < (a 4).val → (gK a g).val ≤ 4 ∧ ((gC a g).val < 64 ∧ (gC a g).val % 8 < (a 0).val ∧ (gC a g).val / 8 < (a 1).val) ∧ (gW a g).val ≤ 3 ∧ (gA a g).val ≤ 99) ∧
  (∀ w, w < 6 → (a 3).val ≤ w → (wG a w).val = 0)
theorem guestK_ok {d : Nat} {sx : Sx} {I : Ints} {L : Lngs} {R : Rfs} {q : Q3} {a : Ce} (hM : CelM a I) {g : Nat} (hg : g < 6) (h : q (some (.int (nI (gK a g).val))) I L R) : E0 mX12_guestOf (d + 1) sx [.ref 92, .int (nI g), .int 0] I L R q := by
  refine EX12_guestOf ⟨?_, ?_⟩
  · simp (disch := omega) only [nlit, natrem, nI_add, pk_mul, nIsub, nIrem, nIdiv, nIand1, nIand3, nIand7, nIand31, nIshr, nIle, nIlt, nIeq, nIc, vpI, nIm1, m1nI, m1lt, nIlm, m1le, nIlem, nIneg, u2_ss, u2_nn, u2_kk]; omega
  · simp (disch := omega) only [nlit, natrem, nI_add, pk_mul, nIsub, nIrem, nIdiv, nIand1, nIand3, nIand7, nIand31, nIshr, nIle, nIlt, nIeq, nIc, vpI, nIm1, m1nI, m1lt, nIlm, m1le, nIlem, nIneg, u2_ss, u2_nn, u2_kk]
    rw [cm_gK hM hg]
    exact h
theorem guestC_ok {d : Nat} {sx : Sx} {I : Ints} {L : Lngs} {R : Rfs} {q : Q3} {a : Ce} (hM : CelM a I) {g : Nat} (hg : g < 6) (h : q (some (.int (nI (gC a g).val))) I L R) : E0 mX12_guestOf (d + 1) sx [.ref 92, .int (nI g), .int 1] I L R q := by
  refine EX12_guestOf ⟨?_, ?_⟩
  · simp (disch := omega) only [nlit, natrem, nI_add, pk_mul, nIsub, nIrem, nIdiv, nIand1, nIand3, nIand7, nIand31, nIshr, nIle, nIlt, nIeq, nIc, vpI, nIm1, m1nI, m1lt, nIlm, m1le, nIlem, nIneg, u2_ss, u2_nn, u2_kk]; omega
  · simp (disch := omega) only [nlit, natrem, nI_add, pk_mul, nIsub, nIrem, nIdiv, nIand1, nIand3, nIand7, nIand31, nIshr, nIle, nIlt, nIeq, nIc, vpI, nIm1, m1nI, m1lt, nIlm, m1le, nIlem, nIneg, u2_ss, u2_nn, u2_kk]
    rw [cm_gC hM hg]
    exact h
theorem guestW_ok {d : Nat} {sx : Sx} {I : Ints} {L : Lngs} {R : Rfs} {q : Q3} {a : Ce} (hM : CelM a I) {g : Nat} (hg : g < 6) (h : q (some (.int (nI (gW a g).val))) I L R) : E0 mX12_guestOf (d + 1) sx [.ref 92, .int (nI g), .int 2] I L R q := by
  refine EX12_guestOf ⟨?_, ?_⟩
  · simp (disch := omega) only [nlit, natrem, nI_add, pk_mul, nIsub, nIrem, nIdiv, nIand1, nIand3, nIand7, nIand31, nIshr, nIle, nIlt, nIeq, nIc, vpI, nIm1, m1nI, m1lt, nIlm, m1le, nIlem, nIneg, u2_ss, u2_nn, u2_kk]; omega
  · simp (disch := omega) only [nlit, natrem, nI_add, pk_mul, nIsub, nIrem, nIdiv, nIand1, nIand3, nIand7, nIand31, nIshr, nIle, nIlt, nIeq, nIc, vpI, nIm1, m1nI, m1lt, nIlm, m1le, nIlem, nIneg, u2_ss, u2_nn, u2_kk]
    rw [cm_gW hM hg]
    exact h
theorem guestA_ok {d : Nat} {sx : Sx} {I : Ints} {L : Lngs} {R : Rfs} {q : Q3} {a : Ce} (hM : CelM a I) {g : Nat} (hg : g < 6) (h : q (some (.int (nI (gA a g).val))) I L R) : E0 mX12_guestOf (d + 1) sx [.ref 92, .int (nI g), .int 3] I L R q := by
  refine EX12_guestOf ⟨?_, ?_⟩
  · simp (disch := omega) only [nlit, natrem, nI_add, pk_mul, nIsub, nIrem, nIdiv, nIand1, nIand3, nIand7, nIand31, nIshr, nIle, nIlt, nIeq, nIc, vpI, nIm1, m1nI, m1lt, nIlm, m1le, nIlem, nIneg, u2_ss, u2_nn, u2_kk]; omega
  · simp (disch := omega) only [nlit, natrem, nI_add, pk_mul, nIsub, nIrem, nIdiv, nIand1, nIand3, nIand7, nIand31, nIshr, nIle, nIlt, nIeq, nIc, vpI, nIm1, m1nI, m1lt, nIlm, m1le, nIlem, nIneg, u2_ss, u2_nn, u2_kk]
    rw [cm_gA hM hg]
    exact h
theorem guests_ok {d : Nat} {sx : Sx} {I : Ints} {L : Lngs} {R : Rfs} {q : Q3} {a : Ce} (hM : CelM a I) (h : q (some (.int (nI (a 4).val))) I L R) : E0 mX12_guests (d + 1) sx [.ref 92] I L R q := by
  refine EX12_guests ?_
  rw [hM 4 (by decide) (by decide)]
  exact h
theorem wines_ok {d : Nat} {sx : Sx} {I : Ints} {L : Lngs} {R : Rfs} {q : Q3} {a : Ce} (hM : CelM a I) (h : q (some (.int (nI (a 3).val))) I L R) : E0 mX12_wines (d + 1) sx [.ref 92] I L R q := by
  refine EX12_wines ?_
  rw [hM 3 (by decide) (by decide)]
  exact h
theorem isIn_ok {d : Nat} {sx : Sx} {I : Ints} {L : Lngs} {R : Rfs} {q : Q3} {a : Ce} (hM : CelM a I) {x y : Nat} (hx : x < 1000) (hy : y < 1000)
    (ht : x < (a 0).val ∧ y < (a 1).val → q (some (.int 1)) I L R) (hf : ¬ (x < (a 0).val ∧ y < (a 1).val) → q (some (.int 0)) I L R) : E0 mX12_isIn (d + 1) sx [.ref 92, .int (nI x), .int (nI y)] I L R q := by
  have h0 := hM 0 (by decide) (by decide)
  have h1 := hM 1 (by decide) (by decide)
  refine EX12_isIn  ⟨fun c1 => ?_, fun c1 => ⟨fun c2 => ?_, fun c2 => ⟨fun c3 => ?_, fun c3 => ⟨fun c4 => ?_, fun c4 => ?_⟩⟩⟩⟩
  · (try simp (disch := omega) only [nlit, natrem, nI_add, pk_mul, nIsub, nIrem, nIdiv, nIand1, nIand3, nIand7, nIand31, nIshr, nIle, nIlt, nIeq, nIc, vpI, nIm1, m1nI, m1lt, nIlm, m1le, nIlem, nIneg, u2_ss, u2_nn, u2_kk, h0, h1] at c1); (try simp (disch := omega) only [nlit, natrem, nI_add, pk_mul, nIsub, nIrem, nIdiv, nIand1, nIand3, nIand7, nIand31, nIshr, nIle, nIlt, nIeq, nIc, vpI, nIm1, m1nI, m1lt, nIlm, m1le, nIlem, nIneg, u2_ss, u2_nn, u2_kk, h0, h1])
    exact hf (by omega)
  · (try simp (disch := omega) only [nlit, natrem, nI_add, pk_mul, nIsub, nIrem, nIdiv, nIand1, nIand3, nIand7, nIand31, nIshr, nIle, nIlt, nIeq, nIc, vpI, nIm1, m1nI, m1lt, nIlm, m1le, nIlem, nIneg, u2_ss, u2_nn, u2_kk, h0, h1] at c1 c2); (try simp (disch := omega) only [nlit, natrem, nI_add, pk_mul, nIsub, nIrem, nIdiv, nIand1, nIand3, nIand7, nIand31, nIshr, nIle, nIlt, nIeq, nIc, vpI, nIm1, m1nI, m1lt, nIlm, m1le, nIlem, nIneg, u2_ss, u2_nn, u2_kk, h0, h1])
    exact hf (by omega)
  · (try simp (disch := omega) only [nlit, natrem, nI_add, pk_mul, nIsub, nIrem, nIdiv, nIand1, nIand3, nIand7, nIand31, nIshr, nIle, nIlt, nIeq, nIc, vpI, nIm1, m1nI, m1lt, nIlm, m1le, nIlem, nIneg, u2_ss, u2_nn, u2_kk, h0, h1] at c1 c2 c3); (try simp (disch := omega) only [nlit, natrem, nI_add, pk_mul, nIsub, nIrem, nIdiv, nIand1, nIand3, nIand7, nIand31, nIshr, nIle, nIlt, nIeq, nIc, vpI, nIm1, m1nI, m1lt, nIlm, m1le, nIlem, nIneg, u2_ss, u2_nn, u2_kk, h0, h1])
    exact hf (by omega)
  · (try simp (disch := omega) only [nlit, natrem, nI_add, pk_mul, nIsub, nIrem, nIdiv, nIand1, nIand3, nIand7, nIand31, nIshr, nIle, nIlt, nIeq, nIc, vpI, nIm1, m1nI, m1lt, nIlm, m1le, nIlem, nIneg, u2_ss, u2_nn, u2_kk, h0, h1] at c1 c2 c3 c4); (try simp (disch := omega) only [nlit, natrem, nI_add, pk_mul, nIsub, nIrem, nIdiv, nIand1, nIand3, nIand7, nIand31, nIshr, nIle, nIlt, nIeq, nIc, vpI, nIm1, m1nI, m1lt, nIlm, m1le, nIlem, nIneg, u2_ss, u2_nn, u2_kk, h0, h1])
    exact hf (by omega)
  · (try simp (disch := omega) only [nlit, natrem, nI_add, pk_mul, nIsub, nIrem, nIdiv, nIand1, nIand3, nIand7, nIand31, nIshr, nIle, nIlt, nIeq, nIc, vpI, nIm1, m1nI, m1lt, nIlm, m1le, nIlem, nIneg, u2_ss, u2_nn, u2_kk, h0, h1] at c1 c2 c3 c4); (try simp (disch := omega) only [nlit, natrem, nI_add, pk_mul, nIsub, nIrem, nIdiv, nIand1, nIand3, nIand7, nIand31, nIshr, nIle, nIlt, nIeq, nIc, vpI, nIm1, m1nI, m1lt, nIlm, m1le, nIlem, nIneg, u2_ss, u2_nn, u2_kk, h0, h1])
    exact ht (by omega)
theorem isIn_neg {d : Nat} {sx : Sx} {I : Ints} {L : Lngs} {R : Rfs} {q : Q3} {x y : Int32} (h : x < 0 ∨ y < 0) (hf : q (some (.int 0)) I L R) : E0 mX12_isIn (d + 1) sx [.ref 92, .int x, .int y] I L R q := by
  refine EX12_isIn ⟨fun _ => hf, fun c1 => ⟨fun _ => hf, fun c2 => ⟨fun _ => hf, fun c3 => ?_⟩⟩⟩
  exact absurd h (by simp [c1, c3])
def ClM (a : Ce) (I : Ints) (b al : Nat) (cl : Nat → Bool) : Prop := ∀ c, c < 64 → (cl c = true ↔ (a (7 + c)).val = 1 ∨ (al = 0 ∧ ∃ g, g < (a 4).val ∧ g ≠ b ∧ I 110 g = nI c))
theorem isFree_lp {d : Nat} {sx : Sx} {I : Ints} {L : Lngs} {R : Rfs} {q : Q3} {a : Ce} (hM : CelM a I) (hW : (a 4).val ≤ 6) {x y b al : Nat} (hc : 8 * y + x < 64) (hb : b < 100) (hal : al ≤ 1) {cl : Nat → Bool} (hcl : ClM a I b al cl) (hp : (a (7 + (8 * y + x))).val ≠ 1)
    (ht : cl (8 * y + x) = false → q (some (.int 1)) I L R) (hf : cl (8 * y + x) = true → q (some (.int 0)) I L R) :
    ∀ n g f : Nat, n = (a 4).val - g → g ≤ (a 4).val → (f = 1 ∧ (al = 0 → ∀ j, j < g → j ≠ b → I 110 j ≠ nI (8 * y + x))) ∨ (f = 0 ∧ al = 0 ∧ ∃ j, j < g ∧ j ≠ b ∧ I 110 j = nI (8 * y + x)) →
      Y mX12_isFree (d + 2) sx 35 [(0, .ref 92), (1, .int (nI x)), (2, .int (nI y)), (3, .int (nI b)), (4, .int (nI al)), (5, .int (nI f)), (6, .int (nI g))] [] I L R q := by
  have hcc := hcl _ hc
  intro n
  induction n with
  | zero =>
    intro g f hn hg hi
    refine RX12_isFree_35 (guests_ok hM ?_)
    refine RX12_isFree_41 ⟨fun c1 => ⟨?_, ?_⟩, fun c1 => ?_⟩
    · rcases hi with hi | hi <;> simp [hi.1] <;> decide
    · rcases hi with ⟨rfl, hi⟩ | ⟨rfl, h0, j, hj, h1, h2⟩
      · refine ht ?_
        cases hcv : cl (8 * y + x) with
        | false => rfl
        | true =>
          rcases hcc.mp hcv with h | ⟨h, j, hj, h1, h2⟩
          · exact absurd h hp
          · exact absurd h2 (hi h j (by omega) h1)
      · exact hf (hcc.mpr (Or.inr ⟨h0, j, by omega, h1, h2⟩))
    · exfalso
      simp (disch := omega) only [nlit, natrem, nI_add, pk_mul, nIsub, nIrem, nIdiv, nIand1, nIand3, nIand7, nIand31, nIshr, nIle, nIlt, nIeq, nIc, vpI, nIm1, m1nI, m1lt, nIlm, m1le, nIlem, nIneg, u2_ss, u2_nn, u2_kk] at c1
      omega
  | succ n ih =>
    intro g f hn hg hi
    refine RX12_isFree_35 (guests_ok hM ?_)
    refine RX12_isFree_41  ⟨fun c1 => ⟨?_, ?_⟩, fun c1 => ⟨fun c2 => ⟨?_, ?_⟩, fun c2 => ⟨fun c3 => ?_, fun c3 => ⟨fun c4 => ?_, fun c4 => ⟨?_, ⟨fun c5 => ?_, fun c5 => ?_⟩⟩⟩⟩⟩⟩
    · (try simp (disch := omega) only [nlit, natrem, nI_add, pk_mul, nIsub, nIrem, nIdiv, nIand1, nIand3, nIand7, nIand31, nIshr, nIle, nIlt, nIeq, nIc, vpI, nIm1, m1nI, m1lt, nIlm, m1le, nIlem, nIneg, u2_ss, u2_nn, u2_kk] at c1); (try simp (disch := omega) only [nlit, natrem, nI_add, pk_mul, nIsub, nIrem, nIdiv, nIand1, nIand3, nIand7, nIand31, nIshr, nIle, nIlt, nIeq, nIc, vpI, nIm1, m1nI, m1lt, nIlm, m1le, nIlem, nIneg, u2_ss, u2_nn, u2_kk]); (first | omega | trivial | (rcases hi with hi | hi <;> simp [hi.1] <;> decide))
    · (try simp (disch := omega) only [nlit, natrem, nI_add, pk_mul, nIsub, nIrem, nIdiv, nIand1, nIand3, nIand7, nIand31, nIshr, nIle, nIlt, nIeq, nIc, vpI, nIm1, m1nI, m1lt, nIlm, m1le, nIlem, nIneg, u2_ss, u2_nn, u2_kk] at c1); omega
    · (try simp (disch := omega) only [nlit, natrem, nI_add, pk_mul, nIsub, nIrem, nIdiv, nIand1, nIand3, nIand7, nIand31, nIshr, nIle, nIlt, nIeq, nIc, vpI, nIm1, m1nI, m1lt, nIlm, m1le, nIlem, nIneg, u2_ss, u2_nn, u2_kk] at c1 c2); (try simp (disch := omega) only [nlit, natrem, nI_add, pk_mul, nIsub, nIrem, nIdiv, nIand1, nIand3, nIand7, nIand31, nIshr, nIle, nIlt, nIeq, nIc, vpI, nIm1, m1nI, m1lt, nIlm, m1le, nIlem, nIneg, u2_ss, u2_nn, u2_kk]); (first | omega | trivial | (rcases hi with hi | hi <;> simp [hi.1] <;> decide))
    · (try simp (disch := omega) only [nlit, natrem, nI_add, pk_mul, nIsub, nIrem, nIdiv, nIand1, nIand3, nIand7, nIand31, nIshr, nIle, nIlt, nIeq, nIc, vpI, nIm1, m1nI, m1lt, nIlm, m1le, nIlem, nIneg, u2_ss, u2_nn, u2_kk] at c1 c2); (try simp (disch := omega) only [nlit, natrem, nI_add, pk_mul, nIsub, nIrem, nIdiv, nIand1, nIand3, nIand7, nIand31, nIshr, nIle, nIlt, nIeq, nIc, vpI, nIm1, m1nI, m1lt, nIlm, m1le, nIlem, nIneg, u2_ss, u2_nn, u2_kk])
      rcases hi with ⟨rfl, hi⟩ | ⟨rfl, h0, j, hj, h1, h2⟩
      · refine ht ?_
        cases hcv : cl (8 * y + x) with
        | false => rfl
        | true =>
          rcases hcc.mp hcv with h | ⟨h, j, hj, h1, h2⟩
          · exact absurd h hp
          · omega
      · omega
    · (try simp (disch := omega) only [nlit, natrem, nI_add, pk_mul, nIsub, nIrem, nIdiv, nIand1, nIand3, nIand7, nIand31, nIshr, nIle, nIlt, nIeq, nIc, vpI, nIm1, m1nI, m1lt, nIlm, m1le, nIlem, nIneg, u2_ss, u2_nn, u2_kk] at c1 c2 c3); (try simp (disch := omega) only [nlit, natrem, nI_add, pk_mul, nIsub, nIrem, nIdiv, nIand1, nIand3, nIand7, nIand31, nIshr, nIle, nIlt, nIeq, nIc, vpI, nIm1, m1nI, m1lt, nIlm, m1le, nIlem, nIneg, u2_ss, u2_nn, u2_kk])
      have : f = 0 := by omega
      subst this
      rcases hi with ⟨h, -⟩ | ⟨-, h0, j, hj, h1, h2⟩
      · omega
      · exact ih (g + 1) 0 (by omega) (by omega) (Or.inr ⟨rfl, h0, j, by omega, h1, h2⟩)
    · (try simp (disch := omega) only [nlit, natrem, nI_add, pk_mul, nIsub, nIrem, nIdiv, nIand1, nIand3, nIand7, nIand31, nIshr, nIle, nIlt, nIeq, nIc, vpI, nIm1, m1nI, m1lt, nIlm, m1le, nIlem, nIneg, u2_ss, u2_nn, u2_kk] at c1 c2 c3 c4); (try simp (disch := omega) only [nlit, natrem, nI_add, pk_mul, nIsub, nIrem, nIdiv, nIand1, nIand3, nIand7, nIand31, nIshr, nIle, nIlt, nIeq, nIc, vpI, nIm1, m1nI, m1lt, nIlm, m1le, nIlem, nIneg, u2_ss, u2_nn, u2_kk])
      rcases hi with ⟨rfl, hi⟩ | ⟨rfl, h0, j, hj, h1, h2⟩
      · exact ih (g + 1) 1 (by omega) (by omega) (Or.inl ⟨rfl, fun h j hj hjb => hi h j (by omega) hjb⟩)
      · omega
    · (try simp (disch := omega) only [nlit, natrem, nI_add, pk_mul, nIsub, nIrem, nIdiv, nIand1, nIand3, nIand7, nIand31, nIshr, nIle, nIlt, nIeq, nIc, vpI, nIm1, m1nI, m1lt, nIlm, m1le, nIlem, nIneg, u2_ss, u2_nn, u2_kk] at c1 c2 c3 c4); (try simp (disch := omega) only [nlit, natrem, nI_add, pk_mul, nIsub, nIrem, nIdiv, nIand1, nIand3, nIand7, nIand31, nIshr, nIle, nIlt, nIeq, nIc, vpI, nIm1, m1nI, m1lt, nIlm, m1le, nIlem, nIneg, u2_ss, u2_nn, u2_kk]); (first | omega | trivial | (rcases hi with hi | hi <;> simp [hi.1] <;> decide))
    · (try simp (disch := omega) only [nlit, natrem, nI_add, pk_mul, nIsub, nIrem, nIdiv, nIand1, nIand3, nIand7, nIand31, nIshr, nIle, nIlt, nIeq, nIc, vpI, nIm1, m1nI, m1lt, nIlm, m1le, nIlem, nIneg, u2_ss, u2_nn, u2_kk] at c1 c2 c3 c4 c5); (try simp (disch := omega) only [nlit, natrem, nI_add, pk_mul, nIsub, nIrem, nIdiv, nIand1, nIand3, nIand7, nIand31, nIshr, nIle, nIlt, nIeq, nIc, vpI, nIm1, m1nI, m1lt, nIlm, m1le, nIlem, nIneg, u2_ss, u2_nn, u2_kk])
      rcases hi with ⟨rfl, hi⟩ | ⟨rfl, h0, j, hj, h1, h2⟩
      · exact ih (g + 1) 0 (by omega) (by omega) (Or.inr ⟨rfl, by omega, g, by omega, by omega, c5⟩)
      · omega
    · (try simp (disch := omega) only [nlit, natrem, nI_add, pk_mul, nIsub, nIrem, nIdiv, nIand1, nIand3, nIand7, nIand31, nIshr, nIle, nIlt, nIeq, nIc, vpI, nIm1, m1nI, m1lt, nIlm, m1le, nIlem, nIneg, u2_ss, u2_nn, u2_kk] at c1 c2 c3 c4 c5); (try simp (disch := omega) only [nlit, natrem, nI_add, pk_mul, nIsub, nIrem, nIdiv, nIand1, nIand3, nIand7, nIand31, nIshr, nIle, nIlt, nIeq, nIc, vpI, nIm1, m1nI, m1lt, nIlm, m1le, nIlem, nIneg, u2_ss, u2_nn, u2_kk])
      rcases hi with ⟨rfl, hi⟩ | ⟨rfl, h0, j, hj, h1, h2⟩
      · refine ih (g + 1) 1 (by omega) (by omega) (Or.inl ⟨rfl, fun h j hj hjb => ?_⟩)
        by_cases e : j = g
        · subst e; exact c5
        · exact hi h j (by omega) hjb
      · omega
theorem isFree_ok {d : Nat} {sx : Sx} {I : Ints} {L : Lngs} {R : Rfs} {q : Q3} {a : Ce} (hM : CelM a I) (hW : WFc a) {x y b al : Nat} (hx : x < 64) (hy : y < 64) (hb : b < 100) (hal : al ≤ 1) {cl : Nat → Bool} (hcl : ClM a I b al cl)
    (ht : x < (a 0).val ∧ y < (a 1).val ∧ cl (8 * y + x) = false → q (some (.int 1)) I L R) (hf : ¬ (x < (a 0).val ∧ y < (a 1).val ∧ cl (8 * y + x) = false) → q (some (.int 0)) I L R) :
    E0 mX12_isFree (d + 3) sx [.ref 92, .int (nI x), .int (nI y), .int (nI b), .int (nI al)] I L R q := by
  have w0 := hW.1.2
  have w1 := hW.2.1.2
  refine EX12_isFree (isIn_ok hM (by omega) (by omega) (fun c => ?_) (fun c => ?_))
  · have hc : 8 * y + x < 64 := by omega
    have hpi := cm_pi hM hc
    refine RX12_isFree_6  ⟨fun c1 => ?_, fun c1 => ⟨?_, ⟨fun c2 => ?_, fun c2 => ?_⟩⟩⟩
    · (try simp (disch := omega) only [nlit, natrem, nI_add, pk_mul, nIsub, nIrem, nIdiv, nIand1, nIand3, nIand7, nIand31, nIshr, nIle, nIlt, nIeq, nIc, vpI, nIm1, m1nI, m1lt, nIlm, m1le, nIlem, nIneg, u2_ss, u2_nn, u2_kk, hpi] at c1); (try simp (disch := omega) only [nlit, natrem, nI_add, pk_mul, nIsub, nIrem, nIdiv, nIand1, nIand3, nIand7, nIand31, nIshr, nIle, nIlt, nIeq, nIc, vpI, nIm1, m1nI, m1lt, nIlm, m1le, nIlem, nIneg, u2_ss, u2_nn, u2_kk, hpi])
      omega
    · (try simp (disch := omega) only [nlit, natrem, nI_add, pk_mul, nIsub, nIrem, nIdiv, nIand1, nIand3, nIand7, nIand31, nIshr, nIle, nIlt, nIeq, nIc, vpI, nIm1, m1nI, m1lt, nIlm, m1le, nIlem, nIneg, u2_ss, u2_nn, u2_kk, hpi] at c1); (try simp (disch := omega) only [nlit, natrem, nI_add, pk_mul, nIsub, nIrem, nIdiv, nIand1, nIand3, nIand7, nIand31, nIshr, nIle, nIlt, nIeq, nIc, vpI, nIm1, m1nI, m1lt, nIlm, m1le, nIlem, nIneg, u2_ss, u2_nn, u2_kk, hpi]); (first | omega | trivial)
    · (try simp (disch := omega) only [nlit, natrem, nI_add, pk_mul, nIsub, nIrem, nIdiv, nIand1, nIand3, nIand7, nIand31, nIshr, nIle, nIlt, nIeq, nIc, vpI, nIm1, m1nI, m1lt, nIlm, m1le, nIlem, nIneg, u2_ss, u2_nn, u2_kk, hpi] at c1 c2); (try simp (disch := omega) only [nlit, natrem, nI_add, pk_mul, nIsub, nIrem, nIdiv, nIand1, nIand3, nIand7, nIand31, nIshr, nIle, nIlt, nIeq, nIc, vpI, nIm1, m1nI, m1lt, nIlm, m1le, nIlem, nIneg, u2_ss, u2_nn, u2_kk, hpi])
      refine isFree_lp hM hW.2.2.2.2.1 hc hb hal hcl c2 (fun z => ht ⟨c.1, c.2, z⟩) (fun z => hf (fun w => ?_)) (a 4).val 0 1 (by omega) (by omega) (Or.inl ⟨rfl, fun _ j hj => absurd hj (by omega)⟩)
      rw [z] at w
      exact absurd w.2.2 (by decide)
    · (try simp (disch := omega) only [nlit, natrem, nI_add, pk_mul, nIsub, nIrem, nIdiv, nIand1, nIand3, nIand7, nIand31, nIshr, nIle, nIlt, nIeq, nIc, vpI, nIm1, m1nI, m1lt, nIlm, m1le, nIlem, nIneg, u2_ss, u2_nn, u2_kk, hpi] at c1 c2); (try simp (disch := omega) only [nlit, natrem, nI_add, pk_mul, nIsub, nIrem, nIdiv, nIand1, nIand3, nIand7, nIand31, nIshr, nIle, nIlt, nIeq, nIc, vpI, nIm1, m1nI, m1lt, nIlm, m1le, nIlem, nIneg, u2_ss, u2_nn, u2_kk, hpi])
      refine hf (fun w => ?_)
      have := (hcl _ hc).mpr (Or.inl c2)
      rw [this] at w
      exact absurd w.2.2 (by decide)
  · exact RX12_isFree_6 ⟨fun _ => hf (fun w => c ⟨w.1, w.2.1⟩), fun w => absurd rfl w⟩
theorem isFree_neg {d : Nat} {sx : Sx} {I : Ints} {L : Lngs} {R : Rfs} {q : Q3} {x y : Int32} (h : x < 0 ∨ y < 0) {b al : Int32} (hf : q (some (.int 0)) I L R) : E0 mX12_isFree (d + 3) sx [.ref 92, .int x, .int y, .int b, .int al] I L R q :=
  EX12_isFree (isIn_neg h (RX12_isFree_6 ⟨fun _ => hf, fun w => absurd rfl w⟩))
def atP (J : Ints) (p : Nat) : Prop := p < 256 ∧ J 92 28 = nI (p / 4 % 8) ∧ J 92 29 = nI (p / 32) ∧ J 92 30 = nI (p % 4)
abbrev FP : List (Nat × Nat) := [(92, 28), (92, 29), (92, 30)]
theorem atP_turn {I : Ints} {p t : Nat} (h : atP I p) : atP (u2 I 92 30 (nI ((p % 4 + t) % 4))) (4 * (p / 4) + (p + t) % 4) := by
  obtain ⟨h0, h1, h2, h3⟩ := h
  refine ⟨by omega, ?_, ?_, ?_⟩
  · rw [u2_kk _ _ _ _ (by decide), h1]; congr 1; omega
  · rw [u2_kk _ _ _ _ (by decide), h2]; congr 1; omega
  · rw [u2_ss]; congr 1; omega
theorem atP_go {I : Ints} {p x y : Nat} (h : atP I p) (hx : x < 8) (hy : y < 8) : atP (u2 (u2 I 92 28 (nI x)) 92 29 (nI y)) (4 * (8 * y + x) + p % 4) := by
  obtain ⟨h0, h1, h2, h3⟩ := h
  refine ⟨by omega, ?_, ?_, ?_⟩
  · rw [u2_kk _ _ _ _ (by decide), u2_ss]; congr 1; omega
  · rw [u2_ss]; congr 1; omega
  · rw [u2_kk _ _ _ _ (by decide), u2_kk _ _ _ _ (by decide), h3]; congr 1; omega
/-- ahead or hop, to a place that is told -/
theorem takesGo {d : Nat} {sx : Sx} {I : Ints} {L : Lngs} {R : Rfs} {q : Q3} {a : Ce} (hM : CelM a I) (hW : WFc a) {p x y b al : Nat} (hp : atP I p) (hx : x < 64) (hy : y < 64) (hb : b < 100) (hal : al ≤ 1) {cl : Nat → Bool} (hcl : ClM a I b al cl)
    (ht : x < (a 0).val ∧ y < (a 1).val ∧ cl (8 * y + x) = false → ∀ J, atP J (4 * (8 * y + x) + p % 4) → Fr [] FP I J → q none J L R) (hf : ¬ (x < (a 0).val ∧ y < (a 1).val ∧ cl (8 * y + x) = false) → q none I L R) :
    E0 mX12_isFree (d + 3) sx [.ref 92, .int (nI x), .int (nI y), .int (nI b), .int (nI al)] I L R (fun r J K T => Y mX12_takesStep (d + 4) sx 141 [(0, .ref 92), (6, .int (nI x)), (7, .int (nI y))] (r.toList ++ []) J K T q) := by
  have w0 := hW.1.2
  have w1 := hW.2.1.2
  refine isFree_ok hM hW hx hy hb hal hcl (fun c => ?_) (fun c => ?_)
  · exact RX12_takesStep_141 ⟨fun w => absurd w (by decide), fun _ => ht c _ (atP_go hp (by omega) (by omega)) ((Fr.rf.uf (by decide)).uf (by decide))⟩
  · exact RX12_takesStep_141 ⟨fun _ => hf c, fun w => absurd rfl w⟩
theorem takesNo {d : Nat} {sx : Sx} {I : Ints} {L : Lngs} {R : Rfs} {q : Q3} {x y : Int32} {b al : Int32} (h : x < 0 ∨ y < 0) (hf : q none I L R) :
    E0 mX12_isFree (d + 3) sx [.ref 92, .int x, .int y, .int b, .int al] I L R (fun r J K T => Y mX12_takesStep (d + 4) sx 141 [(0, .ref 92), (6, .int x), (7, .int y)] (r.toList ++ []) J K T q) :=
  isFree_neg h (RX12_takesStep_141 ⟨fun _ => hf, fun w => absurd rfl w⟩)
theorem across_ok {d : Nat} {sx : Sx} {I : Ints} {L : Lngs} {R : Rfs} {q : Q3} {w : Nat} (hw : w < 4) (h : q (some (.int (if w = 1 then 1 else if w = 3 then -1 else 0))) I L R) : E0 mX12_across (d + 1) sx [.int (nI w)] I L R q := by
  refine EX12_across ⟨fun c1 => ⟨fun c2 => ?_, fun c2 => ?_⟩, fun c1 => ?_⟩
  · simp (disch := omega) only [nlit, natrem, nI_add, pk_mul, nIsub, nIrem, nIdiv, nIand1, nIand3, nIand7, nIand31, nIshr, nIle, nIlt, nIeq, nIc, vpI, nIm1, m1nI, m1lt, nIlm, m1le, nIlem, nIneg, u2_ss, u2_nn, u2_kk] at c1 c2; rw [if_neg c1, if_neg c2] at h; exact h
  · simp (disch := omega) only [nlit, natrem, nI_add, pk_mul, nIsub, nIrem, nIdiv, nIand1, nIand3, nIand7, nIand31, nIshr, nIle, nIlt, nIeq, nIc, vpI, nIm1, m1nI, m1lt, nIlm, m1le, nIlem, nIneg, u2_ss, u2_nn, u2_kk] at c1 c2; rw [if_neg c1, if_pos c2] at h; exact h
  · simp (disch := omega) only [nlit, natrem, nI_add, pk_mul, nIsub, nIrem, nIdiv, nIand1, nIand3, nIand7, nIand31, nIshr, nIle, nIlt, nIeq, nIc, vpI, nIm1, m1nI, m1lt, nIlm, m1le, nIlem, nIneg, u2_ss, u2_nn, u2_kk] at c1; rw [if_pos c1] at h; exact h
theorem up_ok {d : Nat} {sx : Sx} {I : Ints} {L : Lngs} {R : Rfs} {q : Q3} {w : Nat} (hw : w < 4) (h : q (some (.int (if w = 0 then 1 else if w = 2 then -1 else 0))) I L R) : E0 mX12_up (d + 1) sx [.int (nI w)] I L R q := by
  refine EX12_up ⟨fun c1 => ⟨fun c2 => ?_, fun c2 => ?_⟩, fun c1 => ?_⟩
  · simp (disch := omega) only [nlit, natrem, nI_add, pk_mul, nIsub, nIrem, nIdiv, nIand1, nIand3, nIand7, nIand31, nIshr, nIle, nIlt, nIeq, nIc, vpI, nIm1, m1nI, m1lt, nIlm, m1le, nIlem, nIneg, u2_ss, u2_nn, u2_kk] at c1 c2; rw [if_neg c1, if_neg c2] at h; exact h
  · simp (disch := omega) only [nlit, natrem, nI_add, pk_mul, nIsub, nIrem, nIdiv, nIand1, nIand3, nIand7, nIand31, nIshr, nIle, nIlt, nIeq, nIc, vpI, nIm1, m1nI, m1lt, nIlm, m1le, nIlem, nIneg, u2_ss, u2_nn, u2_kk] at c1 c2; rw [if_neg c1, if_pos c2] at h; exact h
  · simp (disch := omega) only [nlit, natrem, nI_add, pk_mul, nIsub, nIrem, nIdiv, nIand1, nIand3, nIand7, nIand31, nIshr, nIle, nIlt, nIeq, nIc, vpI, nIm1, m1nI, m1lt, nIlm, m1le, nIlem, nIneg, u2_ss, u2_nn, u2_kk] at c1; rw [if_pos c1] at h; exact h
theorem i_far : ∀ f, f < 3 → nI f * (-1) = - nI f ∧ nI f * 0 = 0 ∧ nI f * 1 = nI f := by decide +kernel
theorem i_add0 (x : Int32) : x + 0 = x := Int32.add_zero x
theorem i_addn (x y : Int32) : x + -y = x - y := (Int32.sub_eq_add_neg x y).symm
/-- ahead or hop -/
theorem takesA {d : Nat} {sx : Sx} {I : Ints} {L : Lngs} {R : Rfs} {q : Q3} {a : Ce} (hM : CelM a I) (hW : WFc a) {p f b al : Nat} (hp : atP I p) (hfar : f = 1 ∨ f = 2) (hb : b < 100) (hal : al ≤ 1) {cl : Nat → Bool} (hcl : ClM a I b al cl)
    (h : ∀ J, atP J (ahd a cl p f) → Fr [] FP I J → q none J L R) :
    E0 mX12_across (d + 3) sx [.int (nI (p % 4))] I L R (fun r J K T => Y mX12_takesStep (d + 4) sx 110 [(0, .ref 92), (1, .int (nI b)), (3, .int (nI al)), (5, .int (nI f))] (r.toList ++ [.int (nI f), .int (I 92 28)]) J K T q) := by
  obtain ⟨h0, h1, h2, h3⟩ := hp
  have hp : atP I p := ⟨h0, h1, h2, h3⟩
  have e1 := (i_far f (by omega)).1
  have e2 := (i_far f (by omega)).2.1
  have e3 := (i_far f (by omega)).2.2
  refine across_ok (by omega) ?_
  refine RX12_takesStep_110 ?_
  rw [h3]
  refine up_ok (by omega) ?_
  refine RX12_takesStep_127 ?_
  rw [h1, h2]
  by_cases k0 : p % 4 = 0
  · rw [if_neg (by omega), if_neg (by omega), if_pos k0, e2, e3, i_add0, nI_add]
    refine takesGo hM hW hp (by omega) (by omega) hb hal hcl (fun c J hJ hF => h J ?_ hF) (fun c => h I ?_ Fr.rf)
    · rw [show 8 * (p / 32 + f) + p / 4 % 8 = p / 4 + 8 * f by omega] at c
      unfold ahd; rw [if_pos k0, if_pos ⟨by omega, by omega, c.2.2⟩, show p + 32 * f = 4 * (8 * (p / 32 + f) + p / 4 % 8) + p % 4 by omega]; exact hJ
    · rw [show 8 * (p / 32 + f) + p / 4 % 8 = p / 4 + 8 * f by omega] at c
      unfold ahd; rw [if_pos k0, if_neg (fun w => c ⟨by omega, by omega, w.2.2⟩)]; exact hp
  by_cases k1 : p % 4 = 1
  · rw [if_pos k1, if_neg (by omega), if_neg (by omega), e2, e3, i_add0, nI_add]
    refine takesGo hM hW hp (by omega) (by omega) hb hal hcl (fun c J hJ hF => h J ?_ hF) (fun c => h I ?_ Fr.rf)
    · rw [show 8 * (p / 32) + (p / 4 % 8 + f) = p / 4 + f by omega] at c
      unfold ahd; rw [if_neg k0, if_pos k1, if_pos ⟨by omega, by omega, c.2.2⟩, show p + 4 * f = 4 * (8 * (p / 32) + (p / 4 % 8 + f)) + p % 4 by omega]; exact hJ
    · rw [show 8 * (p / 32) + (p / 4 % 8 + f) = p / 4 + f by omega] at c
      unfold ahd; rw [if_neg k0, if_pos k1, if_neg (fun w => c ⟨by omega, by omega, w.2.2⟩)]; exact hp
  by_cases k2 : p % 4 = 2
  · rw [if_neg (by omega), if_neg (by omega), if_neg (by omega), if_pos k2, e2, e1, i_add0, i_addn]
    by_cases hz : f ≤ p / 32
    · rw [nIsub hz]
      refine takesGo hM hW hp (by omega) (by omega) hb hal hcl (fun c J hJ hF => h J ?_ hF) (fun c => h I ?_ Fr.rf)
      · rw [show 8 * (p / 32 - f) + p / 4 % 8 = p / 4 - 8 * f by omega] at c
        unfold ahd; rw [if_neg k0, if_neg k1, if_pos k2, if_pos ⟨by omega, by omega, by omega, c.2.2⟩, show p - 32 * f = 4 * (8 * (p / 32 - f) + p / 4 % 8) + p % 4 by omega]; exact hJ
      · rw [show 8 * (p / 32 - f) + p / 4 % 8 = p / 4 - 8 * f by omega] at c
        unfold ahd; rw [if_neg k0, if_neg k1, if_pos k2, if_neg (fun w => c ⟨by omega, by omega, w.2.2.2⟩)]; exact hp
    · refine takesNo (Or.inr (pk_sneg (by omega) (by omega))) (h I ?_ Fr.rf)
      unfold ahd; rw [if_neg k0, if_neg k1, if_pos k2, if_neg (by omega)]; exact hp
  · rw [if_neg (by omega), if_pos (by omega), if_neg (by omega), if_neg (by omega), e2, e1, i_add0, i_addn]
    by_cases hz : f ≤ p / 4 % 8
    · rw [nIsub hz]
      refine takesGo hM hW hp (by omega) (by omega) hb hal hcl (fun c J hJ hF => h J ?_ hF) (fun c => h I ?_ Fr.rf)
      · rw [show 8 * (p / 32) + (p / 4 % 8 - f) = p / 4 - f by omega] at c
        unfold ahd; rw [if_neg k0, if_neg k1, if_neg k2, if_pos ⟨by omega, by omega, by omega, c.2.2⟩, show p - 4 * f = 4 * (8 * (p / 32) + (p / 4 % 8 - f)) + p % 4 by omega]; exact hJ
      · rw [show 8 * (p / 32) + (p / 4 % 8 - f) = p / 4 - f by omega] at c
        unfold ahd; rw [if_neg k0, if_neg k1, if_neg k2, if_neg (fun w => c ⟨by omega, by omega, w.2.2.2⟩)]; exact hp
    · refine takesNo (Or.inl (pk_sneg (by omega) (by omega))) (h I ?_ Fr.rf)
      unfold ahd; rw [if_neg k0, if_neg k1, if_neg k2, if_neg (by omega)]; exact hp
theorem takesStep_ok {d : Nat} {sx : Sx} {I : Ints} {L : Lngs} {R : Rfs} {q : Q3} {a : Ce} (hM : CelM a I) (hW : WFc a) {p s g al : Nat} (hg : g < (a 4).val) (hk : (gK a g).val ≠ 1) (hp : atP I p) (hs : s ≤ 4) (hal : al ≤ 1) {cl : Nat → Bool} (hcl : ClM a I g al cl)
    (h : ∀ J, atP J (aft a cl (gK a g).val p s) → Fr [] FP I J → q none J L R) :
    E0 mX12_takesStep (d + 4) sx [.ref 92, .int (nI g), .int (nI s), .int (nI al)] I L R q := by
  have w4 := hW.2.2.2.2.1
  have hk4 := (hW.2.2.2.2.2.2.2.2.2.1 g hg).1
  have hp3 : I 92 30 = nI (p % 4) := hp.2.2.2
  refine EX12_takesStep (guestK_ok hM (by omega) ?_)
  refine RX12_takesStep_6  ⟨fun c1 => ⟨fun c2 => ?_, fun c2 => ?_⟩, fun c1 => ⟨fun c2 => ⟨fun c3 => ?_, fun c3 => ⟨fun c4 => ?_, fun c4 => ⟨fun c5 => ?_, fun c5 => ?_⟩⟩⟩, fun c2 => ⟨fun c3 => ?_, fun c3 => ?_⟩⟩⟩
  · (try simp (disch := omega) only [nlit, natrem, nI_add, pk_mul, nIsub, nIrem, nIdiv, nIand1, nIand3, nIand7, nIand31, nIshr, nIle, nIlt, nIeq, nIc, vpI, nIm1, m1nI, m1lt, nIlm, m1le, nIlem, nIneg, u2_ss, u2_nn, u2_kk, hp3] at c1 c2); (try simp (disch := omega) only [nlit, natrem, nI_add, pk_mul, nIsub, nIrem, nIdiv, nIand1, nIand3, nIand7, nIand31, nIshr, nIle, nIlt, nIeq, nIc, vpI, nIm1, m1nI, m1lt, nIlm, m1le, nIlem, nIneg, u2_ss, u2_nn, u2_kk, hp3])
    refine h _ ?_ (Fr.rf.uf (by decide))
    have e : aft a cl (gK a g).val p s = 4 * (p / 4) + (p + 3) % 4 := by unfold aft; rw [if_neg (by omega), if_pos (by omega)]; first | rw [if_pos (by omega)] | rw [if_neg (by omega)]
    rw [e]; exact atP_turn hp
  · (try simp (disch := omega) only [nlit, natrem, nI_add, pk_mul, nIsub, nIrem, nIdiv, nIand1, nIand3, nIand7, nIand31, nIshr, nIle, nIlt, nIeq, nIc, vpI, nIm1, m1nI, m1lt, nIlm, m1le, nIlem, nIneg, u2_ss, u2_nn, u2_kk, hp3] at c1 c2); (try simp (disch := omega) only [nlit, natrem, nI_add, pk_mul, nIsub, nIrem, nIdiv, nIand1, nIand3, nIand7, nIand31, nIshr, nIle, nIlt, nIeq, nIc, vpI, nIm1, m1nI, m1lt, nIlm, m1le, nIlem, nIneg, u2_ss, u2_nn, u2_kk, hp3])
    refine h _ ?_ (Fr.rf.uf (by decide))
    have e : aft a cl (gK a g).val p s = 4 * (p / 4) + (p + 1) % 4 := by unfold aft; rw [if_neg (by omega), if_pos (by omega)]; first | rw [if_pos (by omega)] | rw [if_neg (by omega)]
    rw [e]; exact atP_turn hp
  · (try simp (disch := omega) only [nlit, natrem, nI_add, pk_mul, nIsub, nIrem, nIdiv, nIand1, nIand3, nIand7, nIand31, nIshr, nIle, nIlt, nIeq, nIc, vpI, nIm1, m1nI, m1lt, nIlm, m1le, nIlem, nIneg, u2_ss, u2_nn, u2_kk, hp3] at c1 c2 c3); (try simp (disch := omega) only [nlit, natrem, nI_add, pk_mul, nIsub, nIrem, nIdiv, nIand1, nIand3, nIand7, nIand31, nIshr, nIle, nIlt, nIeq, nIc, vpI, nIm1, m1nI, m1lt, nIlm, m1le, nIlem, nIneg, u2_ss, u2_nn, u2_kk, hp3])
    refine takesA (f := 1) hM hW hp (by omega) (by omega) hal hcl (fun J hJ hF => h J ?_ hF)
    have e : aft a cl (gK a g).val p s = ahd a cl p 1 := by unfold aft; rw [if_neg (by omega), if_neg (by omega)]; first | rw [if_pos (by omega)] | rw [if_neg (by omega)]
    rw [e]; exact hJ
  · (try simp (disch := omega) only [nlit, natrem, nI_add, pk_mul, nIsub, nIrem, nIdiv, nIand1, nIand3, nIand7, nIand31, nIshr, nIle, nIlt, nIeq, nIc, vpI, nIm1, m1nI, m1lt, nIlm, m1le, nIlem, nIneg, u2_ss, u2_nn, u2_kk, hp3] at c1 c2 c3 c4); (try simp (disch := omega) only [nlit, natrem, nI_add, pk_mul, nIsub, nIrem, nIdiv, nIand1, nIand3, nIand7, nIand31, nIshr, nIle, nIlt, nIeq, nIc, vpI, nIm1, m1nI, m1lt, nIlm, m1le, nIlem, nIneg, u2_ss, u2_nn, u2_kk, hp3])
    refine h _ ?_ Fr.rf
    have e : aft a cl (gK a g).val p s = p := by unfold aft; rw [if_pos (by omega)]
    rw [e]; exact hp
  · (try simp (disch := omega) only [nlit, natrem, nI_add, pk_mul, nIsub, nIrem, nIdiv, nIand1, nIand3, nIand7, nIand31, nIshr, nIle, nIlt, nIeq, nIc, vpI, nIm1, m1nI, m1lt, nIlm, m1le, nIlem, nIneg, u2_ss, u2_nn, u2_kk, hp3] at c1 c2 c3 c4 c5); (try simp (disch := omega) only [nlit, natrem, nI_add, pk_mul, nIsub, nIrem, nIdiv, nIand1, nIand3, nIand7, nIand31, nIshr, nIle, nIlt, nIeq, nIc, vpI, nIm1, m1nI, m1lt, nIlm, m1le, nIlem, nIneg, u2_ss, u2_nn, u2_kk, hp3])
    refine takesA (f := 1) hM hW hp (by omega) (by omega) hal hcl (fun J hJ hF => h J ?_ hF)
    have e : aft a cl (gK a g).val p s = ahd a cl p 1 := by unfold aft; rw [if_neg (by omega), if_neg (by omega)]; first | rw [if_pos (by omega)] | rw [if_neg (by omega)]
    rw [e]; exact hJ
  · (try simp (disch := omega) only [nlit, natrem, nI_add, pk_mul, nIsub, nIrem, nIdiv, nIand1, nIand3, nIand7, nIand31, nIshr, nIle, nIlt, nIeq, nIc, vpI, nIm1, m1nI, m1lt, nIlm, m1le, nIlem, nIneg, u2_ss, u2_nn, u2_kk, hp3] at c1 c2 c3 c4 c5); (try simp (disch := omega) only [nlit, natrem, nI_add, pk_mul, nIsub, nIrem, nIdiv, nIand1, nIand3, nIand7, nIand31, nIshr, nIle, nIlt, nIeq, nIc, vpI, nIm1, m1nI, m1lt, nIlm, m1le, nIlem, nIneg, u2_ss, u2_nn, u2_kk, hp3])
    refine takesA (f := 2) hM hW hp (by omega) (by omega) hal hcl (fun J hJ hF => h J ?_ hF)
    have e : aft a cl (gK a g).val p s = ahd a cl p 2 := by unfold aft; rw [if_neg (by omega), if_neg (by omega)]; first | rw [if_pos (by omega)] | rw [if_neg (by omega)]
    rw [e]; exact hJ
  · (try simp (disch := omega) only [nlit, natrem, nI_add, pk_mul, nIsub, nIrem, nIdiv, nIand1, nIand3, nIand7, nIand31, nIshr, nIle, nIlt, nIeq, nIc, vpI, nIm1, m1nI, m1lt, nIlm, m1le, nIlem, nIneg, u2_ss, u2_nn, u2_kk, hp3] at c1 c2 c3); (try simp (disch := omega) only [nlit, natrem, nI_add, pk_mul, nIsub, nIrem, nIdiv, nIand1, nIand3, nIand7, nIand31, nIshr, nIle, nIlt, nIeq, nIc, vpI, nIm1, m1nI, m1lt, nIlm, m1le, nIlem, nIneg, u2_ss, u2_nn, u2_kk, hp3])
    refine h _ ?_ (Fr.rf.uf (by decide))
    have e : aft a cl (gK a g).val p s = 4 * (p / 4) + (p + 1) % 4 := by unfold aft; rw [if_neg (by omega), if_pos (by omega)]; first | rw [if_pos (by omega)] | rw [if_neg (by omega)]
    rw [e]; exact atP_turn hp
  · (try simp (disch := omega) only [nlit, natrem, nI_add, pk_mul, nIsub, nIrem, nIdiv, nIand1, nIand3, nIand7, nIand31, nIshr, nIle, nIlt, nIeq, nIc, vpI, nIm1, m1nI, m1lt, nIlm, m1le, nIlem, nIneg, u2_ss, u2_nn, u2_kk, hp3] at c1 c2 c3); (try simp (disch := omega) only [nlit, natrem, nI_add, pk_mul, nIsub, nIrem, nIdiv, nIand1, nIand3, nIand7, nIand31, nIshr, nIle, nIlt, nIeq, nIc, vpI, nIm1, m1nI, m1lt, nIlm, m1le, nIlem, nIneg, u2_ss, u2_nn, u2_kk, hp3])
    refine h _ ?_ (Fr.rf.uf (by decide))
    have e : aft a cl (gK a g).val p s = 4 * (p / 4) + (p + 3) % 4 := by unfold aft; rw [if_neg (by omega), if_pos (by omega)]; first | rw [if_pos (by omega)] | rw [if_neg (by omega)]
    rw [e]; exact atP_turn hp
