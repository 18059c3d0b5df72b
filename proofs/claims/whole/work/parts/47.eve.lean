/-! the evening changes -/
def up1 {α : Type} (f : Nat → α) (k : Nat) (v : α) : Nat → α := fun x => if x = k then v else f x
theorem up1_s {α : Type} (f : Nat → α) (k : Nat) (v : α) : up1 f k v k = v := by simp [up1]
theorem up1_n {α : Type} (f : Nat → α) {k x : Nat} (v : α) (h : x ≠ k) : up1 f k v x = f x := by simp [up1, h]
theorem ge6_not : ¬ (6 : Nat) < 6 := by decide
/-- one more glass -/
theorem give_ok {d : Nat} {sx : Sx} {I : Ints} {L : Lngs} {R : Rfs} {q : Q3} {lf : Nat → Nat} {gl : Nat → List Nat} {sn : Nat → Nat} (hE : EvC 33 lf gl sn I) {g w : Nat} (hg : g < 6) (hlx : ∀ x, x < 6 → (gl x).length ≤ 6)
    (ht : (gl g).length < 6 → ∀ J, EvC 33 lf (up1 gl g (gl g ++ [w])) sn J → Kp (fun k => k ≠ 35 ∧ k ≠ 36) I J → q (some (.int 1)) J L R) (hf : ¬ (gl g).length < 6 → q (some (.int 0)) I L R) : E0 mX1_give (d + 1) sx [.ref 33, .int (nI g), .int (nI w)] I L R q := by
  have hl := hlx g hg
  have e5 : I 35 g = nI (gl g).length := (hE.2.1 g hg).1
  have ho : isEve 33 := Or.inl rfl
  refine EX1_give ho ⟨?_, ⟨fun c1 => ⟨?_, ⟨?_, ?_⟩⟩, fun c1 => ?_⟩⟩
  · (try simp (disch := omega) only [nlit, natrem, nIrm, nIam, nIam',  nI_add, pk_mul, nIsub, nIrem, nIdiv, nIand1, nIand3, nIand7, nIand31, nIshr, nIle, nIlt, nIeq, nIc, vpI, nIm1, m1nI, m1lt, nIlm, m1le, nIlem, nIneg, u2_ss, u2_nn, u2_kk, e5]) <;> (first | omega | trivial)
  · (try simp (disch := omega) only [nlit, natrem, nIrm, nIam, nIam',  nI_add, pk_mul, nIsub, nIrem, nIdiv, nIand1, nIand3, nIand7, nIand31, nIshr, nIle, nIlt, nIeq, nIc, vpI, nIm1, m1nI, m1lt, nIlm, m1le, nIlem, nIneg, u2_ss, u2_nn, u2_kk, e5] at c1) <;> (try simp (disch := omega) only [nlit, natrem, nIrm, nIam, nIam',  nI_add, pk_mul, nIsub, nIrem, nIdiv, nIand1, nIand3, nIand7, nIand31, nIshr, nIle, nIlt, nIeq, nIc, vpI, nIm1, m1nI, m1lt, nIlm, m1le, nIlem, nIneg, u2_ss, u2_nn, u2_kk, e5]) <;> (first | omega | trivial)
  · (try simp (disch := omega) only [nlit, natrem, nIrm, nIam, nIam',  nI_add, pk_mul, nIsub, nIrem, nIdiv, nIand1, nIand3, nIand7, nIand31, nIshr, nIle, nIlt, nIeq, nIc, vpI, nIm1, m1nI, m1lt, nIlm, m1le, nIlem, nIneg, u2_ss, u2_nn, u2_kk, e5] at c1) <;> (try simp (disch := omega) only [nlit, natrem, nIrm, nIam, nIam',  nI_add, pk_mul, nIsub, nIrem, nIdiv, nIand1, nIand3, nIand7, nIand31, nIshr, nIle, nIlt, nIeq, nIc, vpI, nIm1, m1nI, m1lt, nIlm, m1le, nIlem, nIneg, u2_ss, u2_nn, u2_kk, e5]) <;> (first | omega | trivial)
  · (try simp (disch := omega) only [nlit, natrem, nIrm, nIam, nIam',  nI_add, pk_mul, nIsub, nIrem, nIdiv, nIand1, nIand3, nIand7, nIand31, nIshr, nIle, nIlt, nIeq, nIc, vpI, nIm1, m1nI, m1lt, nIlm, m1le, nIlem, nIneg, u2_ss, u2_nn, u2_kk, e5] at c1); (try simp (disch := omega) only [nlit, natrem, nIrm, nIam, nIam',  nI_add, pk_mul, nIsub, nIrem, nIdiv, nIand1, nIand3, nIand7, nIand31, nIshr, nIle, nIlt, nIeq, nIc, vpI, nIm1, m1nI, m1lt, nIlm, m1le, nIlem, nIneg, u2_ss, u2_nn, u2_kk, e5])
    refine ht (by omega) _ ⟨fun w' hw => ?_, fun x hx => ⟨?_, ?_⟩, fun x hx => ?_⟩ ((Kp.rf.up (by simp)).up (by simp))
    · rw [u2_nn _ _ _ _ (by decide), u2_nn _ _ _ _ (by decide)]; exact hE.1 w' hw
    · by_cases e : x = g
      · subst e; rw [u2_ss, up1_s, List.length_append]; rfl
      · rw [u2_kk _ _ _ _ e, u2_nn _ _ _ _ (by decide), up1_n _ _ e]; exact (hE.2.1 x hx).1
    · intro j hj
      by_cases e : x = g
      · subst e
        rw [up1_s, List.length_append, List.length_singleton] at hj
        rw [up1_s, u2_nn _ _ _ _ (by decide)]
        by_cases ej : j = (gl x).length
        · rw [ej, u2_ss, getD_r (Nat.le_refl _), Nat.sub_self]; rfl
        · rw [u2_kk _ _ _ _ (by omega), getD_l (by omega)]; exact (hE.2.1 x hx).2 j (by omega)
      · rw [up1_n _ _ e] at hj ⊢
        rw [u2_nn _ _ _ _ (by decide)]
    
        by_cases hne : x * 6 + j = g * 6 + (gl g).length
        · exfalso
          exact absurd hne (by have := hlx x hx; omega)
        · rw [u2_kk _ _ _ _ hne]; exact (hE.2.1 x hx).2 j hj
    · rw [u2_nn _ _ _ _ (by decide), u2_nn _ _ _ _ (by decide)]; exact hE.2.2 x hx
  · (try simp (disch := omega) only [nlit, natrem, nIrm, nIam, nIam',  nI_add, pk_mul, nIsub, nIrem, nIdiv, nIand1, nIand3, nIand7, nIand31, nIshr, nIle, nIlt, nIeq, nIc, vpI, nIm1, m1nI, m1lt, nIlm, m1le, nIlem, nIneg, u2_ss, u2_nn, u2_kk, e5] at c1); (try simp (disch := omega) only [nlit, natrem, nIrm, nIam, nIam',  nI_add, pk_mul, nIsub, nIrem, nIdiv, nIand1, nIand3, nIand7, nIand31, nIshr, nIle, nIlt, nIeq, nIc, vpI, nIm1, m1nI, m1lt, nIlm, m1le, nIlem, nIneg, u2_ss, u2_nn, u2_kk, e5])
    exact hf (by omega)
