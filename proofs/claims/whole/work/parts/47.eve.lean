/-! the evening changes -/
def up1 {α : Type} (f : Nat → α) (k : Nat) (v : α) : Nat → α := fun x => if x = k then v else f x
theorem up1_s {α : Type} (f : Nat → α) (k : Nat) (v : α) : up1 f k v k = v := by simp [up1]
theorem up1_n {α : Type} (f : Nat → α) {k x : Nat} (v : α) (h : x ≠ k) : up1 f k v x = f x := by simp [up1, h]
theorem ge6_not : ¬ (6 : Nat) < 6 := by decide
/-- one more glass -/
theorem give_ok {d : Nat} {sx : Sx} {I : Ints} {L : Lngs} {R : Rfs} {q : Q3} {lf : Nat → Nat} {gl : Nat → List Nat} {sn : Nat → Nat} (hE : EvC 33 lf gl sn I) {g w : Nat} (hg : g < 6) (hlx : ∀ x, x < 6 → (gl x).length ≤ 6)
    (ht : (gl g).length < 6 → ∀ J, EvC 33 lf (up1 gl g (gl g ++ [w])) sn J → Kp (fun k => k ≠ 35 ∧ k ≠ 36) I J → q (some (.int 1)) J L R) (hf : ¬ (gl g).length < 6 → q (some (.int 0)) I L R) : E0 mX1_give (d + 1) sx [.ref 33, .int (nI g), .int (nI w)] I L R q := by
  have hl := hlx g hg
  have e5 : I 35 g = nI (gl g).length := (hE.2.1 g hg).1
  have ho : isEve 33 := Or.inl rfl
  refine EX1_give ho ⟨?_, ⟨fun c1 => ⟨?_, ⟨?_, ?_⟩⟩, fun c1 => ?_⟩⟩
  · (try simp (disch := omega) only [nlit, natrem, nIrm, nIam, nIam',  nI_add, pk_mul, nIsub, nIrem, nIdiv, nIand1, nIand3, nIand7, nIand31, nIshr, nIle, nIlt, nIeq, nIc, vpI, nIm1, m1nI, m1lt, nIlm, m1le, nIlem, nIneg, u2_ss, u2_nn, u2_kk, e5]) <;> (first | omega | trivial)
  · (try simp (disch := omega) only [nlit, natrem, nIrm, nIam, nIam',  nI_add, pk_mul, nIsub, nIrem, nIdiv, nIand1, nIand3, nIand7, nIand31, nIshr, nIle, nIlt, nIeq, nIc, vpI, nIm1, m1nI, m1lt, nIlm, m1le, nIlem, nIneg, u2_ss, u2_nn, u2_kk, e5] at c1) <;> (try simp (disch := omega) only [nlit, natrem, nIrm, nIam, nIam',  nI_add, pk_mul, nIsub, nIrem, nIdiv, nIand1, nIand3, nIand7, nIand31, nIshr, nIle, nIlt, nIeq, nIc, vpI, nIm1, m1nI, m1lt, nIlm, m1le, nIlem, nIneg, u2_ss, u2_nn, u2_kk, e5]) <;> (first | omega | trivial)
  · (try simp (disch := omega) only [nlit, natrem, nIrm, nIam, nIam',  nI_add, pk_mul, nIsub, nIrem, nIdiv, nIand1, nIand3, nIand7, nIand31, nIshr, nIle, nIlt, nIeq, nIc, vpI, nIm1, m1nI, m1lt, nIlm, m1le, nIlem, nIneg, u2_ss, u2_nn, u2_kk, e5] at c1) <;> (try simp (disch := omega) only [nlit, natrem, nIrm, nIam, nIam',  nI_add, pk_mul, nIsub, nIrem, nIdiv, nIand1, nIand3, nIand7, nIand31, nIshr, nIle, nIlt, nIeq, nIc, vpI, nIm1, m1nI, m1lt, nIlm, m1le, nIlem, nIneg, u2_ss, u2_nn, u2_kk, e5]) <;> (first | omega | trivial)
  · (try simp (disch := omega) only [nlit, natrem, nIrm, nIam, nIam',  nI_add, pk_mul, nIsub, nIrem, nIdiv, nIand1, nIand3, nIand7, nIand31, nIshr, nIle, nIlt, nIeq, nIc, vpI, nIm1, m1nI, m1lt, nIlm, m1le, nIlem, nIneg, u2_ss, u2_nn, u2_kk, e5] at c1); (try simp (disch := omega) only [nlit, natrem, nIrm, nIam, nIam',  nI_add, pk_mul, nIsub, nIrem, nIdiv, nIand1, nIand3, nIand7, nIand31, nIshr, nIle, nIlt, nIeq, nIc, vpI, nIm1, m1nI, m1lt, nIlm, m1le, nIlem, nIneg, u2_ss, u2_nn, u2_kk, e5])
    refine ht (by omega) _ ⟨fun w' hw => ?_, fun x hx => ⟨?_, ?_⟩, fun x hx => ?_⟩ ((Kp.rf.up (by simp)).up (by simp))
    · rw [u2_nn _ _ _ _ (by decide), u2_nn _ _ _ _ (by decide)]; exact hE.1 w' hw
    · by_cases e : x = g
      · subst e; rw [u2_ss, up1_s, List.length_append]; rfl
      · rw [u2_kk _ _ _ _ e, u2_nn _ _ _ _ (by decide), up1_n _ _ e]; exact (hE.2.1 x hx).1
    · intro j hj
      by_cases e : x = g
      · subst e
        rw [up1_s, List.length_append, List.length_singleton] at hj
        rw [up1_s, u2_nn _ _ _ _ (by decide)]
        by_cases ej : j = (gl x).length
        · rw [ej, u2_ss, getD_r (Nat.le_refl _), Nat.sub_self]; rfl
        · rw [u2_kk _ _ _ _ (by omega), getD_l (by omega)]; exact (hE.2.1 x hx).2 j (by omega)
      · rw [up1_n _ _ e] at hj ⊢
        rw [u2_nn _ _ _ _ (by decide)]
    
        by_cases hne : x * 6 + j = g * 6 + (gl g).length
        · exfalso
          exact absurd hne (by have := hlx x hx; omega)
        · rw [u2_kk _ _ _ _ hne]; exact (hE.2.1 x hx).2 j hj
    · rw [u2_nn _ _ _ _ (by decide), u2_nn _ _ _ _ (by decide)]; exact hE.2.2 x hx
  · (try simp (disch := omega) only [nlit, natrem, nIrm, nIam, nIam',  nI_add, pk_mul, nIsub, nIrem, nIdiv, nIand1, nIand3, nIand7, nIand31, nIshr, nIle, nIlt, nIeq, nIc, vpI, nIm1, m1nI, m1lt, nIlm, m1le, nIlem, nIneg, u2_ss, u2_nn, u2_kk, e5] at c1); (try simp (disch := omega) only [nlit, natrem, nIrm, nIam, nIam',  nI_add, pk_mul, nIsub, nIrem, nIdiv, nIand1, nIand3, nIand7, nIand31, nIshr, nIle, nIlt, nIeq, nIc, vpI, nIm1, m1nI, m1lt, nIlm, m1le, nIlem, nIneg, u2_ss, u2_nn, u2_kk, e5])
    exact hf (by omega)
theorem l_last (l : List Nat) : l = [] ∨ ∃ m w, l = m ++ [w] := by
  rcases List.eq_nil_or_concat l with h | ⟨m, w, h⟩
  · exact Or.inl h
  · exact Or.inr ⟨m, w, by rw [h, List.concat_eq_append]⟩
theorem forget_ok {d : Nat} {sx : Sx} {I : Ints} {L : Lngs} {R : Rfs} {q : Q3} {lf : Nat → Nat} {gl : Nat → List Nat} {sn : Nat → Nat} (hE : EvC 33 lf gl sn I) {g : Nat} (hg : g < 6) (hlx : ∀ x, x < 6 → (gl x).length ≤ 6)
    (ht : ∀ l w, gl g = l ++ [w] → ∀ J, EvC 33 lf (up1 gl g l) sn J → Kp (fun k => k ≠ 35) I J → q (some (.int (nI w))) J L R) (hf : gl g = [] → q (some (.int (-1))) I L R) : E0 mX1_forget (d + 1) sx [.ref 33, .int (nI g)] I L R q := by
  have ho : isEve 33 := Or.inl rfl
  have hl := hlx g hg
  have e5 : I 35 g = nI (gl g).length := (hE.2.1 g hg).1
  rcases l_last (gl g) with h0 | ⟨l, w, hlw⟩
  · rw [h0] at e5 hl
    have f1 := (i32_nn1 (x := 0) (y := 1) (by decide) (by decide)).1
    have e5 : I 35 g = nI 0 := e5
    refine EX1_forget ho ⟨?_, ⟨fun c1 => ⟨?_, ⟨?_, ?_⟩⟩, fun c1 => ?_⟩⟩
    · (try simp (disch := omega) only [nlit, natrem, nIrm, nIam, nIam',  nI_add, pk_mul, nIsub, nIrem, nIdiv, nIand1, nIand3, nIand7, nIand31, nIshr, nIle, nIlt, nIeq, nIc, vpI, nIm1, m1nI, m1lt, nIlm, m1le, nIlem, nIneg, u2_ss, u2_nn, u2_kk, e5, f1]) <;> (first | omega | trivial)
    · (try simp (disch := omega) only [nlit, natrem, nIrm, nIam, nIam',  nI_add, pk_mul, nIsub, nIrem, nIdiv, nIand1, nIand3, nIand7, nIand31, nIshr, nIle, nIlt, nIeq, nIc, vpI, nIm1, m1nI, m1lt, nIlm, m1le, nIlem, nIneg, u2_ss, u2_nn, u2_kk, e5, f1] at c1) <;> (try simp (disch := omega) only [nlit, natrem, nIrm, nIam, nIam',  nI_add, pk_mul, nIsub, nIrem, nIdiv, nIand1, nIand3, nIand7, nIand31, nIshr, nIle, nIlt, nIeq, nIc, vpI, nIm1, m1nI, m1lt, nIlm, m1le, nIlem, nIneg, u2_ss, u2_nn, u2_kk, e5, f1]) <;> (first | omega | trivial)
    · (try simp (disch := omega) only [nlit, natrem, nIrm, nIam, nIam',  nI_add, pk_mul, nIsub, nIrem, nIdiv, nIand1, nIand3, nIand7, nIand31, nIshr, nIle, nIlt, nIeq, nIc, vpI, nIm1, m1nI, m1lt, nIlm, m1le, nIlem, nIneg, u2_ss, u2_nn, u2_kk, e5, f1] at c1) <;> (try simp (disch := omega) only [nlit, natrem, nIrm, nIam, nIam',  nI_add, pk_mul, nIsub, nIrem, nIdiv, nIand1, nIand3, nIand7, nIand31, nIshr, nIle, nIlt, nIeq, nIc, vpI, nIm1, m1nI, m1lt, nIlm, m1le, nIlem, nIneg, u2_ss, u2_nn, u2_kk, e5, f1]) <;> (first | omega | trivial)
    · (try simp (disch := omega) only [nlit, natrem, nIrm, nIam, nIam',  nI_add, pk_mul, nIsub, nIrem, nIdiv, nIand1, nIand3, nIand7, nIand31, nIshr, nIle, nIlt, nIeq, nIc, vpI, nIm1, m1nI, m1lt, nIlm, m1le, nIlem, nIneg, u2_ss, u2_nn, u2_kk, e5, f1] at c1) <;> (first | omega | exact absurd rfl c1 | exact absurd trivial c1)
    · (try simp (disch := omega) only [nlit, natrem, nIrm, nIam, nIam',  nI_add, pk_mul, nIsub, nIrem, nIdiv, nIand1, nIand3, nIand7, nIand31, nIshr, nIle, nIlt, nIeq, nIc, vpI, nIm1, m1nI, m1lt, nIlm, m1le, nIlem, nIneg, u2_ss, u2_nn, u2_kk, e5, f1] at c1); (try simp (disch := omega) only [nlit, natrem, nIrm, nIam, nIam',  nI_add, pk_mul, nIsub, nIrem, nIdiv, nIand1, nIand3, nIand7, nIand31, nIshr, nIle, nIlt, nIeq, nIc, vpI, nIm1, m1nI, m1lt, nIlm, m1le, nIlem, nIneg, u2_ss, u2_nn, u2_kk, e5, f1])
      exact hf h0
  · have e5 : I 35 g = nI (l.length + 1) := by rw [e5, hlw, List.length_append]; rfl
    have hl6 : l.length + 1 ≤ 6 := by rw [hlw, List.length_append] at hl; exact hl
    have e6 : I 36 (g * 6 + l.length) = nI w := by
      have := (hE.2.1 g hg).2 l.length (by rw [hlw, List.length_append]; exact Nat.lt_succ_self _)
      rw [hlw, getD_r (Nat.le_refl _), Nat.sub_self] at this
      exact this
    refine EX1_forget ho ⟨?_, ⟨fun c1 => ⟨?_, ⟨?_, ?_⟩⟩, fun c1 => ?_⟩⟩
    · (try simp (disch := omega) only [nlit, natrem, nIrm, nIam, nIam',  nI_add, pk_mul, nIsub, nIrem, nIdiv, nIand1, nIand3, nIand7, nIand31, nIshr, nIle, nIlt, nIeq, nIc, vpI, nIm1, m1nI, m1lt, nIlm, m1le, nIlem, nIneg, u2_ss, u2_nn, u2_kk, e5, e6, Nat.add_sub_cancel]) <;> (first | omega | trivial)
    · (try simp (disch := omega) only [nlit, natrem, nIrm, nIam, nIam',  nI_add, pk_mul, nIsub, nIrem, nIdiv, nIand1, nIand3, nIand7, nIand31, nIshr, nIle, nIlt, nIeq, nIc, vpI, nIm1, m1nI, m1lt, nIlm, m1le, nIlem, nIneg, u2_ss, u2_nn, u2_kk, e5, e6, Nat.add_sub_cancel] at c1) <;> (try simp (disch := omega) only [nlit, natrem, nIrm, nIam, nIam',  nI_add, pk_mul, nIsub, nIrem, nIdiv, nIand1, nIand3, nIand7, nIand31, nIshr, nIle, nIlt, nIeq, nIc, vpI, nIm1, m1nI, m1lt, nIlm, m1le, nIlem, nIneg, u2_ss, u2_nn, u2_kk, e5, e6, Nat.add_sub_cancel]) <;> (first | omega | trivial)
    · (try simp (disch := omega) only [nlit, natrem, nIrm, nIam, nIam',  nI_add, pk_mul, nIsub, nIrem, nIdiv, nIand1, nIand3, nIand7, nIand31, nIshr, nIle, nIlt, nIeq, nIc, vpI, nIm1, m1nI, m1lt, nIlm, m1le, nIlem, nIneg, u2_ss, u2_nn, u2_kk, e5, e6, Nat.add_sub_cancel] at c1) <;> (try simp (disch := omega) only [nlit, natrem, nIrm, nIam, nIam',  nI_add, pk_mul, nIsub, nIrem, nIdiv, nIand1, nIand3, nIand7, nIand31, nIshr, nIle, nIlt, nIeq, nIc, vpI, nIm1, m1nI, m1lt, nIlm, m1le, nIlem, nIneg, u2_ss, u2_nn, u2_kk, e5, e6, Nat.add_sub_cancel]) <;> (first | omega | trivial)
    · (try simp (disch := omega) only [nlit, natrem, nIrm, nIam, nIam',  nI_add, pk_mul, nIsub, nIrem, nIdiv, nIand1, nIand3, nIand7, nIand31, nIshr, nIle, nIlt, nIeq, nIc, vpI, nIm1, m1nI, m1lt, nIlm, m1le, nIlem, nIneg, u2_ss, u2_nn, u2_kk, e5, e6, Nat.add_sub_cancel] at c1); (try simp (disch := omega) only [nlit, natrem, nIrm, nIam, nIam',  nI_add, pk_mul, nIsub, nIrem, nIdiv, nIand1, nIand3, nIand7, nIand31, nIshr, nIle, nIlt, nIeq, nIc, vpI, nIm1, m1nI, m1lt, nIlm, m1le, nIlem, nIneg, u2_ss, u2_nn, u2_kk, e5, e6, Nat.add_sub_cancel])
      refine ht l w hlw _ ⟨fun w' hw => ?_, fun x hx => ⟨?_, ?_⟩, fun x hx => ?_⟩ (Kp.rf.up (by simp))
      · rw [u2_nn _ _ _ _ (by decide)]; exact hE.1 w' hw
      · by_cases e : x = g
        · subst e; rw [u2_ss, up1_s]
        · rw [u2_kk _ _ _ _ e, up1_n _ _ e]; exact (hE.2.1 x hx).1
      · intro j hj
        rw [u2_nn _ _ _ _ (by decide)]
        by_cases e : x = g
        · subst e
          rw [up1_s] at hj ⊢
          have := (hE.2.1 x hx).2 j (by rw [hlw, List.length_append]; omega)
          rw [hlw, getD_l hj] at this
          exact this
        · rw [up1_n _ _ e] at hj ⊢
          exact (hE.2.1 x hx).2 j hj
      · rw [u2_nn _ _ _ _ (by decide)]; exact hE.2.2 x hx
    · (try simp (disch := omega) only [nlit, natrem, nIrm, nIam, nIam',  nI_add, pk_mul, nIsub, nIrem, nIdiv, nIand1, nIand3, nIand7, nIand31, nIshr, nIle, nIlt, nIeq, nIc, vpI, nIm1, m1nI, m1lt, nIlm, m1le, nIlem, nIneg, u2_ss, u2_nn, u2_kk, e5, e6, Nat.add_sub_cancel] at c1) <;> (first | omega | exact absurd rfl c1 | exact absurd trivial c1)
def sumL (lf : Nat → Nat) : Nat → Nat
  | 0 => 0
  | n + 1 => sumL lf n + lf n
def cntS (sn : Nat → Nat) : Nat → Nat
  | 0 => 0
  | n + 1 => cntS sn n + (if sn n = 0 then 0 else 1)
theorem sumL_le {lf : Nat → Nat} (h : ∀ w, w < 6 → lf w ≤ 99) : ∀ n, n ≤ 6 → sumL lf n ≤ 99 * n
  | 0, _ => Nat.le_refl 0
  | n + 1, hn => by have := sumL_le h n (by omega); have := h n (by omega); show sumL lf n + lf n ≤ _; omega
theorem cntS_le (sn : Nat → Nat) : ∀ n, cntS sn n ≤ n
  | 0 => Nat.le_refl 0
  | n + 1 => by have := cntS_le sn n; show cntS sn n + (if _ then 0 else 1) ≤ _; split <;> omega
theorem sumL_cut {lf : Nat → Nat} {k : Nat} (h : ∀ w, w < 6 → k ≤ w → lf w = 0) : ∀ n, k + n ≤ 6 → sumL lf (k + n) = sumL lf k
  | 0, _ => rfl
  | n + 1, hn => by show sumL lf (k + n) + lf (k + n) = _; rw [sumL_cut h n (by omega), h (k + n) (by omega) (by omega)]; rfl
theorem cntS_cut {sn : Nat → Nat} {k : Nat} (h : ∀ w, w < 6 → k ≤ w → sn w = 0) : ∀ n, k + n ≤ 6 → cntS sn (k + n) = cntS sn k
  | 0, _ => rfl
  | n + 1, hn => by show cntS sn (k + n) + (if sn (k + n) = 0 then 0 else 1) = _; rw [cntS_cut h n (by omega), if_pos (h (k + n) (by omega) (by omega))]; rfl
theorem glassesLeft_ok {d : Nat} {sx : Sx} {I : Ints} {L : Lngs} {R : Rfs} {q : Q3} {lf : Nat → Nat} {gl : Nat → List Nat} {sn : Nat → Nat} (hE : EvC 33 lf gl sn I) (h9 : ∀ w, w < 6 → lf w ≤ 99) (h : q (some (.int (nI (sumL lf 6)))) I L R) : E0 mX1_glassesLeft (d + 1) sx [.ref 33] I L R q := by
  have ho : isEve 33 := Or.inl rfl
  have hlp : ∀ n w : Nat, n = 6 - w → w ≤ 6 → Y mX1_glassesLeft (d + 1) sx 4 [(0, .ref 33), (1, .int (nI (sumL lf w))), (2, .int (nI w))] [] I L R q := by
    intro n
    induction n with
    | zero =>
      intro w hn hw
      have e : w = 6 := by omega
      subst e
      refine RX1_glassesLeft_4 ho ⟨fun c1 => ?_, fun c1 => ⟨?_, ?_⟩⟩
      · (try simp (disch := omega) only [nlit, natrem, nIrm, nIam, nIam',  nI_add, pk_mul, nIsub, nIrem, nIdiv, nIand1, nIand3, nIand7, nIand31, nIshr, nIle, nIlt, nIeq, nIc, vpI, nIm1, m1nI, m1lt, nIlm, m1le, nIlem, nIneg, u2_ss, u2_nn, u2_kk] at c1); (try simp (disch := omega) only [nlit, natrem, nIrm, nIam, nIam',  nI_add, pk_mul, nIsub, nIrem, nIdiv, nIand1, nIand3, nIand7, nIand31, nIshr, nIle, nIlt, nIeq, nIc, vpI, nIm1, m1nI, m1lt, nIlm, m1le, nIlem, nIneg, u2_ss, u2_nn, u2_kk])
        exact h
      · (try simp (disch := omega) only [nlit, natrem, nIrm, nIam, nIam',  nI_add, pk_mul, nIsub, nIrem, nIdiv, nIand1, nIand3, nIand7, nIand31, nIshr, nIle, nIlt, nIeq, nIc, vpI, nIm1, m1nI, m1lt, nIlm, m1le, nIlem, nIneg, u2_ss, u2_nn, u2_kk] at c1) <;> (try simp (disch := omega) only [nlit, natrem, nIrm, nIam, nIam',  nI_add, pk_mul, nIsub, nIrem, nIdiv, nIand1, nIand3, nIand7, nIand31, nIshr, nIle, nIlt, nIeq, nIc, vpI, nIm1, m1nI, m1lt, nIlm, m1le, nIlem, nIneg, u2_ss, u2_nn, u2_kk]) <;> (first | omega | trivial)
      · (try simp (disch := omega) only [nlit, natrem, nIrm, nIam, nIam',  nI_add, pk_mul, nIsub, nIrem, nIdiv, nIand1, nIand3, nIand7, nIand31, nIshr, nIle, nIlt, nIeq, nIc, vpI, nIm1, m1nI, m1lt, nIlm, m1le, nIlem, nIneg, u2_ss, u2_nn, u2_kk] at c1) <;> (first | omega | exact absurd rfl c1 | exact absurd trivial c1)
    | succ n ih =>
      intro w hn hw
      have e4 : I (33 + 1) w = nI (lf w) := hE.1 w (by omega)
      have := sumL_le h9 w (by omega)
      have := h9 w (by omega)
      refine RX1_glassesLeft_4 ho ⟨fun c1 => ?_, fun c1 => ⟨?_, ?_⟩⟩
      · (try simp (disch := omega) only [nlit, natrem, nIrm, nIam, nIam',  nI_add, pk_mul, nIsub, nIrem, nIdiv, nIand1, nIand3, nIand7, nIand31, nIshr, nIle, nIlt, nIeq, nIc, vpI, nIm1, m1nI, m1lt, nIlm, m1le, nIlem, nIneg, u2_ss, u2_nn, u2_kk, e4] at c1); (try simp (disch := omega) only [nlit, natrem, nIrm, nIam, nIam',  nI_add, pk_mul, nIsub, nIrem, nIdiv, nIand1, nIand3, nIand7, nIand31, nIshr, nIle, nIlt, nIeq, nIc, vpI, nIm1, m1nI, m1lt, nIlm, m1le, nIlem, nIneg, u2_ss, u2_nn, u2_kk, e4])
        omega
      · (try simp (disch := omega) only [nlit, natrem, nIrm, nIam, nIam',  nI_add, pk_mul, nIsub, nIrem, nIdiv, nIand1, nIand3, nIand7, nIand31, nIshr, nIle, nIlt, nIeq, nIc, vpI, nIm1, m1nI, m1lt, nIlm, m1le, nIlem, nIneg, u2_ss, u2_nn, u2_kk, e4] at c1) <;> (try simp (disch := omega) only [nlit, natrem, nIrm, nIam, nIam',  nI_add, pk_mul, nIsub, nIrem, nIdiv, nIand1, nIand3, nIand7, nIand31, nIshr, nIle, nIlt, nIeq, nIc, vpI, nIm1, m1nI, m1lt, nIlm, m1le, nIlem, nIneg, u2_ss, u2_nn, u2_kk, e4]) <;> (first | omega | trivial)
      · (try simp (disch := omega) only [nlit, natrem, nIrm, nIam, nIam',  nI_add, pk_mul, nIsub, nIrem, nIdiv, nIand1, nIand3, nIand7, nIand31, nIshr, nIle, nIlt, nIeq, nIc, vpI, nIm1, m1nI, m1lt, nIlm, m1le, nIlem, nIneg, u2_ss, u2_nn, u2_kk, e4] at c1); (try simp (disch := omega) only [nlit, natrem, nIrm, nIam, nIam',  nI_add, pk_mul, nIsub, nIrem, nIdiv, nIand1, nIand3, nIand7, nIand31, nIshr, nIle, nIlt, nIeq, nIc, vpI, nIm1, m1nI, m1lt, nIlm, m1le, nIlem, nIneg, u2_ss, u2_nn, u2_kk, e4])
        exact ih (w + 1) (by omega) (by omega)
  exact EX1_glassesLeft ho (hlp _ 0 rfl (by decide))
theorem snV_0 {s : Nat} (h : s = 0) : snV s = -1 := by unfold snV; rw [if_pos h]
theorem snV_1 {s : Nat} (h : s ≠ 0) : snV s = nI (s - 1) := by unfold snV; rw [if_neg h]
theorem seenGuests_ok {d : Nat} {sx : Sx} {I : Ints} {L : Lngs} {R : Rfs} {q : Q3} {lf : Nat → Nat} {gl : Nat → List Nat} {sn : Nat → Nat} (hE : EvC 33 lf gl sn I) (h9 : ∀ w, w < 6 → sn w ≤ 64) (h : q (some (.int (nI (cntS sn 6)))) I L R) : E0 mX1_seenGuests (d + 1) sx [.ref 33] I L R q := by
  have ho : isEve 33 := Or.inl rfl
  have hlp : ∀ n w : Nat, n = 6 - w → w ≤ 6 → Y mX1_seenGuests (d + 1) sx 4 [(0, .ref 33), (1, .int (nI (cntS sn w))), (2, .int (nI w))] [] I L R q := by
    intro n
    induction n with
    | zero =>
      intro w hn hw
      have e : w = 6 := by omega
      subst e
      refine RX1_seenGuests_4 ho ⟨fun c1 => ?_, fun c1 => ⟨?_, ⟨fun c2 => ?_, fun c2 => ?_⟩⟩⟩
      · (try simp (disch := omega) only [nlit, natrem, nIrm, nIam, nIam',  nI_add, pk_mul, nIsub, nIrem, nIdiv, nIand1, nIand3, nIand7, nIand31, nIshr, nIle, nIlt, nIeq, nIc, vpI, nIm1, m1nI, m1lt, nIlm, m1le, nIlem, nIneg, u2_ss, u2_nn, u2_kk] at c1); (try simp (disch := omega) only [nlit, natrem, nIrm, nIam, nIam',  nI_add, pk_mul, nIsub, nIrem, nIdiv, nIand1, nIand3, nIand7, nIand31, nIshr, nIle, nIlt, nIeq, nIc, vpI, nIm1, m1nI, m1lt, nIlm, m1le, nIlem, nIneg, u2_ss, u2_nn, u2_kk])
        exact h
      · (try simp (disch := omega) only [nlit, natrem, nIrm, nIam, nIam',  nI_add, pk_mul, nIsub, nIrem, nIdiv, nIand1, nIand3, nIand7, nIand31, nIshr, nIle, nIlt, nIeq, nIc, vpI, nIm1, m1nI, m1lt, nIlm, m1le, nIlem, nIneg, u2_ss, u2_nn, u2_kk] at c1) <;> (try simp (disch := omega) only [nlit, natrem, nIrm, nIam, nIam',  nI_add, pk_mul, nIsub, nIrem, nIdiv, nIand1, nIand3, nIand7, nIand31, nIshr, nIle, nIlt, nIeq, nIc, vpI, nIm1, m1nI, m1lt, nIlm, m1le, nIlem, nIneg, u2_ss, u2_nn, u2_kk]) <;> (first | omega | trivial)
      · (try simp (disch := omega) only [nlit, natrem, nIrm, nIam, nIam',  nI_add, pk_mul, nIsub, nIrem, nIdiv, nIand1, nIand3, nIand7, nIand31, nIshr, nIle, nIlt, nIeq, nIc, vpI, nIm1, m1nI, m1lt, nIlm, m1le, nIlem, nIneg, u2_ss, u2_nn, u2_kk] at c1 c2) <;> (first | omega | exact absurd rfl c1 | exact absurd trivial c1)
      · (try simp (disch := omega) only [nlit, natrem, nIrm, nIam, nIam',  nI_add, pk_mul, nIsub, nIrem, nIdiv, nIand1, nIand3, nIand7, nIand31, nIshr, nIle, nIlt, nIeq, nIc, vpI, nIm1, m1nI, m1lt, nIlm, m1le, nIlem, nIneg, u2_ss, u2_nn, u2_kk] at c1 c2) <;> (first | omega | exact absurd rfl c1 | exact absurd trivial c1)
    | succ n ih =>
      intro w hn hw
      have e4 : I 37 w = snV (sn w) := hE.2.2 w (by omega)
      have := cntS_le sn w
      have := h9 w (by omega)
      have hi := ih (w + 1) (by omega) (by omega)
      by_cases h0 : sn w = 0
      · rw [snV_0 h0] at e4
        rw [show cntS sn (w + 1) = cntS sn w by show _ + (if _ then 0 else 1) = _; rw [if_pos h0]; rfl] at hi
        refine RX1_seenGuests_4 ho ⟨fun cc => ?_, fun cc => ⟨?_, fun c2 => ?_, fun c2 => ?_⟩⟩
        · simp (disch := omega) only [nlit, natrem, nIrm, nIam, nIam',  nI_add, pk_mul, nIsub, nIrem, nIdiv, nIand1, nIand3, nIand7, nIand31, nIshr, nIle, nIlt, nIeq, nIc, vpI, nIm1, m1nI, m1lt, nIlm, m1le, nIlem, nIneg, u2_ss, u2_nn, u2_kk] at cc; omega
        · simp (disch := omega) only [nlit, natrem, nIrm, nIam, nIam',  nI_add, pk_mul, nIsub, nIrem, nIdiv, nIand1, nIand3, nIand7, nIand31, nIshr, nIle, nIlt, nIeq, nIc, vpI, nIm1, m1nI, m1lt, nIlm, m1le, nIlem, nIneg, u2_ss, u2_nn, u2_kk]; omega
        · simp (disch := omega) only [nlit, natrem, nIrm, nIam, nIam',  nI_add, pk_mul, nIsub, nIrem, nIdiv, nIand1, nIand3, nIand7, nIand31, nIshr, nIle, nIlt, nIeq, nIc, vpI, nIm1, m1nI, m1lt, nIlm, m1le, nIlem, nIneg, u2_ss, u2_nn, u2_kk]; exact hi
        · simp (disch := omega) only [nlit, natrem, nIrm, nIam, nIam',  nI_add, pk_mul, nIsub, nIrem, nIdiv, nIand1, nIand3, nIand7, nIand31, nIshr, nIle, nIlt, nIeq, nIc, vpI, nIm1, m1nI, m1lt, nIlm, m1le, nIlem, nIneg, u2_ss, u2_nn, u2_kk] at c2; exact absurd e4 c2
      · rw [snV_1 h0] at e4
        rw [show cntS sn (w + 1) = cntS sn w + 1 by show _ + (if _ then 0 else 1) = _; rw [if_neg h0]] at hi
        refine RX1_seenGuests_4 ho ⟨fun cc => ?_, fun cc => ⟨?_, fun c2 => ?_, fun c2 => ?_⟩⟩
        · simp (disch := omega) only [nlit, natrem, nIrm, nIam, nIam',  nI_add, pk_mul, nIsub, nIrem, nIdiv, nIand1, nIand3, nIand7, nIand31, nIshr, nIle, nIlt, nIeq, nIc, vpI, nIm1, m1nI, m1lt, nIlm, m1le, nIlem, nIneg, u2_ss, u2_nn, u2_kk] at cc; omega
        · simp (disch := omega) only [nlit, natrem, nIrm, nIam, nIam',  nI_add, pk_mul, nIsub, nIrem, nIdiv, nIand1, nIand3, nIand7, nIand31, nIshr, nIle, nIlt, nIeq, nIc, vpI, nIm1, m1nI, m1lt, nIlm, m1le, nIlem, nIneg, u2_ss, u2_nn, u2_kk]; omega
        · exfalso
          rw [nIc (by omega)] at c2
          have e4 : I (33 + 4) w = nI (sn w - 1) := e4
          rw [e4] at c2
          exact m1_ne (by omega) c2
        · simp (disch := omega) only [nlit, natrem, nIrm, nIam, nIam',  nI_add, pk_mul, nIsub, nIrem, nIdiv, nIand1, nIand3, nIand7, nIand31, nIshr, nIle, nIlt, nIeq, nIc, vpI, nIm1, m1nI, m1lt, nIlm, m1le, nIlem, nIneg, u2_ss, u2_nn, u2_kk]; exact hi
  exact EX1_seenGuests ho (hlp _ 0 rfl (by decide))
theorem changed_ok {d : Nat} {sx : Sx} {I : Ints} {L : Lngs} {R : Rfs} {q : Q3} {g : Nat} (hg : g < 6) (h : ∀ J, J 43 g = nI 1 → (∀ x, x ≠ g → J 43 x = I 43 x) → J 56 0 = nI 0 → J 48 3 = nI 0 → Kp (fun k => k ≠ 43 ∧ k ≠ 48 ∧ k ≠ 56) I J → q none J L R) : E0 mX11_changed (d + 1) sx [.ref 0, .int (nI g)] I L R q := by
  have e0 : vp_nar .boolean (nI 1) = nI 1 := by decide
  refine EX11_changed  ⟨?_, ?_⟩
  · (try simp (disch := omega) only [nlit, natrem, nIrm, nIam, nIam',  nI_add, pk_mul, nIsub, nIrem, nIdiv, nIand1, nIand3, nIand7, nIand31, nIshr, nIle, nIlt, nIeq, nIc, vpI, nIm1, m1nI, m1lt, nIlm, m1le, nIlem, nIneg, u2_ss, u2_nn, u2_kk, e0]) <;> (first | omega | trivial)
  · (try simp (disch := omega) only [nlit, natrem, nIrm, nIam, nIam',  nI_add, pk_mul, nIsub, nIrem, nIdiv, nIand1, nIand3, nIand7, nIand31, nIshr, nIle, nIlt, nIeq, nIc, vpI, nIm1, m1nI, m1lt, nIlm, m1le, nIlem, nIneg, u2_ss, u2_nn, u2_kk, e0])
    refine h _ ?_ (fun x hx => ?_) ?_ ?_ (((Kp.rf.up (by simp)).up (by simp)).up (by simp))
    · simp (disch := omega) only [nlit, natrem, nIrm, nIam, nIam',  nI_add, pk_mul, nIsub, nIrem, nIdiv, nIand1, nIand3, nIand7, nIand31, nIshr, nIle, nIlt, nIeq, nIc, vpI, nIm1, m1nI, m1lt, nIlm, m1le, nIlem, nIneg, u2_ss, u2_nn, u2_kk]
    · simp (disch := omega) only [nlit, natrem, nIrm, nIam, nIam',  nI_add, pk_mul, nIsub, nIrem, nIdiv, nIand1, nIand3, nIand7, nIand31, nIshr, nIle, nIlt, nIeq, nIc, vpI, nIm1, m1nI, m1lt, nIlm, m1le, nIlem, nIneg, u2_ss, u2_nn, u2_kk]
    · simp (disch := omega) only [nlit, natrem, nIrm, nIam, nIam',  nI_add, pk_mul, nIsub, nIrem, nIdiv, nIand1, nIand3, nIand7, nIand31, nIshr, nIle, nIlt, nIeq, nIc, vpI, nIm1, m1nI, m1lt, nIlm, m1le, nIlem, nIneg, u2_ss, u2_nn, u2_kk]
    · simp (disch := omega) only [nlit, natrem, nIrm, nIam, nIam',  nI_add, pk_mul, nIsub, nIrem, nIdiv, nIand1, nIand3, nIand7, nIand31, nIshr, nIle, nIlt, nIeq, nIc, vpI, nIm1, m1nI, m1lt, nIlm, m1le, nIlem, nIneg, u2_ss, u2_nn, u2_kk]
theorem allChanged_ok {d : Nat} {sx : Sx} {I : Ints} {L : Lngs} {R : Rfs} {q : Q3} (h : ∀ J, (∀ g, g < 6 → J 43 g = nI 1) → J 56 0 = nI 0 → J 48 3 = nI 0 → Kp (fun k => k ≠ 43 ∧ k ≠ 48 ∧ k ≠ 56) I J → q none J L R) : E0 mX11_allChanged (d + 2) sx [.ref 0] I L R q := by
  have hlp : ∀ n w : Nat, ∀ J, n = 6 - w → w ≤ 6 → (∀ g, g < w → J 43 g = nI 1) → (w ≠ 0 → J 56 0 = nI 0 ∧ J 48 3 = nI 0) → Kp (fun k => k ≠ 43 ∧ k ≠ 48 ∧ k ≠ 56) I J → Y mX11_allChanged (d + 2) sx 2 [(0, .ref 0), (1, .int (nI w))] [] J L R q := by
    intro n
    induction n with
    | zero =>
      intro w J hn hw h1 h2 h3
      have e : w = 6 := by omega
      subst e
      refine RX11_allChanged_2  ⟨fun c1 => ?_, fun c1 => ?_⟩
      · (try simp (disch := omega) only [nlit, natrem, nIrm, nIam, nIam',  nI_add, pk_mul, nIsub, nIrem, nIdiv, nIand1, nIand3, nIand7, nIand31, nIshr, nIle, nIlt, nIeq, nIc, vpI, nIm1, m1nI, m1lt, nIlm, m1le, nIlem, nIneg, u2_ss, u2_nn, u2_kk] at c1); (try simp (disch := omega) only [nlit, natrem, nIrm, nIam, nIam',  nI_add, pk_mul, nIsub, nIrem, nIdiv, nIand1, nIand3, nIand7, nIand31, nIshr, nIle, nIlt, nIeq, nIc, vpI, nIm1, m1nI, m1lt, nIlm, m1le, nIlem, nIneg, u2_ss, u2_nn, u2_kk])
        exact h J h1 (h2 (by decide)).1 (h2 (by decide)).2 h3
      · (try simp (disch := omega) only [nlit, natrem, nIrm, nIam, nIam',  nI_add, pk_mul, nIsub, nIrem, nIdiv, nIand1, nIand3, nIand7, nIand31, nIshr, nIle, nIlt, nIeq, nIc, vpI, nIm1, m1nI, m1lt, nIlm, m1le, nIlem, nIneg, u2_ss, u2_nn, u2_kk] at c1) <;> (first | omega | exact absurd rfl c1 | exact absurd trivial c1)
    | succ n ih =>
      intro w J hn hw h1 h2 h3
      refine RX11_allChanged_2  ⟨fun c1 => ?_, fun c1 => ?_⟩
      · (try simp (disch := omega) only [nlit, natrem, nIrm, nIam, nIam',  nI_add, pk_mul, nIsub, nIrem, nIdiv, nIand1, nIand3, nIand7, nIand31, nIshr, nIle, nIlt, nIeq, nIc, vpI, nIm1, m1nI, m1lt, nIlm, m1le, nIlem, nIneg, u2_ss, u2_nn, u2_kk] at c1); (try simp (disch := omega) only [nlit, natrem, nIrm, nIam, nIam',  nI_add, pk_mul, nIsub, nIrem, nIdiv, nIand1, nIand3, nIand7, nIand31, nIshr, nIle, nIlt, nIeq, nIc, vpI, nIm1, m1nI, m1lt, nIlm, m1le, nIlem, nIneg, u2_ss, u2_nn, u2_kk])
        omega
      · (try simp (disch := omega) only [nlit, natrem, nIrm, nIam, nIam',  nI_add, pk_mul, nIsub, nIrem, nIdiv, nIand1, nIand3, nIand7, nIand31, nIshr, nIle, nIlt, nIeq, nIc, vpI, nIm1, m1nI, m1lt, nIlm, m1le, nIlem, nIneg, u2_ss, u2_nn, u2_kk] at c1); (try simp (disch := omega) only [nlit, natrem, nIrm, nIam, nIam',  nI_add, pk_mul, nIsub, nIrem, nIdiv, nIand1, nIand3, nIand7, nIand31, nIshr, nIle, nIlt, nIeq, nIc, vpI, nIm1, m1nI, m1lt, nIlm, m1le, nIlem, nIneg, u2_ss, u2_nn, u2_kk])
        refine changed_ok (by omega) (fun K k1 k2 k3 k4 k5 => RX11_allChanged_13 ?_)
        rw [show nI w + 1 = nI (w + 1) from nI_add w 1]
        refine ih (w + 1) K (by omega) (by omega) (fun g hg => ?_) (fun _ => ⟨k3, k4⟩) (h3.tr k5)
        by_cases e : g = w
        · rw [e]; exact k1
        · rw [k2 g e]; exact h1 g (by omega)
  exact EX11_allChanged (hlp _ 0 I rfl (by decide) (fun g hg => absurd hg (Nat.not_lt_zero _)) (fun w => absurd rfl w) Kp.rf)
