/-! glasses undone -/
theorem cp2_n {I : Ints} {o0 sp o1 dp n a : Nat} (h : a ≠ o1) : cp2 I o0 sp o1 dp n a = I a := by
  funext b
  unfold cp2
  rw [if_neg h]
theorem cp2_in {I : Ints} {o0 sp o1 dp n j : Nat} (h : dp ≤ j) (h2 : j < dp + n) : cp2 I o0 sp o1 dp n o1 j = I o0 (sp + (j - dp)) := by
  unfold cp2 va_cpy
  rw [if_pos rfl, if_pos ⟨h, h2⟩]
theorem cp2_out {I : Ints} {o0 sp o1 dp n j : Nat} (h : j < dp ∨ dp + n ≤ j) : cp2 I o0 sp o1 dp n o1 j = I o1 j := by
  unfold cp2 va_cpy
  rw [if_pos rfl, if_neg (by omega)]
abbrev Es : Type := (Nat → Nat) × (Nat → List Nat)
def UnD (g w wt : Nat) (cur p : Es) : Prop := (wt = 1 ∧ p.1 = cur.1 ∧ p.2 = up1 cur.2 g (cur.2 g ++ [w])) ∨ (wt = 0 ∧ p.1 = up1 cur.1 w (cur.1 w + 1) ∧ cur.2 g = p.2 g ++ [w] ∧ p.2 = up1 cur.2 g (p.2 g))
def PaR (I : Ints) : List Es → Es → Prop
  | [], _ => True
  | p :: us, cur => (∃ g w wt, g < 6 ∧ w < 6 ∧ wt ≤ 1 ∧ I 39 us.length = nI (g * 8 + w + 64 * wt) ∧ UnD g w wt cur p) ∧ PaR I us p
def PaC (us : List Es) (cur : Es) (I : Ints) : Prop := I 38 1 = nI us.length ∧ us.length ≤ 20 ∧ PaR I us cur
def push20 (us : List Es) (x : Es) : List Es := if us.length < 20 then x :: us else x :: us.dropLast
theorem PaR.congr {I J : Ints} : ∀ (us : List Es) (cur : Es), PaR I us cur → (∀ i, i < us.length → J 39 i = I 39 i) → PaR J us cur
  | [], _, _, _ => trivial
  | p :: us, cur, ⟨⟨g, w, wt, h1, h2, h3, h4, h5⟩, h6⟩, e => ⟨⟨g, w, wt, h1, h2, h3, (e _ (by simp)).trans h4, h5⟩, PaR.congr us p h6 (fun i hi => e i (by simp; omega))⟩
theorem PaR.drop {I J : Ints} : ∀ (us : List Es) (cur : Es), PaR I us cur → (∀ i, i + 1 < us.length → J 39 i = I 39 (i + 1)) → PaR J us.dropLast cur
  | [], _, _, _ => trivial
  | [_], _, _, _ => trivial
  | p :: p2 :: us, cur, ⟨⟨g, w, wt, h1, h2, h3, h4, h5⟩, h6⟩, e => by
    refine ⟨⟨g, w, wt, h1, h2, h3, ?_, h5⟩, PaR.drop (p2 :: us) p h6 (fun i hi => e i (by simp at hi ⊢; omega))⟩
    rw [List.length_dropLast]
    simp only [List.length_cons, Nat.add_sub_cancel] at h4 ⊢
    rw [e _ (by simp)]
    exact h4
theorem add_ok {d : Nat} {sx : Sx} {I : Ints} {L : Lngs} {R : Rfs} {q : Q3} {us : List Es} {cur new : Es} (hP : PaC us cur I) {g w wt : Nat} (hg : g < 6) (hw : w < 6) (hwt : wt ≤ 1) (hU : UnD g w wt new cur)
    (h : ∀ J, PaC (push20 us cur) new J → Kp (fun k => k ≠ 38 ∧ k ≠ 39) I J → q none J L R) : E0 mX4_add (d + 1) sx [.ref 38, .int (nI g), .int (nI w), .int (nI wt)] I L R q := by
  obtain ⟨p1, p2, p3⟩ := hP
  have key1 : us.length < 20 → PaC (push20 us cur) new (u2 (u2 I 39 us.length (nI (g * 8 + w + 64 * wt))) 38 1 (nI (us.length + 1))) := by
    intro hl
    unfold push20
    rw [if_pos hl]
    refine ⟨by rw [u2_ss]; rfl, by simp; omega, ⟨g, w, wt, hg, hw, hwt, ?_, hU⟩, ?_⟩
    · rw [u2_nn _ _ _ _ (by decide), u2_ss]
    · exact PaR.congr _ _ p3 (fun i hi => by rw [u2_nn _ _ _ _ (by decide), u2_kk _ _ _ _ (by omega)])
  have key2 : ¬ us.length < 20 → PaC (push20 us cur) new (u2 (u2 (u2 (cp2 I 39 1 39 0 19) 38 1 (nI 19)) 39 19 (nI (g * 8 + w + 64 * wt))) 38 1 (nI 20)) := by
    intro hl
    have h20 : us.length = 20 := by omega
    have hdl : us.dropLast.length = 19 := by rw [List.length_dropLast]; omega
    unfold push20
    rw [if_neg hl]
    refine ⟨by rw [u2_ss, List.length_cons, hdl], by simp; omega, ⟨g, w, wt, hg, hw, hwt, ?_, hU⟩, ?_⟩
    · rw [hdl, u2_nn _ _ _ _ (by decide), u2_ss]
    · refine PaR.drop us cur p3 (fun i hi => ?_)
      rw [u2_nn _ _ _ _ (by decide), u2_kk _ _ _ _ (by omega), u2_nn _ _ _ _ (by decide), cp2_in (Nat.zero_le _) (by omega)]
      congr 1
      omega
  have hwt2 : wt = 0 ∨ wt = 1 := by omega
  rcases hwt2 with rfl | rfl
  · skip
    refine EX4_add  ⟨fun c1 => ⟨fun c2 => ⟨?_, ?_⟩, fun c2 => ⟨?_, ?_⟩⟩, fun c1 => ⟨fun c2 => ?_, fun c2 => ?_⟩⟩
    · (try simp (disch := omega) only [nlit, natrem, nIrm, nIam, nIam',  nI_add, pk_mul, nIsub, nIrem, nIdiv, nIand1, nIand3, nIand7, nIand31, nIshr, nIle, nIlt, nIeq, nIc, vpI, nIm1, m1nI, m1lt, nIlm, m1le, nIlem, nIneg, u2_ss, u2_nn, u2_kk, p1, Nat.add_zero, Nat.mul_zero] at c1 c2) <;> (try simp (disch := omega) only [nlit, natrem, nIrm, nIam, nIam',  nI_add, pk_mul, nIsub, nIrem, nIdiv, nIand1, nIand3, nIand7, nIand31, nIshr, nIle, nIlt, nIeq, nIc, vpI, nIm1, m1nI, m1lt, nIlm, m1le, nIlem, nIneg, u2_ss, u2_nn, u2_kk, p1, Nat.add_zero, Nat.mul_zero]) <;> (first | omega | trivial)
    · (try simp (disch := omega) only [nlit, natrem, nIrm, nIam, nIam',  nI_add, pk_mul, nIsub, nIrem, nIdiv, nIand1, nIand3, nIand7, nIand31, nIshr, nIle, nIlt, nIeq, nIc, vpI, nIm1, m1nI, m1lt, nIlm, m1le, nIlem, nIneg, u2_ss, u2_nn, u2_kk, p1, Nat.add_zero, Nat.mul_zero] at c1 c2); (try simp (disch := omega) only [nlit, natrem, nIrm, nIam, nIam',  nI_add, pk_mul, nIsub, nIrem, nIdiv, nIand1, nIand3, nIand7, nIand31, nIshr, nIle, nIlt, nIeq, nIc, vpI, nIm1, m1nI, m1lt, nIlm, m1le, nIlem, nIneg, u2_ss, u2_nn, u2_kk, p1, Nat.add_zero, Nat.mul_zero])
      exact h _ (key1 c1) ((Kp.rf.up (by simp)).up (by simp))
    · (try simp (disch := omega) only [nlit, natrem, nIrm, nIam, nIam',  nI_add, pk_mul, nIsub, nIrem, nIdiv, nIand1, nIand3, nIand7, nIand31, nIshr, nIle, nIlt, nIeq, nIc, vpI, nIm1, m1nI, m1lt, nIlm, m1le, nIlem, nIneg, u2_ss, u2_nn, u2_kk, p1, Nat.add_zero, Nat.mul_zero] at c1 c2) <;> (try simp (disch := omega) only [nlit, natrem, nIrm, nIam, nIam',  nI_add, pk_mul, nIsub, nIrem, nIdiv, nIand1, nIand3, nIand7, nIand31, nIshr, nIle, nIlt, nIeq, nIc, vpI, nIm1, m1nI, m1lt, nIlm, m1le, nIlem, nIneg, u2_ss, u2_nn, u2_kk, p1, Nat.add_zero, Nat.mul_zero]) <;> (first | omega | trivial)
    · (try simp (disch := omega) only [nlit, natrem, nIrm, nIam, nIam',  nI_add, pk_mul, nIsub, nIrem, nIdiv, nIand1, nIand3, nIand7, nIand31, nIshr, nIle, nIlt, nIeq, nIc, vpI, nIm1, m1nI, m1lt, nIlm, m1le, nIlem, nIneg, u2_ss, u2_nn, u2_kk, p1, Nat.add_zero, Nat.mul_zero] at c1 c2) <;> (first | omega | exact absurd rfl c1 | exact absurd trivial c1 | exact absurd rfl c2 | exact absurd trivial c2)
    · (try simp (disch := omega) only [nlit, natrem, nIrm, nIam, nIam',  nI_add, pk_mul, nIsub, nIrem, nIdiv, nIand1, nIand3, nIand7, nIand31, nIshr, nIle, nIlt, nIeq, nIc, vpI, nIm1, m1nI, m1lt, nIlm, m1le, nIlem, nIneg, u2_ss, u2_nn, u2_kk, p1, Nat.add_zero, Nat.mul_zero] at c1 c2); (try simp (disch := omega) only [nlit, natrem, nIrm, nIam, nIam',  nI_add, pk_mul, nIsub, nIrem, nIdiv, nIand1, nIand3, nIand7, nIand31, nIshr, nIle, nIlt, nIeq, nIc, vpI, nIm1, m1nI, m1lt, nIlm, m1le, nIlem, nIneg, u2_ss, u2_nn, u2_kk, p1, Nat.add_zero, Nat.mul_zero])
      exact h _ (key2 c1) (((((show Kp (fun k => k ≠ 38 ∧ k ≠ 39) I (cp2 I 39 1 39 0 19) from fun k hk => cp2_n hk.2)).up (by simp)).up (by simp)).up (by simp))
    · (try simp (disch := omega) only [nlit, natrem, nIrm, nIam, nIam',  nI_add, pk_mul, nIsub, nIrem, nIdiv, nIand1, nIand3, nIand7, nIand31, nIshr, nIle, nIlt, nIeq, nIc, vpI, nIm1, m1nI, m1lt, nIlm, m1le, nIlem, nIneg, u2_ss, u2_nn, u2_kk, p1, Nat.add_zero, Nat.mul_zero] at c1 c2) <;> (first | omega | exact absurd rfl c1 | exact absurd trivial c1 | exact absurd rfl c2 | exact absurd trivial c2)
  · skip
    refine EX4_add  ⟨fun c1 => ⟨fun c2 => ⟨?_, ?_⟩, fun c2 => ⟨?_, ?_⟩⟩, fun c1 => ⟨fun c2 => ?_, fun c2 => ?_⟩⟩
    · (try simp (disch := omega) only [nlit, natrem, nIrm, nIam, nIam',  nI_add, pk_mul, nIsub, nIrem, nIdiv, nIand1, nIand3, nIand7, nIand31, nIshr, nIle, nIlt, nIeq, nIc, vpI, nIm1, m1nI, m1lt, nIlm, m1le, nIlem, nIneg, u2_ss, u2_nn, u2_kk, p1, Nat.mul_one] at c1 c2) <;> (try simp (disch := omega) only [nlit, natrem, nIrm, nIam, nIam',  nI_add, pk_mul, nIsub, nIrem, nIdiv, nIand1, nIand3, nIand7, nIand31, nIshr, nIle, nIlt, nIeq, nIc, vpI, nIm1, m1nI, m1lt, nIlm, m1le, nIlem, nIneg, u2_ss, u2_nn, u2_kk, p1, Nat.mul_one]) <;> (first | omega | trivial)
    · (try simp (disch := omega) only [nlit, natrem, nIrm, nIam, nIam',  nI_add, pk_mul, nIsub, nIrem, nIdiv, nIand1, nIand3, nIand7, nIand31, nIshr, nIle, nIlt, nIeq, nIc, vpI, nIm1, m1nI, m1lt, nIlm, m1le, nIlem, nIneg, u2_ss, u2_nn, u2_kk, p1, Nat.mul_one] at c1 c2) <;> (first | omega | exact absurd rfl c1 | exact absurd trivial c1 | exact absurd rfl c2 | exact absurd trivial c2)
    · (try simp (disch := omega) only [nlit, natrem, nIrm, nIam, nIam',  nI_add, pk_mul, nIsub, nIrem, nIdiv, nIand1, nIand3, nIand7, nIand31, nIshr, nIle, nIlt, nIeq, nIc, vpI, nIm1, m1nI, m1lt, nIlm, m1le, nIlem, nIneg, u2_ss, u2_nn, u2_kk, p1, Nat.mul_one] at c1 c2) <;> (try simp (disch := omega) only [nlit, natrem, nIrm, nIam, nIam',  nI_add, pk_mul, nIsub, nIrem, nIdiv, nIand1, nIand3, nIand7, nIand31, nIshr, nIle, nIlt, nIeq, nIc, vpI, nIm1, m1nI, m1lt, nIlm, m1le, nIlem, nIneg, u2_ss, u2_nn, u2_kk, p1, Nat.mul_one]) <;> (first | omega | trivial)
    · (try simp (disch := omega) only [nlit, natrem, nIrm, nIam, nIam',  nI_add, pk_mul, nIsub, nIrem, nIdiv, nIand1, nIand3, nIand7, nIand31, nIshr, nIle, nIlt, nIeq, nIc, vpI, nIm1, m1nI, m1lt, nIlm, m1le, nIlem, nIneg, u2_ss, u2_nn, u2_kk, p1, Nat.mul_one] at c1 c2); (try simp (disch := omega) only [nlit, natrem, nIrm, nIam, nIam',  nI_add, pk_mul, nIsub, nIrem, nIdiv, nIand1, nIand3, nIand7, nIand31, nIshr, nIle, nIlt, nIeq, nIc, vpI, nIm1, m1nI, m1lt, nIlm, m1le, nIlem, nIneg, u2_ss, u2_nn, u2_kk, p1, Nat.mul_one])
      exact h _ (key1 c1) ((Kp.rf.up (by simp)).up (by simp))
    · (try simp (disch := omega) only [nlit, natrem, nIrm, nIam, nIam',  nI_add, pk_mul, nIsub, nIrem, nIdiv, nIand1, nIand3, nIand7, nIand31, nIshr, nIle, nIlt, nIeq, nIc, vpI, nIm1, m1nI, m1lt, nIlm, m1le, nIlem, nIneg, u2_ss, u2_nn, u2_kk, p1, Nat.mul_one] at c1 c2) <;> (first | omega | exact absurd rfl c1 | exact absurd trivial c1 | exact absurd rfl c2 | exact absurd trivial c2)
    · (try simp (disch := omega) only [nlit, natrem, nIrm, nIam, nIam',  nI_add, pk_mul, nIsub, nIrem, nIdiv, nIand1, nIand3, nIand7, nIand31, nIshr, nIle, nIlt, nIeq, nIc, vpI, nIm1, m1nI, m1lt, nIlm, m1le, nIlem, nIneg, u2_ss, u2_nn, u2_kk, p1, Nat.mul_one] at c1 c2); (try simp (disch := omega) only [nlit, natrem, nIrm, nIam, nIam',  nI_add, pk_mul, nIsub, nIrem, nIdiv, nIand1, nIand3, nIand7, nIand31, nIshr, nIle, nIlt, nIeq, nIc, vpI, nIm1, m1nI, m1lt, nIlm, m1le, nIlem, nIneg, u2_ss, u2_nn, u2_kk, p1, Nat.mul_one])
      exact h _ (key2 c1) (((((show Kp (fun k => k ≠ 38 ∧ k ≠ 39) I (cp2 I 39 1 39 0 19) from fun k hk => cp2_n hk.2)).up (by simp)).up (by simp)).up (by simp))
theorem last_ok {d : Nat} {sx : Sx} {I : Ints} {L : Lngs} {R : Rfs} {q : Q3} {us : List Es} {v : Nat} (h1 : I 38 1 = nI (us.length + 1)) (h20 : us.length < 20) (hv : I 39 us.length = nI v) (h : q (some (.int (nI v))) I L R) : E0 mX4_last (d + 1) sx [.ref 38] I L R q := by
  refine EX4_last  ⟨fun c1 => ?_, fun c1 => ⟨?_, ?_⟩⟩
  · (try simp (disch := omega) only [nlit, natrem, nIrm, nIam, nIam',  nI_add, pk_mul, nIsub, nIrem, nIdiv, nIand1, nIand3, nIand7, nIand31, nIshr, nIle, nIlt, nIeq, nIc, vpI, nIm1, m1nI, m1lt, nIlm, m1le, nIlem, nIneg, u2_ss, u2_nn, u2_kk, h1, hv, Nat.add_sub_cancel] at c1) <;> (first | omega | exact absurd rfl c1 | exact absurd trivial c1)
  · (try simp (disch := omega) only [nlit, natrem, nIrm, nIam, nIam',  nI_add, pk_mul, nIsub, nIrem, nIdiv, nIand1, nIand3, nIand7, nIand31, nIshr, nIle, nIlt, nIeq, nIc, vpI, nIm1, m1nI, m1lt, nIlm, m1le, nIlem, nIneg, u2_ss, u2_nn, u2_kk, h1, hv, Nat.add_sub_cancel] at c1) <;> (try simp (disch := omega) only [nlit, natrem, nIrm, nIam, nIam',  nI_add, pk_mul, nIsub, nIrem, nIdiv, nIand1, nIand3, nIand7, nIand31, nIshr, nIle, nIlt, nIeq, nIc, vpI, nIm1, m1nI, m1lt, nIlm, m1le, nIlem, nIneg, u2_ss, u2_nn, u2_kk, h1, hv, Nat.add_sub_cancel]) <;> (first | omega | trivial)
  · (try simp (disch := omega) only [nlit, natrem, nIrm, nIam, nIam',  nI_add, pk_mul, nIsub, nIrem, nIdiv, nIand1, nIand3, nIand7, nIand31, nIshr, nIle, nIlt, nIeq, nIc, vpI, nIm1, m1nI, m1lt, nIlm, m1le, nIlem, nIneg, u2_ss, u2_nn, u2_kk, h1, hv, Nat.add_sub_cancel] at c1); (try simp (disch := omega) only [nlit, natrem, nIrm, nIam, nIam',  nI_add, pk_mul, nIsub, nIrem, nIdiv, nIand1, nIand3, nIand7, nIand31, nIshr, nIle, nIlt, nIeq, nIc, vpI, nIm1, m1nI, m1lt, nIlm, m1le, nIlem, nIneg, u2_ss, u2_nn, u2_kk, h1, hv, Nat.add_sub_cancel])
    exact h
theorem and64 : ∀ v, v < 128 → (nI v &&& nI 64) = nI (64 * (v / 64)) := by decide +kernel
theorem lastGuest_ok {d : Nat} {sx : Sx} {I : Ints} {L : Lngs} {R : Rfs} {q : Q3} {us : List Es} {g w wt : Nat} (hg : g < 6) (hw : w < 6) (hwt : wt ≤ 1) (h1 : I 38 1 = nI (us.length + 1)) (h20 : us.length < 20) (hv : I 39 us.length = nI (g * 8 + w + 64 * wt)) (h : q (some (.int (nI g))) I L R) : E0 mX4_lastGuest (d + 2) sx [.ref 38] I L R q := by
  refine EX4_lastGuest (last_ok h1 h20 hv ?_)
  refine RX4_lastGuest_4  ?_
  · (try simp (disch := omega) only [nlit, natrem, nIrm, nIam, nIam',  nI_add, pk_mul, nIsub, nIrem, nIdiv, nIand1, nIand3, nIand7, nIand31, nIshr, nIle, nIlt, nIeq, nIc, vpI, nIm1, m1nI, m1lt, nIlm, m1le, nIlem, nIneg, u2_ss, u2_nn, u2_kk, Nat.reduceMod, Nat.reducePow])
    rw [show (g * 8 + w + 64 * wt) / 8 % 8 = g by omega]
    exact h
theorem lastWine_ok {d : Nat} {sx : Sx} {I : Ints} {L : Lngs} {R : Rfs} {q : Q3} {us : List Es} {g w wt : Nat} (hg : g < 6) (hw : w < 6) (hwt : wt ≤ 1) (h1 : I 38 1 = nI (us.length + 1)) (h20 : us.length < 20) (hv : I 39 us.length = nI (g * 8 + w + 64 * wt)) (h : q (some (.int (nI w))) I L R) : E0 mX4_lastWine (d + 2) sx [.ref 38] I L R q := by
  refine EX4_lastWine (last_ok h1 h20 hv ?_)
  refine RX4_lastWine_4  ?_
  · (try simp (disch := omega) only [nlit, natrem, nIrm, nIam, nIam',  nI_add, pk_mul, nIsub, nIrem, nIdiv, nIand1, nIand3, nIand7, nIand31, nIshr, nIle, nIlt, nIeq, nIc, vpI, nIm1, m1nI, m1lt, nIlm, m1le, nIlem, nIneg, u2_ss, u2_nn, u2_kk])
    rw [show (g * 8 + w + 64 * wt) % 8 = w by omega]
    exact h
theorem lastWasWater_ok {d : Nat} {sx : Sx} {I : Ints} {L : Lngs} {R : Rfs} {q : Q3} {us : List Es} {g w wt : Nat} (hg : g < 6) (hw : w < 6) (hwt : wt ≤ 1) (h1 : I 38 1 = nI (us.length + 1)) (h20 : us.length < 20) (hv : I 39 us.length = nI (g * 8 + w + 64 * wt)) (h : q (some (.int (nI wt))) I L R) : E0 mX4_lastWasWater (d + 2) sx [.ref 38] I L R q := by
  refine EX4_lastWasWater (last_ok h1 h20 hv ?_)
  have e := and64 (g * 8 + w + 64 * wt) (by omega)
  refine RX4_lastWasWater_4  ⟨fun c1 => ?_, fun c1 => ?_⟩
  · (try simp (disch := omega) only [nlit, natrem, nIrm, nIam, nIam',  nI_add, pk_mul, nIsub, nIrem, nIdiv, nIand1, nIand3, nIand7, nIand31, nIshr, nIle, nIlt, nIeq, nIc, vpI, nIm1, m1nI, m1lt, nIlm, m1le, nIlem, nIneg, u2_ss, u2_nn, u2_kk, e] at c1); (try simp (disch := omega) only [nlit, natrem, nIrm, nIam, nIam',  nI_add, pk_mul, nIsub, nIrem, nIdiv, nIand1, nIand3, nIand7, nIand31, nIshr, nIle, nIlt, nIeq, nIc, vpI, nIm1, m1nI, m1lt, nIlm, m1le, nIlem, nIneg, u2_ss, u2_nn, u2_kk, e])
    rw [show wt = 0 by omega] at h
    exact h
  · (try simp (disch := omega) only [nlit, natrem, nIrm, nIam, nIam',  nI_add, pk_mul, nIsub, nIrem, nIdiv, nIand1, nIand3, nIand7, nIand31, nIshr, nIle, nIlt, nIeq, nIc, vpI, nIm1, m1nI, m1lt, nIlm, m1le, nIlem, nIneg, u2_ss, u2_nn, u2_kk, e] at c1); (try simp (disch := omega) only [nlit, natrem, nIrm, nIam, nIam',  nI_add, pk_mul, nIsub, nIrem, nIdiv, nIand1, nIand3, nIand7, nIand31, nIshr, nIle, nIlt, nIeq, nIc, vpI, nIm1, m1nI, m1lt, nIlm, m1le, nIlem, nIneg, u2_ss, u2_nn, u2_kk, e])
    rw [show wt = 1 by omega] at h
    exact h
theorem dropLast_ok {d : Nat} {sx : Sx} {I : Ints} {L : Lngs} {R : Rfs} {q : Q3} {us : List Es} (h1 : I 38 1 = nI (us.length + 1)) (h20 : us.length < 20) (h : q none (u2 I 38 1 (nI us.length)) L R) : E0 mX4_dropLast (d + 1) sx [.ref 38] I L R q := by
  refine EX4_dropLast  ⟨fun c1 => ?_, fun c1 => ?_⟩
  · (try simp (disch := omega) only [nlit, natrem, nIrm, nIam, nIam',  nI_add, pk_mul, nIsub, nIrem, nIdiv, nIand1, nIand3, nIand7, nIand31, nIshr, nIle, nIlt, nIeq, nIc, vpI, nIm1, m1nI, m1lt, nIlm, m1le, nIlem, nIneg, u2_ss, u2_nn, u2_kk, h1, Nat.add_sub_cancel] at c1) <;> (first | omega | exact absurd rfl c1 | exact absurd trivial c1)
  · (try simp (disch := omega) only [nlit, natrem, nIrm, nIam, nIam',  nI_add, pk_mul, nIsub, nIrem, nIdiv, nIand1, nIand3, nIand7, nIand31, nIshr, nIle, nIlt, nIeq, nIc, vpI, nIm1, m1nI, m1lt, nIlm, m1le, nIlem, nIneg, u2_ss, u2_nn, u2_kk, h1, Nat.add_sub_cancel] at c1); (try simp (disch := omega) only [nlit, natrem, nIrm, nIam, nIam',  nI_add, pk_mul, nIsub, nIrem, nIdiv, nIand1, nIand3, nIand7, nIand31, nIshr, nIle, nIlt, nIeq, nIc, vpI, nIm1, m1nI, m1lt, nIlm, m1le, nIlem, nIneg, u2_ss, u2_nn, u2_kk, h1, Nat.add_sub_cancel])
    exact h
theorem WFe.sn {a : Ce} {lf lf' : Nat → Nat} {gl gl' : Nat → List Nat} {sn sn' : Nat → Nat} (h : WFe a lf gl sn) (h' : WFe a lf' gl' sn') : WFe a lf' gl' sn := ⟨h'.1, h'.2.1, h.2.2.1, h'.2.2.2.1, fun g hg h4 => ⟨(h.2.2.2.2 g hg h4).1, (h'.2.2.2.2 g hg h4).2⟩⟩
theorem CC.upd {a : Ce} {lc : List (Nat × Nat)} {lf : Nat → Nat} {gl : Nat → List Nat} {sn : Nat → Nat} {c : Nat} {I J : Ints} {L : Lngs} {R : Rfs} (h : CC a lc lf gl sn c I L R) {lf' : Nat → Nat} {gl' : Nat → List Nat} {sn' : Nat → Nat} (hE : EvC 33 lf' gl' sn' J) (hW : WFe a lf' gl' sn') (h43 : ∀ x, x < (a 4).val → J 43 x = nI 0 → I 43 x = nI 0 ∧ gl' x = gl x) (hF : Kp (fun k => k ≤ 33 ∨ 80 ≤ k) I J) : CC a lc lf' gl' sn' c J L R := by
  obtain ⟨hc, hR, hWc, hWe, hCl, hEv, hRt⟩ := h
  have hc' : c = 2 ∨ c = 14 := hc
  refine ⟨hc, hR, hWc, hW, hCl.fr (fun k h1 h2 => hF k (by omega)) rfl, hE, fun g hg h0 => ?_⟩
  obtain ⟨k1, k2⟩ := h43 g hg h0
  rw [k2]
  exact (hRt g hg k1).fr (hF _ (by omega)) (hF _ (by omega)) rfl
abbrev okP (a : Ce) (lf : Nat → Nat) (gl : Nat → List Nat) (g w : Int32) : Prop := inR g (a 4).val ∧ inR w (a 3).val ∧ lf w.toNatClampNeg ≠ 0 ∧ (gl g.toNatClampNeg).length < 6
theorem okP_nI {a : Ce} {lf : Nat → Nat} {gl : Nat → List Nat} {g w : Nat} (hg : g < (a 4).val) (hw : w < (a 3).val) : okP a lf gl (nI g) (nI w) ↔ lf w ≠ 0 ∧ (gl g).length < 6 := by
  unfold okP
  rw [inR_nI (by omega) (by omega), inR_nI (by omega) (by omega), nIc (by omega), nIc (by omega)]
  exact ⟨fun h => h.2.2, fun h => ⟨hg, hw, h⟩⟩
/-- what a class's act leaves -/
def CA (a : Ce) (lc : List (Nat × Nat)) (lf : Nat → Nat) (gl : Nat → List Nat) (sn : Nat → Nat) (us : List Es) (c : Nat) (I J : Ints) (L : Lngs) (R : Rfs) : Prop := CC a lc lf gl sn c J L R ∧ PaC us (lf, gl) J ∧ J 56 0 = nI 0 ∧ J 48 3 = nI 0 ∧ Kp (fun k => ¬ (34 ≤ k ∧ k ≤ 39) ∧ k ≠ 43 ∧ k ≠ 48 ∧ k ≠ 56) I J
theorem c_pour {d : Nat} {sx : Sx} {I : Ints} {L : Lngs} {R : Rfs} {q : Q3} {a : Ce} {lc : List (Nat × Nat)} {lf : Nat → Nat} {gl : Nat → List Nat} {sn : Nat → Nat} {us : List Es} {c : Nat} (hC : CC a lc lf gl sn c I L R) (hP : PaC us (lf, gl) I) {x y : Int32}
    (ht : okP a lf gl x y → ∀ J, CA a lc (up1 lf y.toNatClampNeg (lf y.toNatClampNeg - 1)) (up1 gl x.toNatClampNeg (gl x.toNatClampNeg ++ [y.toNatClampNeg])) sn (push20 us (lf, gl)) c I J L R → q (some (.int 1)) J L R) (hf : ¬ okP a lf gl x y → q (some (.int 0)) I L R) : E0 mX11_pour (d + 2) sx [.ref 0, .int x, .int y] I L R q := by
  have hCC := hC
  obtain ⟨hc, hR, hW, hE, hCl, hEv, hRt⟩ := hC
  have w4 := hW.2.2.2.2.1
  have w3 := hW.2.2.2.1
  refine EX11_pour hc hR (isGuestC_ok hc hCl (fun g hg e => ?_) (fun hn => RX11_pour_8 hc hR ⟨fun _ => hf (fun w => hn w.1), fun w => absurd rfl w⟩))
  subst e
  refine RX11_pour_8 hc hR ⟨fun w => absurd w (by decide), fun _ => ?_⟩
  refine isWineC_ok hc hCl (fun w hw e => ?_) (fun hn => RX11_pour_19 ⟨fun _ => hf (fun w => hn w.2.1), fun w => absurd rfl w⟩)
  subst e
  rw [okP_nI hg hw] at ht hf
  rw [nIc (by omega), nIc (by omega)] at ht
  have e4 : I 34 w = nI (lf w) := hEv.1 w (by omega)
  have h99 := hE.1 w (by omega)
  have hlx : ∀ x, x < 6 → (gl x).length ≤ 6 := fun x hx => (hE.2.1 x hx).1
  refine RX11_pour_19  ⟨fun c1 => ?_, fun c1 => ⟨?_, ⟨fun c2 => ?_, fun c2 => ?_⟩⟩⟩
  · (try simp (disch := omega) only [nlit, natrem, nIrm, nIam, nIam',  nI_add, pk_mul, nIsub, nIrem, nIdiv, nIand1, nIand3, nIand7, nIand31, nIshr, nIle, nIlt, nIeq, nIc, vpI, nIm1, m1nI, m1lt, nIlm, m1le, nIlem, nIneg, u2_ss, u2_nn, u2_kk, e4] at c1) <;> (first | omega | exact absurd rfl c1 | exact absurd trivial c1)
  · (try simp (disch := omega) only [nlit, natrem, nIrm, nIam, nIam',  nI_add, pk_mul, nIsub, nIrem, nIdiv, nIand1, nIand3, nIand7, nIand31, nIshr, nIle, nIlt, nIeq, nIc, vpI, nIm1, m1nI, m1lt, nIlm, m1le, nIlem, nIneg, u2_ss, u2_nn, u2_kk, e4] at c1) <;> (try simp (disch := omega) only [nlit, natrem, nIrm, nIam, nIam',  nI_add, pk_mul, nIsub, nIrem, nIdiv, nIand1, nIand3, nIand7, nIand31, nIshr, nIle, nIlt, nIeq, nIc, vpI, nIm1, m1nI, m1lt, nIlm, m1le, nIlem, nIneg, u2_ss, u2_nn, u2_kk, e4]) <;> (first | omega | trivial)
  · (try simp (disch := omega) only [nlit, natrem, nIrm, nIam, nIam',  nI_add, pk_mul, nIsub, nIrem, nIdiv, nIand1, nIand3, nIand7, nIand31, nIshr, nIle, nIlt, nIeq, nIc, vpI, nIm1, m1nI, m1lt, nIlm, m1le, nIlem, nIneg, u2_ss, u2_nn, u2_kk, e4] at c1 c2); (try simp (disch := omega) only [nlit, natrem, nIrm, nIam, nIam',  nI_add, pk_mul, nIsub, nIrem, nIdiv, nIand1, nIand3, nIand7, nIand31, nIshr, nIle, nIlt, nIeq, nIc, vpI, nIm1, m1nI, m1lt, nIlm, m1le, nIlem, nIneg, u2_ss, u2_nn, u2_kk, e4])
    exact hf (by omega)
  · (try simp (disch := omega) only [nlit, natrem, nIrm, nIam, nIam',  nI_add, pk_mul, nIsub, nIrem, nIdiv, nIand1, nIand3, nIand7, nIand31, nIshr, nIle, nIlt, nIeq, nIc, vpI, nIm1, m1nI, m1lt, nIlm, m1le, nIlem, nIneg, u2_ss, u2_nn, u2_kk, e4] at c1 c2); (try simp (disch := omega) only [nlit, natrem, nIrm, nIam, nIam',  nI_add, pk_mul, nIsub, nIrem, nIdiv, nIand1, nIand3, nIand7, nIand31, nIshr, nIle, nIlt, nIeq, nIc, vpI, nIm1, m1nI, m1lt, nIlm, m1le, nIlem, nIneg, u2_ss, u2_nn, u2_kk, e4])
    refine give_ok hEv (by omega) hlx (fun hl6 J hJ hFJ => ?_) (fun hl6 => RX11_pour_43 ⟨fun w => absurd rfl w, fun _ => hf (fun w => hl6 w.2)⟩)
    have e4 : J 34 w = nI (lf w) := hJ.1 w (by omega)
    refine RX11_pour_43  ⟨fun c1 => ⟨?_, ⟨?_, ?_⟩⟩, fun c1 => ?_⟩
    · (try simp (disch := omega) only [nlit, natrem, nIrm, nIam, nIam',  nI_add, pk_mul, nIsub, nIrem, nIdiv, nIand1, nIand3, nIand7, nIand31, nIshr, nIle, nIlt, nIeq, nIc, vpI, nIm1, m1nI, m1lt, nIlm, m1le, nIlem, nIneg, u2_ss, u2_nn, u2_kk, e4] at c1) <;> (try simp (disch := omega) only [nlit, natrem, nIrm, nIam, nIam',  nI_add, pk_mul, nIsub, nIrem, nIdiv, nIand1, nIand3, nIand7, nIand31, nIshr, nIle, nIlt, nIeq, nIc, vpI, nIm1, m1nI, m1lt, nIlm, m1le, nIlem, nIneg, u2_ss, u2_nn, u2_kk, e4]) <;> (first | omega | trivial)
    · (try simp (disch := omega) only [nlit, natrem, nIrm, nIam, nIam',  nI_add, pk_mul, nIsub, nIrem, nIdiv, nIand1, nIand3, nIand7, nIand31, nIshr, nIle, nIlt, nIeq, nIc, vpI, nIm1, m1nI, m1lt, nIlm, m1le, nIlem, nIneg, u2_ss, u2_nn, u2_kk, e4] at c1) <;> (try simp (disch := omega) only [nlit, natrem, nIrm, nIam, nIam',  nI_add, pk_mul, nIsub, nIrem, nIdiv, nIand1, nIand3, nIand7, nIand31, nIshr, nIle, nIlt, nIeq, nIc, vpI, nIm1, m1nI, m1lt, nIlm, m1le, nIlem, nIneg, u2_ss, u2_nn, u2_kk, e4]) <;> (first | omega | trivial)
    · (try simp (disch := omega) only [nlit, natrem, nIrm, nIam, nIam',  nI_add, pk_mul, nIsub, nIrem, nIdiv, nIand1, nIand3, nIand7, nIand31, nIshr, nIle, nIlt, nIeq, nIc, vpI, nIm1, m1nI, m1lt, nIlm, m1le, nIlem, nIneg, u2_ss, u2_nn, u2_kk, e4] at c1); (try simp (disch := omega) only [nlit, natrem, nIrm, nIam, nIam',  nI_add, pk_mul, nIsub, nIrem, nIdiv, nIand1, nIand3, nIand7, nIand31, nIshr, nIle, nIlt, nIeq, nIc, vpI, nIm1, m1nI, m1lt, nIlm, m1le, nIlem, nIneg, u2_ss, u2_nn, u2_kk, e4])
      refine add_ok (us := us) (cur := (lf, gl)) (new := (up1 lf w (lf w - 1), up1 gl g (gl g ++ [w]))) (wt := 0) ?_ (by omega) (by omega) (by decide) ?_ (fun K hK hFK => RX11_pour_71 ?_)
      · refine ⟨?_, hP.2.1, PaR.congr _ _ hP.2.2 (fun i hi => ?_)⟩
        · rw [u2_nn _ _ _ _ (by decide), hFJ 38 (by decide)]; exact hP.1
        · rw [u2_nn _ _ _ _ (by decide), hFJ 39 (by decide)]
      · refine Or.inr ⟨rfl, ?_, ?_, ?_⟩
        · show lf = up1 (up1 lf w (lf w - 1)) w (up1 lf w (lf w - 1) w + 1)
          funext x
          by_cases e : x = w
          · rw [e, up1_s, up1_s]; omega
          · rw [up1_n _ _ e, up1_n _ _ e]
        · show up1 gl g (gl g ++ [w]) g = gl g ++ [w]
          rw [up1_s]
        · show gl = up1 (up1 gl g (gl g ++ [w])) g (gl g)
          funext x
          by_cases e : x = g
          · rw [e, up1_s]
          · rw [up1_n _ _ e, up1_n _ _ e]
      · refine changed_ok (by omega) (fun M m1 m2 m3 m4 m5 => RX11_pour_76 (ht ⟨by omega, hl6⟩ M ?_))
        have hFF : Kp (fun k => k ≠ 34 ∧ k ≠ 35 ∧ k ≠ 36 ∧ k ≠ 38 ∧ k ≠ 39 ∧ k ≠ 43 ∧ k ≠ 48 ∧ k ≠ 56) I M := by
          refine Kp.tr (Kp.tr (Kp.tr (hFJ.mn (fun k hk => ⟨hk.2.1, hk.2.2.1⟩)) (Kp.rf.up (fun hh => hh.1 rfl))) (hFK.mn (fun k hk => ⟨hk.2.2.2.1, hk.2.2.2.2.1⟩))) (m5.mn (fun k hk => hk.2.2.2.2.2))
        refine ⟨hCC.upd ?_ ?_ (fun x hx h0 => ?_) (hFF.mn (fun k hk => by omega)), ?_, m3, m4, hFF.mn (fun k hk => by omega)⟩
        · have hEK : EvC 33 (up1 lf w (lf w - 1)) (up1 gl g (gl g ++ [w])) sn (u2 J 34 w (nI (lf w - 1))) := by
            refine ⟨fun w' hw' => ?_, fun x hx => ⟨?_, ?_⟩, fun x hx => ?_⟩
            · by_cases e : w' = w
              · rw [e, up1_s, u2_ss]
              · rw [up1_n _ _ e, u2_kk _ _ _ _ e]; exact hJ.1 w' hw'
            · rw [u2_nn _ _ _ _ (by decide)]; exact (hJ.2.1 x hx).1
            · exact (hJ.2.1 x hx).2.congr (fun j => by rw [u2_nn _ _ _ _ (by decide)])
            · rw [u2_nn _ _ _ _ (by decide)]; exact hJ.2.2 x hx
          exact (hEK.fr (fun k h1 h2 => hFK k ⟨by omega, by omega⟩)).fr (fun k h1 h2 => m5 k ⟨by omega, by omega, by omega⟩)
        · refine ⟨fun w' hw' => ?_, fun x hx => ?_, hE.2.2.1, fun w' hw' h3 => ?_, fun x hx h4 => ?_⟩
          · by_cases e : w' = w
            · rw [e, up1_s]; omega
            · rw [up1_n _ _ e]; exact hE.1 w' hw'
          · by_cases e : x = g
            · rw [e, up1_s]
              refine ⟨by rw [List.length_append]; exact hl6, fun i hi => ?_⟩
              rw [List.length_append, List.length_singleton] at hi
              by_cases ei : i = (gl g).length
              · rw [ei, getD_r (Nat.le_refl _), Nat.sub_self]; exact hw
              · rw [getD_l (by omega)]; exact (hE.2.1 g (by omega)).2 i (by omega)
            · rw [up1_n _ _ e]; exact hE.2.1 x hx
          · rw [up1_n _ _ (by omega)]; exact hE.2.2.2.1 w' hw' h3
          · rw [up1_n _ _ (by omega)]; exact hE.2.2.2.2 x hx h4
        · by_cases e : x = g
          · rw [e, m1] at h0; exact absurd h0 (by decide)
          · rw [m2 x e, hFK 43 (by decide), u2_nn _ _ _ _ (by decide), hFJ 43 (by decide)] at h0
            exact ⟨h0, by rw [up1_n _ _ e]⟩
        · refine ⟨?_, hK.2.1, PaR.congr _ _ hK.2.2 (fun i hi => ?_)⟩
          · rw [m5 38 (by decide)]; exact hK.1
          · rw [m5 39 (by decide)]
    · (try simp (disch := omega) only [nlit, natrem, nIrm, nIam, nIam',  nI_add, pk_mul, nIsub, nIrem, nIdiv, nIand1, nIand3, nIand7, nIand31, nIshr, nIle, nIlt, nIeq, nIc, vpI, nIm1, m1nI, m1lt, nIlm, m1le, nIlem, nIneg, u2_ss, u2_nn, u2_kk, e4] at c1) <;> (first | omega | exact absurd rfl c1 | exact absurd trivial c1)
