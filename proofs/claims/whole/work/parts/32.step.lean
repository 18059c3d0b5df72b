abbrev Ce : Type := Nat → Fin 128
/-! one step -/
def ahd (a : Ce) (cl : Nat → Bool) (p far : Nat) : Nat :=
  if p % 4 = 0 then (if p / 4 % 8 < (a 0).val ∧ p / 32 + far < (a 1).val ∧ cl (p / 4 + 8 * far) = false then p + 32 * far else p)
  else if p % 4 = 1 then (if p / 4 % 8 + far < (a 0).val ∧ p / 32 < (a 1).val ∧ cl (p / 4 + far) = false then p + 4 * far else p)
  else if p % 4 = 2 then (if far ≤ p / 32 ∧ p / 4 % 8 < (a 0).val ∧ p / 32 - far < (a 1).val ∧ cl (p / 4 - 8 * far) = false then p - 32 * far else p)
  else (if far ≤ p / 4 % 8 ∧ p / 4 % 8 - far < (a 0).val ∧ p / 32 < (a 1).val ∧ cl (p / 4 - far) = false then p - 4 * far else p)
def aft (a : Ce) (cl : Nat → Bool) (kd p s : Nat) : Nat :=
  if s = 4 ∨ kd = 1 then p
  else if s = 2 ∨ s = 3 then 4 * (p / 4) + (p + (if (s = 2 ∧ kd ≠ 3) ∨ (s = 3 ∧ kd = 3) then 3 else 1)) % 4
  else ahd a cl p (if s = 1 ∧ kd ≠ 2 then 2 else 1)
theorem isCell_ok {d : Nat} {sx : Sx} {I : Ints} {L : Lngs} {R : Rfs} {q : Q3} {o : Nat} (ho : isCel o) {a : Ce} {x y : Nat} (hx : x < 1000) (hy : y < 1000) (h0 : I o 0 = nI (a 0).val) (h1 : I o 1 = nI (a 1).val)
    (ht : x < (a 0).val ∧ y < (a 1).val → q (some (.int 1)) I L R) (hf : ¬ (x < (a 0).val ∧ y < (a 1).val) → q (some (.int 0)) I L R) : E0 mX0_isCell (d + 1) sx [.ref o, .int (nI x), .int (nI y)] I L R q := by
  refine EX0_isCell ho ⟨fun c1 => ?_, fun c1 => ⟨fun c2 => ?_, fun c2 => ⟨fun c3 => ?_, fun c3 => ⟨fun c4 => ?_, fun c4 => ?_⟩⟩⟩⟩
  · (try simp (disch := omega) only [nlit, natrem, nI_add, pk_mul, nIsub, nIrem, nIdiv, nIand1, nIand3, nIand7, nIand31, nIshr, nIle, nIlt, nIeq, nIc, vpI, nIm1, m1nI, m1lt, nIlm, m1le, nIlem, nIneg, u2_ss, u2_nn, u2_kk, h0, h1] at c1); (try simp (disch := omega) only [nlit, natrem, nI_add, pk_mul, nIsub, nIrem, nIdiv, nIand1, nIand3, nIand7, nIand31, nIshr, nIle, nIlt, nIeq, nIc, vpI, nIm1, m1nI, m1lt, nIlm, m1le, nIlem, nIneg, u2_ss, u2_nn, u2_kk, h0, h1])
    exact hf (by omega)
  · (try simp (disch := omega) only [nlit, natrem, nI_add, pk_mul, nIsub, nIrem, nIdiv, nIand1, nIand3, nIand7, nIand31, nIshr, nIle, nIlt, nIeq, nIc, vpI, nIm1, m1nI, m1lt, nIlm, m1le, nIlem, nIneg, u2_ss, u2_nn, u2_kk, h0, h1] at c1 c2); (try simp (disch := omega) only [nlit, natrem, nI_add, pk_mul, nIsub, nIrem, nIdiv, nIand1, nIand3, nIand7, nIand31, nIshr, nIle, nIlt, nIeq, nIc, vpI, nIm1, m1nI, m1lt, nIlm, m1le, nIlem, nIneg, u2_ss, u2_nn, u2_kk, h0, h1])
    exact hf (by omega)
  · (try simp (disch := omega) only [nlit, natrem, nI_add, pk_mul, nIsub, nIrem, nIdiv, nIand1, nIand3, nIand7, nIand31, nIshr, nIle, nIlt, nIeq, nIc, vpI, nIm1, m1nI, m1lt, nIlm, m1le, nIlem, nIneg, u2_ss, u2_nn, u2_kk, h0, h1] at c1 c2 c3); (try simp (disch := omega) only [nlit, natrem, nI_add, pk_mul, nIsub, nIrem, nIdiv, nIand1, nIand3, nIand7, nIand31, nIshr, nIle, nIlt, nIeq, nIc, vpI, nIm1, m1nI, m1lt, nIlm, m1le, nIlem, nIneg, u2_ss, u2_nn, u2_kk, h0, h1])
    exact hf (by omega)
  · (try simp (disch := omega) only [nlit, natrem, nI_add, pk_mul, nIsub, nIrem, nIdiv, nIand1, nIand3, nIand7, nIand31, nIshr, nIle, nIlt, nIeq, nIc, vpI, nIm1, m1nI, m1lt, nIlm, m1le, nIlem, nIneg, u2_ss, u2_nn, u2_kk, h0, h1] at c1 c2 c3 c4); (try simp (disch := omega) only [nlit, natrem, nI_add, pk_mul, nIsub, nIrem, nIdiv, nIand1, nIand3, nIand7, nIand31, nIshr, nIle, nIlt, nIeq, nIc, vpI, nIm1, m1nI, m1lt, nIlm, m1le, nIlem, nIneg, u2_ss, u2_nn, u2_kk, h0, h1])
    exact hf (by omega)
  · (try simp (disch := omega) only [nlit, natrem, nI_add, pk_mul, nIsub, nIrem, nIdiv, nIand1, nIand3, nIand7, nIand31, nIshr, nIle, nIlt, nIeq, nIc, vpI, nIm1, m1nI, m1lt, nIlm, m1le, nIlem, nIneg, u2_ss, u2_nn, u2_kk, h0, h1] at c1 c2 c3 c4); (try simp (disch := omega) only [nlit, natrem, nI_add, pk_mul, nIsub, nIrem, nIdiv, nIand1, nIand3, nIand7, nIand31, nIshr, nIle, nIlt, nIeq, nIc, vpI, nIm1, m1nI, m1lt, nIlm, m1le, nIlem, nIneg, u2_ss, u2_nn, u2_kk, h0, h1])
    exact ht (by omega)
theorem isCell_neg {d : Nat} {sx : Sx} {I : Ints} {L : Lngs} {R : Rfs} {q : Q3} {o : Nat} (ho : isCel o) {x y : Int32} (h : x < 0 ∨ y < 0) (hf : q (some (.int 0)) I L R) : E0 mX0_isCell (d + 1) sx [.ref o, .int x, .int y] I L R q := by
  refine EX0_isCell ho ⟨fun _ => hf, fun c1 => ⟨fun _ => hf, fun c2 => ⟨fun _ => hf, fun c3 => ?_⟩⟩⟩
  exact absurd h (by simp [c1, c3])
theorem aft181 {d : Nat} {sx : Sx} {I : Ints} {L : Lngs} {R : Rfs} {q : Q3} {m : Int64} {cl : Nat → Bool} {x y p : Nat} (hx : x < 64) (hy : y < 64) (hc : y * 8 + x < 64) (hcl : ∀ c, c < 64 → bL m c = cl c)
    (hf : cl (y * 8 + x) = true → q (some (.int (nI p))) I L R) (ht : cl (y * 8 + x) = false → q (some (.int (nI ((y * 8 + x) * 4 + p % 4)))) I L R) : Y mX0_after (d + 1) sx 181 [(1, .int (nI p)), (4, .long m), (8, .int (nI x)), (9, .int (nI y))] [.int 1] I L R q := by
  refine RX0_after_181  ⟨fun c1 => ?_, fun c1 => ⟨fun c2 => ?_, fun c2 => ?_⟩⟩
  · (try simp (disch := omega) only [nlit, natrem, nI_add, pk_mul, nIsub, nIrem, nIdiv, nIand1, nIand3, nIand7, nIand31, nIshr, nIle, nIlt, nIeq, nIc, vpI, nIm1, m1nI, m1lt, nIlm, m1le, nIlem, nIneg, u2_ss, u2_nn, u2_kk, bL_test] at c1); (try simp (disch := omega) only [nlit, natrem, nI_add, pk_mul, nIsub, nIrem, nIdiv, nIand1, nIand3, nIand7, nIand31, nIshr, nIle, nIlt, nIeq, nIc, vpI, nIm1, m1nI, m1lt, nIlm, m1le, nIlem, nIneg, u2_ss, u2_nn, u2_kk, bL_test])
    omega
  · (try simp (disch := omega) only [nlit, natrem, nI_add, pk_mul, nIsub, nIrem, nIdiv, nIand1, nIand3, nIand7, nIand31, nIshr, nIle, nIlt, nIeq, nIc, vpI, nIm1, m1nI, m1lt, nIlm, m1le, nIlem, nIneg, u2_ss, u2_nn, u2_kk, bL_test] at c1 c2); (try simp (disch := omega) only [nlit, natrem, nI_add, pk_mul, nIsub, nIrem, nIdiv, nIand1, nIand3, nIand7, nIand31, nIshr, nIle, nIlt, nIeq, nIc, vpI, nIm1, m1nI, m1lt, nIlm, m1le, nIlem, nIneg, u2_ss, u2_nn, u2_kk, bL_test])
    (try simp (disch := omega) only [nlit, natrem, nI_add, pk_mul, nIsub, nIrem, nIdiv, nIand1, nIand3, nIand7, nIand31, nIshr, nIle, nIlt, nIeq, nIc, vpI, nIm1, m1nI, m1lt, nIlm, m1le, nIlem, nIneg, u2_ss, u2_nn, u2_kk])
    rw [hcl _ hc] at c2
    exact ht c2
  · (try simp (disch := omega) only [nlit, natrem, nI_add, pk_mul, nIsub, nIrem, nIdiv, nIand1, nIand3, nIand7, nIand31, nIshr, nIle, nIlt, nIeq, nIc, vpI, nIm1, m1nI, m1lt, nIlm, m1le, nIlem, nIneg, u2_ss, u2_nn, u2_kk, bL_test] at c1 c2); (try simp (disch := omega) only [nlit, natrem, nI_add, pk_mul, nIsub, nIrem, nIdiv, nIand1, nIand3, nIand7, nIand31, nIshr, nIle, nIlt, nIeq, nIc, vpI, nIm1, m1nI, m1lt, nIlm, m1le, nIlem, nIneg, u2_ss, u2_nn, u2_kk, bL_test])
    rw [hcl _ hc] at c2
    exact hf (by simpa using c2)
theorem aftD {d : Nat} {sx : Sx} {I : Ints} {L : Lngs} {R : Rfs} {q : Q3} {o : Nat} (ho : isCel o) {a : Ce} {m : Int64} {cl : Nat → Bool} {x y p : Nat} (h0 : I o 0 = nI (a 0).val) (h1 : I o 1 = nI (a 1).val) (ha0 : (a 0).val ≤ 8) (ha1 : (a 1).val ≤ 8) (hcl : ∀ c, c < 64 → bL m c = cl c) (hx : x < 64) (hy : y < 64)
    (ht : x < (a 0).val ∧ y < (a 1).val ∧ cl (y * 8 + x) = false → q (some (.int (nI ((y * 8 + x) * 4 + p % 4)))) I L R) (hf : ¬ (x < (a 0).val ∧ y < (a 1).val ∧ cl (y * 8 + x) = false) → q (some (.int (nI p))) I L R) :
    E0 mX0_isCell (d + 1) sx [.ref o, .int (nI x), .int (nI y)] I L R (fun r J K T => Y mX0_after (d + 2) sx 181 [(1, .int (nI p)), (4, .long m), (8, .int (nI x)), (9, .int (nI y))] (r.toList ++ []) J K T q) := by
  refine isCell_ok ho (by omega) (by omega) h0 h1 (fun c => ?_) (fun c => ?_)
  · refine aft181 (cl := cl) hx hy (by omega) hcl (fun z => hf (fun w => ?_)) (fun z => ht ⟨c.1, c.2, z⟩)
    rw [z] at w
    exact absurd w.2.2 (by decide)
  · exact RX0_after_181 ⟨fun _ => hf (fun w => c ⟨w.1, w.2.1⟩), fun w => absurd rfl w⟩
theorem aftN {d : Nat} {sx : Sx} {I : Ints} {L : Lngs} {R : Rfs} {q : Q3} {o : Nat} (ho : isCel o) {m : Int64} {x y : Int32} {p : Nat} (hn : x < 0 ∨ y < 0) (hf : q (some (.int (nI p))) I L R) :
    E0 mX0_isCell (d + 1) sx [.ref o, .int x, .int y] I L R (fun r J K T => Y mX0_after (d + 2) sx 181 [(1, .int (nI p)), (4, .long m), (8, .int x), (9, .int y)] (r.toList ++ []) J K T q) :=
  isCell_neg ho hn (RX0_after_181 ⟨fun _ => hf, fun w => absurd rfl w⟩)
theorem nIm4 : ∀ p, p < 256 → nI p &&& (-4) = nI (4 * (p / 4)) := by decide +kernel
theorem nIor4 : ∀ p, p < 256 → ∀ t, t < 4 → nI (4 * (p / 4)) ||| nI t = nI (4 * (p / 4) + t) := by decide +kernel
theorem aft67 {d : Nat} {sx : Sx} {I : Ints} {L : Lngs} {R : Rfs} {q : Q3} {p t : Nat} (hp : p < 256) (ht : t < 4) (h : q (some (.int (nI (4 * (p / 4) + (p + t) % 4)))) I L R) : Y mX0_after (d + 1) sx 67 [] [.int (nI t), .int (nI p), .int (nI p &&& (-4))] I L R q := by
  refine RX0_after_67 ?_
  rw [nIm4 p hp, nI_add]
  show q (some (.int (_ ||| (nI (p + t) &&& nI 3)))) I L R
  rw [nIand3, nIor4 p hp _ (Nat.mod_lt _ (by decide))]
  exact h
theorem aft50 {d : Nat} {sx : Sx} {I : Ints} {L : Lngs} {R : Rfs} {q : Q3} {p b : Nat} (hp : p < 256) (hb : b ≤ 1) (h : q (some (.int (nI (4 * (p / 4) + (p + (if b = 1 then 3 else 1)) % 4)))) I L R) : Y mX0_after (d + 1) sx 50 [(1, .int (nI p))] [.int (nI b)] I L R q := by
  refine RX0_after_50 ⟨fun c => ?_, fun c => ?_⟩
  · simp (disch := omega) only [nlit, nIeq] at c
    rw [if_neg (by omega)] at h
    exact aft67 (t := 1) hp (by decide) h
  · simp (disch := omega) only [nlit, nIeq] at c
    rw [if_pos (by omega)] at h
    exact aft67 (t := 3) hp (by decide) h

theorem after86 {d : Nat} {sx : Sx} {I : Ints} {L : Lngs} {R : Rfs} {q : Q3} {o : Nat} (ho : isCel o) {a : Ce} {m : Int64} {cl : Nat → Bool} {p s kd : Nat} (h0 : I o 0 = nI (a 0).val) (h1 : I o 1 = nI (a 1).val) (ha0 : (a 0).val ≤ 8) (ha1 : (a 1).val ≤ 8) (hcl : ∀ c, c < 64 → bL m c = cl c) (hp : p < 256) (hs : s ≤ 4) (hk : kd ≤ 4) (h : q (some (.int (nI (aft a cl kd p s)))) I L R) (hh : ¬ (s = 4 ∨ kd = 1) ∧ ¬ (s = 2 ∨ s = 3) ∧ ¬ (s = 1 ∧ kd ≠ 2)) : Y mX0_after (d + 2) sx 86 [(0, .ref o), (1, .int (nI p)), (4, .long m)] [] I L R q := by
  have he : ∀ f : Nat, (¬ (s = 4 ∨ kd = 1) ∧ ¬ (s = 2 ∨ s = 3)) → ((s = 1 ∧ kd ≠ 2 → f = 2) ∧ (¬ (s = 1 ∧ kd ≠ 2) → f = 1)) → aft a cl kd p s = ahd a cl p f := by
    intro f hh hf
    unfold aft
    rw [if_neg hh.1, if_neg hh.2]
    by_cases hw : s = 1 ∧ kd ≠ 2
    · rw [if_pos hw, hf.1 hw]
    · rw [if_neg hw, hf.2 hw]
  refine RX0_after_86 ho ⟨fun c1 => ?_, fun c1 => ⟨fun c2 => ?_, fun c2 => ⟨fun c3 => ?_, fun c3 => ?_⟩⟩⟩
  · (try simp (disch := omega) only [nlit, natrem, nI_add, pk_mul, nIsub, nIrem, nIdiv, nIand1, nIand3, nIand7, nIand31, nIshr, nIle, nIlt, nIeq, nIc, vpI, nIm1, m1nI, m1lt, nIlm, m1le, nIlem, nIneg, u2_ss, u2_nn, u2_kk] at c1); (try simp (disch := omega) only [nlit, natrem, nI_add, pk_mul, nIsub, nIrem, nIdiv, nIand1, nIand3, nIand7, nIand31, nIshr, nIle, nIlt, nIeq, nIc, vpI, nIm1, m1nI, m1lt, nIlm, m1le, nIlem, nIneg, u2_ss, u2_nn, u2_kk])
    (try simp (disch := omega) only [nlit, natrem, nI_add, pk_mul, nIsub, nIrem, nIdiv, nIand1, nIand3, nIand7, nIand31, nIshr, nIle, nIlt, nIeq, nIc, vpI, nIm1, m1nI, m1lt, nIlm, m1le, nIlem, nIneg, u2_ss, u2_nn, u2_kk, Nat.reduceMod, Nat.reducePow])
    refine aftD ho h0 h1 ha0 ha1 hcl (by omega) (by omega) (fun c => ?_) (fun c => ?_)
    · rw [show (p / 4 / 8 + 1) * 8 + p / 4 % 8 = p / 4 + 8 * 1 by omega] at c ⊢
      have e : aft a cl kd p s = (p / 4 + 8 * 1) * 4 + p % 4 := by rw [he 1 (by omega) (by omega)]; unfold ahd; rw [if_pos (by omega), if_pos ⟨by omega, by omega, c.2.2⟩]; omega
      rw [← e]; exact h
    · rw [show (p / 4 / 8 + 1) * 8 + p / 4 % 8 = p / 4 + 8 * 1 by omega] at c
      have e : aft a cl kd p s = p := by rw [he 1 (by omega) (by omega)]; unfold ahd; rw [if_pos (by omega), if_neg (fun w => c ⟨by omega, by omega, w.2.2⟩)]
      rw [e] at h; exact h
  · (try simp (disch := omega) only [nlit, natrem, nI_add, pk_mul, nIsub, nIrem, nIdiv, nIand1, nIand3, nIand7, nIand31, nIshr, nIle, nIlt, nIeq, nIc, vpI, nIm1, m1nI, m1lt, nIlm, m1le, nIlem, nIneg, u2_ss, u2_nn, u2_kk] at c1 c2); (try simp (disch := omega) only [nlit, natrem, nI_add, pk_mul, nIsub, nIrem, nIdiv, nIand1, nIand3, nIand7, nIand31, nIshr, nIle, nIlt, nIeq, nIc, vpI, nIm1, m1nI, m1lt, nIlm, m1le, nIlem, nIneg, u2_ss, u2_nn, u2_kk])
    (try simp (disch := omega) only [nlit, natrem, nI_add, pk_mul, nIsub, nIrem, nIdiv, nIand1, nIand3, nIand7, nIand31, nIshr, nIle, nIlt, nIeq, nIc, vpI, nIm1, m1nI, m1lt, nIlm, m1le, nIlem, nIneg, u2_ss, u2_nn, u2_kk, Nat.reduceMod, Nat.reducePow])
    refine aftD ho h0 h1 ha0 ha1 hcl (by omega) (by omega) (fun c => ?_) (fun c => ?_)
    · rw [show p / 4 / 8 * 8 + (p / 4 % 8 + 1) = p / 4 + 1 by omega] at c ⊢
      have e : aft a cl kd p s = (p / 4 + 1) * 4 + p % 4 := by rw [he 1 (by omega) (by omega)]; unfold ahd; rw [if_neg (by omega), if_pos (by omega), if_pos ⟨by omega, by omega, c.2.2⟩]; omega
      rw [← e]; exact h
    · rw [show p / 4 / 8 * 8 + (p / 4 % 8 + 1) = p / 4 + 1 by omega] at c
      have e : aft a cl kd p s = p := by rw [he 1 (by omega) (by omega)]; unfold ahd; rw [if_neg (by omega), if_pos (by omega), if_neg (fun w => c ⟨by omega, by omega, w.2.2⟩)]
      rw [e] at h; exact h
  · (try simp (disch := omega) only [nlit, natrem, nI_add, pk_mul, nIsub, nIrem, nIdiv, nIand1, nIand3, nIand7, nIand31, nIshr, nIle, nIlt, nIeq, nIc, vpI, nIm1, m1nI, m1lt, nIlm, m1le, nIlem, nIneg, u2_ss, u2_nn, u2_kk] at c1 c2 c3); (try simp (disch := omega) only [nlit, natrem, nI_add, pk_mul, nIsub, nIrem, nIdiv, nIand1, nIand3, nIand7, nIand31, nIshr, nIle, nIlt, nIeq, nIc, vpI, nIm1, m1nI, m1lt, nIlm, m1le, nIlem, nIneg, u2_ss, u2_nn, u2_kk])
    by_cases hz : 1 ≤ p / 4 / 8
    · (try simp (disch := omega) only [nlit, natrem, nI_add, pk_mul, nIsub, nIrem, nIdiv, nIand1, nIand3, nIand7, nIand31, nIshr, nIle, nIlt, nIeq, nIc, vpI, nIm1, m1nI, m1lt, nIlm, m1le, nIlem, nIneg, u2_ss, u2_nn, u2_kk, Nat.reduceMod, Nat.reducePow])
      refine aftD ho h0 h1 ha0 ha1 hcl (by omega) (by omega) (fun c => ?_) (fun c => ?_)
      · rw [show (p / 4 / 8 - 1) * 8 + p / 4 % 8 = p / 4 - 8 * 1 by omega] at c ⊢
        have e : aft a cl kd p s = (p / 4 - 8 * 1) * 4 + p % 4 := by rw [he 1 (by omega) (by omega)]; unfold ahd; rw [if_neg (by omega), if_neg (by omega), if_pos (by omega), if_pos ⟨by omega, by omega, by omega, c.2.2⟩]; omega
        rw [← e]; exact h
      · rw [show (p / 4 / 8 - 1) * 8 + p / 4 % 8 = p / 4 - 8 * 1 by omega] at c
        have e : aft a cl kd p s = p := by rw [he 1 (by omega) (by omega)]; unfold ahd; rw [if_neg (by omega), if_neg (by omega), if_pos (by omega), if_neg (fun w => c ⟨by omega, by omega, w.2.2.2⟩)]
        rw [e] at h; exact h
    · (try simp (disch := omega) only [nlit, natrem, nI_add, pk_mul, nIsub, nIrem, nIdiv, nIand1, nIand3, nIand7, nIand31, nIshr, nIle, nIlt, nIeq, nIc, vpI, nIm1, m1nI, m1lt, nIlm, m1le, nIlem, nIneg, u2_ss, u2_nn, u2_kk, Nat.reduceMod, Nat.reducePow])
      refine aftN ho (Or.inr (pk_sneg (by omega) (by omega))) ?_
      have e : aft a cl kd p s = p := by rw [he 1 (by omega) (by omega)]; unfold ahd; rw [if_neg (by omega), if_neg (by omega), if_pos (by omega), if_neg (by omega)]
      rw [e] at h; exact h
  · (try simp (disch := omega) only [nlit, natrem, nI_add, pk_mul, nIsub, nIrem, nIdiv, nIand1, nIand3, nIand7, nIand31, nIshr, nIle, nIlt, nIeq, nIc, vpI, nIm1, m1nI, m1lt, nIlm, m1le, nIlem, nIneg, u2_ss, u2_nn, u2_kk] at c1 c2 c3); (try simp (disch := omega) only [nlit, natrem, nI_add, pk_mul, nIsub, nIrem, nIdiv, nIand1, nIand3, nIand7, nIand31, nIshr, nIle, nIlt, nIeq, nIc, vpI, nIm1, m1nI, m1lt, nIlm, m1le, nIlem, nIneg, u2_ss, u2_nn, u2_kk])
    by_cases hz : 1 ≤ p / 4 % 8
    · (try simp (disch := omega) only [nlit, natrem, nI_add, pk_mul, nIsub, nIrem, nIdiv, nIand1, nIand3, nIand7, nIand31, nIshr, nIle, nIlt, nIeq, nIc, vpI, nIm1, m1nI, m1lt, nIlm, m1le, nIlem, nIneg, u2_ss, u2_nn, u2_kk, Nat.reduceMod, Nat.reducePow])
      refine aftD ho h0 h1 ha0 ha1 hcl (by omega) (by omega) (fun c => ?_) (fun c => ?_)
      · rw [show p / 4 / 8 * 8 + (p / 4 % 8 - 1) = p / 4 - 1 by omega] at c ⊢
        have e : aft a cl kd p s = (p / 4 - 1) * 4 + p % 4 := by rw [he 1 (by omega) (by omega)]; unfold ahd; rw [if_neg (by omega), if_neg (by omega), if_neg (by omega), if_pos ⟨by omega, by omega, by omega, c.2.2⟩]; omega
        rw [← e]; exact h
      · rw [show p / 4 / 8 * 8 + (p / 4 % 8 - 1) = p / 4 - 1 by omega] at c
        have e : aft a cl kd p s = p := by rw [he 1 (by omega) (by omega)]; unfold ahd; rw [if_neg (by omega), if_neg (by omega), if_neg (by omega), if_neg (fun w => c ⟨by omega, by omega, w.2.2.2⟩)]
        rw [e] at h; exact h
    · (try simp (disch := omega) only [nlit, natrem, nI_add, pk_mul, nIsub, nIrem, nIdiv, nIand1, nIand3, nIand7, nIand31, nIshr, nIle, nIlt, nIeq, nIc, vpI, nIm1, m1nI, m1lt, nIlm, m1le, nIlem, nIneg, u2_ss, u2_nn, u2_kk, Nat.reduceMod, Nat.reducePow])
      refine aftN ho (Or.inl (pk_sneg (by omega) (by omega))) ?_
      have e : aft a cl kd p s = p := by rw [he 1 (by omega) (by omega)]; unfold ahd; rw [if_neg (by omega), if_neg (by omega), if_neg (by omega), if_neg (by omega)]
      rw [e] at h; exact h
theorem after_ok {d : Nat} {sx : Sx} {I : Ints} {L : Lngs} {R : Rfs} {q : Q3} {o : Nat} (ho : isCel o) {a : Ce} {m : Int64} {cl : Nat → Bool} {p s kd : Nat} (h0 : I o 0 = nI (a 0).val) (h1 : I o 1 = nI (a 1).val) (ha0 : (a 0).val ≤ 8) (ha1 : (a 1).val ≤ 8) (hcl : ∀ c, c < 64 → bL m c = cl c) (hp : p < 256) (hs : s ≤ 4) (hk : kd ≤ 4) (h : q (some (.int (nI (aft a cl kd p s)))) I L R) : E0 mX0_after (d + 2) sx [.ref o, .int (nI p), .int (nI s), .int (nI kd), .long m] I L R q := by
  have he : ∀ f : Nat, (¬ (s = 4 ∨ kd = 1) ∧ ¬ (s = 2 ∨ s = 3)) → ((s = 1 ∧ kd ≠ 2 → f = 2) ∧ (¬ (s = 1 ∧ kd ≠ 2) → f = 1)) → aft a cl kd p s = ahd a cl p f := by
    intro f hh hf
    unfold aft
    rw [if_neg hh.1, if_neg hh.2]
    by_cases hw : s = 1 ∧ kd ≠ 2
    · rw [if_pos hw, hf.1 hw]
    · rw [if_neg hw, hf.2 hw]
  refine EX0_after ho ⟨fun c1 => ?_, fun c1 => ⟨fun c2 => ⟨fun c3 => ⟨fun c4 => ?_, fun c4 => ?_⟩, fun c3 => ⟨fun c4 => ⟨fun c5 => ?_, fun c5 => ⟨fun c6 => ?_, fun c6 => ⟨fun c7 => ?_, fun c7 => ⟨fun c8 => ?_, fun c8 => ⟨fun c9 => ?_, fun c9 => ?_⟩⟩⟩⟩⟩, fun c4 => ⟨fun c5 => ?_, fun c5 => ?_⟩⟩⟩, fun c2 => ?_⟩⟩
  · (try simp (disch := omega) only [nlit, natrem, nI_add, pk_mul, nIsub, nIrem, nIdiv, nIand1, nIand3, nIand7, nIand31, nIshr, nIle, nIlt, nIeq, nIc, vpI, nIm1, m1nI, m1lt, nIlm, m1le, nIlem, nIneg, u2_ss, u2_nn, u2_kk] at c1); (try simp (disch := omega) only [nlit, natrem, nI_add, pk_mul, nIsub, nIrem, nIdiv, nIand1, nIand3, nIand7, nIand31, nIshr, nIle, nIlt, nIeq, nIc, vpI, nIm1, m1nI, m1lt, nIlm, m1le, nIlem, nIneg, u2_ss, u2_nn, u2_kk])
    have e : aft a cl kd p s = p := by unfold aft; rw [if_pos (by omega)]
    rw [e] at h; exact h
  · (try simp (disch := omega) only [nlit, natrem, nI_add, pk_mul, nIsub, nIrem, nIdiv, nIand1, nIand3, nIand7, nIand31, nIshr, nIle, nIlt, nIeq, nIc, vpI, nIm1, m1nI, m1lt, nIlm, m1le, nIlem, nIneg, u2_ss, u2_nn, u2_kk] at c1 c2 c3 c4); (try simp (disch := omega) only [nlit, natrem, nI_add, pk_mul, nIsub, nIrem, nIdiv, nIand1, nIand3, nIand7, nIand31, nIshr, nIle, nIlt, nIeq, nIc, vpI, nIm1, m1nI, m1lt, nIlm, m1le, nIlem, nIneg, u2_ss, u2_nn, u2_kk])
    refine aft50 (b := 1) hp (by decide) ?_
    have e : aft a cl kd p s = 4 * (p / 4) + (p + (if 1 = 1 then 3 else 1)) % 4 := by unfold aft; rw [if_neg (by omega), if_pos (by omega)]; congr 3; first | (rw [if_pos (by omega)]; rfl) | (rw [if_neg (by omega)]; rfl)
    rw [e] at h; exact h
  · (try simp (disch := omega) only [nlit, natrem, nI_add, pk_mul, nIsub, nIrem, nIdiv, nIand1, nIand3, nIand7, nIand31, nIshr, nIle, nIlt, nIeq, nIc, vpI, nIm1, m1nI, m1lt, nIlm, m1le, nIlem, nIneg, u2_ss, u2_nn, u2_kk] at c1 c2 c3 c4); (try simp (disch := omega) only [nlit, natrem, nI_add, pk_mul, nIsub, nIrem, nIdiv, nIand1, nIand3, nIand7, nIand31, nIshr, nIle, nIlt, nIeq, nIc, vpI, nIm1, m1nI, m1lt, nIlm, m1le, nIlem, nIneg, u2_ss, u2_nn, u2_kk])
    refine aft50 (b := 0) hp (by decide) ?_
    have e : aft a cl kd p s = 4 * (p / 4) + (p + (if 0 = 1 then 3 else 1)) % 4 := by unfold aft; rw [if_neg (by omega), if_pos (by omega)]; congr 3; first | (rw [if_pos (by omega)]; rfl) | (rw [if_neg (by omega)]; rfl)
    rw [e] at h; exact h
  · (try simp (disch := omega) only [nlit, natrem, nI_add, pk_mul, nIsub, nIrem, nIdiv, nIand1, nIand3, nIand7, nIand31, nIshr, nIle, nIlt, nIeq, nIc, vpI, nIm1, m1nI, m1lt, nIlm, m1le, nIlem, nIneg, u2_ss, u2_nn, u2_kk] at c1 c2 c3 c4 c5); (try simp (disch := omega) only [nlit, natrem, nI_add, pk_mul, nIsub, nIrem, nIdiv, nIand1, nIand3, nIand7, nIand31, nIshr, nIle, nIlt, nIeq, nIc, vpI, nIm1, m1nI, m1lt, nIlm, m1le, nIlem, nIneg, u2_ss, u2_nn, u2_kk])
    exact after86 ho h0 h1 ha0 ha1 hcl hp hs hk h (by omega)
  · (try simp (disch := omega) only [nlit, natrem, nI_add, pk_mul, nIsub, nIrem, nIdiv, nIand1, nIand3, nIand7, nIand31, nIshr, nIle, nIlt, nIeq, nIc, vpI, nIm1, m1nI, m1lt, nIlm, m1le, nIlem, nIneg, u2_ss, u2_nn, u2_kk] at c1 c2 c3 c4 c5 c6); (try simp (disch := omega) only [nlit, natrem, nI_add, pk_mul, nIsub, nIrem, nIdiv, nIand1, nIand3, nIand7, nIand31, nIshr, nIle, nIlt, nIeq, nIc, vpI, nIm1, m1nI, m1lt, nIlm, m1le, nIlem, nIneg, u2_ss, u2_nn, u2_kk])
    exact after86 ho h0 h1 ha0 ha1 hcl hp hs hk h (by omega)
  · (try simp (disch := omega) only [nlit, natrem, nI_add, pk_mul, nIsub, nIrem, nIdiv, nIand1, nIand3, nIand7, nIand31, nIshr, nIle, nIlt, nIeq, nIc, vpI, nIm1, m1nI, m1lt, nIlm, m1le, nIlem, nIneg, u2_ss, u2_nn, u2_kk] at c1 c2 c3 c4 c5 c6 c7); (try simp (disch := omega) only [nlit, natrem, nI_add, pk_mul, nIsub, nIrem, nIdiv, nIand1, nIand3, nIand7, nIand31, nIshr, nIle, nIlt, nIeq, nIc, vpI, nIm1, m1nI, m1lt, nIlm, m1le, nIlem, nIneg, u2_ss, u2_nn, u2_kk])
    (try simp (disch := omega) only [nlit, natrem, nI_add, pk_mul, nIsub, nIrem, nIdiv, nIand1, nIand3, nIand7, nIand31, nIshr, nIle, nIlt, nIeq, nIc, vpI, nIm1, m1nI, m1lt, nIlm, m1le, nIlem, nIneg, u2_ss, u2_nn, u2_kk, Nat.reduceMod, Nat.reducePow])
    refine aftD ho h0 h1 ha0 ha1 hcl (by omega) (by omega) (fun c => ?_) (fun c => ?_)
    · rw [show (p / 4 / 8 + 2) * 8 + p / 4 % 8 = p / 4 + 8 * 2 by omega] at c ⊢
      have e : aft a cl kd p s = (p / 4 + 8 * 2) * 4 + p % 4 := by rw [he 2 (by omega) (by omega)]; unfold ahd; rw [if_pos (by omega), if_pos ⟨by omega, by omega, c.2.2⟩]; omega
      rw [← e]; exact h
    · rw [show (p / 4 / 8 + 2) * 8 + p / 4 % 8 = p / 4 + 8 * 2 by omega] at c
      have e : aft a cl kd p s = p := by rw [he 2 (by omega) (by omega)]; unfold ahd; rw [if_pos (by omega), if_neg (fun w => c ⟨by omega, by omega, w.2.2⟩)]
      rw [e] at h; exact h
  · (try simp (disch := omega) only [nlit, natrem, nI_add, pk_mul, nIsub, nIrem, nIdiv, nIand1, nIand3, nIand7, nIand31, nIshr, nIle, nIlt, nIeq, nIc, vpI, nIm1, m1nI, m1lt, nIlm, m1le, nIlem, nIneg, u2_ss, u2_nn, u2_kk] at c1 c2 c3 c4 c5 c6 c7 c8); (try simp (disch := omega) only [nlit, natrem, nI_add, pk_mul, nIsub, nIrem, nIdiv, nIand1, nIand3, nIand7, nIand31, nIshr, nIle, nIlt, nIeq, nIc, vpI, nIm1, m1nI, m1lt, nIlm, m1le, nIlem, nIneg, u2_ss, u2_nn, u2_kk])
    (try simp (disch := omega) only [nlit, natrem, nI_add, pk_mul, nIsub, nIrem, nIdiv, nIand1, nIand3, nIand7, nIand31, nIshr, nIle, nIlt, nIeq, nIc, vpI, nIm1, m1nI, m1lt, nIlm, m1le, nIlem, nIneg, u2_ss, u2_nn, u2_kk, Nat.reduceMod, Nat.reducePow])
    refine aftD ho h0 h1 ha0 ha1 hcl (by omega) (by omega) (fun c => ?_) (fun c => ?_)
    · rw [show p / 4 / 8 * 8 + (p / 4 % 8 + 2) = p / 4 + 2 by omega] at c ⊢
      have e : aft a cl kd p s = (p / 4 + 2) * 4 + p % 4 := by rw [he 2 (by omega) (by omega)]; unfold ahd; rw [if_neg (by omega), if_pos (by omega), if_pos ⟨by omega, by omega, c.2.2⟩]; omega
      rw [← e]; exact h
    · rw [show p / 4 / 8 * 8 + (p / 4 % 8 + 2) = p / 4 + 2 by omega] at c
      have e : aft a cl kd p s = p := by rw [he 2 (by omega) (by omega)]; unfold ahd; rw [if_neg (by omega), if_pos (by omega), if_neg (fun w => c ⟨by omega, by omega, w.2.2⟩)]
      rw [e] at h; exact h
  · (try simp (disch := omega) only [nlit, natrem, nI_add, pk_mul, nIsub, nIrem, nIdiv, nIand1, nIand3, nIand7, nIand31, nIshr, nIle, nIlt, nIeq, nIc, vpI, nIm1, m1nI, m1lt, nIlm, m1le, nIlem, nIneg, u2_ss, u2_nn, u2_kk] at c1 c2 c3 c4 c5 c6 c7 c8 c9); (try simp (disch := omega) only [nlit, natrem, nI_add, pk_mul, nIsub, nIrem, nIdiv, nIand1, nIand3, nIand7, nIand31, nIshr, nIle, nIlt, nIeq, nIc, vpI, nIm1, m1nI, m1lt, nIlm, m1le, nIlem, nIneg, u2_ss, u2_nn, u2_kk])
    by_cases hz : 2 ≤ p / 4 / 8
    · (try simp (disch := omega) only [nlit, natrem, nI_add, pk_mul, nIsub, nIrem, nIdiv, nIand1, nIand3, nIand7, nIand31, nIshr, nIle, nIlt, nIeq, nIc, vpI, nIm1, m1nI, m1lt, nIlm, m1le, nIlem, nIneg, u2_ss, u2_nn, u2_kk, Nat.reduceMod, Nat.reducePow])
      refine aftD ho h0 h1 ha0 ha1 hcl (by omega) (by omega) (fun c => ?_) (fun c => ?_)
      · rw [show (p / 4 / 8 - 2) * 8 + p / 4 % 8 = p / 4 - 8 * 2 by omega] at c ⊢
        have e : aft a cl kd p s = (p / 4 - 8 * 2) * 4 + p % 4 := by rw [he 2 (by omega) (by omega)]; unfold ahd; rw [if_neg (by omega), if_neg (by omega), if_pos (by omega), if_pos ⟨by omega, by omega, by omega, c.2.2⟩]; omega
        rw [← e]; exact h
      · rw [show (p / 4 / 8 - 2) * 8 + p / 4 % 8 = p / 4 - 8 * 2 by omega] at c
        have e : aft a cl kd p s = p := by rw [he 2 (by omega) (by omega)]; unfold ahd; rw [if_neg (by omega), if_neg (by omega), if_pos (by omega), if_neg (fun w => c ⟨by omega, by omega, w.2.2.2⟩)]
        rw [e] at h; exact h
    · (try simp (disch := omega) only [nlit, natrem, nI_add, pk_mul, nIsub, nIrem, nIdiv, nIand1, nIand3, nIand7, nIand31, nIshr, nIle, nIlt, nIeq, nIc, vpI, nIm1, m1nI, m1lt, nIlm, m1le, nIlem, nIneg, u2_ss, u2_nn, u2_kk, Nat.reduceMod, Nat.reducePow])
      refine aftN ho (Or.inr (pk_sneg (by omega) (by omega))) ?_
      have e : aft a cl kd p s = p := by rw [he 2 (by omega) (by omega)]; unfold ahd; rw [if_neg (by omega), if_neg (by omega), if_pos (by omega), if_neg (by omega)]
      rw [e] at h; exact h
  · (try simp (disch := omega) only [nlit, natrem, nI_add, pk_mul, nIsub, nIrem, nIdiv, nIand1, nIand3, nIand7, nIand31, nIshr, nIle, nIlt, nIeq, nIc, vpI, nIm1, m1nI, m1lt, nIlm, m1le, nIlem, nIneg, u2_ss, u2_nn, u2_kk] at c1 c2 c3 c4 c5 c6 c7 c8 c9); (try simp (disch := omega) only [nlit, natrem, nI_add, pk_mul, nIsub, nIrem, nIdiv, nIand1, nIand3, nIand7, nIand31, nIshr, nIle, nIlt, nIeq, nIc, vpI, nIm1, m1nI, m1lt, nIlm, m1le, nIlem, nIneg, u2_ss, u2_nn, u2_kk])
    by_cases hz : 2 ≤ p / 4 % 8
    · (try simp (disch := omega) only [nlit, natrem, nI_add, pk_mul, nIsub, nIrem, nIdiv, nIand1, nIand3, nIand7, nIand31, nIshr, nIle, nIlt, nIeq, nIc, vpI, nIm1, m1nI, m1lt, nIlm, m1le, nIlem, nIneg, u2_ss, u2_nn, u2_kk, Nat.reduceMod, Nat.reducePow])
      refine aftD ho h0 h1 ha0 ha1 hcl (by omega) (by omega) (fun c => ?_) (fun c => ?_)
      · rw [show p / 4 / 8 * 8 + (p / 4 % 8 - 2) = p / 4 - 2 by omega] at c ⊢
        have e : aft a cl kd p s = (p / 4 - 2) * 4 + p % 4 := by rw [he 2 (by omega) (by omega)]; unfold ahd; rw [if_neg (by omega), if_neg (by omega), if_neg (by omega), if_pos ⟨by omega, by omega, by omega, c.2.2⟩]; omega
        rw [← e]; exact h
      · rw [show p / 4 / 8 * 8 + (p / 4 % 8 - 2) = p / 4 - 2 by omega] at c
        have e : aft a cl kd p s = p := by rw [he 2 (by omega) (by omega)]; unfold ahd; rw [if_neg (by omega), if_neg (by omega), if_neg (by omega), if_neg (fun w => c ⟨by omega, by omega, w.2.2.2⟩)]
        rw [e] at h; exact h
    · (try simp (disch := omega) only [nlit, natrem, nI_add, pk_mul, nIsub, nIrem, nIdiv, nIand1, nIand3, nIand7, nIand31, nIshr, nIle, nIlt, nIeq, nIc, vpI, nIm1, m1nI, m1lt, nIlm, m1le, nIlem, nIneg, u2_ss, u2_nn, u2_kk, Nat.reduceMod, Nat.reducePow])
      refine aftN ho (Or.inl (pk_sneg (by omega) (by omega))) ?_
      have e : aft a cl kd p s = p := by rw [he 2 (by omega) (by omega)]; unfold ahd; rw [if_neg (by omega), if_neg (by omega), if_neg (by omega), if_neg (by omega)]
      rw [e] at h; exact h
  · (try simp (disch := omega) only [nlit, natrem, nI_add, pk_mul, nIsub, nIrem, nIdiv, nIand1, nIand3, nIand7, nIand31, nIshr, nIle, nIlt, nIeq, nIc, vpI, nIm1, m1nI, m1lt, nIlm, m1le, nIlem, nIneg, u2_ss, u2_nn, u2_kk] at c1 c2 c3 c4 c5); (try simp (disch := omega) only [nlit, natrem, nI_add, pk_mul, nIsub, nIrem, nIdiv, nIand1, nIand3, nIand7, nIand31, nIshr, nIle, nIlt, nIeq, nIc, vpI, nIm1, m1nI, m1lt, nIlm, m1le, nIlem, nIneg, u2_ss, u2_nn, u2_kk])
    refine aft50 (b := 0) hp (by decide) ?_
    have e : aft a cl kd p s = 4 * (p / 4) + (p + (if 0 = 1 then 3 else 1)) % 4 := by unfold aft; rw [if_neg (by omega), if_pos (by omega)]; congr 3; first | (rw [if_pos (by omega)]; rfl) | (rw [if_neg (by omega)]; rfl)
    rw [e] at h; exact h
  · (try simp (disch := omega) only [nlit, natrem, nI_add, pk_mul, nIsub, nIrem, nIdiv, nIand1, nIand3, nIand7, nIand31, nIshr, nIle, nIlt, nIeq, nIc, vpI, nIm1, m1nI, m1lt, nIlm, m1le, nIlem, nIneg, u2_ss, u2_nn, u2_kk] at c1 c2 c3 c4 c5); (try simp (disch := omega) only [nlit, natrem, nI_add, pk_mul, nIsub, nIrem, nIdiv, nIand1, nIand3, nIand7, nIand31, nIshr, nIle, nIlt, nIeq, nIc, vpI, nIm1, m1nI, m1lt, nIlm, m1le, nIlem, nIneg, u2_ss, u2_nn, u2_kk])
    refine aft50 (b := 1) hp (by decide) ?_
    have e : aft a cl kd p s = 4 * (p / 4) + (p + (if 1 = 1 then 3 else 1)) % 4 := by unfold aft; rw [if_neg (by omega), if_pos (by omega)]; congr 3; first | (rw [if_pos (by omega)]; rfl) | (rw [if_neg (by omega)]; rfl)
    rw [e] at h; exact h
  · (try simp (disch := omega) only [nlit, natrem, nI_add, pk_mul, nIsub, nIrem, nIdiv, nIand1, nIand3, nIand7, nIand31, nIshr, nIle, nIlt, nIeq, nIc, vpI, nIm1, m1nI, m1lt, nIlm, m1le, nIlem, nIneg, u2_ss, u2_nn, u2_kk] at c1 c2); (try simp (disch := omega) only [nlit, natrem, nI_add, pk_mul, nIsub, nIrem, nIdiv, nIand1, nIand3, nIand7, nIand31, nIshr, nIle, nIlt, nIeq, nIc, vpI, nIm1, m1nI, m1lt, nIlm, m1le, nIlem, nIneg, u2_ss, u2_nn, u2_kk])
    have e : aft a cl kd p s = p := by unfold aft; rw [if_pos (by omega)]
    rw [e] at h; exact h
