/-! couples -/
def SP (c k : Nat) : Prop := k ≠ c + 11 ∧ ¬ (43 ≤ k ∧ k ≤ 47) ∧ k ≠ 54 ∧ k ≠ 55 ∧ ¬ (57 ≤ k ∧ k ≤ 59) ∧ ¬ (80 ≤ k ∧ k ≤ 91)
def LSP (k : Nat) : Prop := k ≠ 44 ∧ k ≠ 54 ∧ ¬ (80 ≤ k ∧ k ≤ 91)
def CSQ (a : Ce) (lc : List (Nat × Nat)) (lf : Nat → Nat) (gl : Nat → List Nat) (sn : Nat → Nat) (c : Nat) (I J : Ints) (L K : Lngs) (R T : Rfs) : Prop := CC a lc lf gl sn c J K T ∧ Kp (SP c) I J ∧ Kp LSP L K ∧ Kp (fun k => k ≠ 58) R T
theorem CQ.cs {a : Ce} {lc : List (Nat × Nat)} {lf : Nat → Nat} {gl : Nat → List Nat} {sn : Nat → Nat} {c : Nat} {I J : Ints} {L K : Lngs} {R : Rfs} (h : CQ a lc lf gl sn c I J L K R) : CSQ a lc lf gl sn c I J L K R R :=
  ⟨h.1, h.2.1.mn (fun k hk => ⟨hk.1, fun e => hk.2.1 (by omega), hk.2.2.2.2.2⟩), h.2.2.mn (fun k hk => hk.2.2), Kp.rf⟩
def nr (x y : Nat) : Nat := if (x % 8 - y % 8) + (y % 8 - x % 8) + ((x / 8 - y / 8) + (y / 8 - x / 8)) ≤ 1 then 1 else 0
theorem nr_c (x y : Nat) : nr x y = nr y x := by
  unfold nr
  rw [show (x % 8 - y % 8) + (y % 8 - x % 8) + ((x / 8 - y / 8) + (y / 8 - x / 8)) = (y % 8 - x % 8) + (x % 8 - y % 8) + ((y / 8 - x / 8) + (x / 8 - y / 8)) by omega]
theorem nr_le (x y : Nat) : nr x y ≤ 1 := by unfold nr; split <;> omega
def inC (cs : Nat → Nat) (g : Nat) : Nat → Nat
  | 0 => 0
  | j + 1 => inC cs g j + nr (cs g) (cs (g + 1 + j))
def ouC (cs : Nat → Nat) (n : Nat) : Nat → Nat
  | 0 => 0
  | g + 1 => ouC cs n g + inC cs g (n - (g + 1))
def inM (cs : Nat → Nat) (g : Nat) : Nat → Nat
  | 0 => 0
  | j + 1 => inM cs g j + nr (cs g) (cs j)
def ouM (cs : Nat → Nat) : Nat → Nat
  | 0 => 0
  | g + 1 => ouM cs g + inM cs g g
theorem ou_eq (cs : Nat → Nat) {n : Nat} (hn : n ≤ 6) : ouC cs n n = ouM cs n := by
  have h01 := nr_c (cs 0) (cs 1)
  have h02 := nr_c (cs 0) (cs 2)
  have h03 := nr_c (cs 0) (cs 3)
  have h04 := nr_c (cs 0) (cs 4)
  have h05 := nr_c (cs 0) (cs 5)
  have h12 := nr_c (cs 1) (cs 2)
  have h13 := nr_c (cs 1) (cs 3)
  have h14 := nr_c (cs 1) (cs 4)
  have h15 := nr_c (cs 1) (cs 5)
  have h23 := nr_c (cs 2) (cs 3)
  have h24 := nr_c (cs 2) (cs 4)
  have h25 := nr_c (cs 2) (cs 5)
  have h34 := nr_c (cs 3) (cs 4)
  have h35 := nr_c (cs 3) (cs 5)
  have h45 := nr_c (cs 4) (cs 5)
  have : n = 0 ∨ n = 1 ∨ n = 2 ∨ n = 3 ∨ n = 4 ∨ n = 5 ∨ n = 6 := by omega
  rcases this with rfl | rfl | rfl | rfl | rfl | rfl | rfl <;> simp only [ouC, ouM, inC, inM, Nat.reduceSub, Nat.reduceAdd] <;> omega
theorem inC_le (cs : Nat → Nat) (g : Nat) : ∀ j, inC cs g j ≤ j
  | 0 => Nat.le_refl 0
  | j + 1 => by have := inC_le cs g j; have := nr_le (cs g) (cs (g + 1 + j)); show inC cs g j + _ ≤ _; omega
theorem ouC_le (cs : Nat → Nat) (n : Nat) : ∀ g, ouC cs n g ≤ n * g
  | 0 => Nat.zero_le _
  | g + 1 => by have := ouC_le cs n g; have := inC_le cs g (n - (g + 1)); show ouC cs n g + _ ≤ _; rw [Nat.mul_succ]; omega
theorem inM_le (cs : Nat → Nat) (g : Nat) : ∀ j, inM cs g j ≤ j
  | 0 => Nat.le_refl 0
  | j + 1 => by have := inM_le cs g j; have := nr_le (cs g) (cs j); show inM cs g j + _ ≤ _; omega
theorem ouM_le (cs : Nat → Nat) : ∀ g, ouM cs g ≤ g * g
  | 0 => Nat.zero_le _
  | g + 1 => by have := ouM_le cs g; have := inM_le cs g g; show ouM cs g + _ ≤ _; rw [Nat.mul_succ, Nat.succ_mul]; omega
def cpl (a : Ce) (lc : List (Nat × Nat)) (w g : Nat) : Nat := wkA a lc g [w] / 4
def spCouples (a : Ce) (lc : List (Nat × Nat)) (x : Int32) : Int32 := if inR x (a 3).val then nI (ouM (cpl a lc x.toNatClampNeg) (a 4).val) else -1
theorem abs_ok {d : Nat} {sx : Sx} {I : Ints} {L : Lngs} {R : Rfs} {q : Q3} {x y : Nat} (hx : x < 1000) (hy : y < 1000) (h : q (some (.int (nI (x - y + (y - x))))) I L R) : E0 mJ9_abs_0f7a4 (d + 1) sx [.int (nI x - nI y)] I L R q := by
  by_cases hc : y ≤ x
  · rw [show y - x = 0 by omega, Nat.add_zero] at h
    refine EJ9_abs_0f7a4  ⟨fun c1 => ?_, fun c1 => ?_⟩
    · (try simp (disch := omega) only [nlit, natrem, nIrm, nIam, nIam',  nI_add, pk_mul, nIsub, nIrem, nIdiv, nIand1, nIand3, nIand7, nIand31, nIshr, nIle, nIlt, nIeq, nIc, vpI, nIm1, m1nI, m1lt, nIlm, m1le, nIlem, nIneg, u2_ss, u2_nn, u2_kk] at c1); (try simp (disch := omega) only [nlit, natrem, nIrm, nIam, nIam',  nI_add, pk_mul, nIsub, nIrem, nIdiv, nIand1, nIand3, nIand7, nIand31, nIshr, nIle, nIlt, nIeq, nIc, vpI, nIm1, m1nI, m1lt, nIlm, m1le, nIlem, nIneg, u2_ss, u2_nn, u2_kk])
      exact h
    · (try simp (disch := omega) only [nlit, natrem, nIrm, nIam, nIam',  nI_add, pk_mul, nIsub, nIrem, nIdiv, nIand1, nIand3, nIand7, nIand31, nIshr, nIle, nIlt, nIeq, nIc, vpI, nIm1, m1nI, m1lt, nIlm, m1le, nIlem, nIneg, u2_ss, u2_nn, u2_kk] at c1) <;> (first | omega | exact absurd rfl c1 | exact absurd trivial c1)
  · refine EJ9_abs_0f7a4 ⟨fun c1 => ?_, fun c1 => ?_⟩
    · exact absurd (pk_sneg (by omega) (by omega)) (i32_nlt c1)
    · rw [Int32.neg_sub, nIsub (by omega)]
      rw [show x - y + (y - x) = y - x by omega] at h
      exact h
theorem distance_ok {d : Nat} {sx : Sx} {I : Ints} {L : Lngs} {R : Rfs} {q : Q3} {x y : Nat} (hx : x < 64) (hy : y < 64) (ht : nr x y = 1 → q (some (.int (nI ((x % 8 - y % 8) + (y % 8 - x % 8) + ((x / 8 - y / 8) + (y / 8 - x / 8)))))) I L R) (hf : nr x y = 0 → q (some (.int (nI ((x % 8 - y % 8) + (y % 8 - x % 8) + ((x / 8 - y / 8) + (y / 8 - x / 8)))))) I L R) : E0 mX11_distance (d + 2) sx [.int (nI x), .int (nI y)] I L R q := by
  refine EX11_distance ?_
  rw [show nI x &&& 7 = nI (x % 8) from nIand7 x, show nI y &&& 7 = nI (y % 8) from nIand7 y]
  refine abs_ok (by omega) (by omega) (RX11_distance_12 ?_)
  rw [show nI x >>> ((3 : Int32) &&& 31) = nI (x / 8) from nIshr (k := 3) (by omega) (by decide), show nI y >>> ((3 : Int32) &&& 31) = nI (y / 8) from nIshr (k := 3) (by omega) (by decide)]
  refine abs_ok (by omega) (by omega) (RX11_distance_22 ?_)
  rw [nI_add]
  by_cases h1 : nr x y = 1
  · exact ht h1
  · exact hf (by have := nr_le x y; omega)
theorem c_couples {d : Nat} {sx : Sx} {I : Ints} {L : Lngs} {R : Rfs} {q : Q3} {a : Ce} {lc : List (Nat × Nat)} {lf : Nat → Nat} {gl : Nat → List Nat} {sn : Nat → Nat} {c : Nat} (hC : CC a lc lf gl sn c I L R) {x : Int32} (h : ∀ J K, CSQ a lc lf gl sn c I J L K R R → q (some (.int (spCouples a lc x))) J K R) : E0 mX11_couples (d + 6) sx [.ref 0, .int x] I L R q := by
  have hCC := hC
  obtain ⟨hc, hR, hW, hE, hCl, hEv, hRt⟩ := hC
  have w4 := hW.2.2.2.2.1
  have w3 := hW.2.2.2.1
  have hc' : c = 2 ∨ c = 14 := hc
  refine EX11_couples hc hR (isWineC_ok hc hCl (fun w hn e => ?_) (fun hn => ?_))
  · subst e
    have hin : inR (nI w) (a 3).val := (inR_nI (by omega) (by omega)).mpr hn
    have e : spCouples a lc (nI w) = nI (ouC (cpl a lc w) (a 4).val (a 4).val) := by unfold spCouples; rw [if_pos hin, nIc (by omega), ou_eq _ w4]
    rw [e] at h
    have hws : wsOk a [w] := ⟨by simp, fun i hi => by simp at hi; subst hi; exact hn⟩
    have hcl : ∀ g, g < (a 4).val → cpl a lc w g < 64 := fun g hg => by have := wkA_lt hW (lc := lc) (ws := [w]) hg; unfold cpl; omega
    have key : ∀ J K, Kp (fun k => k ≠ c + 11 ∧ ¬ (44 ≤ k ∧ k ≤ 47)) I J → Kp (fun k => k ≠ 44) L K → CSQ a lc lf gl sn c I J L K R R := by
      intro J K hJ hK
      refine ⟨⟨hc, hR, hW, hE, hCl.fr (fun k h1 h2 => hJ k ⟨by omega, by omega⟩) (hK c (by omega)), hEv.fr (fun k h1 h2 => hJ k ⟨by omega, by omega⟩), fun g hg h0 => ?_⟩, hJ.mn (fun k hk => ⟨hk.1, fun e => hk.2.1 ⟨by omega, e.2⟩⟩), hK.mn (fun k hk => hk.1), Kp.rf⟩
      rw [hJ 43 ⟨by omega, by omega⟩] at h0
      exact (hRt g hg h0).fr (hJ _ ⟨by omega, by omega⟩) (hJ _ ⟨by omega, by omega⟩) (hK _ (by omega))
    have inn : ∀ J K, CSQ a lc lf gl sn c I J L K R R → (∀ g, g < (a 4).val → J 47 g = nI (cpl a lc w g)) → ∀ n g : Nat, n = (a 4).val - g → g ≤ (a 4).val → Y mX11_couples (d + 6) sx 76 [(0, .ref 0), (2, .int (nI (ouC (cpl a lc w) (a 4).val g))), (3, .int (nI g))] [] J K R q := by
      intro J K hS h47 n
      have e11 := hS.1.2.2.2.2.1.1.2.2.2.2.2
      induction n with
      | zero =>
        intro g hn hg
        have eg : g = (a 4).val := by omega
        refine RX11_couples_76 hc hR ⟨fun c1 => ?_, fun c1 => ?_⟩
        · (try simp (disch := omega) only [nlit, natrem, nIrm, nIam, nIam',  nI_add, pk_mul, nIsub, nIrem, nIdiv, nIand1, nIand3, nIand7, nIand31, nIshr, nIle, nIlt, nIeq, nIc, vpI, nIm1, m1nI, m1lt, nIlm, m1le, nIlem, nIneg, u2_ss, u2_nn, u2_kk, e11] at c1); (try simp (disch := omega) only [nlit, natrem, nIrm, nIam, nIam',  nI_add, pk_mul, nIsub, nIrem, nIdiv, nIand1, nIand3, nIand7, nIand31, nIshr, nIle, nIlt, nIeq, nIc, vpI, nIm1, m1nI, m1lt, nIlm, m1le, nIlem, nIneg, u2_ss, u2_nn, u2_kk, e11])
          rw [eg]
          exact h J K hS
        · (try simp (disch := omega) only [nlit, natrem, nIrm, nIam, nIam',  nI_add, pk_mul, nIsub, nIrem, nIdiv, nIand1, nIand3, nIand7, nIand31, nIshr, nIle, nIlt, nIeq, nIc, vpI, nIm1, m1nI, m1lt, nIlm, m1le, nIlem, nIneg, u2_ss, u2_nn, u2_kk, e11] at c1) <;> (first | omega | exact absurd rfl c1 | exact absurd trivial c1)
      | succ n ih =>
        intro g hn hg
        have hin2 : ∀ m j : Nat, m = (a 4).val - (g + 1) - j → j ≤ (a 4).val - (g + 1) → Y mX11_couples (d + 6) sx 92 [(0, .ref 0), (2, .int (nI (ouC (cpl a lc w) (a 4).val g + inC (cpl a lc w) g j))), (3, .int (nI g)), (4, .int (nI (g + 1 + j)))] [] J K R q := by
          intro m
          have hou := ouC_le (cpl a lc w) (a 4).val g
          have hou2 := Nat.mul_le_mul w4 (show g ≤ 6 by omega)
          induction m with
          | zero =>
            intro j hm hj
            have ej : j = (a 4).val - (g + 1) := by omega
            have hic := inC_le (cpl a lc w) g j
            refine RX11_couples_92 hc hR ⟨fun c1 => ?_, fun c1 => ⟨?_, ⟨?_, ?_⟩⟩⟩
            · (try simp (disch := omega) only [nlit, natrem, nIrm, nIam, nIam',  nI_add, pk_mul, nIsub, nIrem, nIdiv, nIand1, nIand3, nIand7, nIand31, nIshr, nIle, nIlt, nIeq, nIc, vpI, nIm1, m1nI, m1lt, nIlm, m1le, nIlem, nIneg, u2_ss, u2_nn, u2_kk, e11] at c1); (try simp (disch := omega) only [nlit, natrem, nIrm, nIam, nIam',  nI_add, pk_mul, nIsub, nIrem, nIdiv, nIand1, nIand3, nIand7, nIand31, nIshr, nIle, nIlt, nIeq, nIc, vpI, nIm1, m1nI, m1lt, nIlm, m1le, nIlem, nIneg, u2_ss, u2_nn, u2_kk, e11])
              have := ih (g + 1) (by omega) (by omega)
              rw [ej]
              exact this
            · (try simp (disch := omega) only [nlit, natrem, nIrm, nIam, nIam',  nI_add, pk_mul, nIsub, nIrem, nIdiv, nIand1, nIand3, nIand7, nIand31, nIshr, nIle, nIlt, nIeq, nIc, vpI, nIm1, m1nI, m1lt, nIlm, m1le, nIlem, nIneg, u2_ss, u2_nn, u2_kk, e11] at c1) <;> (try simp (disch := omega) only [nlit, natrem, nIrm, nIam, nIam',  nI_add, pk_mul, nIsub, nIrem, nIdiv, nIand1, nIand3, nIand7, nIand31, nIshr, nIle, nIlt, nIeq, nIc, vpI, nIm1, m1nI, m1lt, nIlm, m1le, nIlem, nIneg, u2_ss, u2_nn, u2_kk, e11]) <;> (first | omega | trivial)
            · (try simp (disch := omega) only [nlit, natrem, nIrm, nIam, nIam',  nI_add, pk_mul, nIsub, nIrem, nIdiv, nIand1, nIand3, nIand7, nIand31, nIshr, nIle, nIlt, nIeq, nIc, vpI, nIm1, m1nI, m1lt, nIlm, m1le, nIlem, nIneg, u2_ss, u2_nn, u2_kk, e11] at c1) <;> (try simp (disch := omega) only [nlit, natrem, nIrm, nIam, nIam',  nI_add, pk_mul, nIsub, nIrem, nIdiv, nIand1, nIand3, nIand7, nIand31, nIshr, nIle, nIlt, nIeq, nIc, vpI, nIm1, m1nI, m1lt, nIlm, m1le, nIlem, nIneg, u2_ss, u2_nn, u2_kk, e11]) <;> (first | omega | trivial)
            · (try simp (disch := omega) only [nlit, natrem, nIrm, nIam, nIam',  nI_add, pk_mul, nIsub, nIrem, nIdiv, nIand1, nIand3, nIand7, nIand31, nIshr, nIle, nIlt, nIeq, nIc, vpI, nIm1, m1nI, m1lt, nIlm, m1le, nIlem, nIneg, u2_ss, u2_nn, u2_kk, e11] at c1) <;> (first | omega | exact absurd rfl c1 | exact absurd trivial c1)
          | succ m ih2 =>
            intro j hm hj
            have hic := inC_le (cpl a lc w) g j
            have e1 := h47 g (by omega)
            have e2 := h47 (g + 1 + j) (by omega)
            have b1 := hcl g (by omega)
            have b2 := hcl (g + 1 + j) (by omega)
            refine RX11_couples_92 hc hR ⟨fun c1 => ?_, fun c1 => ⟨?_, ⟨?_, ?_⟩⟩⟩
            · (try simp (disch := omega) only [nlit, natrem, nIrm, nIam, nIam',  nI_add, pk_mul, nIsub, nIrem, nIdiv, nIand1, nIand3, nIand7, nIand31, nIshr, nIle, nIlt, nIeq, nIc, vpI, nIm1, m1nI, m1lt, nIlm, m1le, nIlem, nIneg, u2_ss, u2_nn, u2_kk, e11, e1, e2] at c1); (try simp (disch := omega) only [nlit, natrem, nIrm, nIam, nIam',  nI_add, pk_mul, nIsub, nIrem, nIdiv, nIand1, nIand3, nIand7, nIand31, nIshr, nIle, nIlt, nIeq, nIc, vpI, nIm1, m1nI, m1lt, nIlm, m1le, nIlem, nIneg, u2_ss, u2_nn, u2_kk, e11, e1, e2])
              omega
            · (try simp (disch := omega) only [nlit, natrem, nIrm, nIam, nIam',  nI_add, pk_mul, nIsub, nIrem, nIdiv, nIand1, nIand3, nIand7, nIand31, nIshr, nIle, nIlt, nIeq, nIc, vpI, nIm1, m1nI, m1lt, nIlm, m1le, nIlem, nIneg, u2_ss, u2_nn, u2_kk, e11, e1, e2] at c1) <;> (try simp (disch := omega) only [nlit, natrem, nIrm, nIam, nIam',  nI_add, pk_mul, nIsub, nIrem, nIdiv, nIand1, nIand3, nIand7, nIand31, nIshr, nIle, nIlt, nIeq, nIc, vpI, nIm1, m1nI, m1lt, nIlm, m1le, nIlem, nIneg, u2_ss, u2_nn, u2_kk, e11, e1, e2]) <;> (first | omega | trivial)
            · (try simp (disch := omega) only [nlit, natrem, nIrm, nIam, nIam',  nI_add, pk_mul, nIsub, nIrem, nIdiv, nIand1, nIand3, nIand7, nIand31, nIshr, nIle, nIlt, nIeq, nIc, vpI, nIm1, m1nI, m1lt, nIlm, m1le, nIlem, nIneg, u2_ss, u2_nn, u2_kk, e11, e1, e2] at c1) <;> (try simp (disch := omega) only [nlit, natrem, nIrm, nIam, nIam',  nI_add, pk_mul, nIsub, nIrem, nIdiv, nIand1, nIand3, nIand7, nIand31, nIshr, nIle, nIlt, nIeq, nIc, vpI, nIm1, m1nI, m1lt, nIlm, m1le, nIlem, nIneg, u2_ss, u2_nn, u2_kk, e11, e1, e2]) <;> (first | omega | trivial)
            · (try simp (disch := omega) only [nlit, natrem, nIrm, nIam, nIam',  nI_add, pk_mul, nIsub, nIrem, nIdiv, nIand1, nIand3, nIand7, nIand31, nIshr, nIle, nIlt, nIeq, nIc, vpI, nIm1, m1nI, m1lt, nIlm, m1le, nIlem, nIneg, u2_ss, u2_nn, u2_kk, e11, e1, e2] at c1); (try simp (disch := omega) only [nlit, natrem, nIrm, nIam, nIam',  nI_add, pk_mul, nIsub, nIrem, nIdiv, nIand1, nIand3, nIand7, nIand31, nIshr, nIle, nIlt, nIeq, nIc, vpI, nIm1, m1nI, m1lt, nIlm, m1le, nIlem, nIneg, u2_ss, u2_nn, u2_kk, e11, e1, e2])
              refine distance_ok b1 b2 (fun hn1 => ?_) (fun hn0 => ?_)
              · have ee : inC (cpl a lc w) g (j + 1) = inC (cpl a lc w) g j + 1 := by show inC _ g j + _ = _; rw [hn1]
                unfold nr at hn1
                split at hn1
                · skip
                  refine RX11_couples_120  ⟨fun c1 => ?_, fun c1 => ?_⟩
                  · (try simp (disch := omega) only [nlit, natrem, nIrm, nIam, nIam',  nI_add, pk_mul, nIsub, nIrem, nIdiv, nIand1, nIand3, nIand7, nIand31, nIshr, nIle, nIlt, nIeq, nIc, vpI, nIm1, m1nI, m1lt, nIlm, m1le, nIlem, nIneg, u2_ss, u2_nn, u2_kk] at c1) <;> (first | omega | exact absurd rfl c1 | exact absurd trivial c1)
                  · (try simp (disch := omega) only [nlit, natrem, nIrm, nIam, nIam',  nI_add, pk_mul, nIsub, nIrem, nIdiv, nIand1, nIand3, nIand7, nIand31, nIshr, nIle, nIlt, nIeq, nIc, vpI, nIm1, m1nI, m1lt, nIlm, m1le, nIlem, nIneg, u2_ss, u2_nn, u2_kk] at c1); (try simp (disch := omega) only [nlit, natrem, nIrm, nIam, nIam',  nI_add, pk_mul, nIsub, nIrem, nIdiv, nIand1, nIand3, nIand7, nIand31, nIshr, nIle, nIlt, nIeq, nIc, vpI, nIm1, m1nI, m1lt, nIlm, m1le, nIlem, nIneg, u2_ss, u2_nn, u2_kk])
                    rw [show ouC (cpl a lc w) (a 4).val g + inC (cpl a lc w) g j + 1 = ouC (cpl a lc w) (a 4).val g + inC (cpl a lc w) g (j + 1) by rw [ee]; rfl, show g + 1 + j + 1 = g + 1 + (j + 1) by omega]
                    exact ih2 (j + 1) (by omega) (by omega)
                · omega
              · have ee : inC (cpl a lc w) g (j + 1) = inC (cpl a lc w) g j := by show inC _ g j + _ = _; rw [hn0]; rfl
                unfold nr at hn0
                split at hn0
                · omega
                · skip
                  refine RX11_couples_120  ⟨fun c1 => ?_, fun c1 => ?_⟩
                  · (try simp (disch := omega) only [nlit, natrem, nIrm, nIam, nIam',  nI_add, pk_mul, nIsub, nIrem, nIdiv, nIand1, nIand3, nIand7, nIand31, nIshr, nIle, nIlt, nIeq, nIc, vpI, nIm1, m1nI, m1lt, nIlm, m1le, nIlem, nIneg, u2_ss, u2_nn, u2_kk] at c1); (try simp (disch := omega) only [nlit, natrem, nIrm, nIam, nIam',  nI_add, pk_mul, nIsub, nIrem, nIdiv, nIand1, nIand3, nIand7, nIand31, nIshr, nIle, nIlt, nIeq, nIc, vpI, nIm1, m1nI, m1lt, nIlm, m1le, nIlem, nIneg, u2_ss, u2_nn, u2_kk])
                    rw [← ee, show g + 1 + j + 1 = g + 1 + (j + 1) by omega]
                    exact ih2 (j + 1) (by omega) (by omega)
                  · (try simp (disch := omega) only [nlit, natrem, nIrm, nIam, nIam',  nI_add, pk_mul, nIsub, nIrem, nIdiv, nIand1, nIand3, nIand7, nIand31, nIshr, nIle, nIlt, nIeq, nIc, vpI, nIm1, m1nI, m1lt, nIlm, m1le, nIlem, nIneg, u2_ss, u2_nn, u2_kk] at c1) <;> (first | omega | exact absurd rfl c1 | exact absurd trivial c1)
        refine RX11_couples_76 hc hR ⟨fun c1 => ?_, fun c1 => ?_⟩
        · (try simp (disch := omega) only [nlit, natrem, nIrm, nIam, nIam',  nI_add, pk_mul, nIsub, nIrem, nIdiv, nIand1, nIand3, nIand7, nIand31, nIshr, nIle, nIlt, nIeq, nIc, vpI, nIm1, m1nI, m1lt, nIlm, m1le, nIlem, nIneg, u2_ss, u2_nn, u2_kk, e11] at c1); (try simp (disch := omega) only [nlit, natrem, nIrm, nIam, nIam',  nI_add, pk_mul, nIsub, nIrem, nIdiv, nIand1, nIand3, nIand7, nIand31, nIshr, nIle, nIlt, nIeq, nIc, vpI, nIm1, m1nI, m1lt, nIlm, m1le, nIlem, nIneg, u2_ss, u2_nn, u2_kk, e11])
          omega
        · (try simp (disch := omega) only [nlit, natrem, nIrm, nIam, nIam',  nI_add, pk_mul, nIsub, nIrem, nIdiv, nIand1, nIand3, nIand7, nIand31, nIshr, nIle, nIlt, nIeq, nIc, vpI, nIm1, m1nI, m1lt, nIlm, m1le, nIlem, nIneg, u2_ss, u2_nn, u2_kk, e11] at c1); (try simp (disch := omega) only [nlit, natrem, nIrm, nIam, nIam',  nI_add, pk_mul, nIsub, nIrem, nIdiv, nIand1, nIand3, nIand7, nIand31, nIshr, nIle, nIlt, nIeq, nIc, vpI, nIm1, m1nI, m1lt, nIlm, m1le, nIlem, nIneg, u2_ss, u2_nn, u2_kk, e11])
          exact hin2 _ 0 rfl (Nat.zero_le _)
    have out : ∀ n g : Nat, ∀ J K, n = (a 4).val - g → g ≤ (a 4).val → Kp (fun k => k ≠ c + 11 ∧ ¬ (44 ≤ k ∧ k ≤ 47)) I J → Kp (fun k => k ≠ 44) L K → J 46 0 = nI w → (∀ x, x < g → J 47 x = nI (cpl a lc w x)) → Y mX11_couples (d + 6) sx 22 [(0, .ref 0), (2, .int (nI g))] [] J K R q := by
      intro n
      induction n with
      | zero =>
        intro g J K hn hg hJ hK h46 h47
        have hS := key J K hJ hK
        have e11 := hS.1.2.2.2.2.1.1.2.2.2.2.2
        refine RX11_couples_22 hc hR ⟨fun c1 => ?_, fun c1 => ?_⟩
        · (try simp (disch := omega) only [nlit, natrem, nIrm, nIam, nIam',  nI_add, pk_mul, nIsub, nIrem, nIdiv, nIand1, nIand3, nIand7, nIand31, nIshr, nIle, nIlt, nIeq, nIc, vpI, nIm1, m1nI, m1lt, nIlm, m1le, nIlem, nIneg, u2_ss, u2_nn, u2_kk, e11] at c1); (try simp (disch := omega) only [nlit, natrem, nIrm, nIam, nIam',  nI_add, pk_mul, nIsub, nIrem, nIdiv, nIand1, nIand3, nIand7, nIand31, nIshr, nIle, nIlt, nIeq, nIc, vpI, nIm1, m1nI, m1lt, nIlm, m1le, nIlem, nIneg, u2_ss, u2_nn, u2_kk, e11])
          exact inn J K hS (fun x hx => h47 x (by omega)) _ 0 rfl (Nat.zero_le _)
        · (try simp (disch := omega) only [nlit, natrem, nIrm, nIam, nIam',  nI_add, pk_mul, nIsub, nIrem, nIdiv, nIand1, nIand3, nIand7, nIand31, nIshr, nIle, nIlt, nIeq, nIc, vpI, nIm1, m1nI, m1lt, nIlm, m1le, nIlem, nIneg, u2_ss, u2_nn, u2_kk, e11] at c1) <;> (first | omega | exact absurd rfl c1 | exact absurd trivial c1)
      | succ n ih =>
        intro g J K hn hg hJ hK h46 h47
        have hS := key J K hJ hK
        have e11 := hS.1.2.2.2.2.1.1.2.2.2.2.2
        refine RX11_couples_22 hc hR ⟨fun c1 => ?_, fun c1 => ?_⟩
        · (try simp (disch := omega) only [nlit, natrem, nIrm, nIam, nIam',  nI_add, pk_mul, nIsub, nIrem, nIdiv, nIand1, nIand3, nIand7, nIand31, nIshr, nIle, nIlt, nIeq, nIc, vpI, nIm1, m1nI, m1lt, nIlm, m1le, nIlem, nIneg, u2_ss, u2_nn, u2_kk, e11] at c1); (try simp (disch := omega) only [nlit, natrem, nIrm, nIam, nIam',  nI_add, pk_mul, nIsub, nIrem, nIdiv, nIand1, nIand3, nIand7, nIand31, nIshr, nIle, nIlt, nIeq, nIc, vpI, nIm1, m1nI, m1lt, nIlm, m1le, nIlem, nIneg, u2_ss, u2_nn, u2_kk, e11])
          omega
        · (try simp (disch := omega) only [nlit, natrem, nIrm, nIam, nIam',  nI_add, pk_mul, nIsub, nIrem, nIdiv, nIand1, nIand3, nIand7, nIand31, nIshr, nIle, nIlt, nIeq, nIc, vpI, nIm1, m1nI, m1lt, nIlm, m1le, nIlem, nIneg, u2_ss, u2_nn, u2_kk, e11] at c1); (try simp (disch := omega) only [nlit, natrem, nIrm, nIam, nIam',  nI_add, pk_mul, nIsub, nIrem, nIdiv, nIand1, nIand3, nIand7, nIand31, nIshr, nIle, nIlt, nIeq, nIc, vpI, nIm1, m1nI, m1lt, nIlm, m1le, nIlem, nIneg, u2_ss, u2_nn, u2_kk, e11])
          refine make_ok (b := 46) (f := 0) (nb := 1) (ws := [w]) hc (by unfold isRou; omega) hS.1.2.2.2.2.1 hW (by omega) hws rfl (Or.inr rfl) (by simp) (by decide) (fun j hj => by simp at hj; subst hj; exact h46) (fun J' K' hRo hJ' hK' => ?_)
          have e3 : J' 44 3 = nI (wkA a lc g [w]) := hRo.2.2.2.1
          have hwk := wkA_lt hW (lc := lc) (ws := [w]) (g := g) (by omega)
          refine RX11_couples_51  ⟨?_, ?_⟩
          · (try simp (disch := omega) only [nlit, natrem, nIrm, nIam, nIam',  nI_add, pk_mul, nIsub, nIrem, nIdiv, nIand1, nIand3, nIand7, nIand31, nIshr, nIle, nIlt, nIeq, nIc, vpI, nIm1, m1nI, m1lt, nIlm, m1le, nIlem, nIneg, u2_ss, u2_nn, u2_kk, e3, Nat.reduceMod, Nat.reducePow]) <;> (first | omega | trivial)
          · (try simp (disch := omega) only [nlit, natrem, nIrm, nIam, nIam',  nI_add, pk_mul, nIsub, nIrem, nIdiv, nIand1, nIand3, nIand7, nIand31, nIshr, nIle, nIlt, nIeq, nIc, vpI, nIm1, m1nI, m1lt, nIlm, m1le, nIlem, nIneg, u2_ss, u2_nn, u2_kk, e3, Nat.reduceMod, Nat.reducePow])
            refine ih (g + 1) _ _ (by omega) (by omega) ((hJ.tr (hJ'.mn (fun k hk => ⟨fun e => hk.2 (by omega), fun e => hk.2 (by omega), hk.1⟩))).up (fun hh => hh.2 (by omega))) (hK.tr hK') ?_ (fun x hx => ?_)
            · rw [u2_nn _ _ _ _ (by decide), hJ' 46 ⟨by omega, by omega, by omega⟩]; exact h46
            · by_cases ex : x = g
              · rw [ex, u2_ss]; rfl
              · rw [u2_kk _ _ _ _ ex, hJ' 47 ⟨by omega, by omega, by omega⟩]; exact h47 x (by omega)
    refine RX11_couples_8 ⟨fun _ => ?_, fun w => absurd w (by decide)⟩
    exact out _ 0 _ L rfl (Nat.zero_le _) (Kp.rf.up (fun hh => hh.2 (by omega))) Kp.rf (by rw [u2_ss]) (fun x hx => absurd hx (Nat.not_lt_zero _))
  · have e : spCouples a lc x = -1 := by unfold spCouples; rw [if_neg hn]
    have h := h I L (CQ.rf hCC).cs
    rw [e] at h
    exact RX11_couples_8 ⟨fun w => absurd rfl w, fun _ => h⟩
theorem i32_nn0 {x y : Nat} (h : y ≤ x) (hx : x < 1000) : (nI 0 ≤ nI x - nI y) = True ∧ nI x - nI y = nI (x - y) := by
  rw [nIsub h]
  exact ⟨eq_true ((nIle (by decide) (by omega)).mpr (by omega)), rfl⟩
theorem i32_nn1 {x y : Nat} (h : ¬ y ≤ x) (hy : y < 1000) : (nI 0 ≤ nI x - nI y) = False ∧ -(nI x - nI y) = nI (y - x) := by
  refine ⟨eq_false (fun c => i32_nlt c (pk_sneg (by omega) (by omega))), ?_⟩
  rw [Int32.neg_sub, nIsub (by omega)]
/-- what the model adds for a pair -/
theorem m_pair {d : Nat} {sx : Sx} {I : Ints} {L : Lngs} {R : Rfs} {q : Q3} {g j s : Nat} {x y : Nat} (hg : g < 6) (hj : j < g) (hs : s < 1000) (hx : x < 64) (hy : y < 64) (e1 : I 110 g = nI x) (e2 : I 110 j = nI y)
    (h : Y mX12_couples (d + 1) sx 75 [(0, .ref 92), (2, .int (nI (s + nr x y))), (3, .int (nI g)), (4, .int (nI (j + 1)))] [] I L R q) :
    Y mX12_couples (d + 1) sx 75 [(0, .ref 92), (2, .int (nI s)), (3, .int (nI g)), (4, .int (nI j))] [] I L R q := by
  have hr : nr x y = 1 ∧ (x % 8 - y % 8) + (y % 8 - x % 8) + ((x / 8 - y / 8) + (y / 8 - x / 8)) ≤ 1 ∨ nr x y = 0 ∧ ¬ (x % 8 - y % 8) + (y % 8 - x % 8) + ((x / 8 - y / 8) + (y / 8 - x / 8)) ≤ 1 := by
    unfold nr
    by_cases hc : (x % 8 - y % 8) + (y % 8 - x % 8) + ((x / 8 - y / 8) + (y / 8 - x / 8)) ≤ 1
    · exact Or.inl ⟨if_pos hc, hc⟩
    · exact Or.inr ⟨if_neg hc, hc⟩
  by_cases k1 : y % 8 ≤ x % 8 <;> by_cases k2 : y / 8 ≤ x / 8
  · obtain ⟨f1, f2⟩ := i32_nn0 (x := x % 8) (y := y % 8) k1 (by omega)
    obtain ⟨f3, f4⟩ := i32_nn0 (x := x / 8) (y := y / 8) k2 (by omega)
    refine RX12_couples_75  ⟨fun c1 => ?_, fun c1 => ⟨?_, ⟨?_, ⟨?_, ⟨?_, ⟨fun c2 => ⟨fun c3 => ⟨fun c4 => ?_, fun c4 => ?_⟩, fun c3 => ⟨fun c4 => ?_, fun c4 => ?_⟩⟩, fun c2 => ⟨fun c3 => ⟨fun c4 => ?_, fun c4 => ?_⟩, fun c3 => ⟨fun c4 => ?_, fun c4 => ?_⟩⟩⟩⟩⟩⟩⟩⟩
    · (try simp (disch := omega) only [nlit, natrem, nIrm, nIam, nIam',  nI_add, pk_mul, nIsub, nIrem, nIdiv, nIand1, nIand3, nIand7, nIand31, nIshr, nIle, nIlt, nIeq, nIc, vpI, nIm1, m1nI, m1lt, nIlm, m1le, nIlem, nIneg, u2_ss, u2_nn, u2_kk, e1, e2, f1, f2, f3, f4, Nat.add_zero] at c1); (try simp (disch := omega) only [nlit, natrem, nIrm, nIam, nIam',  nI_add, pk_mul, nIsub, nIrem, nIdiv, nIand1, nIand3, nIand7, nIand31, nIshr, nIle, nIlt, nIeq, nIc, vpI, nIm1, m1nI, m1lt, nIlm, m1le, nIlem, nIneg, u2_ss, u2_nn, u2_kk, e1, e2, f1, f2, f3, f4, Nat.add_zero])
      omega
    · (try simp (disch := omega) only [nlit, natrem, nIrm, nIam, nIam',  nI_add, pk_mul, nIsub, nIrem, nIdiv, nIand1, nIand3, nIand7, nIand31, nIshr, nIle, nIlt, nIeq, nIc, vpI, nIm1, m1nI, m1lt, nIlm, m1le, nIlem, nIneg, u2_ss, u2_nn, u2_kk, e1, e2, f1, f2, f3, f4, Nat.add_zero] at c1) <;> (try simp (disch := omega) only [nlit, natrem, nIrm, nIam, nIam',  nI_add, pk_mul, nIsub, nIrem, nIdiv, nIand1, nIand3, nIand7, nIand31, nIshr, nIle, nIlt, nIeq, nIc, vpI, nIm1, m1nI, m1lt, nIlm, m1le, nIlem, nIneg, u2_ss, u2_nn, u2_kk, e1, e2, f1, f2, f3, f4, Nat.add_zero]) <;> (first | omega | trivial)
    · (try simp (disch := omega) only [nlit, natrem, nIrm, nIam, nIam',  nI_add, pk_mul, nIsub, nIrem, nIdiv, nIand1, nIand3, nIand7, nIand31, nIshr, nIle, nIlt, nIeq, nIc, vpI, nIm1, m1nI, m1lt, nIlm, m1le, nIlem, nIneg, u2_ss, u2_nn, u2_kk, e1, e2, f1, f2, f3, f4, Nat.add_zero] at c1) <;> (try simp (disch := omega) only [nlit, natrem, nIrm, nIam, nIam',  nI_add, pk_mul, nIsub, nIrem, nIdiv, nIand1, nIand3, nIand7, nIand31, nIshr, nIle, nIlt, nIeq, nIc, vpI, nIm1, m1nI, m1lt, nIlm, m1le, nIlem, nIneg, u2_ss, u2_nn, u2_kk, e1, e2, f1, f2, f3, f4, Nat.add_zero]) <;> (first | omega | trivial)
    · (try simp (disch := omega) only [nlit, natrem, nIrm, nIam, nIam',  nI_add, pk_mul, nIsub, nIrem, nIdiv, nIand1, nIand3, nIand7, nIand31, nIshr, nIle, nIlt, nIeq, nIc, vpI, nIm1, m1nI, m1lt, nIlm, m1le, nIlem, nIneg, u2_ss, u2_nn, u2_kk, e1, e2, f1, f2, f3, f4, Nat.add_zero] at c1) <;> (try simp (disch := omega) only [nlit, natrem, nIrm, nIam, nIam',  nI_add, pk_mul, nIsub, nIrem, nIdiv, nIand1, nIand3, nIand7, nIand31, nIshr, nIle, nIlt, nIeq, nIc, vpI, nIm1, m1nI, m1lt, nIlm, m1le, nIlem, nIneg, u2_ss, u2_nn, u2_kk, e1, e2, f1, f2, f3, f4, Nat.add_zero]) <;> (first | omega | trivial)
    · (try simp (disch := omega) only [nlit, natrem, nIrm, nIam, nIam',  nI_add, pk_mul, nIsub, nIrem, nIdiv, nIand1, nIand3, nIand7, nIand31, nIshr, nIle, nIlt, nIeq, nIc, vpI, nIm1, m1nI, m1lt, nIlm, m1le, nIlem, nIneg, u2_ss, u2_nn, u2_kk, e1, e2, f1, f2, f3, f4, Nat.add_zero] at c1) <;> (try simp (disch := omega) only [nlit, natrem, nIrm, nIam, nIam',  nI_add, pk_mul, nIsub, nIrem, nIdiv, nIand1, nIand3, nIand7, nIand31, nIshr, nIle, nIlt, nIeq, nIc, vpI, nIm1, m1nI, m1lt, nIlm, m1le, nIlem, nIneg, u2_ss, u2_nn, u2_kk, e1, e2, f1, f2, f3, f4, Nat.add_zero]) <;> (first | omega | trivial)
    · (try simp (disch := omega) only [nlit, natrem, nIrm, nIam, nIam',  nI_add, pk_mul, nIsub, nIrem, nIdiv, nIand1, nIand3, nIand7, nIand31, nIshr, nIle, nIlt, nIeq, nIc, vpI, nIm1, m1nI, m1lt, nIlm, m1le, nIlem, nIneg, u2_ss, u2_nn, u2_kk, e1, e2, f1, f2, f3, f4, Nat.add_zero] at c1 c2 c3 c4); (try simp (disch := omega) only [nlit, natrem, nIrm, nIam, nIam',  nI_add, pk_mul, nIsub, nIrem, nIdiv, nIand1, nIand3, nIand7, nIand31, nIshr, nIle, nIlt, nIeq, nIc, vpI, nIm1, m1nI, m1lt, nIlm, m1le, nIlem, nIneg, u2_ss, u2_nn, u2_kk, e1, e2, f1, f2, f3, f4, Nat.add_zero])
      rcases hr with ⟨r1, r2⟩ | ⟨r1, r2⟩
      · first | (exfalso; omega) | (rw [r1] at h; exact h)
      · first | (exfalso; omega) | (rw [r1] at h; exact h)
    · (try simp (disch := omega) only [nlit, natrem, nIrm, nIam, nIam',  nI_add, pk_mul, nIsub, nIrem, nIdiv, nIand1, nIand3, nIand7, nIand31, nIshr, nIle, nIlt, nIeq, nIc, vpI, nIm1, m1nI, m1lt, nIlm, m1le, nIlem, nIneg, u2_ss, u2_nn, u2_kk, e1, e2, f1, f2, f3, f4, Nat.add_zero] at c1 c2 c3 c4); (try simp (disch := omega) only [nlit, natrem, nIrm, nIam, nIam',  nI_add, pk_mul, nIsub, nIrem, nIdiv, nIand1, nIand3, nIand7, nIand31, nIshr, nIle, nIlt, nIeq, nIc, vpI, nIm1, m1nI, m1lt, nIlm, m1le, nIlem, nIneg, u2_ss, u2_nn, u2_kk, e1, e2, f1, f2, f3, f4, Nat.add_zero])
      rcases hr with ⟨r1, r2⟩ | ⟨r1, r2⟩
      · first | (exfalso; omega) | (rw [r1] at h; exact h)
      · first | (exfalso; omega) | (rw [r1] at h; exact h)
    · (try simp (disch := omega) only [nlit, natrem, nIrm, nIam, nIam',  nI_add, pk_mul, nIsub, nIrem, nIdiv, nIand1, nIand3, nIand7, nIand31, nIshr, nIle, nIlt, nIeq, nIc, vpI, nIm1, m1nI, m1lt, nIlm, m1le, nIlem, nIneg, u2_ss, u2_nn, u2_kk, e1, e2, f1, f2, f3, f4, Nat.add_zero] at c1 c2 c3 c4) <;> (first | omega | exact absurd rfl c1 | exact absurd trivial c1)
    · (try simp (disch := omega) only [nlit, natrem, nIrm, nIam, nIam',  nI_add, pk_mul, nIsub, nIrem, nIdiv, nIand1, nIand3, nIand7, nIand31, nIshr, nIle, nIlt, nIeq, nIc, vpI, nIm1, m1nI, m1lt, nIlm, m1le, nIlem, nIneg, u2_ss, u2_nn, u2_kk, e1, e2, f1, f2, f3, f4, Nat.add_zero] at c1 c2 c3 c4) <;> (first | omega | exact absurd rfl c1 | exact absurd trivial c1)
    · (try simp (disch := omega) only [nlit, natrem, nIrm, nIam, nIam',  nI_add, pk_mul, nIsub, nIrem, nIdiv, nIand1, nIand3, nIand7, nIand31, nIshr, nIle, nIlt, nIeq, nIc, vpI, nIm1, m1nI, m1lt, nIlm, m1le, nIlem, nIneg, u2_ss, u2_nn, u2_kk, e1, e2, f1, f2, f3, f4, Nat.add_zero] at c1 c2 c3 c4) <;> (first | omega | exact absurd rfl c1 | exact absurd trivial c1)
    · (try simp (disch := omega) only [nlit, natrem, nIrm, nIam, nIam',  nI_add, pk_mul, nIsub, nIrem, nIdiv, nIand1, nIand3, nIand7, nIand31, nIshr, nIle, nIlt, nIeq, nIc, vpI, nIm1, m1nI, m1lt, nIlm, m1le, nIlem, nIneg, u2_ss, u2_nn, u2_kk, e1, e2, f1, f2, f3, f4, Nat.add_zero] at c1 c2 c3 c4) <;> (first | omega | exact absurd rfl c1 | exact absurd trivial c1)
    · (try simp (disch := omega) only [nlit, natrem, nIrm, nIam, nIam',  nI_add, pk_mul, nIsub, nIrem, nIdiv, nIand1, nIand3, nIand7, nIand31, nIshr, nIle, nIlt, nIeq, nIc, vpI, nIm1, m1nI, m1lt, nIlm, m1le, nIlem, nIneg, u2_ss, u2_nn, u2_kk, e1, e2, f1, f2, f3, f4, Nat.add_zero] at c1 c2 c3 c4) <;> (first | omega | exact absurd rfl c1 | exact absurd trivial c1)
    · (try simp (disch := omega) only [nlit, natrem, nIrm, nIam, nIam',  nI_add, pk_mul, nIsub, nIrem, nIdiv, nIand1, nIand3, nIand7, nIand31, nIshr, nIle, nIlt, nIeq, nIc, vpI, nIm1, m1nI, m1lt, nIlm, m1le, nIlem, nIneg, u2_ss, u2_nn, u2_kk, e1, e2, f1, f2, f3, f4, Nat.add_zero] at c1 c2 c3 c4) <;> (first | omega | exact absurd rfl c1 | exact absurd trivial c1)
  · obtain ⟨f1, f2⟩ := i32_nn0 (x := x % 8) (y := y % 8) k1 (by omega)
    obtain ⟨f3, f4⟩ := i32_nn1 (x := x / 8) (y := y / 8) k2 (by omega)
    refine RX12_couples_75  ⟨fun c1 => ?_, fun c1 => ⟨?_, ⟨?_, ⟨?_, ⟨?_, ⟨fun c2 => ⟨fun c3 => ⟨fun c4 => ?_, fun c4 => ?_⟩, fun c3 => ⟨fun c4 => ?_, fun c4 => ?_⟩⟩, fun c2 => ⟨fun c3 => ⟨fun c4 => ?_, fun c4 => ?_⟩, fun c3 => ⟨fun c4 => ?_, fun c4 => ?_⟩⟩⟩⟩⟩⟩⟩⟩
    · (try simp (disch := omega) only [nlit, natrem, nIrm, nIam, nIam',  nI_add, pk_mul, nIsub, nIrem, nIdiv, nIand1, nIand3, nIand7, nIand31, nIshr, nIle, nIlt, nIeq, nIc, vpI, nIm1, m1nI, m1lt, nIlm, m1le, nIlem, nIneg, u2_ss, u2_nn, u2_kk, e1, e2, f1, f2, f3, f4, Nat.add_zero] at c1); (try simp (disch := omega) only [nlit, natrem, nIrm, nIam, nIam',  nI_add, pk_mul, nIsub, nIrem, nIdiv, nIand1, nIand3, nIand7, nIand31, nIshr, nIle, nIlt, nIeq, nIc, vpI, nIm1, m1nI, m1lt, nIlm, m1le, nIlem, nIneg, u2_ss, u2_nn, u2_kk, e1, e2, f1, f2, f3, f4, Nat.add_zero])
      omega
    · (try simp (disch := omega) only [nlit, natrem, nIrm, nIam, nIam',  nI_add, pk_mul, nIsub, nIrem, nIdiv, nIand1, nIand3, nIand7, nIand31, nIshr, nIle, nIlt, nIeq, nIc, vpI, nIm1, m1nI, m1lt, nIlm, m1le, nIlem, nIneg, u2_ss, u2_nn, u2_kk, e1, e2, f1, f2, f3, f4, Nat.add_zero] at c1) <;> (try simp (disch := omega) only [nlit, natrem, nIrm, nIam, nIam',  nI_add, pk_mul, nIsub, nIrem, nIdiv, nIand1, nIand3, nIand7, nIand31, nIshr, nIle, nIlt, nIeq, nIc, vpI, nIm1, m1nI, m1lt, nIlm, m1le, nIlem, nIneg, u2_ss, u2_nn, u2_kk, e1, e2, f1, f2, f3, f4, Nat.add_zero]) <;> (first | omega | trivial)
    · (try simp (disch := omega) only [nlit, natrem, nIrm, nIam, nIam',  nI_add, pk_mul, nIsub, nIrem, nIdiv, nIand1, nIand3, nIand7, nIand31, nIshr, nIle, nIlt, nIeq, nIc, vpI, nIm1, m1nI, m1lt, nIlm, m1le, nIlem, nIneg, u2_ss, u2_nn, u2_kk, e1, e2, f1, f2, f3, f4, Nat.add_zero] at c1) <;> (try simp (disch := omega) only [nlit, natrem, nIrm, nIam, nIam',  nI_add, pk_mul, nIsub, nIrem, nIdiv, nIand1, nIand3, nIand7, nIand31, nIshr, nIle, nIlt, nIeq, nIc, vpI, nIm1, m1nI, m1lt, nIlm, m1le, nIlem, nIneg, u2_ss, u2_nn, u2_kk, e1, e2, f1, f2, f3, f4, Nat.add_zero]) <;> (first | omega | trivial)
    · (try simp (disch := omega) only [nlit, natrem, nIrm, nIam, nIam',  nI_add, pk_mul, nIsub, nIrem, nIdiv, nIand1, nIand3, nIand7, nIand31, nIshr, nIle, nIlt, nIeq, nIc, vpI, nIm1, m1nI, m1lt, nIlm, m1le, nIlem, nIneg, u2_ss, u2_nn, u2_kk, e1, e2, f1, f2, f3, f4, Nat.add_zero] at c1) <;> (try simp (disch := omega) only [nlit, natrem, nIrm, nIam, nIam',  nI_add, pk_mul, nIsub, nIrem, nIdiv, nIand1, nIand3, nIand7, nIand31, nIshr, nIle, nIlt, nIeq, nIc, vpI, nIm1, m1nI, m1lt, nIlm, m1le, nIlem, nIneg, u2_ss, u2_nn, u2_kk, e1, e2, f1, f2, f3, f4, Nat.add_zero]) <;> (first | omega | trivial)
    · (try simp (disch := omega) only [nlit, natrem, nIrm, nIam, nIam',  nI_add, pk_mul, nIsub, nIrem, nIdiv, nIand1, nIand3, nIand7, nIand31, nIshr, nIle, nIlt, nIeq, nIc, vpI, nIm1, m1nI, m1lt, nIlm, m1le, nIlem, nIneg, u2_ss, u2_nn, u2_kk, e1, e2, f1, f2, f3, f4, Nat.add_zero] at c1) <;> (try simp (disch := omega) only [nlit, natrem, nIrm, nIam, nIam',  nI_add, pk_mul, nIsub, nIrem, nIdiv, nIand1, nIand3, nIand7, nIand31, nIshr, nIle, nIlt, nIeq, nIc, vpI, nIm1, m1nI, m1lt, nIlm, m1le, nIlem, nIneg, u2_ss, u2_nn, u2_kk, e1, e2, f1, f2, f3, f4, Nat.add_zero]) <;> (first | omega | trivial)
    · (try simp (disch := omega) only [nlit, natrem, nIrm, nIam, nIam',  nI_add, pk_mul, nIsub, nIrem, nIdiv, nIand1, nIand3, nIand7, nIand31, nIshr, nIle, nIlt, nIeq, nIc, vpI, nIm1, m1nI, m1lt, nIlm, m1le, nIlem, nIneg, u2_ss, u2_nn, u2_kk, e1, e2, f1, f2, f3, f4, Nat.add_zero] at c1 c2 c3 c4) <;> (first | omega | exact absurd rfl c1 | exact absurd trivial c1)
    · (try simp (disch := omega) only [nlit, natrem, nIrm, nIam, nIam',  nI_add, pk_mul, nIsub, nIrem, nIdiv, nIand1, nIand3, nIand7, nIand31, nIshr, nIle, nIlt, nIeq, nIc, vpI, nIm1, m1nI, m1lt, nIlm, m1le, nIlem, nIneg, u2_ss, u2_nn, u2_kk, e1, e2, f1, f2, f3, f4, Nat.add_zero] at c1 c2 c3 c4) <;> (first | omega | exact absurd rfl c1 | exact absurd trivial c1)
    · (try simp (disch := omega) only [nlit, natrem, nIrm, nIam, nIam',  nI_add, pk_mul, nIsub, nIrem, nIdiv, nIand1, nIand3, nIand7, nIand31, nIshr, nIle, nIlt, nIeq, nIc, vpI, nIm1, m1nI, m1lt, nIlm, m1le, nIlem, nIneg, u2_ss, u2_nn, u2_kk, e1, e2, f1, f2, f3, f4, Nat.add_zero] at c1 c2 c3 c4); (try simp (disch := omega) only [nlit, natrem, nIrm, nIam, nIam',  nI_add, pk_mul, nIsub, nIrem, nIdiv, nIand1, nIand3, nIand7, nIand31, nIshr, nIle, nIlt, nIeq, nIc, vpI, nIm1, m1nI, m1lt, nIlm, m1le, nIlem, nIneg, u2_ss, u2_nn, u2_kk, e1, e2, f1, f2, f3, f4, Nat.add_zero])
      rcases hr with ⟨r1, r2⟩ | ⟨r1, r2⟩
      · first | (exfalso; omega) | (rw [r1] at h; exact h)
      · first | (exfalso; omega) | (rw [r1] at h; exact h)
    · (try simp (disch := omega) only [nlit, natrem, nIrm, nIam, nIam',  nI_add, pk_mul, nIsub, nIrem, nIdiv, nIand1, nIand3, nIand7, nIand31, nIshr, nIle, nIlt, nIeq, nIc, vpI, nIm1, m1nI, m1lt, nIlm, m1le, nIlem, nIneg, u2_ss, u2_nn, u2_kk, e1, e2, f1, f2, f3, f4, Nat.add_zero] at c1 c2 c3 c4); (try simp (disch := omega) only [nlit, natrem, nIrm, nIam, nIam',  nI_add, pk_mul, nIsub, nIrem, nIdiv, nIand1, nIand3, nIand7, nIand31, nIshr, nIle, nIlt, nIeq, nIc, vpI, nIm1, m1nI, m1lt, nIlm, m1le, nIlem, nIneg, u2_ss, u2_nn, u2_kk, e1, e2, f1, f2, f3, f4, Nat.add_zero])
      rcases hr with ⟨r1, r2⟩ | ⟨r1, r2⟩
      · first | (exfalso; omega) | (rw [r1] at h; exact h)
      · first | (exfalso; omega) | (rw [r1] at h; exact h)
    · (try simp (disch := omega) only [nlit, natrem, nIrm, nIam, nIam',  nI_add, pk_mul, nIsub, nIrem, nIdiv, nIand1, nIand3, nIand7, nIand31, nIshr, nIle, nIlt, nIeq, nIc, vpI, nIm1, m1nI, m1lt, nIlm, m1le, nIlem, nIneg, u2_ss, u2_nn, u2_kk, e1, e2, f1, f2, f3, f4, Nat.add_zero] at c1 c2 c3 c4) <;> (first | omega | exact absurd rfl c1 | exact absurd trivial c1)
    · (try simp (disch := omega) only [nlit, natrem, nIrm, nIam, nIam',  nI_add, pk_mul, nIsub, nIrem, nIdiv, nIand1, nIand3, nIand7, nIand31, nIshr, nIle, nIlt, nIeq, nIc, vpI, nIm1, m1nI, m1lt, nIlm, m1le, nIlem, nIneg, u2_ss, u2_nn, u2_kk, e1, e2, f1, f2, f3, f4, Nat.add_zero] at c1 c2 c3 c4) <;> (first | omega | exact absurd rfl c1 | exact absurd trivial c1)
    · (try simp (disch := omega) only [nlit, natrem, nIrm, nIam, nIam',  nI_add, pk_mul, nIsub, nIrem, nIdiv, nIand1, nIand3, nIand7, nIand31, nIshr, nIle, nIlt, nIeq, nIc, vpI, nIm1, m1nI, m1lt, nIlm, m1le, nIlem, nIneg, u2_ss, u2_nn, u2_kk, e1, e2, f1, f2, f3, f4, Nat.add_zero] at c1 c2 c3 c4) <;> (first | omega | exact absurd rfl c1 | exact absurd trivial c1)
    · (try simp (disch := omega) only [nlit, natrem, nIrm, nIam, nIam',  nI_add, pk_mul, nIsub, nIrem, nIdiv, nIand1, nIand3, nIand7, nIand31, nIshr, nIle, nIlt, nIeq, nIc, vpI, nIm1, m1nI, m1lt, nIlm, m1le, nIlem, nIneg, u2_ss, u2_nn, u2_kk, e1, e2, f1, f2, f3, f4, Nat.add_zero] at c1 c2 c3 c4) <;> (first | omega | exact absurd rfl c1 | exact absurd trivial c1)
  · obtain ⟨f1, f2⟩ := i32_nn1 (x := x % 8) (y := y % 8) k1 (by omega)
    obtain ⟨f3, f4⟩ := i32_nn0 (x := x / 8) (y := y / 8) k2 (by omega)
    refine RX12_couples_75  ⟨fun c1 => ?_, fun c1 => ⟨?_, ⟨?_, ⟨?_, ⟨?_, ⟨fun c2 => ⟨fun c3 => ⟨fun c4 => ?_, fun c4 => ?_⟩, fun c3 => ⟨fun c4 => ?_, fun c4 => ?_⟩⟩, fun c2 => ⟨fun c3 => ⟨fun c4 => ?_, fun c4 => ?_⟩, fun c3 => ⟨fun c4 => ?_, fun c4 => ?_⟩⟩⟩⟩⟩⟩⟩⟩
    · (try simp (disch := omega) only [nlit, natrem, nIrm, nIam, nIam',  nI_add, pk_mul, nIsub, nIrem, nIdiv, nIand1, nIand3, nIand7, nIand31, nIshr, nIle, nIlt, nIeq, nIc, vpI, nIm1, m1nI, m1lt, nIlm, m1le, nIlem, nIneg, u2_ss, u2_nn, u2_kk, e1, e2, f1, f2, f3, f4, Nat.add_zero] at c1); (try simp (disch := omega) only [nlit, natrem, nIrm, nIam, nIam',  nI_add, pk_mul, nIsub, nIrem, nIdiv, nIand1, nIand3, nIand7, nIand31, nIshr, nIle, nIlt, nIeq, nIc, vpI, nIm1, m1nI, m1lt, nIlm, m1le, nIlem, nIneg, u2_ss, u2_nn, u2_kk, e1, e2, f1, f2, f3, f4, Nat.add_zero])
      omega
    · (try simp (disch := omega) only [nlit, natrem, nIrm, nIam, nIam',  nI_add, pk_mul, nIsub, nIrem, nIdiv, nIand1, nIand3, nIand7, nIand31, nIshr, nIle, nIlt, nIeq, nIc, vpI, nIm1, m1nI, m1lt, nIlm, m1le, nIlem, nIneg, u2_ss, u2_nn, u2_kk, e1, e2, f1, f2, f3, f4, Nat.add_zero] at c1) <;> (try simp (disch := omega) only [nlit, natrem, nIrm, nIam, nIam',  nI_add, pk_mul, nIsub, nIrem, nIdiv, nIand1, nIand3, nIand7, nIand31, nIshr, nIle, nIlt, nIeq, nIc, vpI, nIm1, m1nI, m1lt, nIlm, m1le, nIlem, nIneg, u2_ss, u2_nn, u2_kk, e1, e2, f1, f2, f3, f4, Nat.add_zero]) <;> (first | omega | trivial)
    · (try simp (disch := omega) only [nlit, natrem, nIrm, nIam, nIam',  nI_add, pk_mul, nIsub, nIrem, nIdiv, nIand1, nIand3, nIand7, nIand31, nIshr, nIle, nIlt, nIeq, nIc, vpI, nIm1, m1nI, m1lt, nIlm, m1le, nIlem, nIneg, u2_ss, u2_nn, u2_kk, e1, e2, f1, f2, f3, f4, Nat.add_zero] at c1) <;> (try simp (disch := omega) only [nlit, natrem, nIrm, nIam, nIam',  nI_add, pk_mul, nIsub, nIrem, nIdiv, nIand1, nIand3, nIand7, nIand31, nIshr, nIle, nIlt, nIeq, nIc, vpI, nIm1, m1nI, m1lt, nIlm, m1le, nIlem, nIneg, u2_ss, u2_nn, u2_kk, e1, e2, f1, f2, f3, f4, Nat.add_zero]) <;> (first | omega | trivial)
    · (try simp (disch := omega) only [nlit, natrem, nIrm, nIam, nIam',  nI_add, pk_mul, nIsub, nIrem, nIdiv, nIand1, nIand3, nIand7, nIand31, nIshr, nIle, nIlt, nIeq, nIc, vpI, nIm1, m1nI, m1lt, nIlm, m1le, nIlem, nIneg, u2_ss, u2_nn, u2_kk, e1, e2, f1, f2, f3, f4, Nat.add_zero] at c1) <;> (try simp (disch := omega) only [nlit, natrem, nIrm, nIam, nIam',  nI_add, pk_mul, nIsub, nIrem, nIdiv, nIand1, nIand3, nIand7, nIand31, nIshr, nIle, nIlt, nIeq, nIc, vpI, nIm1, m1nI, m1lt, nIlm, m1le, nIlem, nIneg, u2_ss, u2_nn, u2_kk, e1, e2, f1, f2, f3, f4, Nat.add_zero]) <;> (first | omega | trivial)
    · (try simp (disch := omega) only [nlit, natrem, nIrm, nIam, nIam',  nI_add, pk_mul, nIsub, nIrem, nIdiv, nIand1, nIand3, nIand7, nIand31, nIshr, nIle, nIlt, nIeq, nIc, vpI, nIm1, m1nI, m1lt, nIlm, m1le, nIlem, nIneg, u2_ss, u2_nn, u2_kk, e1, e2, f1, f2, f3, f4, Nat.add_zero] at c1) <;> (try simp (disch := omega) only [nlit, natrem, nIrm, nIam, nIam',  nI_add, pk_mul, nIsub, nIrem, nIdiv, nIand1, nIand3, nIand7, nIand31, nIshr, nIle, nIlt, nIeq, nIc, vpI, nIm1, m1nI, m1lt, nIlm, m1le, nIlem, nIneg, u2_ss, u2_nn, u2_kk, e1, e2, f1, f2, f3, f4, Nat.add_zero]) <;> (first | omega | trivial)
    · (try simp (disch := omega) only [nlit, natrem, nIrm, nIam, nIam',  nI_add, pk_mul, nIsub, nIrem, nIdiv, nIand1, nIand3, nIand7, nIand31, nIshr, nIle, nIlt, nIeq, nIc, vpI, nIm1, m1nI, m1lt, nIlm, m1le, nIlem, nIneg, u2_ss, u2_nn, u2_kk, e1, e2, f1, f2, f3, f4, Nat.add_zero] at c1 c2 c3 c4) <;> (first | omega | exact absurd rfl c1 | exact absurd trivial c1)
    · (try simp (disch := omega) only [nlit, natrem, nIrm, nIam, nIam',  nI_add, pk_mul, nIsub, nIrem, nIdiv, nIand1, nIand3, nIand7, nIand31, nIshr, nIle, nIlt, nIeq, nIc, vpI, nIm1, m1nI, m1lt, nIlm, m1le, nIlem, nIneg, u2_ss, u2_nn, u2_kk, e1, e2, f1, f2, f3, f4, Nat.add_zero] at c1 c2 c3 c4) <;> (first | omega | exact absurd rfl c1 | exact absurd trivial c1)
    · (try simp (disch := omega) only [nlit, natrem, nIrm, nIam, nIam',  nI_add, pk_mul, nIsub, nIrem, nIdiv, nIand1, nIand3, nIand7, nIand31, nIshr, nIle, nIlt, nIeq, nIc, vpI, nIm1, m1nI, m1lt, nIlm, m1le, nIlem, nIneg, u2_ss, u2_nn, u2_kk, e1, e2, f1, f2, f3, f4, Nat.add_zero] at c1 c2 c3 c4) <;> (first | omega | exact absurd rfl c1 | exact absurd trivial c1)
    · (try simp (disch := omega) only [nlit, natrem, nIrm, nIam, nIam',  nI_add, pk_mul, nIsub, nIrem, nIdiv, nIand1, nIand3, nIand7, nIand31, nIshr, nIle, nIlt, nIeq, nIc, vpI, nIm1, m1nI, m1lt, nIlm, m1le, nIlem, nIneg, u2_ss, u2_nn, u2_kk, e1, e2, f1, f2, f3, f4, Nat.add_zero] at c1 c2 c3 c4) <;> (first | omega | exact absurd rfl c1 | exact absurd trivial c1)
    · (try simp (disch := omega) only [nlit, natrem, nIrm, nIam, nIam',  nI_add, pk_mul, nIsub, nIrem, nIdiv, nIand1, nIand3, nIand7, nIand31, nIshr, nIle, nIlt, nIeq, nIc, vpI, nIm1, m1nI, m1lt, nIlm, m1le, nIlem, nIneg, u2_ss, u2_nn, u2_kk, e1, e2, f1, f2, f3, f4, Nat.add_zero] at c1 c2 c3 c4); (try simp (disch := omega) only [nlit, natrem, nIrm, nIam, nIam',  nI_add, pk_mul, nIsub, nIrem, nIdiv, nIand1, nIand3, nIand7, nIand31, nIshr, nIle, nIlt, nIeq, nIc, vpI, nIm1, m1nI, m1lt, nIlm, m1le, nIlem, nIneg, u2_ss, u2_nn, u2_kk, e1, e2, f1, f2, f3, f4, Nat.add_zero])
      rcases hr with ⟨r1, r2⟩ | ⟨r1, r2⟩
      · first | (exfalso; omega) | (rw [r1] at h; exact h)
      · first | (exfalso; omega) | (rw [r1] at h; exact h)
    · (try simp (disch := omega) only [nlit, natrem, nIrm, nIam, nIam',  nI_add, pk_mul, nIsub, nIrem, nIdiv, nIand1, nIand3, nIand7, nIand31, nIshr, nIle, nIlt, nIeq, nIc, vpI, nIm1, m1nI, m1lt, nIlm, m1le, nIlem, nIneg, u2_ss, u2_nn, u2_kk, e1, e2, f1, f2, f3, f4, Nat.add_zero] at c1 c2 c3 c4); (try simp (disch := omega) only [nlit, natrem, nIrm, nIam, nIam',  nI_add, pk_mul, nIsub, nIrem, nIdiv, nIand1, nIand3, nIand7, nIand31, nIshr, nIle, nIlt, nIeq, nIc, vpI, nIm1, m1nI, m1lt, nIlm, m1le, nIlem, nIneg, u2_ss, u2_nn, u2_kk, e1, e2, f1, f2, f3, f4, Nat.add_zero])
      rcases hr with ⟨r1, r2⟩ | ⟨r1, r2⟩
      · first | (exfalso; omega) | (rw [r1] at h; exact h)
      · first | (exfalso; omega) | (rw [r1] at h; exact h)
    · (try simp (disch := omega) only [nlit, natrem, nIrm, nIam, nIam',  nI_add, pk_mul, nIsub, nIrem, nIdiv, nIand1, nIand3, nIand7, nIand31, nIshr, nIle, nIlt, nIeq, nIc, vpI, nIm1, m1nI, m1lt, nIlm, m1le, nIlem, nIneg, u2_ss, u2_nn, u2_kk, e1, e2, f1, f2, f3, f4, Nat.add_zero] at c1 c2 c3 c4) <;> (first | omega | exact absurd rfl c1 | exact absurd trivial c1)
    · (try simp (disch := omega) only [nlit, natrem, nIrm, nIam, nIam',  nI_add, pk_mul, nIsub, nIrem, nIdiv, nIand1, nIand3, nIand7, nIand31, nIshr, nIle, nIlt, nIeq, nIc, vpI, nIm1, m1nI, m1lt, nIlm, m1le, nIlem, nIneg, u2_ss, u2_nn, u2_kk, e1, e2, f1, f2, f3, f4, Nat.add_zero] at c1 c2 c3 c4) <;> (first | omega | exact absurd rfl c1 | exact absurd trivial c1)
  · obtain ⟨f1, f2⟩ := i32_nn1 (x := x % 8) (y := y % 8) k1 (by omega)
    obtain ⟨f3, f4⟩ := i32_nn1 (x := x / 8) (y := y / 8) k2 (by omega)
    refine RX12_couples_75  ⟨fun c1 => ?_, fun c1 => ⟨?_, ⟨?_, ⟨?_, ⟨?_, ⟨fun c2 => ⟨fun c3 => ⟨fun c4 => ?_, fun c4 => ?_⟩, fun c3 => ⟨fun c4 => ?_, fun c4 => ?_⟩⟩, fun c2 => ⟨fun c3 => ⟨fun c4 => ?_, fun c4 => ?_⟩, fun c3 => ⟨fun c4 => ?_, fun c4 => ?_⟩⟩⟩⟩⟩⟩⟩⟩
    · (try simp (disch := omega) only [nlit, natrem, nIrm, nIam, nIam',  nI_add, pk_mul, nIsub, nIrem, nIdiv, nIand1, nIand3, nIand7, nIand31, nIshr, nIle, nIlt, nIeq, nIc, vpI, nIm1, m1nI, m1lt, nIlm, m1le, nIlem, nIneg, u2_ss, u2_nn, u2_kk, e1, e2, f1, f2, f3, f4, Nat.add_zero] at c1); (try simp (disch := omega) only [nlit, natrem, nIrm, nIam, nIam',  nI_add, pk_mul, nIsub, nIrem, nIdiv, nIand1, nIand3, nIand7, nIand31, nIshr, nIle, nIlt, nIeq, nIc, vpI, nIm1, m1nI, m1lt, nIlm, m1le, nIlem, nIneg, u2_ss, u2_nn, u2_kk, e1, e2, f1, f2, f3, f4, Nat.add_zero])
      omega
    · (try simp (disch := omega) only [nlit, natrem, nIrm, nIam, nIam',  nI_add, pk_mul, nIsub, nIrem, nIdiv, nIand1, nIand3, nIand7, nIand31, nIshr, nIle, nIlt, nIeq, nIc, vpI, nIm1, m1nI, m1lt, nIlm, m1le, nIlem, nIneg, u2_ss, u2_nn, u2_kk, e1, e2, f1, f2, f3, f4, Nat.add_zero] at c1) <;> (try simp (disch := omega) only [nlit, natrem, nIrm, nIam, nIam',  nI_add, pk_mul, nIsub, nIrem, nIdiv, nIand1, nIand3, nIand7, nIand31, nIshr, nIle, nIlt, nIeq, nIc, vpI, nIm1, m1nI, m1lt, nIlm, m1le, nIlem, nIneg, u2_ss, u2_nn, u2_kk, e1, e2, f1, f2, f3, f4, Nat.add_zero]) <;> (first | omega | trivial)
    · (try simp (disch := omega) only [nlit, natrem, nIrm, nIam, nIam',  nI_add, pk_mul, nIsub, nIrem, nIdiv, nIand1, nIand3, nIand7, nIand31, nIshr, nIle, nIlt, nIeq, nIc, vpI, nIm1, m1nI, m1lt, nIlm, m1le, nIlem, nIneg, u2_ss, u2_nn, u2_kk, e1, e2, f1, f2, f3, f4, Nat.add_zero] at c1) <;> (try simp (disch := omega) only [nlit, natrem, nIrm, nIam, nIam',  nI_add, pk_mul, nIsub, nIrem, nIdiv, nIand1, nIand3, nIand7, nIand31, nIshr, nIle, nIlt, nIeq, nIc, vpI, nIm1, m1nI, m1lt, nIlm, m1le, nIlem, nIneg, u2_ss, u2_nn, u2_kk, e1, e2, f1, f2, f3, f4, Nat.add_zero]) <;> (first | omega | trivial)
    · (try simp (disch := omega) only [nlit, natrem, nIrm, nIam, nIam',  nI_add, pk_mul, nIsub, nIrem, nIdiv, nIand1, nIand3, nIand7, nIand31, nIshr, nIle, nIlt, nIeq, nIc, vpI, nIm1, m1nI, m1lt, nIlm, m1le, nIlem, nIneg, u2_ss, u2_nn, u2_kk, e1, e2, f1, f2, f3, f4, Nat.add_zero] at c1) <;> (try simp (disch := omega) only [nlit, natrem, nIrm, nIam, nIam',  nI_add, pk_mul, nIsub, nIrem, nIdiv, nIand1, nIand3, nIand7, nIand31, nIshr, nIle, nIlt, nIeq, nIc, vpI, nIm1, m1nI, m1lt, nIlm, m1le, nIlem, nIneg, u2_ss, u2_nn, u2_kk, e1, e2, f1, f2, f3, f4, Nat.add_zero]) <;> (first | omega | trivial)
    · (try simp (disch := omega) only [nlit, natrem, nIrm, nIam, nIam',  nI_add, pk_mul, nIsub, nIrem, nIdiv, nIand1, nIand3, nIand7, nIand31, nIshr, nIle, nIlt, nIeq, nIc, vpI, nIm1, m1nI, m1lt, nIlm, m1le, nIlem, nIneg, u2_ss, u2_nn, u2_kk, e1, e2, f1, f2, f3, f4, Nat.add_zero] at c1) <;> (try simp (disch := omega) only [nlit, natrem, nIrm, nIam, nIam',  nI_add, pk_mul, nIsub, nIrem, nIdiv, nIand1, nIand3, nIand7, nIand31, nIshr, nIle, nIlt, nIeq, nIc, vpI, nIm1, m1nI, m1lt, nIlm, m1le, nIlem, nIneg, u2_ss, u2_nn, u2_kk, e1, e2, f1, f2, f3, f4, Nat.add_zero]) <;> (first | omega | trivial)
    · (try simp (disch := omega) only [nlit, natrem, nIrm, nIam, nIam',  nI_add, pk_mul, nIsub, nIrem, nIdiv, nIand1, nIand3, nIand7, nIand31, nIshr, nIle, nIlt, nIeq, nIc, vpI, nIm1, m1nI, m1lt, nIlm, m1le, nIlem, nIneg, u2_ss, u2_nn, u2_kk, e1, e2, f1, f2, f3, f4, Nat.add_zero] at c1 c2 c3 c4) <;> (first | omega | exact absurd rfl c1 | exact absurd trivial c1)
    · (try simp (disch := omega) only [nlit, natrem, nIrm, nIam, nIam',  nI_add, pk_mul, nIsub, nIrem, nIdiv, nIand1, nIand3, nIand7, nIand31, nIshr, nIle, nIlt, nIeq, nIc, vpI, nIm1, m1nI, m1lt, nIlm, m1le, nIlem, nIneg, u2_ss, u2_nn, u2_kk, e1, e2, f1, f2, f3, f4, Nat.add_zero] at c1 c2 c3 c4) <;> (first | omega | exact absurd rfl c1 | exact absurd trivial c1)
    · (try simp (disch := omega) only [nlit, natrem, nIrm, nIam, nIam',  nI_add, pk_mul, nIsub, nIrem, nIdiv, nIand1, nIand3, nIand7, nIand31, nIshr, nIle, nIlt, nIeq, nIc, vpI, nIm1, m1nI, m1lt, nIlm, m1le, nIlem, nIneg, u2_ss, u2_nn, u2_kk, e1, e2, f1, f2, f3, f4, Nat.add_zero] at c1 c2 c3 c4) <;> (first | omega | exact absurd rfl c1 | exact absurd trivial c1)
    · (try simp (disch := omega) only [nlit, natrem, nIrm, nIam, nIam',  nI_add, pk_mul, nIsub, nIrem, nIdiv, nIand1, nIand3, nIand7, nIand31, nIshr, nIle, nIlt, nIeq, nIc, vpI, nIm1, m1nI, m1lt, nIlm, m1le, nIlem, nIneg, u2_ss, u2_nn, u2_kk, e1, e2, f1, f2, f3, f4, Nat.add_zero] at c1 c2 c3 c4) <;> (first | omega | exact absurd rfl c1 | exact absurd trivial c1)
    · (try simp (disch := omega) only [nlit, natrem, nIrm, nIam, nIam',  nI_add, pk_mul, nIsub, nIrem, nIdiv, nIand1, nIand3, nIand7, nIand31, nIshr, nIle, nIlt, nIeq, nIc, vpI, nIm1, m1nI, m1lt, nIlm, m1le, nIlem, nIneg, u2_ss, u2_nn, u2_kk, e1, e2, f1, f2, f3, f4, Nat.add_zero] at c1 c2 c3 c4) <;> (first | omega | exact absurd rfl c1 | exact absurd trivial c1)
    · (try simp (disch := omega) only [nlit, natrem, nIrm, nIam, nIam',  nI_add, pk_mul, nIsub, nIrem, nIdiv, nIand1, nIand3, nIand7, nIand31, nIshr, nIle, nIlt, nIeq, nIc, vpI, nIm1, m1nI, m1lt, nIlm, m1le, nIlem, nIneg, u2_ss, u2_nn, u2_kk, e1, e2, f1, f2, f3, f4, Nat.add_zero] at c1 c2 c3 c4) <;> (first | omega | exact absurd rfl c1 | exact absurd trivial c1)
    · (try simp (disch := omega) only [nlit, natrem, nIrm, nIam, nIam',  nI_add, pk_mul, nIsub, nIrem, nIdiv, nIand1, nIand3, nIand7, nIand31, nIshr, nIle, nIlt, nIeq, nIc, vpI, nIm1, m1nI, m1lt, nIlm, m1le, nIlem, nIneg, u2_ss, u2_nn, u2_kk, e1, e2, f1, f2, f3, f4, Nat.add_zero] at c1 c2 c3 c4); (try simp (disch := omega) only [nlit, natrem, nIrm, nIam, nIam',  nI_add, pk_mul, nIsub, nIrem, nIdiv, nIand1, nIand3, nIand7, nIand31, nIshr, nIle, nIlt, nIeq, nIc, vpI, nIm1, m1nI, m1lt, nIlm, m1le, nIlem, nIneg, u2_ss, u2_nn, u2_kk, e1, e2, f1, f2, f3, f4, Nat.add_zero])
      rcases hr with ⟨r1, r2⟩ | ⟨r1, r2⟩
      · first | (exfalso; omega) | (rw [r1] at h; exact h)
      · first | (exfalso; omega) | (rw [r1] at h; exact h)
    · (try simp (disch := omega) only [nlit, natrem, nIrm, nIam, nIam',  nI_add, pk_mul, nIsub, nIrem, nIdiv, nIand1, nIand3, nIand7, nIand31, nIshr, nIle, nIlt, nIeq, nIc, vpI, nIm1, m1nI, m1lt, nIlm, m1le, nIlem, nIneg, u2_ss, u2_nn, u2_kk, e1, e2, f1, f2, f3, f4, Nat.add_zero] at c1 c2 c3 c4); (try simp (disch := omega) only [nlit, natrem, nIrm, nIam, nIam',  nI_add, pk_mul, nIsub, nIrem, nIdiv, nIand1, nIand3, nIand7, nIand31, nIshr, nIle, nIlt, nIeq, nIc, vpI, nIm1, m1nI, m1lt, nIlm, m1le, nIlem, nIneg, u2_ss, u2_nn, u2_kk, e1, e2, f1, f2, f3, f4, Nat.add_zero])
      rcases hr with ⟨r1, r2⟩ | ⟨r1, r2⟩
      · first | (exfalso; omega) | (rw [r1] at h; exact h)
      · first | (exfalso; omega) | (rw [r1] at h; exact h)
theorem m_couples {d : Nat} {sx : Sx} {I : Ints} {L : Lngs} {R : Rfs} {q : Q3} {a : Ce} {lc : List (Nat × Nat)} {lf : Nat → Nat} {gl : Nat → List Nat} {sn : Nat → Nat} (hM : MC a lc lf gl sn I) {x : Int32} (h : ∀ J, Fr AQ FQ I J → q (some (.int (spCouples a lc x))) J L R) : E0 mX12_couples (d + 6) sx [.ref 92, .int x] I L R q := by
  refine EX12_couples ?_
  have hF0 : Fr AQ FQ I (u2 I 92 0 0) := fq0
  have hM := hM.fr hF0
  have h : ∀ J, Fr AQ FQ (u2 I 92 0 0) J → q (some (.int (spCouples a lc x))) J L R := fun J hJ => h J (hF0.tr hJ)
  clear hF0
  generalize u2 I 92 0 0 = I at *
  have h0 := h I Fr.rf
  obtain ⟨hW, hE, hM, hl, hEv, hS⟩ := hM
  have w4 := hW.2.2.2.2.1
  refine isWineM_ok hM (fun w hn e => ?_) (fun hn => ?_)
  · subst e
    have hin : inR (nI w) (a 3).val := (inR_nI (by omega) (by omega)).mpr hn
    have e : spCouples a lc (nI w) = nI (ouM (cpl a lc w) (a 4).val) := by unfold spCouples; rw [if_pos hin, nIc (by omega)]
    rw [e] at h
    have hws : wsOk a [w] := ⟨by simp, fun i hi => by simp at hi; subst hi; exact hn⟩
    have hcl : ∀ g, g < (a 4).val → cpl a lc w g < 64 := fun g hg => by have := wkA_lt hW (lc := lc) (ws := [w]) hg; unfold cpl; omega
    have inn : ∀ J, Fr AQ FQ I J → (∀ g, g < (a 4).val → J 110 g = nI (cpl a lc w g)) → ∀ n g : Nat, n = (a 4).val - g → g ≤ (a 4).val → Y mX12_couples (d + 6) sx 64 [(0, .ref 92), (2, .int (nI (ouM (cpl a lc w) g))), (3, .int (nI g))] [] J L R q := by
      intro J hF h47 n
      have hMJ := hM.fr hF rfl rfl
      induction n with
      | zero =>
        intro g hn hg
        have eg : g = (a 4).val := by omega
        refine RX12_couples_64 (guests_ok hMJ ?_)
        refine RX12_couples_69  ⟨fun c1 => ?_, fun c1 => ?_⟩
        · (try simp (disch := omega) only [nlit, natrem, nIrm, nIam, nIam',  nI_add, pk_mul, nIsub, nIrem, nIdiv, nIand1, nIand3, nIand7, nIand31, nIshr, nIle, nIlt, nIeq, nIc, vpI, nIm1, m1nI, m1lt, nIlm, m1le, nIlem, nIneg, u2_ss, u2_nn, u2_kk] at c1); (try simp (disch := omega) only [nlit, natrem, nIrm, nIam, nIam',  nI_add, pk_mul, nIsub, nIrem, nIdiv, nIand1, nIand3, nIand7, nIand31, nIshr, nIle, nIlt, nIeq, nIc, vpI, nIm1, m1nI, m1lt, nIlm, m1le, nIlem, nIneg, u2_ss, u2_nn, u2_kk])
          rw [eg]
          exact h J hF
        · (try simp (disch := omega) only [nlit, natrem, nIrm, nIam, nIam',  nI_add, pk_mul, nIsub, nIrem, nIdiv, nIand1, nIand3, nIand7, nIand31, nIshr, nIle, nIlt, nIeq, nIc, vpI, nIm1, m1nI, m1lt, nIlm, m1le, nIlem, nIneg, u2_ss, u2_nn, u2_kk] at c1) <;> (first | omega | exact absurd rfl c1 | exact absurd trivial c1)
      | succ n ih =>
        intro g hn hg
        have hou := ouM_le (cpl a lc w) g
        have hou2 := Nat.mul_le_mul (show g ≤ 6 by omega) (show g ≤ 6 by omega)
        have hin2 : ∀ m j : Nat, m = g - j → j ≤ g → Y mX12_couples (d + 6) sx 75 [(0, .ref 92), (2, .int (nI (ouM (cpl a lc w) g + inM (cpl a lc w) g j))), (3, .int (nI g)), (4, .int (nI j))] [] J L R q := by
          intro m
          induction m with
          | zero =>
            intro j hm hj
            have ej : j = g := by omega
            subst ej
            refine RX12_couples_75 ⟨fun _ => ?_, fun cc => ?_⟩
            · rw [show nI j + 1 = nI (j + 1) from nI_add j 1]
              exact ih (j + 1) (by omega) (by omega)
            · exact absurd (Int32.le_refl _) cc
          | succ m ih2 =>
            intro j hm hj
            have hic := inM_le (cpl a lc w) g j
            exact m_pair (by omega) (by omega) (by omega) (hcl g (by omega)) (hcl j (by omega)) (h47 g (by omega)) (h47 j (by omega)) (by have h9 := ih2 (j + 1) (by omega) (by omega); rw [show ouM (cpl a lc w) g + inM (cpl a lc w) g (j + 1) = ouM (cpl a lc w) g + inM (cpl a lc w) g j + nr (cpl a lc w g) (cpl a lc w j) from (Nat.add_assoc _ _ _).symm] at h9; exact h9)
        refine RX12_couples_64 (guests_ok hMJ ?_)
        refine RX12_couples_69  ⟨fun c1 => ?_, fun c1 => ?_⟩
        · (try simp (disch := omega) only [nlit, natrem, nIrm, nIam, nIam',  nI_add, pk_mul, nIsub, nIrem, nIdiv, nIand1, nIand3, nIand7, nIand31, nIshr, nIle, nIlt, nIeq, nIc, vpI, nIm1, m1nI, m1lt, nIlm, m1le, nIlem, nIneg, u2_ss, u2_nn, u2_kk] at c1); (try simp (disch := omega) only [nlit, natrem, nIrm, nIam, nIam',  nI_add, pk_mul, nIsub, nIrem, nIdiv, nIand1, nIand3, nIand7, nIand31, nIshr, nIle, nIlt, nIeq, nIc, vpI, nIm1, m1nI, m1lt, nIlm, m1le, nIlem, nIneg, u2_ss, u2_nn, u2_kk])
          omega
        · (try simp (disch := omega) only [nlit, natrem, nIrm, nIam, nIam',  nI_add, pk_mul, nIsub, nIrem, nIdiv, nIand1, nIand3, nIand7, nIand31, nIshr, nIle, nIlt, nIeq, nIc, vpI, nIm1, m1nI, m1lt, nIlm, m1le, nIlem, nIneg, u2_ss, u2_nn, u2_kk] at c1); (try simp (disch := omega) only [nlit, natrem, nIrm, nIam, nIam',  nI_add, pk_mul, nIsub, nIrem, nIdiv, nIand1, nIand3, nIand7, nIand31, nIshr, nIle, nIlt, nIeq, nIc, vpI, nIm1, m1nI, m1lt, nIlm, m1le, nIlem, nIneg, u2_ss, u2_nn, u2_kk])
          exact hin2 _ 0 rfl (Nat.zero_le _)
    have out : ∀ n g : Nat, ∀ J, n = (a 4).val - g → g ≤ (a 4).val → Fr AQ FQ I J → J 109 0 = nI w → (∀ x, x < g → J 110 x = nI (cpl a lc w x)) → Y mX12_couples (d + 6) sx 24 [(0, .ref 92), (2, .int (nI g))] [] J L R q := by
      intro n
      induction n with
      | zero =>
        intro g J hn hg hF h46 h47
        refine RX12_couples_24 (guests_ok (hM.fr hF rfl rfl) ?_)
        refine RX12_couples_29  ⟨fun c1 => ?_, fun c1 => ?_⟩
        · (try simp (disch := omega) only [nlit, natrem, nIrm, nIam, nIam',  nI_add, pk_mul, nIsub, nIrem, nIdiv, nIand1, nIand3, nIand7, nIand31, nIshr, nIle, nIlt, nIeq, nIc, vpI, nIm1, m1nI, m1lt, nIlm, m1le, nIlem, nIneg, u2_ss, u2_nn, u2_kk] at c1); (try simp (disch := omega) only [nlit, natrem, nIrm, nIam, nIam',  nI_add, pk_mul, nIsub, nIrem, nIdiv, nIand1, nIand3, nIand7, nIand31, nIshr, nIle, nIlt, nIeq, nIc, vpI, nIm1, m1nI, m1lt, nIlm, m1le, nIlem, nIneg, u2_ss, u2_nn, u2_kk])
          exact inn J hF (fun x hx => h47 x (by omega)) _ 0 rfl (Nat.zero_le _)
        · (try simp (disch := omega) only [nlit, natrem, nIrm, nIam, nIam',  nI_add, pk_mul, nIsub, nIrem, nIdiv, nIand1, nIand3, nIand7, nIand31, nIshr, nIle, nIlt, nIeq, nIc, vpI, nIm1, m1nI, m1lt, nIlm, m1le, nIlem, nIneg, u2_ss, u2_nn, u2_kk] at c1) <;> (first | omega | exact absurd rfl c1 | exact absurd trivial c1)
      | succ n ih =>
        intro g J hn hg hF h46 h47
        have hMJ := hM.fr hF rfl rfl
        refine RX12_couples_24 (guests_ok hMJ ?_)
        refine RX12_couples_29  ⟨fun c1 => ?_, fun c1 => ?_⟩
        · (try simp (disch := omega) only [nlit, natrem, nIrm, nIam, nIam',  nI_add, pk_mul, nIsub, nIrem, nIdiv, nIand1, nIand3, nIand7, nIand31, nIshr, nIle, nIlt, nIeq, nIc, vpI, nIm1, m1nI, m1lt, nIlm, m1le, nIlem, nIneg, u2_ss, u2_nn, u2_kk] at c1); (try simp (disch := omega) only [nlit, natrem, nIrm, nIam, nIam',  nI_add, pk_mul, nIsub, nIrem, nIdiv, nIand1, nIand3, nIand7, nIand31, nIshr, nIle, nIlt, nIeq, nIc, vpI, nIm1, m1nI, m1lt, nIlm, m1le, nIlem, nIneg, u2_ss, u2_nn, u2_kk])
          omega
        · (try simp (disch := omega) only [nlit, natrem, nIrm, nIam, nIam',  nI_add, pk_mul, nIsub, nIrem, nIdiv, nIand1, nIand3, nIand7, nIand31, nIshr, nIle, nIlt, nIeq, nIc, vpI, nIm1, m1nI, m1lt, nIlm, m1le, nIlem, nIneg, u2_ss, u2_nn, u2_kk] at c1); (try simp (disch := omega) only [nlit, natrem, nIrm, nIam, nIam',  nI_add, pk_mul, nIsub, nIrem, nIdiv, nIand1, nIand3, nIand7, nIand31, nIshr, nIle, nIlt, nIeq, nIc, vpI, nIm1, m1nI, m1lt, nIlm, m1le, nIlem, nIneg, u2_ss, u2_nn, u2_kk])
          refine laysSteps_ok (ws := [w]) hMJ hW (hl.fr hF rfl rfl rfl rfl) (by omega) hws (fun j hj => by simp at hj; subst hj; exact h46) (fun K hK => RX12_couples_38 ?_)
          have hln := rt_len hW (lc := lc) (g := g) hws
          have hFK : Fr AQ FQ J K := hK.1.mn rfl rfl
          refine walks_ok (al := 1) (hMJ.fr hFK rfl rfl) hW (by omega) (by decide) clP_M (by omega) hK.2.1 hK.2.2.2 rt_ne (rt_le hW hws) (fun M hM1 hM2 => RX12_couples_44 ?_)
          have hM1 : atP M (wkA a lc g [w]) := hM1
          refine cellNow_ok hM1 ?_
          refine RX12_couples_53  ⟨?_, ?_⟩
          · (try simp (disch := omega) only [nlit, natrem, nIrm, nIam, nIam',  nI_add, pk_mul, nIsub, nIrem, nIdiv, nIand1, nIand3, nIand7, nIand31, nIshr, nIle, nIlt, nIeq, nIc, vpI, nIm1, m1nI, m1lt, nIlm, m1le, nIlem, nIneg, u2_ss, u2_nn, u2_kk]) <;> (first | omega | trivial)
          · (try simp (disch := omega) only [nlit, natrem, nIrm, nIam, nIam',  nI_add, pk_mul, nIsub, nIrem, nIdiv, nIand1, nIand3, nIand7, nIand31, nIshr, nIle, nIlt, nIeq, nIc, vpI, nIm1, m1nI, m1lt, nIlm, m1le, nIlem, nIneg, u2_ss, u2_nn, u2_kk])
            refine ih (g + 1) _ (by omega) (by omega) (((hF.tr hFK).tr (hM2.mn rfl rfl)).ua rfl) ?_ (fun x hx => ?_)
            · rw [u2_nn _ _ _ _ (by decide), hM2.ar 109 rfl rfl, hK.1.ar 109 rfl rfl]; exact h46
            · by_cases ex : x = g
              · rw [ex, u2_ss]; rfl
              · rw [u2_kk _ _ _ _ ex, hM2.ar 110 rfl rfl, hK.1.ar 110 rfl rfl]; exact h47 x (by omega)
    refine RX12_couples_10 ⟨fun _ => ?_, fun w => absurd w (by decide)⟩
    exact out _ 0 _ rfl (Nat.zero_le _) (Fr.rf.ua rfl) (by rw [u2_ss]) (fun x hx => absurd hx (Nat.not_lt_zero _))
  · have e : spCouples a lc x = -1 := by unfold spCouples; rw [if_neg hn]
    rw [e] at h0
    exact RX12_couples_10 ⟨fun w => absurd rfl w, fun _ => h0⟩
