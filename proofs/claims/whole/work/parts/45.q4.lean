/-! found, couples -/
def fsI (a : Ce) (lc : List (Nat × Nat)) (gl : Nat → List Nat) (dn : Nat) : Nat → Int32
  | 0 => nI 0
  | g + 1 => if bgn a dn (rt a lc g (gl g)) then fsI a lc gl dn g ||| (nI 1 <<< nI (g % 32)) else fsI a lc gl dn g
def spFound (a : Ce) (lc : List (Nat × Nat)) (gl : Nat → List Nat) (x : Int32) : Int32 := if inR x (a 2).val then fsI a lc gl x.toNatClampNeg (a 4).val else -1
theorem CQ.rf {a : Ce} {lc : List (Nat × Nat)} {lf : Nat → Nat} {gl : Nat → List Nat} {sn : Nat → Nat} {c : Nat} {I : Ints} {L : Lngs} {R : Rfs} (h : CC a lc lf gl sn c I L R) : CQ a lc lf gl sn c I I L L R := ⟨h, Kp.rf, Kp.rf⟩
theorem CQ.tr {a : Ce} {lc : List (Nat × Nat)} {lf : Nat → Nat} {gl : Nat → List Nat} {sn : Nat → Nat} {c : Nat} {I J M : Ints} {L K N : Lngs} {R : Rfs} (h : CQ a lc lf gl sn c I J L K R) (h2 : CQ a lc lf gl sn c J M K N R) : CQ a lc lf gl sn c I M L N R := ⟨h2.1, h.2.1.tr h2.2.1, h.2.2.tr h2.2.2⟩
theorem c_found {d : Nat} {sx : Sx} {I : Ints} {L : Lngs} {R : Rfs} {q : Q3} {a : Ce} {lc : List (Nat × Nat)} {lf : Nat → Nat} {gl : Nat → List Nat} {sn : Nat → Nat} {c : Nat} (hC : CC a lc lf gl sn c I L R) {x : Int32} (h : ∀ J K, CQ a lc lf gl sn c I J L K R → q (some (.int (spFound a lc gl x))) J K R) : E0 mX11_found (d + 7) sx [.ref 0, .int x] I L R q := by
  have hCC := hC
  obtain ⟨hc, hR, hW, hE, hCl, hEv, hRt⟩ := hC
  have w4 := hW.2.2.2.2.1
  refine EX11_found hc hR (isDanceC_ok hc hCl (fun n hn e => ?_) (fun hn => ?_))
  · subst e
    have hin : inR (nI n) (a 2).val := (inR_nI (by omega) (by omega)).mpr hn
    have e : spFound a lc gl (nI n) = fsI a lc gl n (a 4).val := by unfold spFound; rw [if_pos hin, nIc (by omega)]
    rw [e] at h
    refine RX11_found_8 ⟨fun _ => ?_, fun w => absurd w (by decide)⟩
    have hlp : ∀ k g : Nat, ∀ J K, k = (a 4).val - g → g ≤ (a 4).val → CQ a lc lf gl sn c I J L K R → Y mX11_found (d + 7) sx 17 [(0, .ref 0), (1, .int (nI n)), (2, .int (fsI a lc gl n g)), (3, .int (nI g))] [] J K R q := by
      intro k
      induction k with
      | zero =>
        intro g J K hk hg hQ
        have e11 := hQ.1.2.2.2.2.1.1.2.2.2.2.2
        have eg : g = (a 4).val := by omega
        refine RX11_found_17 hc hR ⟨fun c1 => ?_, fun c1 => ?_⟩
        · (try simp (disch := omega) only [nlit, natrem, nIrm, nIam, nIam',  nI_add, pk_mul, nIsub, nIrem, nIdiv, nIand1, nIand3, nIand7, nIand31, nIshr, nIle, nIlt, nIeq, nIc, vpI, nIm1, m1nI, m1lt, nIlm, m1le, nIlem, nIneg, u2_ss, u2_nn, u2_kk, e11] at c1); (try simp (disch := omega) only [nlit, natrem, nIrm, nIam, nIam',  nI_add, pk_mul, nIsub, nIrem, nIdiv, nIand1, nIand3, nIand7, nIand31, nIshr, nIle, nIlt, nIeq, nIc, vpI, nIm1, m1nI, m1lt, nIlm, m1le, nIlem, nIneg, u2_ss, u2_nn, u2_kk, e11])
          rw [eg]
          exact h J K hQ
        · (try simp (disch := omega) only [nlit, natrem, nIrm, nIam, nIam',  nI_add, pk_mul, nIsub, nIrem, nIdiv, nIand1, nIand3, nIand7, nIand31, nIshr, nIle, nIlt, nIeq, nIc, vpI, nIm1, m1nI, m1lt, nIlm, m1le, nIlem, nIneg, u2_ss, u2_nn, u2_kk, e11] at c1) <;> (first | omega | exact absurd rfl c1 | exact absurd trivial c1)
      | succ k ih =>
        intro g J K hk hg hQ
        have e11 := hQ.1.2.2.2.2.1.1.2.2.2.2.2
        have hro := (isRou_g (g := g) (by omega)).1
        have hws := hE.2.1 g (by omega)
        refine RX11_found_17 hc hR ⟨fun c1 => ?_, fun c1 => ?_⟩
        · (try simp (disch := omega) only [nlit, natrem, nIrm, nIam, nIam',  nI_add, pk_mul, nIsub, nIrem, nIdiv, nIand1, nIand3, nIand7, nIand31, nIshr, nIle, nIlt, nIeq, nIc, vpI, nIm1, m1nI, m1lt, nIlm, m1le, nIlem, nIneg, u2_ss, u2_nn, u2_kk, e11] at c1); (try simp (disch := omega) only [nlit, natrem, nIrm, nIam, nIam',  nI_add, pk_mul, nIsub, nIrem, nIdiv, nIand1, nIand3, nIand7, nIand31, nIshr, nIle, nIlt, nIeq, nIc, vpI, nIm1, m1nI, m1lt, nIlm, m1le, nIlem, nIneg, u2_ss, u2_nn, u2_kk, e11])
          omega
        · (try simp (disch := omega) only [nlit, natrem, nIrm, nIam, nIam',  nI_add, pk_mul, nIsub, nIrem, nIdiv, nIand1, nIand3, nIand7, nIand31, nIshr, nIle, nIlt, nIeq, nIc, vpI, nIm1, m1nI, m1lt, nIlm, m1le, nIlem, nIneg, u2_ss, u2_nn, u2_kk, e11] at c1); (try simp (disch := omega) only [nlit, natrem, nIrm, nIam, nIam',  nI_add, pk_mul, nIsub, nIrem, nIdiv, nIand1, nIand3, nIand7, nIand31, nIshr, nIle, nIlt, nIeq, nIc, vpI, nIm1, m1nI, m1lt, nIlm, m1le, nIlem, nIneg, u2_ss, u2_nn, u2_kk, e11])
          refine routineOf_ok hQ.1 (by omega) (fun J' K' j1 j2 j3 j4 j5 j6 => ?_)
          have hQ' : CQ a lc lf gl sn c I J' L K' R := hQ.tr ⟨j1, j5, j6⟩
          refine RX11_found_33 hro hc hR ?_
          refine beginsWith_ok hc hro j1.2.2.2.2.1 hW hn (rt_len hW hws) (rt_le hW hws) j2.1 j2.2.2.1 (fun hb => ?_) (fun hb => ?_)
          · have ef : fsI a lc gl n (g + 1) = fsI a lc gl n g ||| (nI 1 <<< nI (g % 32)) := by show (if _ then _ else _) = _; rw [if_pos hb]
            refine RX11_found_41  ⟨fun c1 => ?_, fun c1 => ?_⟩
            · (try simp (disch := omega) only [nlit, natrem, nIrm, nIam, nIam',  nI_add, pk_mul, nIsub, nIrem, nIdiv, nIand1, nIand3, nIand7, nIand31, nIshr, nIle, nIlt, nIeq, nIc, vpI, nIm1, m1nI, m1lt, nIlm, m1le, nIlem, nIneg, u2_ss, u2_nn, u2_kk] at c1) <;> (first | omega | exact absurd rfl c1 | exact absurd trivial c1)
            · (try simp (disch := omega) only [nlit, natrem, nIrm, nIam, nIam',  nI_add, pk_mul, nIsub, nIrem, nIdiv, nIand1, nIand3, nIand7, nIand31, nIshr, nIle, nIlt, nIeq, nIc, vpI, nIm1, m1nI, m1lt, nIlm, m1le, nIlem, nIneg, u2_ss, u2_nn, u2_kk] at c1); (try simp (disch := omega) only [nlit, natrem, nIrm, nIam, nIam',  nI_add, pk_mul, nIsub, nIrem, nIdiv, nIand1, nIand3, nIand7, nIand31, nIshr, nIle, nIlt, nIeq, nIc, vpI, nIm1, m1nI, m1lt, nIlm, m1le, nIlem, nIneg, u2_ss, u2_nn, u2_kk])
              rw [← ef]
              exact ih (g + 1) J' K' (by omega) (by omega) hQ'
          · have ef : fsI a lc gl n (g + 1) = fsI a lc gl n g := by show (if _ then _ else _) = _; rw [if_neg hb]
            refine RX11_found_41  ⟨fun c1 => ?_, fun c1 => ?_⟩
            · (try simp (disch := omega) only [nlit, natrem, nIrm, nIam, nIam',  nI_add, pk_mul, nIsub, nIrem, nIdiv, nIand1, nIand3, nIand7, nIand31, nIshr, nIle, nIlt, nIeq, nIc, vpI, nIm1, m1nI, m1lt, nIlm, m1le, nIlem, nIneg, u2_ss, u2_nn, u2_kk] at c1); (try simp (disch := omega) only [nlit, natrem, nIrm, nIam, nIam',  nI_add, pk_mul, nIsub, nIrem, nIdiv, nIand1, nIand3, nIand7, nIand31, nIshr, nIle, nIlt, nIeq, nIc, vpI, nIm1, m1nI, m1lt, nIlm, m1le, nIlem, nIneg, u2_ss, u2_nn, u2_kk])
              rw [← ef]
              exact ih (g + 1) J' K' (by omega) (by omega) hQ'
            · (try simp (disch := omega) only [nlit, natrem, nIrm, nIam, nIam',  nI_add, pk_mul, nIsub, nIrem, nIdiv, nIand1, nIand3, nIand7, nIand31, nIshr, nIle, nIlt, nIeq, nIc, vpI, nIm1, m1nI, m1lt, nIlm, m1le, nIlem, nIneg, u2_ss, u2_nn, u2_kk] at c1) <;> (first | omega | exact absurd rfl c1 | exact absurd trivial c1)
    exact hlp _ 0 I L rfl (Nat.zero_le _) (CQ.rf hCC)
  · have e : spFound a lc gl x = -1 := by unfold spFound; rw [if_neg hn]
    have h := h I L (CQ.rf hCC)
    rw [e] at h
    exact RX11_found_8 ⟨fun w => absurd rfl w, fun _ => h⟩
theorem i32_or0 (x : Int32) : x ||| nI 0 = x := Int32.or_zero
theorem m_found {d : Nat} {sx : Sx} {I : Ints} {L : Lngs} {R : Rfs} {q : Q3} {a : Ce} {lc : List (Nat × Nat)} {lf : Nat → Nat} {gl : Nat → List Nat} {sn : Nat → Nat} (hM : MC a lc lf gl sn I) {x : Int32} (h : ∀ J, Fr AQ FQ I J → q (some (.int (spFound a lc gl x))) J L R) : E0 mX12_found (d + 6) sx [.ref 92, .int x] I L R q := by
  refine EX12_found ?_
  have hF0 : Fr AQ FQ I (u2 I 92 0 0) := fq0
  have e2 : I 98 2 = (u2 I 92 0 0) 98 2 := by rw [u2_nn _ _ _ _ (by decide)]
  have hM := hM.fr hF0
  have h : ∀ J, Fr AQ FQ (u2 I 92 0 0) J → q (some (.int (spFound a lc gl x))) J L R := fun J hJ => h J (hF0.tr hJ)
  clear hF0
  have hgo : ∀ I, MC a lc lf gl sn I → (∀ J, Fr AQ FQ I J → q (some (.int (spFound a lc gl x))) J L R) → E0 mX12_within (d + 5) sx [.int x, .int 0, .int ((I 98 2) - 1)] I L R (fun r J K T => Y mX12_found (d + 6) sx 18 [(0, .ref 92), (1, .int x)] (r.toList ++ []) J K T q) := by
    intro I hM h
    have hMM := hM
    obtain ⟨hW, hE, hM, hl, hEv, hS⟩ := hM
    have w4 := hW.2.2.2.2.1
    have w2 := hW.2.2.1
    rw [hM 2 (by decide) (by decide)]
    have hno : ¬ inR x (a 2).val → q (some (.int (-1))) I L R := by
      intro hn
      have e : spFound a lc gl x = -1 := by unfold spFound; rw [if_neg hn]
      have h := h I Fr.rf
      rw [e] at h
      exact h
    by_cases h2 : (a 2).val = 0
    · rw [h2] at hno ⊢
      have hz : q (some (.int (-1))) I L R := hno (fun w => by obtain ⟨m, hm, _⟩ := inR_of (by decide) w.1 w.2; omega)
      refine EX12_within ⟨fun c1 => RX12_found_18 ⟨fun w => absurd rfl w, fun _ => hz⟩, fun c1 => ⟨fun c2 => RX12_found_18 ⟨fun w => absurd rfl w, fun _ => hz⟩, fun c2 => ?_⟩⟩
      exfalso
      obtain ⟨h3, h4⟩ := i32_nn c1
      rw [h4] at c2
      have : (-1 : Int32) < nI x.toNatClampNeg := (m1lt h3).mpr trivial
      exact c2 this
    · rw [show nI (a 2).val - 1 = nI ((a 2).val - 1) from nIsub (b := 1) (by omega)]
      refine within_ok (by omega) (fun n hn e => ?_) (fun hn => ?_)
      · subst e
        have hn : n < (a 2).val := by omega
        have hin : inR (nI n) (a 2).val := (inR_nI (by omega) (by omega)).mpr hn
        have e : spFound a lc gl (nI n) = fsI a lc gl n (a 4).val := by unfold spFound; rw [if_pos hin, nIc (by omega)]
        rw [e] at h
        have hd8 := hW.2.2.2.2.2.2.2.1 n hn
        have hlp : ∀ k g : Nat, ∀ J, k = (a 4).val - g → g ≤ (a 4).val → Fr AQ FQ I J → Y mX12_found (d + 6) sx 36 [(0, .ref 92), (2, .int (fsI a lc gl n g)), (3, .int (nI (71 + 9 * n))), (4, .int (nI g))] [] J L R q := by
          intro k
          induction k with
          | zero =>
            intro g J hk hg hF
            have eg : g = (a 4).val := by omega
            refine RX12_found_36 (guests_ok (hM.fr hF rfl rfl) ?_)
            refine RX12_found_42  ⟨fun c1 => ?_, fun c1 => ?_⟩
            · (try simp (disch := omega) only [nlit, natrem, nIrm, nIam, nIam',  nI_add, pk_mul, nIsub, nIrem, nIdiv, nIand1, nIand3, nIand7, nIand31, nIshr, nIle, nIlt, nIeq, nIc, vpI, nIm1, m1nI, m1lt, nIlm, m1le, nIlem, nIneg, u2_ss, u2_nn, u2_kk] at c1); (try simp (disch := omega) only [nlit, natrem, nIrm, nIam, nIam',  nI_add, pk_mul, nIsub, nIrem, nIdiv, nIand1, nIand3, nIand7, nIand31, nIshr, nIle, nIlt, nIeq, nIc, vpI, nIm1, m1nI, m1lt, nIlm, m1le, nIlem, nIneg, u2_ss, u2_nn, u2_kk])
              rw [eg]
              exact h J hF
            · (try simp (disch := omega) only [nlit, natrem, nIrm, nIam, nIam',  nI_add, pk_mul, nIsub, nIrem, nIdiv, nIand1, nIand3, nIand7, nIand31, nIshr, nIle, nIlt, nIeq, nIc, vpI, nIm1, m1nI, m1lt, nIlm, m1le, nIlem, nIneg, u2_ss, u2_nn, u2_kk] at c1) <;> (first | omega | exact absurd rfl c1 | exact absurd trivial c1)
          | succ k ih =>
            intro g J hk hg hF
            have hMJ := hM.fr hF rfl rfl
            have hws := hE.2.1 g (by omega)
            refine RX12_found_36 (guests_ok hMJ ?_)
            refine RX12_found_42  ⟨fun c1 => ?_, fun c1 => ?_⟩
            · (try simp (disch := omega) only [nlit, natrem, nIrm, nIam, nIam',  nI_add, pk_mul, nIsub, nIrem, nIdiv, nIand1, nIand3, nIand7, nIand31, nIshr, nIle, nIlt, nIeq, nIc, vpI, nIm1, m1nI, m1lt, nIlm, m1le, nIlem, nIneg, u2_ss, u2_nn, u2_kk] at c1); (try simp (disch := omega) only [nlit, natrem, nIrm, nIam, nIam',  nI_add, pk_mul, nIsub, nIrem, nIdiv, nIand1, nIand3, nIand7, nIand31, nIshr, nIle, nIlt, nIeq, nIc, vpI, nIm1, m1nI, m1lt, nIlm, m1le, nIlem, nIneg, u2_ss, u2_nn, u2_kk])
              omega
            · (try simp (disch := omega) only [nlit, natrem, nIrm, nIam, nIam',  nI_add, pk_mul, nIsub, nIrem, nIdiv, nIand1, nIand3, nIand7, nIand31, nIshr, nIle, nIlt, nIeq, nIc, vpI, nIm1, m1nI, m1lt, nIlm, m1le, nIlem, nIneg, u2_ss, u2_nn, u2_kk] at c1); (try simp (disch := omega) only [nlit, natrem, nIrm, nIam, nIam',  nI_add, pk_mul, nIsub, nIrem, nIdiv, nIand1, nIand3, nIand7, nIand31, nIshr, nIle, nIlt, nIeq, nIc, vpI, nIm1, m1nI, m1lt, nIlm, m1le, nIlem, nIneg, u2_ss, u2_nn, u2_kk])
              refine laysOwn_ok hMJ hW (hl.fr hF rfl rfl rfl rfl) (hEv.congr (hF.ar 106 rfl rfl)) (by omega) hws (fun K hK => ?_)
              have hFK : Fr AQ FQ I K := hF.tr (hK.1.mn rfl rfl)
              have hMK := hM.fr hFK rfl rfl
              have e25 := hK.2.1
              have eL := cm_dL hMK (d := n) (by omega)
              have hln := rt_len hW (lc := lc) (g := g) hws
              have hr4 := rt_le hW (lc := lc) (g := g) hws
              have hA := hK.2.2.2
              have ef1 : bgn a n (rt a lc g (gl g)) → fsI a lc gl n (g + 1) = fsI a lc gl n g ||| (nI 1 <<< nI (g % 32)) := fun hb => by show (if _ then _ else _) = _; rw [if_pos hb]
              have ef0 : ¬ bgn a n (rt a lc g (gl g)) → fsI a lc gl n (g + 1) = fsI a lc gl n g := fun hb => by show (if _ then _ else _) = _; rw [if_neg hb]
              have hg1 := ih (g + 1) K (by omega) (by omega) hFK
              clear ih
              generalize rt a lc g (gl g) = l at *
              have hin : ∀ k s f : Nat, k = (dL a n).val - s → s ≤ (dL a n).val → (f = 1 ∧ (dL a n).val ≤ l.length ∧ ∀ j, j < s → l.getD j 0 = (dS a n j).val) ∨ (f = 0 ∧ ¬ bgn a n l) → Y mX12_found (d + 6) sx 74 [(0, .ref 92), (2, .int (fsI a lc gl n g)), (3, .int (nI (71 + 9 * n))), (4, .int (nI g)), (5, .int (nI f)), (6, .int (nI s))] [] K L R q := by
                intro k
                induction k with
                | zero =>
                  intro s f hk hs hi
                  refine RX12_found_74  ⟨?_, ⟨fun c1 => ⟨fun c2 => ?_, fun c2 => ?_⟩, fun c1 => ⟨fun c2 => ?_, fun c2 => ⟨?_, ⟨?_, ⟨fun c3 => ?_, fun c3 => ?_⟩⟩⟩⟩⟩⟩
                  · (try simp (disch := omega) only [nlit, natrem, nIrm, nIam, nIam',  nI_add, pk_mul, nIsub, nIrem, nIdiv, nIand1, nIand3, nIand7, nIand31, nIshr, nIle, nIlt, nIeq, nIc, vpI, nIm1, m1nI, m1lt, nIlm, m1le, nIlem, nIneg, u2_ss, u2_nn, u2_kk, eL]) <;> (first | omega | trivial)
                  · (try simp (disch := omega) only [nlit, natrem, nIrm, nIam, nIam',  nI_add, pk_mul, nIsub, nIrem, nIdiv, nIand1, nIand3, nIand7, nIand31, nIshr, nIle, nIlt, nIeq, nIc, vpI, nIm1, m1nI, m1lt, nIlm, m1le, nIlem, nIneg, u2_ss, u2_nn, u2_kk, eL] at c1 c2); (try simp (disch := omega) only [nlit, natrem, nIrm, nIam, nIam',  nI_add, pk_mul, nIsub, nIrem, nIdiv, nIand1, nIand3, nIand7, nIand31, nIshr, nIle, nIlt, nIeq, nIc, vpI, nIm1, m1nI, m1lt, nIlm, m1le, nIlem, nIneg, u2_ss, u2_nn, u2_kk, eL])
                    rcases hi with ⟨h1, _⟩ | ⟨_, h1⟩
                    · omega
                    · rw [i32_or0, ← ef0 h1]; exact hg1
                  · (try simp (disch := omega) only [nlit, natrem, nIrm, nIam, nIam',  nI_add, pk_mul, nIsub, nIrem, nIdiv, nIand1, nIand3, nIand7, nIand31, nIshr, nIle, nIlt, nIeq, nIc, vpI, nIm1, m1nI, m1lt, nIlm, m1le, nIlem, nIneg, u2_ss, u2_nn, u2_kk, eL] at c1 c2); (try simp (disch := omega) only [nlit, natrem, nIrm, nIam, nIam',  nI_add, pk_mul, nIsub, nIrem, nIdiv, nIand1, nIand3, nIand7, nIand31, nIshr, nIle, nIlt, nIeq, nIc, vpI, nIm1, m1nI, m1lt, nIlm, m1le, nIlem, nIneg, u2_ss, u2_nn, u2_kk, eL])
                    rcases hi with ⟨h1, h2, h3⟩ | ⟨h1, _⟩
                    · rw [← ef1 ⟨h2, fun j hj => h3 j (by omega)⟩]; exact hg1
                    · omega
                  · (try simp (disch := omega) only [nlit, natrem, nIrm, nIam, nIam',  nI_add, pk_mul, nIsub, nIrem, nIdiv, nIand1, nIand3, nIand7, nIand31, nIshr, nIle, nIlt, nIeq, nIc, vpI, nIm1, m1nI, m1lt, nIlm, m1le, nIlem, nIneg, u2_ss, u2_nn, u2_kk, eL] at c1 c2) <;> (first | omega | exact absurd rfl c1 | exact absurd trivial c1)
                  · (try simp (disch := omega) only [nlit, natrem, nIrm, nIam, nIam',  nI_add, pk_mul, nIsub, nIrem, nIdiv, nIand1, nIand3, nIand7, nIand31, nIshr, nIle, nIlt, nIeq, nIc, vpI, nIm1, m1nI, m1lt, nIlm, m1le, nIlem, nIneg, u2_ss, u2_nn, u2_kk, eL] at c1 c2) <;> (try simp (disch := omega) only [nlit, natrem, nIrm, nIam, nIam',  nI_add, pk_mul, nIsub, nIrem, nIdiv, nIand1, nIand3, nIand7, nIand31, nIshr, nIle, nIlt, nIeq, nIc, vpI, nIm1, m1nI, m1lt, nIlm, m1le, nIlem, nIneg, u2_ss, u2_nn, u2_kk, eL]) <;> (first | omega | trivial)
                  · (try simp (disch := omega) only [nlit, natrem, nIrm, nIam, nIam',  nI_add, pk_mul, nIsub, nIrem, nIdiv, nIand1, nIand3, nIand7, nIand31, nIshr, nIle, nIlt, nIeq, nIc, vpI, nIm1, m1nI, m1lt, nIlm, m1le, nIlem, nIneg, u2_ss, u2_nn, u2_kk, eL] at c1 c2) <;> (try simp (disch := omega) only [nlit, natrem, nIrm, nIam, nIam',  nI_add, pk_mul, nIsub, nIrem, nIdiv, nIand1, nIand3, nIand7, nIand31, nIshr, nIle, nIlt, nIeq, nIc, vpI, nIm1, m1nI, m1lt, nIlm, m1le, nIlem, nIneg, u2_ss, u2_nn, u2_kk, eL]) <;> (first | omega | trivial)
                  · (try simp (disch := omega) only [nlit, natrem, nIrm, nIam, nIam',  nI_add, pk_mul, nIsub, nIrem, nIdiv, nIand1, nIand3, nIand7, nIand31, nIshr, nIle, nIlt, nIeq, nIc, vpI, nIm1, m1nI, m1lt, nIlm, m1le, nIlem, nIneg, u2_ss, u2_nn, u2_kk, eL] at c1 c2 c3) <;> (first | omega | exact absurd rfl c1 | exact absurd trivial c1)
                  · (try simp (disch := omega) only [nlit, natrem, nIrm, nIam, nIam',  nI_add, pk_mul, nIsub, nIrem, nIdiv, nIand1, nIand3, nIand7, nIand31, nIshr, nIle, nIlt, nIeq, nIc, vpI, nIm1, m1nI, m1lt, nIlm, m1le, nIlem, nIneg, u2_ss, u2_nn, u2_kk, eL] at c1 c2 c3) <;> (first | omega | exact absurd rfl c1 | exact absurd trivial c1)
                | succ k ihk =>
                  intro s f hk hs hi
                  have e8 : s < l.length → K 108 s = nI (l.getD s 0) := fun hs => by have := hA s hs; rw [Nat.zero_add] at this; exact this
                  have eS := cm_dS hMK (d := n) (s := s) (by omega) (by omega)
                  have hds := hd8.2.2 s (by omega)
                  refine RX12_found_74  ⟨?_, ⟨fun c1 => ⟨fun c2 => ?_, fun c2 => ?_⟩, fun c1 => ⟨fun c2 => ?_, fun c2 => ⟨?_, ⟨?_, ⟨fun c3 => ?_, fun c3 => ?_⟩⟩⟩⟩⟩⟩
                  · (try simp (disch := omega) only [nlit, natrem, nIrm, nIam, nIam',  nI_add, pk_mul, nIsub, nIrem, nIdiv, nIand1, nIand3, nIand7, nIand31, nIshr, nIle, nIlt, nIeq, nIc, vpI, nIm1, m1nI, m1lt, nIlm, m1le, nIlem, nIneg, u2_ss, u2_nn, u2_kk, eL, eS]) <;> (first | omega | trivial)
                  · (try simp (disch := omega) only [nlit, natrem, nIrm, nIam, nIam',  nI_add, pk_mul, nIsub, nIrem, nIdiv, nIand1, nIand3, nIand7, nIand31, nIshr, nIle, nIlt, nIeq, nIc, vpI, nIm1, m1nI, m1lt, nIlm, m1le, nIlem, nIneg, u2_ss, u2_nn, u2_kk, eL, eS] at c1 c2); (try simp (disch := omega) only [nlit, natrem, nIrm, nIam, nIam',  nI_add, pk_mul, nIsub, nIrem, nIdiv, nIand1, nIand3, nIand7, nIand31, nIshr, nIle, nIlt, nIeq, nIc, vpI, nIm1, m1nI, m1lt, nIlm, m1le, nIlem, nIneg, u2_ss, u2_nn, u2_kk, eL, eS])
                    omega
                  · (try simp (disch := omega) only [nlit, natrem, nIrm, nIam, nIam',  nI_add, pk_mul, nIsub, nIrem, nIdiv, nIand1, nIand3, nIand7, nIand31, nIshr, nIle, nIlt, nIeq, nIc, vpI, nIm1, m1nI, m1lt, nIlm, m1le, nIlem, nIneg, u2_ss, u2_nn, u2_kk, eL, eS] at c1 c2); (try simp (disch := omega) only [nlit, natrem, nIrm, nIam, nIam',  nI_add, pk_mul, nIsub, nIrem, nIdiv, nIand1, nIand3, nIand7, nIand31, nIshr, nIle, nIlt, nIeq, nIc, vpI, nIm1, m1nI, m1lt, nIlm, m1le, nIlem, nIneg, u2_ss, u2_nn, u2_kk, eL, eS])
                    omega
                  · (try simp (disch := omega) only [nlit, natrem, nIrm, nIam, nIam',  nI_add, pk_mul, nIsub, nIrem, nIdiv, nIand1, nIand3, nIand7, nIand31, nIshr, nIle, nIlt, nIeq, nIc, vpI, nIm1, m1nI, m1lt, nIlm, m1le, nIlem, nIneg, u2_ss, u2_nn, u2_kk, eL, eS] at c1 c2); (try simp (disch := omega) only [nlit, natrem, nIrm, nIam, nIam',  nI_add, pk_mul, nIsub, nIrem, nIdiv, nIand1, nIand3, nIand7, nIand31, nIshr, nIle, nIlt, nIeq, nIc, vpI, nIm1, m1nI, m1lt, nIlm, m1le, nIlem, nIneg, u2_ss, u2_nn, u2_kk, eL, eS])
                    rcases hi with ⟨h1, _⟩ | ⟨_, h1⟩
                    · omega
                    · rw [i32_or0, ← ef0 h1]; exact hg1
                  · (try simp (disch := omega) only [nlit, natrem, nIrm, nIam, nIam',  nI_add, pk_mul, nIsub, nIrem, nIdiv, nIand1, nIand3, nIand7, nIand31, nIshr, nIle, nIlt, nIeq, nIc, vpI, nIm1, m1nI, m1lt, nIlm, m1le, nIlem, nIneg, u2_ss, u2_nn, u2_kk, eL, eS] at c1 c2) <;> (try simp (disch := omega) only [nlit, natrem, nIrm, nIam, nIam',  nI_add, pk_mul, nIsub, nIrem, nIdiv, nIand1, nIand3, nIand7, nIand31, nIshr, nIle, nIlt, nIeq, nIc, vpI, nIm1, m1nI, m1lt, nIlm, m1le, nIlem, nIneg, u2_ss, u2_nn, u2_kk, eL, eS]) <;> (first | omega | trivial)
                  · (try simp (disch := omega) only [nlit, natrem, nIrm, nIam, nIam',  nI_add, pk_mul, nIsub, nIrem, nIdiv, nIand1, nIand3, nIand7, nIand31, nIshr, nIle, nIlt, nIeq, nIc, vpI, nIm1, m1nI, m1lt, nIlm, m1le, nIlem, nIneg, u2_ss, u2_nn, u2_kk, eL, eS] at c1 c2) <;> (try simp (disch := omega) only [nlit, natrem, nIrm, nIam, nIam',  nI_add, pk_mul, nIsub, nIrem, nIdiv, nIand1, nIand3, nIand7, nIand31, nIshr, nIle, nIlt, nIeq, nIc, vpI, nIm1, m1nI, m1lt, nIlm, m1le, nIlem, nIneg, u2_ss, u2_nn, u2_kk, eL, eS]) <;> (first | omega | trivial)
                  · (try simp (disch := omega) only [nlit, natrem, nIrm, nIam, nIam',  nI_add, pk_mul, nIsub, nIrem, nIdiv, nIand1, nIand3, nIand7, nIand31, nIshr, nIle, nIlt, nIeq, nIc, vpI, nIm1, m1nI, m1lt, nIlm, m1le, nIlem, nIneg, u2_ss, u2_nn, u2_kk, eL, eS] at c1 c2 c3); (try simp (disch := omega) only [nlit, natrem, nIrm, nIam, nIam',  nI_add, pk_mul, nIsub, nIrem, nIdiv, nIand1, nIand3, nIand7, nIand31, nIshr, nIle, nIlt, nIeq, nIc, vpI, nIm1, m1nI, m1lt, nIlm, m1le, nIlem, nIneg, u2_ss, u2_nn, u2_kk, eL, eS])
                    rcases hi with ⟨h1, h2, h3⟩ | ⟨h1, _⟩
                    · rw [e8 (by omega)] at c3
                      have hx : l.getD s 0 ≤ 4 := by
                        rw [List.getD_eq_getElem?_getD, List.getElem?_eq_getElem (by omega)]
                        exact hr4 _ (List.getElem_mem _)
                      simp (disch := omega) only [nlit, natrem, nIrm, nIam, nIam',  nI_add, pk_mul, nIsub, nIrem, nIdiv, nIand1, nIand3, nIand7, nIand31, nIshr, nIle, nIlt, nIeq, nIc, vpI, nIm1, m1nI, m1lt, nIlm, m1le, nIlem, nIneg, u2_ss, u2_nn, u2_kk] at c3
                      exact ihk (s + 1) 0 (by omega) (by omega) (Or.inr ⟨rfl, fun hb => c3 (hb.2 s (by omega))⟩)
                    · omega
                  · (try simp (disch := omega) only [nlit, natrem, nIrm, nIam, nIam',  nI_add, pk_mul, nIsub, nIrem, nIdiv, nIand1, nIand3, nIand7, nIand31, nIshr, nIle, nIlt, nIeq, nIc, vpI, nIm1, m1nI, m1lt, nIlm, m1le, nIlem, nIneg, u2_ss, u2_nn, u2_kk, eL, eS] at c1 c2 c3); (try simp (disch := omega) only [nlit, natrem, nIrm, nIam, nIam',  nI_add, pk_mul, nIsub, nIrem, nIdiv, nIand1, nIand3, nIand7, nIand31, nIshr, nIle, nIlt, nIeq, nIc, vpI, nIm1, m1nI, m1lt, nIlm, m1le, nIlem, nIneg, u2_ss, u2_nn, u2_kk, eL, eS])
                    rcases hi with ⟨h1, h2, h3⟩ | ⟨h1, _⟩
                    · rw [e8 (by omega)] at c3
                      have hx : l.getD s 0 ≤ 4 := by
                        rw [List.getD_eq_getElem?_getD, List.getElem?_eq_getElem (by omega)]
                        exact hr4 _ (List.getElem_mem _)
                      simp (disch := omega) only [nlit, natrem, nIrm, nIam, nIam',  nI_add, pk_mul, nIsub, nIrem, nIdiv, nIand1, nIand3, nIand7, nIand31, nIshr, nIle, nIlt, nIeq, nIc, vpI, nIm1, m1nI, m1lt, nIlm, m1le, nIlem, nIneg, u2_ss, u2_nn, u2_kk] at c3
                      refine ihk (s + 1) 1 (by omega) (by omega) (Or.inl ⟨rfl, h2, fun j hj => ?_⟩)
                      by_cases e : j = s
                      · rw [e]; exact c3
                      · exact h3 j (by omega)
                    · omega
              refine RX12_found_51  ⟨?_, ⟨fun c1 => ?_, fun c1 => ?_⟩⟩
              · (try simp (disch := omega) only [nlit, natrem, nIrm, nIam, nIam',  nI_add, pk_mul, nIsub, nIrem, nIdiv, nIand1, nIand3, nIand7, nIand31, nIshr, nIle, nIlt, nIeq, nIc, vpI, nIm1, m1nI, m1lt, nIlm, m1le, nIlem, nIneg, u2_ss, u2_nn, u2_kk, e25, eL]) <;> (first | omega | trivial)
              · (try simp (disch := omega) only [nlit, natrem, nIrm, nIam, nIam',  nI_add, pk_mul, nIsub, nIrem, nIdiv, nIand1, nIand3, nIand7, nIand31, nIshr, nIle, nIlt, nIeq, nIc, vpI, nIm1, m1nI, m1lt, nIlm, m1le, nIlem, nIneg, u2_ss, u2_nn, u2_kk, e25, eL] at c1); (try simp (disch := omega) only [nlit, natrem, nIrm, nIam, nIam',  nI_add, pk_mul, nIsub, nIrem, nIdiv, nIand1, nIand3, nIand7, nIand31, nIshr, nIle, nIlt, nIeq, nIc, vpI, nIm1, m1nI, m1lt, nIlm, m1le, nIlem, nIneg, u2_ss, u2_nn, u2_kk, e25, eL])
                exact hin _ 0 0 rfl (Nat.zero_le _) (Or.inr ⟨rfl, fun hb => by have := hb.1; omega⟩)
              · (try simp (disch := omega) only [nlit, natrem, nIrm, nIam, nIam',  nI_add, pk_mul, nIsub, nIrem, nIdiv, nIand1, nIand3, nIand7, nIand31, nIshr, nIle, nIlt, nIeq, nIc, vpI, nIm1, m1nI, m1lt, nIlm, m1le, nIlem, nIneg, u2_ss, u2_nn, u2_kk, e25, eL] at c1); (try simp (disch := omega) only [nlit, natrem, nIrm, nIam, nIam',  nI_add, pk_mul, nIsub, nIrem, nIdiv, nIand1, nIand3, nIand7, nIand31, nIshr, nIle, nIlt, nIeq, nIc, vpI, nIm1, m1nI, m1lt, nIlm, m1le, nIlem, nIneg, u2_ss, u2_nn, u2_kk, e25, eL])
                exact hin _ 0 1 rfl (Nat.zero_le _) (Or.inl ⟨rfl, by omega, fun j hj => absurd hj (Nat.not_lt_zero _)⟩)
        refine RX12_found_18 ⟨fun _ => ?_, fun w => absurd w (by decide)⟩
        simp (disch := omega) only [nlit, natrem, nIrm, nIam, nIam',  nI_add, pk_mul, nIsub, nIrem, nIdiv, nIand1, nIand3, nIand7, nIand31, nIshr, nIle, nIlt, nIeq, nIc, vpI, nIm1, m1nI, m1lt, nIlm, m1le, nIlem, nIneg, u2_ss, u2_nn, u2_kk]
        exact hlp _ 0 I rfl (Nat.zero_le _) Fr.rf
      · exact RX12_found_18 ⟨fun w => absurd rfl w, fun _ => hno (fun w => hn (by rw [show (a 2).val - 1 + 1 = (a 2).val by omega]; exact w))⟩
  rw [e2]
  exact hgo _ hM h
