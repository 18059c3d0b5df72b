/-! water, undo, see, count, mark of the class -/
abbrev okW (a : Ce) (gl : Nat → List Nat) (g : Int32) : Prop := inR g (a 4).val ∧ gl g.toNatClampNeg ≠ []
theorem c_water {d : Nat} {sx : Sx} {I : Ints} {L : Lngs} {R : Rfs} {q : Q3} {a : Ce} {lc : List (Nat × Nat)} {lf : Nat → Nat} {gl : Nat → List Nat} {sn : Nat → Nat} {us : List Es} {c : Nat} (hC : CC a lc lf gl sn c I L R) (hP : PaC us (lf, gl) I) {x : Int32}
    (ht : okW a gl x → ∀ J, CA a lc lf (up1 gl x.toNatClampNeg (gl x.toNatClampNeg).dropLast) sn (push20 us (lf, gl)) c I J L R → q (some (.int 1)) J L R) (hf : ¬ okW a gl x → q (some (.int 0)) I L R) : E0 mX11_water (d + 2) sx [.ref 0, .int x] I L R q := by
  have hCC := hC
  obtain ⟨hc, hR, hW, hE, hCl, hEv, hRt⟩ := hC
  have w4 := hW.2.2.2.2.1
  have w3 := hW.2.2.2.1
  refine EX11_water hc hR (isGuestC_ok hc hCl (fun g hg e => ?_) (fun hn => RX11_water_8 ⟨fun w => absurd rfl w, fun _ => hf (fun w => hn w.1)⟩))
  subst e
  refine RX11_water_8 ⟨fun _ => ?_, fun w => absurd w (by decide)⟩
  unfold okW at ht hf
  rw [nIc (by omega)] at ht hf
  have hin : inR (nI g) (a 4).val := (inR_nI (by omega) (by omega)).mpr hg
  have hlx : ∀ x, x < 6 → (gl x).length ≤ 6 := fun x hx => (hE.2.1 x hx).1
  refine forget_ok hEv (by omega) hlx (fun l w hlw J hJ hFJ => ?_) (fun h0 => RX11_water_21 ⟨fun w => absurd rfl w, fun _ => hf (fun w => w.2 h0)⟩)
  have hw : w < (a 3).val := by
    have := (hE.2.1 g (by omega)).2 l.length (by rw [hlw, List.length_append]; exact Nat.lt_succ_self _)
    rw [hlw, getD_r (Nat.le_refl _), Nat.sub_self] at this
    exact this
  have hdl : (gl g).dropLast = l := by rw [hlw]; simp
  rw [hdl] at ht
  refine RX11_water_21 ⟨fun _ => ?_, fun w' => absurd w' (m1_ne (by omega))⟩
  refine add_ok (us := us) (cur := (lf, gl)) (new := (lf, up1 gl g l)) (wt := 1) ⟨?_, hP.2.1, PaR.congr _ _ hP.2.2 (fun i hi => ?_)⟩ (by omega) (by omega) (by decide) (Or.inl ⟨rfl, rfl, ?_⟩) (fun K hK hFK => RX11_water_39 ?_)
  · rw [hFJ 38 (by decide)]; exact hP.1
  · rw [hFJ 39 (by decide)]
  · show gl = up1 (up1 gl g l) g (up1 gl g l g ++ [w])
    funext x
    by_cases e : x = g
    · rw [e, up1_s, up1_s]; exact hlw
    · rw [up1_n _ _ e, up1_n _ _ e]
  · refine changed_ok (by omega) (fun M m1 m2 m3 m4 m5 => RX11_water_44 (ht ⟨hin, by rw [hlw]; simp⟩ M ?_))
    have hFF : Kp (fun k => k ≠ 35 ∧ k ≠ 38 ∧ k ≠ 39 ∧ k ≠ 43 ∧ k ≠ 48 ∧ k ≠ 56) I M := Kp.tr (Kp.tr (hFJ.mn (fun k hk => hk.1)) (hFK.mn (fun k hk => ⟨hk.2.1, hk.2.2.1⟩))) (m5.mn (fun k hk => hk.2.2.2))
    refine ⟨hCC.upd ((hJ.fr (fun k h1 h2 => hFK k ⟨by omega, by omega⟩)).fr (fun k h1 h2 => m5 k ⟨by omega, by omega, by omega⟩)) ?_ (fun x hx h0 => ?_) (hFF.mn (fun k hk => by omega)), ⟨?_, hK.2.1, PaR.congr _ _ hK.2.2 (fun i hi => ?_)⟩, m3, m4, hFF.mn (fun k hk => by omega)⟩
    · refine ⟨hE.1, fun x hx => ?_, hE.2.2.1, hE.2.2.2.1, fun x hx h4 => ?_⟩
      · by_cases e : x = g
        · rw [e, up1_s]
          have := hE.2.1 g (by omega)
          rw [hlw] at this
          refine ⟨by have := this.1; rw [List.length_append] at this; omega, fun i hi => ?_⟩
          have h2 := this.2 i (by rw [List.length_append]; omega)
          rw [getD_l hi] at h2
          exact h2
        · rw [up1_n _ _ e]; exact hE.2.1 x hx
      · rw [up1_n _ _ (by omega)]; exact hE.2.2.2.2 x hx h4
    · by_cases e : x = g
      · rw [e, m1] at h0; exact absurd h0 (by decide)
      · rw [m2 x e, hFK 43 (by decide), hFJ 43 (by decide)] at h0
        exact ⟨h0, by rw [up1_n _ _ e]⟩
    · rw [m5 38 (by decide)]; exact hK.1
    · rw [m5 39 (by decide)]
theorem app1_inj {l m : List Nat} {x y : Nat} (h : l ++ [x] = m ++ [y]) : l = m := (List.append_inj' h rfl).1
theorem c_undo {d : Nat} {sx : Sx} {I : Ints} {L : Lngs} {R : Rfs} {q : Q3} {a : Ce} {lc : List (Nat × Nat)} {lf : Nat → Nat} {gl : Nat → List Nat} {sn : Nat → Nat} {us : List Es} {c : Nat} (hC : CC a lc lf gl sn c I L R) (hP : PaC us (lf, gl) I) (hU : ∀ p ∈ us, WFe a p.1 p.2 (fun _ => 0))
    (ht : ∀ p us', us = p :: us' → ∀ J, CA a lc p.1 p.2 sn us' c I J L R → q (some (.int 1)) J L R) (hf : us = [] → q (some (.int 0)) I L R) : E0 mX11_undo (d + 3) sx [.ref 0] I L R q := by
  have hCC := hC
  obtain ⟨hc, hR, hW, hE, hCl, hEv, hRt⟩ := hC
  match us, hP, hU, ht, hf with
  | [], hP, hU, ht, hf =>
    have p1 : I 38 1 = nI 0 := hP.1
    refine EX11_undo  ⟨fun c1 => ?_, fun c1 => ?_⟩
    · (try simp (disch := omega) only [nlit, natrem, nIrm, nIam, nIam',  nI_add, pk_mul, nIsub, nIrem, nIdiv, nIand1, nIand3, nIand7, nIand31, nIshr, nIle, nIlt, nIeq, nIc, vpI, nIm1, m1nI, m1lt, nIlm, m1le, nIlem, nIneg, u2_ss, u2_nn, u2_kk, p1] at c1) <;> (first | omega | exact absurd rfl c1 | exact absurd trivial c1)
    · (try simp (disch := omega) only [nlit, natrem, nIrm, nIam, nIam',  nI_add, pk_mul, nIsub, nIrem, nIdiv, nIand1, nIand3, nIand7, nIand31, nIshr, nIle, nIlt, nIeq, nIc, vpI, nIm1, m1nI, m1lt, nIlm, m1le, nIlem, nIneg, u2_ss, u2_nn, u2_kk, p1] at c1); (try simp (disch := omega) only [nlit, natrem, nIrm, nIam, nIam',  nI_add, pk_mul, nIsub, nIrem, nIdiv, nIand1, nIand3, nIand7, nIand31, nIshr, nIle, nIlt, nIeq, nIc, vpI, nIm1, m1nI, m1lt, nIlm, m1le, nIlem, nIneg, u2_ss, u2_nn, u2_kk, p1])
      exact hf rfl
  | (plf, pgl) :: us', hP, hU, ht, hf =>
    obtain ⟨p1, p2, ⟨g, w, wt, hg, hw, hwt, hv, hUn⟩, p3⟩ := hP
    simp only [List.length_cons] at p1 p2
    have hWp : WFe a plf pgl sn := hE.sn (hU (plf, pgl) (List.mem_cons_self ..))
    have hlx : ∀ x, x < 6 → (gl x).length ≤ 6 := fun x hx => (hE.2.1 x hx).1
    have tail : ∀ J, EvC 33 plf pgl sn J → Kp (fun k => k ≠ 34 ∧ k ≠ 35 ∧ k ≠ 36) I J → (∀ x, x ≠ g → pgl x = gl x) → Y mX11_undo (d + 3) sx 84 [(0, .ref 0), (1, .int (nI g))] [] (u2 J 38 1 (nI us'.length)) L R q := by
      intro J hJ hFJ hx
      refine RX11_undo_84 (changed_ok hg (fun M m1 m2 m3 m4 m5 => RX11_undo_89 (ht (plf, pgl) us' rfl M ?_)))
      have hFF : Kp (fun k => k ≠ 34 ∧ k ≠ 35 ∧ k ≠ 36 ∧ k ≠ 38 ∧ k ≠ 43 ∧ k ≠ 48 ∧ k ≠ 56) I M := Kp.tr (Kp.tr (hFJ.mn (fun k hk => ⟨hk.1, hk.2.1, hk.2.2.1⟩)) (Kp.rf.up (fun hh => hh.2.2.2.1 rfl))) (m5.mn (fun k hk => hk.2.2.2.2))
      refine ⟨hCC.upd ((hJ.fr (J := u2 J 38 1 (nI us'.length)) (fun k h1 h2 => by funext i; exact u2_nn _ _ _ _ (by omega))).fr (fun k h1 h2 => m5 k ⟨by omega, by omega, by omega⟩)) hWp (fun x hxx h0 => ?_) (hFF.mn (fun k hk => by omega)), ⟨?_, by omega, PaR.congr _ _ p3 (fun i hi => ?_)⟩, m3, m4, hFF.mn (fun k hk => by omega)⟩
      · by_cases e : x = g
        · rw [e, m1] at h0; exact absurd h0 (by decide)
        · rw [m2 x e, u2_nn _ _ _ _ (by decide), hFJ 43 (by decide)] at h0
          exact ⟨h0, hx x e⟩
      · rw [m5 38 (by decide), u2_ss]
      · rw [m5 39 (by decide), u2_nn _ _ _ _ (by decide), hFJ 39 (by decide)]
    refine EX11_undo  ⟨fun c1 => ?_, fun c1 => ?_⟩
    · (try simp (disch := omega) only [nlit, natrem, nIrm, nIam, nIam',  nI_add, pk_mul, nIsub, nIrem, nIdiv, nIand1, nIand3, nIand7, nIand31, nIshr, nIle, nIlt, nIeq, nIc, vpI, nIm1, m1nI, m1lt, nIlm, m1le, nIlem, nIneg, u2_ss, u2_nn, u2_kk, p1] at c1); (try simp (disch := omega) only [nlit, natrem, nIrm, nIam, nIam',  nI_add, pk_mul, nIsub, nIrem, nIdiv, nIand1, nIand3, nIand7, nIand31, nIshr, nIle, nIlt, nIeq, nIc, vpI, nIm1, m1nI, m1lt, nIlm, m1le, nIlem, nIneg, u2_ss, u2_nn, u2_kk, p1])
      refine lastGuest_ok hg hw hwt p1 (by omega) hv (RX11_undo_19 ?_)
      refine lastWasWater_ok hg hw hwt p1 (by omega) hv ?_
      rcases hUn with ⟨rfl, u1, u2'⟩ | ⟨rfl, u1, u2', u3⟩
      · have u1 : plf = lf := u1
        have u2' : pgl = up1 gl g (gl g ++ [w]) := u2'
        refine RX11_undo_27 ⟨fun w => absurd w (by decide), fun _ => ?_⟩
        refine lastWine_ok hg hw hwt p1 (by omega) hv (RX11_undo_42 ?_)
        have hl5 : (gl g).length < 6 := by
          have := (hWp.2.1 g hg).1
          rw [u2', up1_s, List.length_append] at this
          exact this
        refine give_ok hEv hg hlx (fun _ J hJ hFJ => RX11_undo_45 ?_) (fun hn => absurd hl5 hn)
        refine dropLast_ok (us := us') (by rw [hFJ 38 (by decide)]; exact p1) (by omega) ?_
        refine tail J (by rw [u1, u2']; exact hJ) (hFJ.mn (fun k hk => ⟨hk.2.1, hk.2.2⟩)) (fun x hx => by rw [u2', up1_n _ _ hx])
      · have u1 : plf = up1 lf w (lf w + 1) := u1
        have u2' : gl g = pgl g ++ [w] := u2'
        have u3 : pgl = up1 gl g (pgl g) := u3
        have e4 : I 34 w = nI (lf w) := hEv.1 w hw
        have h99 := hE.1 w hw
        refine RX11_undo_27 ⟨fun _ => ?_, fun w => absurd rfl w⟩
        refine lastWine_ok hg hw hwt p1 (by omega) hv ?_
        refine RX11_undo_63  ⟨?_, ⟨?_, ?_⟩⟩
        · (try simp (disch := omega) only [nlit, natrem, nIrm, nIam, nIam',  nI_add, pk_mul, nIsub, nIrem, nIdiv, nIand1, nIand3, nIand7, nIand31, nIshr, nIle, nIlt, nIeq, nIc, vpI, nIm1, m1nI, m1lt, nIlm, m1le, nIlem, nIneg, u2_ss, u2_nn, u2_kk, e4]) <;> (first | omega | trivial)
        · (try simp (disch := omega) only [nlit, natrem, nIrm, nIam, nIam',  nI_add, pk_mul, nIsub, nIrem, nIdiv, nIand1, nIand3, nIand7, nIand31, nIshr, nIle, nIlt, nIeq, nIc, vpI, nIm1, m1nI, m1lt, nIlm, m1le, nIlem, nIneg, u2_ss, u2_nn, u2_kk, e4]) <;> (first | omega | trivial)
        · (try simp (disch := omega) only [nlit, natrem, nIrm, nIam, nIam',  nI_add, pk_mul, nIsub, nIrem, nIdiv, nIand1, nIand3, nIand7, nIand31, nIshr, nIle, nIlt, nIeq, nIc, vpI, nIm1, m1nI, m1lt, nIlm, m1le, nIlem, nIneg, u2_ss, u2_nn, u2_kk, e4])
          have hEK : EvC 33 plf gl sn (u2 I 34 w (nI (lf w + 1))) := by
            refine ⟨fun w' hw' => ?_, fun x hx => ⟨?_, ?_⟩, fun x hx => ?_⟩
            · rw [u1]
              by_cases e : w' = w
              · rw [e, up1_s, u2_ss]
              · rw [up1_n _ _ e, u2_kk _ _ _ _ e]; exact hEv.1 w' hw'
            · rw [u2_nn _ _ _ _ (by decide)]; exact (hEv.2.1 x hx).1
            · exact (hEv.2.1 x hx).2.congr (fun j => by rw [u2_nn _ _ _ _ (by decide)])
            · rw [u2_nn _ _ _ _ (by decide)]; exact hEv.2.2 x hx
          refine forget_ok hEK hg hlx (fun l w' hlw J hJ hFJ => RX11_undo_76 ?_) (fun h0 => by rw [h0] at u2'; exact absurd u2' (by simp))
          have el : l = pgl g := app1_inj (hlw.symm.trans u2')
          rw [el] at hJ
          refine dropLast_ok (us := us') (by rw [hFJ 38 (by decide), u2_nn _ _ _ _ (by decide)]; exact p1) (by omega) ?_
          refine tail J (by rw [u3]; exact hJ) (Kp.tr (Kp.rf.up (fun hh => hh.1 rfl)) (hFJ.mn (fun k hk => hk.2.1))) (fun x hx => by rw [u3, up1_n _ _ hx])
    · (try simp (disch := omega) only [nlit, natrem, nIrm, nIam, nIam',  nI_add, pk_mul, nIsub, nIrem, nIdiv, nIand1, nIand3, nIand7, nIand31, nIshr, nIle, nIlt, nIeq, nIc, vpI, nIm1, m1nI, m1lt, nIlm, m1le, nIlem, nIneg, u2_ss, u2_nn, u2_kk, p1] at c1) <;> (first | omega | exact absurd rfl c1 | exact absurd trivial c1)
