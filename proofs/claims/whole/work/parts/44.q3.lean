/-! walk, quarrel, found -/
def wkA (a : Ce) (lc : List (Nat × Nat)) (g : Nat) (ws : List Nat) : Nat := wk a (clP a) (gK a g).val (rt a lc g ws) (hom a g)
theorem wkA_lt {a : Ce} (hW : WFc a) {lc : List (Nat × Nat)} {g : Nat} (hg : g < (a 4).val) {ws : List Nat} : wkA a lc g ws < 256 := wk_lt hW.1.2 hW.2.1.2 _ _ (hom_lt hW hg)
def wq (a : Ce) (lc : List (Nat × Nat)) (g : Nat) (ws : List Nat) (m : Nat) : Nat := if m = 0 then wkA a lc g ws / 4 else if m = 1 then wkA a lc g ws % 4 else rl a lc g ws
def spWalk (a : Ce) (lc : List (Nat × Nat)) (gl : Nat → List Nat) (g x : Int32) : Int32 := if inR g (a 4).val ∧ inR x 3 then nI (wq a lc g.toNatClampNeg (gl g.toNatClampNeg) x.toNatClampNeg) else -1
theorem c_walk {d : Nat} {sx : Sx} {I : Ints} {L : Lngs} {R : Rfs} {q : Q3} {a : Ce} {lc : List (Nat × Nat)} {lf : Nat → Nat} {gl : Nat → List Nat} {sn : Nat → Nat} {c : Nat} (hC : CC a lc lf gl sn c I L R) {w x : Int32} (h : ∀ J K, CQ a lc lf gl sn c I J L K R → q (some (.int (spWalk a lc gl w x))) J K R) : E0 mX11_walk (d + 7) sx [.ref 0, .int w, .int x] I L R q := by
  have hCC := hC
  obtain ⟨hc, hR, hW, hE, hCl, hEv, hRt⟩ := hC
  have w4 := hW.2.2.2.2.1
  refine EX11_walk hc hR (isGuestC_ok hc hCl (fun n hn e => ?_) (fun hn => ?_))
  · subst e
    have hin : inR (nI n) (a 4).val := (inR_nI (by omega) (by omega)).mpr hn
    refine RX11_walk_8 ⟨fun _ => ?_, fun w => absurd w (by decide)⟩
    refine routineOf_ok hCC hn (fun J K j1 j2 j3 j4 j5 j6 => ?_)
    have h := h J K ⟨j1, j5, j6⟩
    obtain ⟨r1, r2, r3, r4, r5, r6, r7⟩ := j2
    have r4 : J (80 + 2 * n) 3 = nI (wkA a lc n (gl n)) := r4
    have hwk := wkA_lt hW (lc := lc) (ws := gl n) hn
    have hro := (isRou_g (g := n) (by omega)).1
    by_cases hx : inR x 3
    · obtain ⟨m, hm, e⟩ := inR_of (by decide) hx.1 hx.2
      subst e
      have e : spWalk a lc gl (nI n) (nI m) = nI (wq a lc n (gl n) m) := by
        unfold spWalk
        rw [if_pos ⟨hin, hx⟩, nIc (by omega), nIc (by omega)]
      rw [e] at h
      refine RX11_walk_18 hro ⟨fun c1 => ?_, fun c1 => ⟨fun c2 => ?_, fun c2 => ⟨fun c3 => ?_, fun c3 => ?_⟩⟩⟩
      · (try simp (disch := omega) only [nlit, natrem, nIrm, nIam, nIam',  nI_add, pk_mul, nIsub, nIrem, nIdiv, nIand1, nIand3, nIand7, nIand31, nIshr, nIle, nIlt, nIeq, nIc, vpI, nIm1, m1nI, m1lt, nIlm, m1le, nIlem, nIneg, u2_ss, u2_nn, u2_kk, r2, r4, Nat.reduceMod, Nat.reducePow] at c1); (try simp (disch := omega) only [nlit, natrem, nIrm, nIam, nIam',  nI_add, pk_mul, nIsub, nIrem, nIdiv, nIand1, nIand3, nIand7, nIand31, nIshr, nIle, nIlt, nIeq, nIc, vpI, nIm1, m1nI, m1lt, nIlm, m1le, nIlem, nIneg, u2_ss, u2_nn, u2_kk, r2, r4, Nat.reduceMod, Nat.reducePow])
        unfold wq at h
        repeat (first | rw [if_pos (by omega)] at h | rw [if_neg (by omega)] at h)
        exact h
      · (try simp (disch := omega) only [nlit, natrem, nIrm, nIam, nIam',  nI_add, pk_mul, nIsub, nIrem, nIdiv, nIand1, nIand3, nIand7, nIand31, nIshr, nIle, nIlt, nIeq, nIc, vpI, nIm1, m1nI, m1lt, nIlm, m1le, nIlem, nIneg, u2_ss, u2_nn, u2_kk, r2, r4, Nat.reduceMod, Nat.reducePow] at c1 c2); (try simp (disch := omega) only [nlit, natrem, nIrm, nIam, nIam',  nI_add, pk_mul, nIsub, nIrem, nIdiv, nIand1, nIand3, nIand7, nIand31, nIshr, nIle, nIlt, nIeq, nIc, vpI, nIm1, m1nI, m1lt, nIlm, m1le, nIlem, nIneg, u2_ss, u2_nn, u2_kk, r2, r4, Nat.reduceMod, Nat.reducePow])
        unfold wq at h
        repeat (first | rw [if_pos (by omega)] at h | rw [if_neg (by omega)] at h)
        exact h
      · (try simp (disch := omega) only [nlit, natrem, nIrm, nIam, nIam',  nI_add, pk_mul, nIsub, nIrem, nIdiv, nIand1, nIand3, nIand7, nIand31, nIshr, nIle, nIlt, nIeq, nIc, vpI, nIm1, m1nI, m1lt, nIlm, m1le, nIlem, nIneg, u2_ss, u2_nn, u2_kk, r2, r4, Nat.reduceMod, Nat.reducePow] at c1 c2 c3); (try simp (disch := omega) only [nlit, natrem, nIrm, nIam, nIam',  nI_add, pk_mul, nIsub, nIrem, nIdiv, nIand1, nIand3, nIand7, nIand31, nIshr, nIle, nIlt, nIeq, nIc, vpI, nIm1, m1nI, m1lt, nIlm, m1le, nIlem, nIneg, u2_ss, u2_nn, u2_kk, r2, r4, Nat.reduceMod, Nat.reducePow])
        unfold wq at h
        repeat (first | rw [if_pos (by omega)] at h | rw [if_neg (by omega)] at h)
        exact h
      · (try simp (disch := omega) only [nlit, natrem, nIrm, nIam, nIam',  nI_add, pk_mul, nIsub, nIrem, nIdiv, nIand1, nIand3, nIand7, nIand31, nIshr, nIle, nIlt, nIeq, nIc, vpI, nIm1, m1nI, m1lt, nIlm, m1le, nIlem, nIneg, u2_ss, u2_nn, u2_kk, r2, r4, Nat.reduceMod, Nat.reducePow] at c1 c2 c3) <;> (first | omega | exact absurd rfl c1 | exact absurd trivial c1)
    · have e : spWalk a lc gl (nI n) x = -1 := by unfold spWalk; rw [if_neg (fun w => hx w.2)]
      rw [e] at h
      have n0 := notIn (by decide) hx 0 (by decide)
      have n1 := notIn (by decide) hx 1 (by decide)
      have n2 := notIn (by decide) hx 2 (by decide)
      refine RX11_walk_18 hro ⟨fun c1 => ?_, fun c1 => ⟨fun c2 => ?_, fun c2 => ⟨fun c3 => ?_, fun c3 => ?_⟩⟩⟩
      · (try simp (disch := omega) only [nlit, natrem, nIrm, nIam, nIam',  nI_add, pk_mul, nIsub, nIrem, nIdiv, nIand1, nIand3, nIand7, nIand31, nIshr, nIle, nIlt, nIeq, nIc, vpI, nIm1, m1nI, m1lt, nIlm, m1le, nIlem, nIneg, u2_ss, u2_nn, u2_kk, n0, n1, n2] at c1) <;> (first | omega | exact absurd rfl c1 | exact absurd trivial c1)
      · (try simp (disch := omega) only [nlit, natrem, nIrm, nIam, nIam',  nI_add, pk_mul, nIsub, nIrem, nIdiv, nIand1, nIand3, nIand7, nIand31, nIshr, nIle, nIlt, nIeq, nIc, vpI, nIm1, m1nI, m1lt, nIlm, m1le, nIlem, nIneg, u2_ss, u2_nn, u2_kk, n0, n1, n2] at c1 c2) <;> (first | omega | exact absurd rfl c1 | exact absurd trivial c1)
      · (try simp (disch := omega) only [nlit, natrem, nIrm, nIam, nIam',  nI_add, pk_mul, nIsub, nIrem, nIdiv, nIand1, nIand3, nIand7, nIand31, nIshr, nIle, nIlt, nIeq, nIc, vpI, nIm1, m1nI, m1lt, nIlm, m1le, nIlem, nIneg, u2_ss, u2_nn, u2_kk, n0, n1, n2] at c1 c2 c3) <;> (first | omega | exact absurd rfl c1 | exact absurd trivial c1)
      · (try simp (disch := omega) only [nlit, natrem, nIrm, nIam, nIam',  nI_add, pk_mul, nIsub, nIrem, nIdiv, nIand1, nIand3, nIand7, nIand31, nIshr, nIle, nIlt, nIeq, nIc, vpI, nIm1, m1nI, m1lt, nIlm, m1le, nIlem, nIneg, u2_ss, u2_nn, u2_kk, n0, n1, n2] at c1 c2 c3); (try simp (disch := omega) only [nlit, natrem, nIrm, nIam, nIam',  nI_add, pk_mul, nIsub, nIrem, nIdiv, nIand1, nIand3, nIand7, nIand31, nIshr, nIle, nIlt, nIeq, nIc, vpI, nIm1, m1nI, m1lt, nIlm, m1le, nIlem, nIneg, u2_ss, u2_nn, u2_kk, n0, n1, n2])
        exact h
  · have e : spWalk a lc gl w x = -1 := by unfold spWalk; rw [if_neg (fun w => hn w.1)]
    have h := h I L ⟨hCC, Kp.rf, Kp.rf⟩
    rw [e] at h
    exact RX11_walk_8 ⟨fun w => absurd rfl w, fun _ => h⟩
theorem m_walk {d : Nat} {sx : Sx} {I : Ints} {L : Lngs} {R : Rfs} {q : Q3} {a : Ce} {lc : List (Nat × Nat)} {lf : Nat → Nat} {gl : Nat → List Nat} {sn : Nat → Nat} (hM : MC a lc lf gl sn I) {w x : Int32} (h : ∀ J, Fr AQ FQ I J → q (some (.int (spWalk a lc gl w x))) J L R) : E0 mX12_walk (d + 6) sx [.ref 92, .int w, .int x] I L R q := by
  refine EX12_walk ?_
  have hF0 : Fr AQ FQ I (u2 I 92 0 0) := fq0
  have hM := hM.fr hF0
  have h : ∀ J, Fr AQ FQ (u2 I 92 0 0) J → q (some (.int (spWalk a lc gl w x))) J L R := fun J hJ => h J (hF0.tr hJ)
  clear hF0
  generalize u2 I 92 0 0 = I at *
  have h0 := h I Fr.rf
  obtain ⟨hW, hE, hM, hl, hEv, hS⟩ := hM
  have w4 := hW.2.2.2.2.1
  refine isGuestM_ok hM (fun n hn e => ?_) (fun hn => ?_)
  · subst e
    have hin : inR (nI n) (a 4).val := (inR_nI (by omega) (by omega)).mpr hn
    refine RX12_walk_10 ⟨fun w => absurd w (by decide), fun _ => ?_⟩
    refine within_ok (n := 2) (by decide) (fun m hm e => ?_) (fun hx => ?_)
    · subst e
      have e : spWalk a lc gl (nI n) (nI m) = nI (wq a lc n (gl n) m) := by
        unfold spWalk
        rw [if_pos ⟨hin, (inR_nI (by omega) (by omega)).mpr hm⟩, nIc (by omega), nIc (by omega)]
      have hws := hE.2.1 n (by omega)
      refine RX12_walk_19 ⟨fun _ => ?_, fun w => absurd w (by decide)⟩
      refine laysOwn_ok hM hW hl hEv hn hws (fun J hJ => RX12_walk_29 ?_)
      have hF : Fr AQ FQ I J := hJ.1.mn rfl rfl
      have hln := rt_len hW (lc := lc) (g := n) hws
      refine walks_ok (al := 1) (hM.fr hF rfl rfl) hW hn (by decide) clP_M (by omega) hJ.2.1 hJ.2.2.2 rt_ne (rt_le hW hws) (fun K hK hFK => ?_)
      have hK : atP K (wkA a lc n (gl n)) := hK
      have h := h K (hF.tr (hFK.mn rfl rfl))
      rw [e] at h
      have e26 := (hFK 92 26 rfl rfl).trans hJ.2.2.1
      have e30 := hK.2.2.2
      refine RX12_walk_35  ⟨fun c1 => ⟨fun c2 => ?_, fun c2 => ?_⟩, fun c1 => ?_⟩
      · (try simp (disch := omega) only [nlit, natrem, nIrm, nIam, nIam',  nI_add, pk_mul, nIsub, nIrem, nIdiv, nIand1, nIand3, nIand7, nIand31, nIshr, nIle, nIlt, nIeq, nIc, vpI, nIm1, m1nI, m1lt, nIlm, m1le, nIlem, nIneg, u2_ss, u2_nn, u2_kk, e26, e30] at c1 c2); (try simp (disch := omega) only [nlit, natrem, nIrm, nIam, nIam',  nI_add, pk_mul, nIsub, nIrem, nIdiv, nIand1, nIand3, nIand7, nIand31, nIshr, nIle, nIlt, nIeq, nIc, vpI, nIm1, m1nI, m1lt, nIlm, m1le, nIlem, nIneg, u2_ss, u2_nn, u2_kk, e26, e30])
        unfold wq at h
        repeat (first | rw [if_pos (by omega)] at h | rw [if_neg (by omega)] at h)
        exact h
      · (try simp (disch := omega) only [nlit, natrem, nIrm, nIam, nIam',  nI_add, pk_mul, nIsub, nIrem, nIdiv, nIand1, nIand3, nIand7, nIand31, nIshr, nIle, nIlt, nIeq, nIc, vpI, nIm1, m1nI, m1lt, nIlm, m1le, nIlem, nIneg, u2_ss, u2_nn, u2_kk, e26, e30] at c1 c2); (try simp (disch := omega) only [nlit, natrem, nIrm, nIam, nIam',  nI_add, pk_mul, nIsub, nIrem, nIdiv, nIand1, nIand3, nIand7, nIand31, nIshr, nIle, nIlt, nIeq, nIc, vpI, nIm1, m1nI, m1lt, nIlm, m1le, nIlem, nIneg, u2_ss, u2_nn, u2_kk, e26, e30])
        unfold wq at h
        repeat (first | rw [if_pos (by omega)] at h | rw [if_neg (by omega)] at h)
        exact h
      · (try simp (disch := omega) only [nlit, natrem, nIrm, nIam, nIam',  nI_add, pk_mul, nIsub, nIrem, nIdiv, nIand1, nIand3, nIand7, nIand31, nIshr, nIle, nIlt, nIeq, nIc, vpI, nIm1, m1nI, m1lt, nIlm, m1le, nIlem, nIneg, u2_ss, u2_nn, u2_kk, e26, e30] at c1); (try simp (disch := omega) only [nlit, natrem, nIrm, nIam, nIam',  nI_add, pk_mul, nIsub, nIrem, nIdiv, nIand1, nIand3, nIand7, nIand31, nIshr, nIle, nIlt, nIeq, nIc, vpI, nIm1, m1nI, m1lt, nIlm, m1le, nIlem, nIneg, u2_ss, u2_nn, u2_kk, e26, e30])
        unfold wq at h
        repeat (first | rw [if_pos (by omega)] at h | rw [if_neg (by omega)] at h)
        exact cellNow_ok hK (RX12_walk_43 h)
    · have e : spWalk a lc gl (nI n) x = -1 := by unfold spWalk; rw [if_neg (fun w => hx w.2)]
      rw [e] at h0
      exact RX12_walk_19 ⟨fun w => absurd rfl w, fun _ => h0⟩
  · have e : spWalk a lc gl w x = -1 := by unfold spWalk; rw [if_neg (fun w => hn w.1)]
    rw [e] at h0
    exact RX12_walk_10 ⟨fun _ => h0, fun w => absurd rfl w⟩
def opp (a : Ce) (w v : Nat) : Nat → Nat
  | 0 => 0
  | n + 1 => opp a w v n + (if (wS a w n = 2 ∧ wS a v n = 3) ∨ (wS a w n = 3 ∧ wS a v n = 2) then 1 else 0)
theorem opp_le (a : Ce) (w v : Nat) : ∀ n, opp a w v n ≤ n
  | 0 => Nat.le_refl 0
  | n + 1 => by have := opp_le a w v n; show opp a w v n + (if _ then 1 else 0) ≤ _; split <;> omega
theorem opp_self (a : Ce) (w : Nat) : ∀ n, opp a w w n = 0
  | 0 => rfl
  | n + 1 => by have := opp_self a w n; show opp a w w n + (if _ then 1 else 0) = _; rw [if_neg (by omega)]; omega
def spQuarrel (a : Ce) (w v : Int32) : Int32 := if inR w (a 3).val ∧ inR v (a 3).val ∧ min (wL a w.toNatClampNeg) (wL a v.toNatClampNeg) < opp a w.toNatClampNeg v.toNatClampNeg (min (wL a w.toNatClampNeg) (wL a v.toNatClampNeg)) * 2 then nI 1 else nI 0
theorem spQ_nI {a : Ce} {w v : Nat} (hw : w < (a 3).val) (hv : v < (a 3).val) : spQuarrel a (nI w) (nI v) = if min (wL a w) (wL a v) < opp a w v (min (wL a w) (wL a v)) * 2 then nI 1 else nI 0 := by
  unfold spQuarrel
  have h1 : inR (nI w) (a 3).val := (inR_nI (by omega) (by omega)).mpr hw
  have h2 : inR (nI v) (a 3).val := (inR_nI (by omega) (by omega)).mpr hv
  rw [nIc (by omega), nIc (by omega)]
  by_cases hc : min (wL a w) (wL a v) < opp a w v (min (wL a w) (wL a v)) * 2
  · rw [if_pos hc, if_pos ⟨h1, h2, hc⟩]
  · rw [if_neg hc, if_neg (fun x => hc x.2.2)]
theorem c_quarrel {d : Nat} {sx : Sx} {I : Ints} {L : Lngs} {R : Rfs} {q : Q3} {a : Ce} {lc : List (Nat × Nat)} {lf : Nat → Nat} {gl : Nat → List Nat} {sn : Nat → Nat} {c : Nat} (hC : CC a lc lf gl sn c I L R) {x y : Int32} (h : q (some (.int (spQuarrel a x y))) I L R) : E0 mX11_quarrel (d + 2) sx [.ref 0, .int x, .int y] I L R q := by
  obtain ⟨hc, hR, hW, hE, hCl, hEv, hRt⟩ := hC
  have w3 := hW.2.2.2.1
  refine EX11_quarrel hc hR (isWineC_ok hc hCl (fun w hw e => ?_) (fun hn => ?_))
  · subst e
    refine RX11_quarrel_8 hc hR ⟨fun w => absurd w (by decide), fun _ => ?_⟩
    refine isWineC_ok hc hCl (fun v hv e => ?_) (fun hn => ?_)
    · subst e
      rw [spQ_nI hw hv] at h
      have eLw := (hCl.2.2.2.1 w hw).2.1
      have eLv := (hCl.2.2.2.1 v hv).2.1
      have hLw := wL_le hW hw
      have hLv := wL_le hW hv
      have hlp : ∀ n i : Nat, n = min (wL a w) (wL a v) - i → i ≤ min (wL a w) (wL a v) → Y mX11_quarrel (d + 2) sx 52 [(0, .ref 0), (1, .int (nI w)), (2, .int (nI v)), (3, .int (nI (min (wL a w) (wL a v)))), (4, .int (nI (opp a w v i))), (5, .int (nI i))] [] I L R q := by
        intro n
        induction n with
        | zero =>
          intro i hn hi
          have e : i = min (wL a w) (wL a v) := by omega
          have ho := opp_le a w v i
          rw [← e] at h ⊢
          refine RX11_quarrel_52 hc hR ⟨fun c1 => ⟨fun c2 => ?_, fun c2 => ?_⟩, fun c1 => ⟨?_, ⟨?_, ⟨fun c2 => ⟨fun c3 => ?_, fun c3 => ⟨fun c4 => ?_, fun c4 => ?_⟩⟩, fun c2 => ⟨fun c3 => ?_, fun c3 => ?_⟩⟩⟩⟩⟩
          · (try simp (disch := omega) only [nlit, natrem, nIrm, nIam, nIam',  nI_add, pk_mul, nIsub, nIrem, nIdiv, nIand1, nIand3, nIand7, nIand31, nIshr, nIle, nIlt, nIeq, nIc, vpI, nIm1, m1nI, m1lt, nIlm, m1le, nIlem, nIneg, u2_ss, u2_nn, u2_kk] at c1 c2); (try simp (disch := omega) only [nlit, natrem, nIrm, nIam, nIam',  nI_add, pk_mul, nIsub, nIrem, nIdiv, nIand1, nIand3, nIand7, nIand31, nIshr, nIle, nIlt, nIeq, nIc, vpI, nIm1, m1nI, m1lt, nIlm, m1le, nIlem, nIneg, u2_ss, u2_nn, u2_kk])
            rw [if_neg (by omega)] at h; exact h
          · (try simp (disch := omega) only [nlit, natrem, nIrm, nIam, nIam',  nI_add, pk_mul, nIsub, nIrem, nIdiv, nIand1, nIand3, nIand7, nIand31, nIshr, nIle, nIlt, nIeq, nIc, vpI, nIm1, m1nI, m1lt, nIlm, m1le, nIlem, nIneg, u2_ss, u2_nn, u2_kk] at c1 c2); (try simp (disch := omega) only [nlit, natrem, nIrm, nIam, nIam',  nI_add, pk_mul, nIsub, nIrem, nIdiv, nIand1, nIand3, nIand7, nIand31, nIshr, nIle, nIlt, nIeq, nIc, vpI, nIm1, m1nI, m1lt, nIlm, m1le, nIlem, nIneg, u2_ss, u2_nn, u2_kk])
            rw [if_pos (by omega)] at h; exact h
          · (try simp (disch := omega) only [nlit, natrem, nIrm, nIam, nIam',  nI_add, pk_mul, nIsub, nIrem, nIdiv, nIand1, nIand3, nIand7, nIand31, nIshr, nIle, nIlt, nIeq, nIc, vpI, nIm1, m1nI, m1lt, nIlm, m1le, nIlem, nIneg, u2_ss, u2_nn, u2_kk] at c1) <;> (try simp (disch := omega) only [nlit, natrem, nIrm, nIam, nIam',  nI_add, pk_mul, nIsub, nIrem, nIdiv, nIand1, nIand3, nIand7, nIand31, nIshr, nIle, nIlt, nIeq, nIc, vpI, nIm1, m1nI, m1lt, nIlm, m1le, nIlem, nIneg, u2_ss, u2_nn, u2_kk]) <;> (first | omega | trivial)
          · (try simp (disch := omega) only [nlit, natrem, nIrm, nIam, nIam',  nI_add, pk_mul, nIsub, nIrem, nIdiv, nIand1, nIand3, nIand7, nIand31, nIshr, nIle, nIlt, nIeq, nIc, vpI, nIm1, m1nI, m1lt, nIlm, m1le, nIlem, nIneg, u2_ss, u2_nn, u2_kk] at c1) <;> (try simp (disch := omega) only [nlit, natrem, nIrm, nIam, nIam',  nI_add, pk_mul, nIsub, nIrem, nIdiv, nIand1, nIand3, nIand7, nIand31, nIshr, nIle, nIlt, nIeq, nIc, vpI, nIm1, m1nI, m1lt, nIlm, m1le, nIlem, nIneg, u2_ss, u2_nn, u2_kk]) <;> (first | omega | trivial)
          · (try simp (disch := omega) only [nlit, natrem, nIrm, nIam, nIam',  nI_add, pk_mul, nIsub, nIrem, nIdiv, nIand1, nIand3, nIand7, nIand31, nIshr, nIle, nIlt, nIeq, nIc, vpI, nIm1, m1nI, m1lt, nIlm, m1le, nIlem, nIneg, u2_ss, u2_nn, u2_kk] at c1 c2 c3) <;> (first | omega | exact absurd rfl c1 | exact absurd trivial c1)
          · (try simp (disch := omega) only [nlit, natrem, nIrm, nIam, nIam',  nI_add, pk_mul, nIsub, nIrem, nIdiv, nIand1, nIand3, nIand7, nIand31, nIshr, nIle, nIlt, nIeq, nIc, vpI, nIm1, m1nI, m1lt, nIlm, m1le, nIlem, nIneg, u2_ss, u2_nn, u2_kk] at c1 c2 c3 c4) <;> (first | omega | exact absurd rfl c1 | exact absurd trivial c1)
          · (try simp (disch := omega) only [nlit, natrem, nIrm, nIam, nIam',  nI_add, pk_mul, nIsub, nIrem, nIdiv, nIand1, nIand3, nIand7, nIand31, nIshr, nIle, nIlt, nIeq, nIc, vpI, nIm1, m1nI, m1lt, nIlm, m1le, nIlem, nIneg, u2_ss, u2_nn, u2_kk] at c1 c2 c3 c4) <;> (first | omega | exact absurd rfl c1 | exact absurd trivial c1)
          · (try simp (disch := omega) only [nlit, natrem, nIrm, nIam, nIam',  nI_add, pk_mul, nIsub, nIrem, nIdiv, nIand1, nIand3, nIand7, nIand31, nIshr, nIle, nIlt, nIeq, nIc, vpI, nIm1, m1nI, m1lt, nIlm, m1le, nIlem, nIneg, u2_ss, u2_nn, u2_kk] at c1 c2 c3) <;> (first | omega | exact absurd rfl c1 | exact absurd trivial c1)
          · (try simp (disch := omega) only [nlit, natrem, nIrm, nIam, nIam',  nI_add, pk_mul, nIsub, nIrem, nIdiv, nIand1, nIand3, nIand7, nIand31, nIshr, nIle, nIlt, nIeq, nIc, vpI, nIm1, m1nI, m1lt, nIlm, m1le, nIlem, nIneg, u2_ss, u2_nn, u2_kk] at c1 c2 c3) <;> (first | omega | exact absurd rfl c1 | exact absurd trivial c1)
        | succ n ih =>
          intro i hn hi
          have ho := opp_le a w v i
          have e1 := (hCl.2.2.2.1 w hw).2.2 i (by omega)
          have e2 := (hCl.2.2.2.1 v hv).2.2 i (by omega)
          have s1 := wS_le hW hw i
          have s2 := wS_le hW hv i
          refine RX11_quarrel_52 hc hR ⟨fun c1 => ⟨fun c2 => ?_, fun c2 => ?_⟩, fun c1 => ⟨?_, ⟨?_, ⟨fun c2 => ⟨fun c3 => ?_, fun c3 => ⟨fun c4 => ?_, fun c4 => ?_⟩⟩, fun c2 => ⟨fun c3 => ?_, fun c3 => ?_⟩⟩⟩⟩⟩
          · (try simp (disch := omega) only [nlit, natrem, nIrm, nIam, nIam',  nI_add, pk_mul, nIsub, nIrem, nIdiv, nIand1, nIand3, nIand7, nIand31, nIshr, nIle, nIlt, nIeq, nIc, vpI, nIm1, m1nI, m1lt, nIlm, m1le, nIlem, nIneg, u2_ss, u2_nn, u2_kk, e1, e2] at c1 c2); (try simp (disch := omega) only [nlit, natrem, nIrm, nIam, nIam',  nI_add, pk_mul, nIsub, nIrem, nIdiv, nIand1, nIand3, nIand7, nIand31, nIshr, nIle, nIlt, nIeq, nIc, vpI, nIm1, m1nI, m1lt, nIlm, m1le, nIlem, nIneg, u2_ss, u2_nn, u2_kk, e1, e2])
            omega
          · (try simp (disch := omega) only [nlit, natrem, nIrm, nIam, nIam',  nI_add, pk_mul, nIsub, nIrem, nIdiv, nIand1, nIand3, nIand7, nIand31, nIshr, nIle, nIlt, nIeq, nIc, vpI, nIm1, m1nI, m1lt, nIlm, m1le, nIlem, nIneg, u2_ss, u2_nn, u2_kk, e1, e2] at c1 c2); (try simp (disch := omega) only [nlit, natrem, nIrm, nIam, nIam',  nI_add, pk_mul, nIsub, nIrem, nIdiv, nIand1, nIand3, nIand7, nIand31, nIshr, nIle, nIlt, nIeq, nIc, vpI, nIm1, m1nI, m1lt, nIlm, m1le, nIlem, nIneg, u2_ss, u2_nn, u2_kk, e1, e2])
            omega
          · (try simp (disch := omega) only [nlit, natrem, nIrm, nIam, nIam',  nI_add, pk_mul, nIsub, nIrem, nIdiv, nIand1, nIand3, nIand7, nIand31, nIshr, nIle, nIlt, nIeq, nIc, vpI, nIm1, m1nI, m1lt, nIlm, m1le, nIlem, nIneg, u2_ss, u2_nn, u2_kk, e1, e2] at c1) <;> (try simp (disch := omega) only [nlit, natrem, nIrm, nIam, nIam',  nI_add, pk_mul, nIsub, nIrem, nIdiv, nIand1, nIand3, nIand7, nIand31, nIshr, nIle, nIlt, nIeq, nIc, vpI, nIm1, m1nI, m1lt, nIlm, m1le, nIlem, nIneg, u2_ss, u2_nn, u2_kk, e1, e2]) <;> (first | omega | trivial)
          · (try simp (disch := omega) only [nlit, natrem, nIrm, nIam, nIam',  nI_add, pk_mul, nIsub, nIrem, nIdiv, nIand1, nIand3, nIand7, nIand31, nIshr, nIle, nIlt, nIeq, nIc, vpI, nIm1, m1nI, m1lt, nIlm, m1le, nIlem, nIneg, u2_ss, u2_nn, u2_kk, e1, e2] at c1) <;> (try simp (disch := omega) only [nlit, natrem, nIrm, nIam, nIam',  nI_add, pk_mul, nIsub, nIrem, nIdiv, nIand1, nIand3, nIand7, nIand31, nIshr, nIle, nIlt, nIeq, nIc, vpI, nIm1, m1nI, m1lt, nIlm, m1le, nIlem, nIneg, u2_ss, u2_nn, u2_kk, e1, e2]) <;> (first | omega | trivial)
          · (try simp (disch := omega) only [nlit, natrem, nIrm, nIam, nIam',  nI_add, pk_mul, nIsub, nIrem, nIdiv, nIand1, nIand3, nIand7, nIand31, nIshr, nIle, nIlt, nIeq, nIc, vpI, nIm1, m1nI, m1lt, nIlm, m1le, nIlem, nIneg, u2_ss, u2_nn, u2_kk, e1, e2] at c1 c2 c3); (try simp (disch := omega) only [nlit, natrem, nIrm, nIam, nIam',  nI_add, pk_mul, nIsub, nIrem, nIdiv, nIand1, nIand3, nIand7, nIand31, nIshr, nIle, nIlt, nIeq, nIc, vpI, nIm1, m1nI, m1lt, nIlm, m1le, nIlem, nIneg, u2_ss, u2_nn, u2_kk, e1, e2])
            have e : opp a w v (i + 1) = opp a w v i := by show opp a w v i + (if _ then 1 else 0) = _; rw [if_neg (by omega)]; rfl
            rw [← e]
            exact ih (i + 1) (by omega) (by omega)
          · (try simp (disch := omega) only [nlit, natrem, nIrm, nIam, nIam',  nI_add, pk_mul, nIsub, nIrem, nIdiv, nIand1, nIand3, nIand7, nIand31, nIshr, nIle, nIlt, nIeq, nIc, vpI, nIm1, m1nI, m1lt, nIlm, m1le, nIlem, nIneg, u2_ss, u2_nn, u2_kk, e1, e2] at c1 c2 c3 c4); (try simp (disch := omega) only [nlit, natrem, nIrm, nIam, nIam',  nI_add, pk_mul, nIsub, nIrem, nIdiv, nIand1, nIand3, nIand7, nIand31, nIshr, nIle, nIlt, nIeq, nIc, vpI, nIm1, m1nI, m1lt, nIlm, m1le, nIlem, nIneg, u2_ss, u2_nn, u2_kk, e1, e2])
            have e : opp a w v (i + 1) = opp a w v i := by show opp a w v i + (if _ then 1 else 0) = _; rw [if_neg (by omega)]; rfl
            rw [← e]
            exact ih (i + 1) (by omega) (by omega)
          · (try simp (disch := omega) only [nlit, natrem, nIrm, nIam, nIam',  nI_add, pk_mul, nIsub, nIrem, nIdiv, nIand1, nIand3, nIand7, nIand31, nIshr, nIle, nIlt, nIeq, nIc, vpI, nIm1, m1nI, m1lt, nIlm, m1le, nIlem, nIneg, u2_ss, u2_nn, u2_kk, e1, e2] at c1 c2 c3 c4); (try simp (disch := omega) only [nlit, natrem, nIrm, nIam, nIam',  nI_add, pk_mul, nIsub, nIrem, nIdiv, nIand1, nIand3, nIand7, nIand31, nIshr, nIle, nIlt, nIeq, nIc, vpI, nIm1, m1nI, m1lt, nIlm, m1le, nIlem, nIneg, u2_ss, u2_nn, u2_kk, e1, e2])
            have e : opp a w v (i + 1) = opp a w v i + 1 := by show opp a w v i + (if _ then 1 else 0) = _; rw [if_pos (by omega)]
            rw [← e]
            exact ih (i + 1) (by omega) (by omega)
          · (try simp (disch := omega) only [nlit, natrem, nIrm, nIam, nIam',  nI_add, pk_mul, nIsub, nIrem, nIdiv, nIand1, nIand3, nIand7, nIand31, nIshr, nIle, nIlt, nIeq, nIc, vpI, nIm1, m1nI, m1lt, nIlm, m1le, nIlem, nIneg, u2_ss, u2_nn, u2_kk, e1, e2] at c1 c2 c3); (try simp (disch := omega) only [nlit, natrem, nIrm, nIam, nIam',  nI_add, pk_mul, nIsub, nIrem, nIdiv, nIand1, nIand3, nIand7, nIand31, nIshr, nIle, nIlt, nIeq, nIc, vpI, nIm1, m1nI, m1lt, nIlm, m1le, nIlem, nIneg, u2_ss, u2_nn, u2_kk, e1, e2])
            have e : opp a w v (i + 1) = opp a w v i + 1 := by show opp a w v i + (if _ then 1 else 0) = _; rw [if_pos (by omega)]
            rw [← e]
            exact ih (i + 1) (by omega) (by omega)
          · (try simp (disch := omega) only [nlit, natrem, nIrm, nIam, nIam',  nI_add, pk_mul, nIsub, nIrem, nIdiv, nIand1, nIand3, nIand7, nIand31, nIshr, nIle, nIlt, nIeq, nIc, vpI, nIm1, m1nI, m1lt, nIlm, m1le, nIlem, nIneg, u2_ss, u2_nn, u2_kk, e1, e2] at c1 c2 c3); (try simp (disch := omega) only [nlit, natrem, nIrm, nIam, nIam',  nI_add, pk_mul, nIsub, nIrem, nIdiv, nIand1, nIand3, nIand7, nIand31, nIshr, nIle, nIlt, nIeq, nIc, vpI, nIm1, m1nI, m1lt, nIlm, m1le, nIlem, nIneg, u2_ss, u2_nn, u2_kk, e1, e2])
            have e : opp a w v (i + 1) = opp a w v i := by show opp a w v i + (if _ then 1 else 0) = _; rw [if_neg (by omega)]; rfl
            rw [← e]
            exact ih (i + 1) (by omega) (by omega)
      refine RX11_quarrel_19 hc hR ⟨fun c1 => ⟨?_, ⟨?_, ?_⟩⟩, fun c1 => ?_⟩
      · (try simp (disch := omega) only [nlit, natrem, nIrm, nIam, nIam',  nI_add, pk_mul, nIsub, nIrem, nIdiv, nIand1, nIand3, nIand7, nIand31, nIshr, nIle, nIlt, nIeq, nIc, vpI, nIm1, m1nI, m1lt, nIlm, m1le, nIlem, nIneg, u2_ss, u2_nn, u2_kk, eLw, eLv] at c1) <;> (try simp (disch := omega) only [nlit, natrem, nIrm, nIam, nIam',  nI_add, pk_mul, nIsub, nIrem, nIdiv, nIand1, nIand3, nIand7, nIand31, nIshr, nIle, nIlt, nIeq, nIc, vpI, nIm1, m1nI, m1lt, nIlm, m1le, nIlem, nIneg, u2_ss, u2_nn, u2_kk, eLw, eLv]) <;> (first | omega | trivial)
      · (try simp (disch := omega) only [nlit, natrem, nIrm, nIam, nIam',  nI_add, pk_mul, nIsub, nIrem, nIdiv, nIand1, nIand3, nIand7, nIand31, nIshr, nIle, nIlt, nIeq, nIc, vpI, nIm1, m1nI, m1lt, nIlm, m1le, nIlem, nIneg, u2_ss, u2_nn, u2_kk, eLw, eLv] at c1) <;> (try simp (disch := omega) only [nlit, natrem, nIrm, nIam, nIam',  nI_add, pk_mul, nIsub, nIrem, nIdiv, nIand1, nIand3, nIand7, nIand31, nIshr, nIle, nIlt, nIeq, nIc, vpI, nIm1, m1nI, m1lt, nIlm, m1le, nIlem, nIneg, u2_ss, u2_nn, u2_kk, eLw, eLv]) <;> (first | omega | trivial)
      · (try simp (disch := omega) only [nlit, natrem, nIrm, nIam, nIam',  nI_add, pk_mul, nIsub, nIrem, nIdiv, nIand1, nIand3, nIand7, nIand31, nIshr, nIle, nIlt, nIeq, nIc, vpI, nIm1, m1nI, m1lt, nIlm, m1le, nIlem, nIneg, u2_ss, u2_nn, u2_kk, eLw, eLv] at c1); (try simp (disch := omega) only [nlit, natrem, nIrm, nIam, nIam',  nI_add, pk_mul, nIsub, nIrem, nIdiv, nIand1, nIand3, nIand7, nIand31, nIshr, nIle, nIlt, nIeq, nIc, vpI, nIm1, m1nI, m1lt, nIlm, m1le, nIlem, nIneg, u2_ss, u2_nn, u2_kk, eLw, eLv])
        refine min_ok (by omega) (by omega) (RX11_quarrel_45 ?_)
        exact hlp _ 0 rfl (Nat.zero_le _)
      · (try simp (disch := omega) only [nlit, natrem, nIrm, nIam, nIam',  nI_add, pk_mul, nIsub, nIrem, nIdiv, nIand1, nIand3, nIand7, nIand31, nIshr, nIle, nIlt, nIeq, nIc, vpI, nIm1, m1nI, m1lt, nIlm, m1le, nIlem, nIneg, u2_ss, u2_nn, u2_kk, eLw, eLv] at c1) <;> (first | omega | exact absurd rfl c1 | exact absurd trivial c1)
    · have e : spQuarrel a (nI w) y = nI 0 := by unfold spQuarrel; rw [if_neg (fun w => hn w.2.1)]
      rw [e] at h
      refine RX11_quarrel_19 hc hR ⟨fun c1 => ⟨?_, ⟨?_, ?_⟩⟩, fun c1 => ?_⟩
      · (try simp (disch := omega) only [nlit, natrem, nIrm, nIam, nIam',  nI_add, pk_mul, nIsub, nIrem, nIdiv, nIand1, nIand3, nIand7, nIand31, nIshr, nIle, nIlt, nIeq, nIc, vpI, nIm1, m1nI, m1lt, nIlm, m1le, nIlem, nIneg, u2_ss, u2_nn, u2_kk] at c1) <;> (try simp (disch := omega) only [nlit, natrem, nIrm, nIam, nIam',  nI_add, pk_mul, nIsub, nIrem, nIdiv, nIand1, nIand3, nIand7, nIand31, nIshr, nIle, nIlt, nIeq, nIc, vpI, nIm1, m1nI, m1lt, nIlm, m1le, nIlem, nIneg, u2_ss, u2_nn, u2_kk]) <;> (first | omega | trivial)
      · (try simp (disch := omega) only [nlit, natrem, nIrm, nIam, nIam',  nI_add, pk_mul, nIsub, nIrem, nIdiv, nIand1, nIand3, nIand7, nIand31, nIshr, nIle, nIlt, nIeq, nIc, vpI, nIm1, m1nI, m1lt, nIlm, m1le, nIlem, nIneg, u2_ss, u2_nn, u2_kk] at c1) <;> (try simp (disch := omega) only [nlit, natrem, nIrm, nIam, nIam',  nI_add, pk_mul, nIsub, nIrem, nIdiv, nIand1, nIand3, nIand7, nIand31, nIshr, nIle, nIlt, nIeq, nIc, vpI, nIm1, m1nI, m1lt, nIlm, m1le, nIlem, nIneg, u2_ss, u2_nn, u2_kk]) <;> (first | omega | trivial)
      · (try simp (disch := omega) only [nlit, natrem, nIrm, nIam, nIam',  nI_add, pk_mul, nIsub, nIrem, nIdiv, nIand1, nIand3, nIand7, nIand31, nIshr, nIle, nIlt, nIeq, nIc, vpI, nIm1, m1nI, m1lt, nIlm, m1le, nIlem, nIneg, u2_ss, u2_nn, u2_kk] at c1) <;> (first | omega | exact absurd rfl c1 | exact absurd trivial c1)
      · (try simp (disch := omega) only [nlit, natrem, nIrm, nIam, nIam',  nI_add, pk_mul, nIsub, nIrem, nIdiv, nIand1, nIand3, nIand7, nIand31, nIshr, nIle, nIlt, nIeq, nIc, vpI, nIm1, m1nI, m1lt, nIlm, m1le, nIlem, nIneg, u2_ss, u2_nn, u2_kk] at c1); (try simp (disch := omega) only [nlit, natrem, nIrm, nIam, nIam',  nI_add, pk_mul, nIsub, nIrem, nIdiv, nIand1, nIand3, nIand7, nIand31, nIshr, nIle, nIlt, nIeq, nIc, vpI, nIm1, m1nI, m1lt, nIlm, m1le, nIlem, nIneg, u2_ss, u2_nn, u2_kk])
        exact h
  · have e : spQuarrel a x y = nI 0 := by unfold spQuarrel; rw [if_neg (fun w => hn w.1)]
    rw [e] at h
    exact RX11_quarrel_8 hc hR ⟨fun _ => h, fun w => absurd rfl w⟩
theorem m_quarrel {d : Nat} {sx : Sx} {I : Ints} {L : Lngs} {R : Rfs} {q : Q3} {a : Ce} {lc : List (Nat × Nat)} {lf : Nat → Nat} {gl : Nat → List Nat} {sn : Nat → Nat} (hM : MC a lc lf gl sn I) {x y : Int32} (h : ∀ J, Fr AQ FQ I J → q (some (.int (spQuarrel a x y))) J L R) : E0 mX12_quarrel (d + 3) sx [.ref 92, .int x, .int y] I L R q := by
  refine EX12_quarrel ?_
  have h := h _ (fq0 (v := 0))
  obtain ⟨hW, hE, hM, hl, hEv, hS⟩ := hM.fr (fq0 (v := 0))
  have w3 := hW.2.2.2.1
  generalize u2 I 92 0 0 = I at *
  refine isWineM_ok hM (fun w hw e => ?_) (fun hn => ?_)
  · subst e
    refine RX12_quarrel_10 ⟨fun w => absurd w (by decide), fun _ => ?_⟩
    refine isWineM_ok hM (fun v hv e => ?_) (fun hn => ?_)
    · subst e
      rw [spQ_nI hw hv] at h
      have hLw := wL_le hW hw
      have hLv := wL_le hW hv
      have hlp : ∀ n i : Nat, n = min (wL a w) (wL a v) - i → i ≤ min (wL a w) (wL a v) → Y mX12_quarrel (d + 3) sx 61 [(0, .ref 92), (1, .int (nI w)), (2, .int (nI v)), (3, .int (nI (min (wL a w) (wL a v)))), (4, .int (nI (opp a w v i))), (5, .int (nI i))] [] I L R q := by
        intro n
        induction n with
        | zero =>
          intro i hn hi
          have e : i = min (wL a w) (wL a v) := by omega
          have ho := opp_le a w v i
          rw [← e] at h ⊢
          refine RX12_quarrel_61  ⟨fun c1 => ⟨fun c2 => ?_, fun c2 => ?_⟩, fun c1 => ?_⟩
          · (try simp (disch := omega) only [nlit, natrem, nIrm, nIam, nIam',  nI_add, pk_mul, nIsub, nIrem, nIdiv, nIand1, nIand3, nIand7, nIand31, nIshr, nIle, nIlt, nIeq, nIc, vpI, nIm1, m1nI, m1lt, nIlm, m1le, nIlem, nIneg, u2_ss, u2_nn, u2_kk] at c1 c2); (try simp (disch := omega) only [nlit, natrem, nIrm, nIam, nIam',  nI_add, pk_mul, nIsub, nIrem, nIdiv, nIand1, nIand3, nIand7, nIand31, nIshr, nIle, nIlt, nIeq, nIc, vpI, nIm1, m1nI, m1lt, nIlm, m1le, nIlem, nIneg, u2_ss, u2_nn, u2_kk])
            rw [if_neg (by omega)] at h; exact h
          · (try simp (disch := omega) only [nlit, natrem, nIrm, nIam, nIam',  nI_add, pk_mul, nIsub, nIrem, nIdiv, nIand1, nIand3, nIand7, nIand31, nIshr, nIle, nIlt, nIeq, nIc, vpI, nIm1, m1nI, m1lt, nIlm, m1le, nIlem, nIneg, u2_ss, u2_nn, u2_kk] at c1 c2); (try simp (disch := omega) only [nlit, natrem, nIrm, nIam, nIam',  nI_add, pk_mul, nIsub, nIrem, nIdiv, nIand1, nIand3, nIand7, nIand31, nIshr, nIle, nIlt, nIeq, nIc, vpI, nIm1, m1nI, m1lt, nIlm, m1le, nIlem, nIneg, u2_ss, u2_nn, u2_kk])
            rw [if_pos (by omega)] at h; exact h
          · (try simp (disch := omega) only [nlit, natrem, nIrm, nIam, nIam',  nI_add, pk_mul, nIsub, nIrem, nIdiv, nIand1, nIand3, nIand7, nIand31, nIshr, nIle, nIlt, nIeq, nIc, vpI, nIm1, m1nI, m1lt, nIlm, m1le, nIlem, nIneg, u2_ss, u2_nn, u2_kk] at c1) <;> (first | omega | exact absurd rfl c1 | exact absurd trivial c1)
        | succ n ih =>
          intro i hn hi
          have ho := opp_le a w v i
          have s1 := wS_le hW hw i
          have s2 := wS_le hW hv i
          refine RX12_quarrel_61  ⟨fun c1 => ⟨fun c2 => ?_, fun c2 => ?_⟩, fun c1 => ?_⟩
          · (try simp (disch := omega) only [nlit, natrem, nIrm, nIam, nIam',  nI_add, pk_mul, nIsub, nIrem, nIdiv, nIand1, nIand3, nIand7, nIand31, nIshr, nIle, nIlt, nIeq, nIc, vpI, nIm1, m1nI, m1lt, nIlm, m1le, nIlem, nIneg, u2_ss, u2_nn, u2_kk] at c1 c2); (try simp (disch := omega) only [nlit, natrem, nIrm, nIam, nIam',  nI_add, pk_mul, nIsub, nIrem, nIdiv, nIand1, nIand3, nIand7, nIand31, nIshr, nIle, nIlt, nIeq, nIc, vpI, nIm1, m1nI, m1lt, nIlm, m1le, nIlem, nIneg, u2_ss, u2_nn, u2_kk])
            omega
          · (try simp (disch := omega) only [nlit, natrem, nIrm, nIam, nIam',  nI_add, pk_mul, nIsub, nIrem, nIdiv, nIand1, nIand3, nIand7, nIand31, nIshr, nIle, nIlt, nIeq, nIc, vpI, nIm1, m1nI, m1lt, nIlm, m1le, nIlem, nIneg, u2_ss, u2_nn, u2_kk] at c1 c2); (try simp (disch := omega) only [nlit, natrem, nIrm, nIam, nIam',  nI_add, pk_mul, nIsub, nIrem, nIdiv, nIand1, nIand3, nIand7, nIand31, nIshr, nIle, nIlt, nIeq, nIc, vpI, nIm1, m1nI, m1lt, nIlm, m1le, nIlem, nIneg, u2_ss, u2_nn, u2_kk])
            omega
          · (try simp (disch := omega) only [nlit, natrem, nIrm, nIam, nIam',  nI_add, pk_mul, nIsub, nIrem, nIdiv, nIand1, nIand3, nIand7, nIand31, nIshr, nIle, nIlt, nIeq, nIc, vpI, nIm1, m1nI, m1lt, nIlm, m1le, nIlem, nIneg, u2_ss, u2_nn, u2_kk] at c1); (try simp (disch := omega) only [nlit, natrem, nIrm, nIam, nIam',  nI_add, pk_mul, nIsub, nIrem, nIdiv, nIand1, nIand3, nIand7, nIand31, nIshr, nIle, nIlt, nIeq, nIc, vpI, nIm1, m1nI, m1lt, nIlm, m1le, nIlem, nIneg, u2_ss, u2_nn, u2_kk])
            refine stepOf_ok hM hW hw (by omega) (RX12_quarrel_74 (stepOf_ok hM hW hv (by omega) ?_))
            refine RX12_quarrel_83  ⟨fun c1 => ⟨fun c2 => ?_, fun c2 => ⟨fun c3 => ?_, fun c3 => ?_⟩⟩, fun c1 => ⟨fun c2 => ?_, fun c2 => ?_⟩⟩
            · (try simp (disch := omega) only [nlit, natrem, nIrm, nIam, nIam',  nI_add, pk_mul, nIsub, nIrem, nIdiv, nIand1, nIand3, nIand7, nIand31, nIshr, nIle, nIlt, nIeq, nIc, vpI, nIm1, m1nI, m1lt, nIlm, m1le, nIlem, nIneg, u2_ss, u2_nn, u2_kk, Nat.add_zero] at c1 c2); (try simp (disch := omega) only [nlit, natrem, nIrm, nIam, nIam',  nI_add, pk_mul, nIsub, nIrem, nIdiv, nIand1, nIand3, nIand7, nIand31, nIshr, nIle, nIlt, nIeq, nIc, vpI, nIm1, m1nI, m1lt, nIlm, m1le, nIlem, nIneg, u2_ss, u2_nn, u2_kk, Nat.add_zero])
              have e : opp a w v (i + 1) = opp a w v i := by show opp a w v i + (if _ then 1 else 0) = _; rw [if_neg (by omega)]; rfl
              rw [← e]
              exact ih (i + 1) (by omega) (by omega)
            · (try simp (disch := omega) only [nlit, natrem, nIrm, nIam, nIam',  nI_add, pk_mul, nIsub, nIrem, nIdiv, nIand1, nIand3, nIand7, nIand31, nIshr, nIle, nIlt, nIeq, nIc, vpI, nIm1, m1nI, m1lt, nIlm, m1le, nIlem, nIneg, u2_ss, u2_nn, u2_kk, Nat.add_zero] at c1 c2 c3); (try simp (disch := omega) only [nlit, natrem, nIrm, nIam, nIam',  nI_add, pk_mul, nIsub, nIrem, nIdiv, nIand1, nIand3, nIand7, nIand31, nIshr, nIle, nIlt, nIeq, nIc, vpI, nIm1, m1nI, m1lt, nIlm, m1le, nIlem, nIneg, u2_ss, u2_nn, u2_kk, Nat.add_zero])
              have e : opp a w v (i + 1) = opp a w v i := by show opp a w v i + (if _ then 1 else 0) = _; rw [if_neg (by omega)]; rfl
              rw [← e]
              exact ih (i + 1) (by omega) (by omega)
            · (try simp (disch := omega) only [nlit, natrem, nIrm, nIam, nIam',  nI_add, pk_mul, nIsub, nIrem, nIdiv, nIand1, nIand3, nIand7, nIand31, nIshr, nIle, nIlt, nIeq, nIc, vpI, nIm1, m1nI, m1lt, nIlm, m1le, nIlem, nIneg, u2_ss, u2_nn, u2_kk, Nat.add_zero] at c1 c2 c3); (try simp (disch := omega) only [nlit, natrem, nIrm, nIam, nIam',  nI_add, pk_mul, nIsub, nIrem, nIdiv, nIand1, nIand3, nIand7, nIand31, nIshr, nIle, nIlt, nIeq, nIc, vpI, nIm1, m1nI, m1lt, nIlm, m1le, nIlem, nIneg, u2_ss, u2_nn, u2_kk, Nat.add_zero])
              have e : opp a w v (i + 1) = opp a w v i + 1 := by show opp a w v i + (if _ then 1 else 0) = _; rw [if_pos (by omega)]
              rw [← e]
              exact ih (i + 1) (by omega) (by omega)
            · (try simp (disch := omega) only [nlit, natrem, nIrm, nIam, nIam',  nI_add, pk_mul, nIsub, nIrem, nIdiv, nIand1, nIand3, nIand7, nIand31, nIshr, nIle, nIlt, nIeq, nIc, vpI, nIm1, m1nI, m1lt, nIlm, m1le, nIlem, nIneg, u2_ss, u2_nn, u2_kk, Nat.add_zero] at c1 c2); (try simp (disch := omega) only [nlit, natrem, nIrm, nIam, nIam',  nI_add, pk_mul, nIsub, nIrem, nIdiv, nIand1, nIand3, nIand7, nIand31, nIshr, nIle, nIlt, nIeq, nIc, vpI, nIm1, m1nI, m1lt, nIlm, m1le, nIlem, nIneg, u2_ss, u2_nn, u2_kk, Nat.add_zero])
              have e : opp a w v (i + 1) = opp a w v i + 1 := by show opp a w v i + (if _ then 1 else 0) = _; rw [if_pos (by omega)]
              rw [← e]
              exact ih (i + 1) (by omega) (by omega)
            · (try simp (disch := omega) only [nlit, natrem, nIrm, nIam, nIam',  nI_add, pk_mul, nIsub, nIrem, nIdiv, nIand1, nIand3, nIand7, nIand31, nIshr, nIle, nIlt, nIeq, nIc, vpI, nIm1, m1nI, m1lt, nIlm, m1le, nIlem, nIneg, u2_ss, u2_nn, u2_kk, Nat.add_zero] at c1 c2); (try simp (disch := omega) only [nlit, natrem, nIrm, nIam, nIam',  nI_add, pk_mul, nIsub, nIrem, nIdiv, nIand1, nIand3, nIand7, nIand31, nIshr, nIle, nIlt, nIeq, nIc, vpI, nIm1, m1nI, m1lt, nIlm, m1le, nIlem, nIneg, u2_ss, u2_nn, u2_kk, Nat.add_zero])
              have e : opp a w v (i + 1) = opp a w v i := by show opp a w v i + (if _ then 1 else 0) = _; rw [if_neg (by omega)]; rfl
              rw [← e]
              exact ih (i + 1) (by omega) (by omega)
      refine RX12_quarrel_18  ⟨fun c1 => ?_, fun c1 => ⟨fun c2 => ?_, fun c2 => ?_⟩⟩
      · (try simp (disch := omega) only [nlit, natrem, nIrm, nIam, nIam',  nI_add, pk_mul, nIsub, nIrem, nIdiv, nIand1, nIand3, nIand7, nIand31, nIshr, nIle, nIlt, nIeq, nIc, vpI, nIm1, m1nI, m1lt, nIlm, m1le, nIlem, nIneg, u2_ss, u2_nn, u2_kk] at c1) <;> (first | omega | exact absurd rfl c1 | exact absurd trivial c1)
      · (try simp (disch := omega) only [nlit, natrem, nIrm, nIam, nIam',  nI_add, pk_mul, nIsub, nIrem, nIdiv, nIand1, nIand3, nIand7, nIand31, nIshr, nIle, nIlt, nIeq, nIc, vpI, nIm1, m1nI, m1lt, nIlm, m1le, nIlem, nIneg, u2_ss, u2_nn, u2_kk] at c1 c2); (try simp (disch := omega) only [nlit, natrem, nIrm, nIam, nIam',  nI_add, pk_mul, nIsub, nIrem, nIdiv, nIand1, nIand3, nIand7, nIand31, nIshr, nIle, nIlt, nIeq, nIc, vpI, nIm1, m1nI, m1lt, nIlm, m1le, nIlem, nIneg, u2_ss, u2_nn, u2_kk])
        refine lengthOf_ok hM hW hw (RX12_quarrel_33 (lengthOf_ok hM hW hv ?_))
        refine RX12_quarrel_38  ⟨fun c1 => ?_, fun c1 => ?_⟩
        · (try simp (disch := omega) only [nlit, natrem, nIrm, nIam, nIam',  nI_add, pk_mul, nIsub, nIrem, nIdiv, nIand1, nIand3, nIand7, nIand31, nIshr, nIle, nIlt, nIeq, nIc, vpI, nIm1, m1nI, m1lt, nIlm, m1le, nIlem, nIneg, u2_ss, u2_nn, u2_kk] at c1); (try simp (disch := omega) only [nlit, natrem, nIrm, nIam, nIam',  nI_add, pk_mul, nIsub, nIrem, nIdiv, nIand1, nIand3, nIand7, nIand31, nIshr, nIle, nIlt, nIeq, nIc, vpI, nIm1, m1nI, m1lt, nIlm, m1le, nIlem, nIneg, u2_ss, u2_nn, u2_kk])
          refine lengthOf_ok hM hW hv (RX12_quarrel_54 ?_)
          have := hlp _ 0 rfl (Nat.zero_le _)
          rw [Nat.min_eq_right (by omega)] at this
          exact this
        · (try simp (disch := omega) only [nlit, natrem, nIrm, nIam, nIam',  nI_add, pk_mul, nIsub, nIrem, nIdiv, nIand1, nIand3, nIand7, nIand31, nIshr, nIle, nIlt, nIeq, nIc, vpI, nIm1, m1nI, m1lt, nIlm, m1le, nIlem, nIneg, u2_ss, u2_nn, u2_kk] at c1); (try simp (disch := omega) only [nlit, natrem, nIrm, nIam, nIam',  nI_add, pk_mul, nIsub, nIrem, nIdiv, nIand1, nIand3, nIand7, nIand31, nIshr, nIle, nIlt, nIeq, nIc, vpI, nIm1, m1nI, m1lt, nIlm, m1le, nIlem, nIneg, u2_ss, u2_nn, u2_kk])
          refine lengthOf_ok hM hW hw (RX12_quarrel_46 (RX12_quarrel_54 ?_))
          have := hlp _ 0 rfl (Nat.zero_le _)
          rw [Nat.min_eq_left (by omega)] at this
          exact this
      · (try simp (disch := omega) only [nlit, natrem, nIrm, nIam, nIam',  nI_add, pk_mul, nIsub, nIrem, nIdiv, nIand1, nIand3, nIand7, nIand31, nIshr, nIle, nIlt, nIeq, nIc, vpI, nIm1, m1nI, m1lt, nIlm, m1le, nIlem, nIneg, u2_ss, u2_nn, u2_kk] at c1 c2); (try simp (disch := omega) only [nlit, natrem, nIrm, nIam, nIam',  nI_add, pk_mul, nIsub, nIrem, nIdiv, nIand1, nIand3, nIand7, nIand31, nIshr, nIle, nIlt, nIeq, nIc, vpI, nIm1, m1nI, m1lt, nIlm, m1le, nIlem, nIneg, u2_ss, u2_nn, u2_kk])
        subst c2
        rw [opp_self, if_neg (by omega)] at h
        exact h
    · have e : spQuarrel a (nI w) y = nI 0 := by unfold spQuarrel; rw [if_neg (fun w => hn w.2.1)]
      rw [e] at h
      exact RX12_quarrel_18 ⟨fun _ => h, fun w => absurd rfl w⟩
  · have e : spQuarrel a x y = nI 0 := by unfold spQuarrel; rw [if_neg (fun w => hn w.1)]
    rw [e] at h
    exact RX12_quarrel_10 ⟨fun _ => h, fun w => absurd rfl w⟩
