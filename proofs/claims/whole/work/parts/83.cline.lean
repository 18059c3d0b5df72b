/-! the class reads lines -/
theorem wordR_o {d : Nat} {sx : Sx} {I : Ints} {L : Lngs} {R : Rfs} {q : Q3} {ts : List Tk} {N i s : Nat} (hB : RB ts N I L) (h2 : I 26 2 = nI i) (hi : i ≤ N) (hs : s < 100) (hs3 : s ≠ 33) (ht : ∀ J, sK ts i = s → (∀ f, wrd ts s i f = f) → i + 1 ≤ N → J 26 2 = nI (i + 1) → J 26 10 = I 26 10 → J 26 11 = I 26 11 → R26 I J → q (some (.int 1)) J L R) (hf : ∀ v J, (∀ f, wrd ts s i f = .inl v) → flt I J v → q (some (.int 0)) J L R) : E0 mX5_word (d + 3) sx [.ref 26, .int (nI s)] I L R q :=
  wordR_ok hB h2 hi hs (fun e hf => ht _ e hf (lt_N hB.2.1 hi (by omega)) (u2_ss _ _ _ _) (u2_kk _ _ _ _ (by decide)) (u2_kk _ _ _ _ (by decide)) (R26.rf.u (by omega))) hf
theorem numberR_o {d : Nat} {sx : Sx} {I : Ints} {L : Lngs} {R : Rfs} {q : Q3} {ts : List Tk} {N i lo hi : Nat} (hB : RB ts N I L) (h2 : I 26 2 = nI i) (hil : i ≤ N) (hlo : lo < 10000) (hhi : hi < 10000) (ht : ∀ J, sK ts i = 31 → lo ≤ vK ts i ∧ vK ts i ≤ hi → (∀ f, nmb ts lo hi i f = f (vK ts i)) → i + 1 ≤ N → J 26 2 = nI (i + 1) → J 26 10 = nI (vK ts i) → J 26 11 = I 26 11 → R26 I J → q (some (.int 1)) J L R) (hf : ∀ v J, (∀ f, nmb ts lo hi i f = .inl v) → flt I J v → q (some (.int 0)) J L R) : E0 mX5_number (d + 3) sx [.ref 26, .int (nI lo), .int (nI hi)] I L R q :=
  numberR_ok hB h2 hil hlo hhi (fun e hv hf => ht _ e hv hf (lt_N hB.2.1 hil (by omega)) (u2_ss _ _ _ _) (by rw [u2_kk _ _ _ _ (by decide), u2_ss]) (by rw [u2_kk _ _ _ _ (by decide), u2_kk _ _ _ _ (by decide)]) ((R26.rf.u (by omega)).u (by omega))) hf
def PsC (ts : List Tk) (N c i : Nat) (a : Ce) (nm : Nm) (dn : List (List Nat)) (hc : Bool) (lc : Cd) (I : Ints) (L : Lngs) (R : Rfs) : Prop :=
  RB ts N I L ∧ (isCel c ∧ R 26 1 = some c) ∧ I 26 2 = nI i ∧ I 26 3 = nI 0 ∧ NmC nm I L ∧ (∀ d, d < dn.length → L 32 d = lN (pk 256 0 (dn.getD d []))) ∧ (I 26 8 = if hc = true then nI 1 else nI 0) ∧ (I 26 9 = if lc = [] then nI 0 else nI 1) ∧ (∀ x, x < 64 → bL (L 26 7) x = (List.range (a 4).val).any (fun g => decide ((gC a g).val = x))) ∧ CelC a lc c I L
def RdF (c : Nat) (I J : Ints) (L K : Lngs) : Prop := Kp (fun k => k ≠ 26 ∧ ¬ (c ≤ k ∧ k ≤ c + 11)) I J ∧ Kp (fun k => k ≠ 26 ∧ k ≠ 31 ∧ k ≠ 32 ∧ k ≠ c) L K
theorem RdF.rf {c : Nat} {I : Ints} {L : Lngs} : RdF c I I L L := ⟨Kp.rf, Kp.rf⟩
theorem RdF.tr {c : Nat} {I J M : Ints} {L K O : Lngs} (h : RdF c I J L K) (h2 : RdF c J M K O) : RdF c I M L O := ⟨h.1.tr h2.1, h.2.tr h2.2⟩
theorem RdF.k {c : Nat} {I J : Ints} {L : Lngs} (h : Kp (fun k => k ≠ 26) I J) : RdF c I J L L := ⟨h.mn (fun _ hk => hk.1), Kp.rf⟩
theorem any_up {a b : Ce} (h4 : b 4 = a 4) (h : ∀ g, g < (a 4).val → gC b g = gC a g) (x : Nat) : (List.range (b 4).val).any (fun g => decide ((gC b g).val = x)) = (List.range (a 4).val).any (fun g => decide ((gC a g).val = x)) := by
  rw [h4, Bool.eq_iff_iff, List.any_eq_true, List.any_eq_true]
  constructor
  · rintro ⟨g, hg, e⟩
    exact ⟨g, hg, by rw [← h g (List.mem_range.mp hg)]; exact e⟩
  · rintro ⟨g, hg, e⟩
    exact ⟨g, hg, by rw [h g (List.mem_range.mp hg)]; exact e⟩
theorem CelC.pil {a : Ce} {lc : Cd} {c : Nat} {I : Ints} {L : Lngs} (hC : CelC a lc c I L) (hW : WFc a) {x : Nat} (hx : x < 64) {m : Int64} (hm : ∀ k, k < 64 → bL m k = (bL (L c 2) k || decide (k = x))) : CelC (up1 a (7 + x) 1) lc c I (u2 L c 2 m) := by
  have w2 := hW.2.2.1
  have w3 := hW.2.2.2.1
  have w4 := hW.2.2.2.2.1
  have e2 : up1 a (7 + x) 1 2 = a 2 := ua_n (by omega)
  have e3 : up1 a (7 + x) 1 3 = a 3 := ua_n (by omega)
  have e4 : up1 a (7 + x) 1 4 = a 4 := ua_n (by omega)
  refine hC.grow hW ?_ (fun k hk => ?_) (fun d hd => ⟨⟨u_dL (by omega), fun s hs => u_dS (by omega)⟩, rfl, fun _ _ => rfl⟩) (fun d h1 h2 => by rw [e2] at h2; omega) (fun w hw => ⟨⟨u_wG (by omega), u_wM (by omega), fun k hk => ⟨u_wD (by omega), u_wT (by omega)⟩⟩, rfl, rfl, fun _ _ => rfl⟩) (fun w h1 h2 => by rw [e3] at h2; omega) (fun g hg => ⟨⟨u_gK (by omega), u_gC (by omega), u_gW (by omega), u_gA (by omega)⟩, rfl, rfl, rfl⟩) (fun g h1 h2 => by rw [e4] at h2; omega) hC.2.2.2.2.2
  · rw [e2, e3, e4, ua_n (show 0 ≠ 7 + x by omega), ua_n (show 1 ≠ 7 + x by omega), ua_n (show 5 ≠ 7 + x by omega)]
    exact hC.1
  · rw [u2_ss, hm k hk, hC.2.1 k hk]
    unfold clP
    by_cases e : k = x
    · subst e
      rw [up1_s]
      simp
    · rw [ua_n (by omega)]
      simp [e]
theorem CelC.car {a : Ce} {lc : Cd} {c : Nat} {I J : Ints} {L : Lngs} (hC : CelC a lc c I L) (hW : WFc a) {x : Nat} (hx : x < 64) (hJ : ∀ k, c < k → k ≤ c + 10 → J k = I k) (h0 : ∀ i, i ≠ 3 → J c i = I c i) (h3 : J c 3 = nI x) : CelC (up1 a 5 (fi x)) lc c J L := by
  have w2 := hW.2.2.1
  have w3 := hW.2.2.2.1
  have w4 := hW.2.2.2.2.1
  have e2 : up1 a 5 (fi x) 2 = a 2 := ua_n (by omega)
  have e3 : up1 a 5 (fi x) 3 = a 3 := ua_n (by omega)
  have e4 : up1 a 5 (fi x) 4 = a 4 := ua_n (by omega)
  refine hC.grow hW ?_ (fun k hk => ?_) (fun d hd => ⟨⟨u_dL (by omega), fun s hs => u_dS (by omega)⟩, by rw [hJ _ (by omega) (by omega)], fun _ _ => by rw [hJ _ (by omega) (by omega)]⟩) (fun d h1 h2 => by rw [e2] at h2; omega) (fun w hw => ⟨⟨u_wG (by omega), u_wM (by omega), fun k hk => ⟨u_wD (by omega), u_wT (by omega)⟩⟩, by rw [hJ _ (by omega) (by omega)], by rw [hJ _ (by omega) (by omega)], fun _ _ => by rw [hJ _ (by omega) (by omega)]⟩) (fun w h1 h2 => by rw [e3] at h2; omega) (fun g hg => ⟨⟨u_gK (by omega), u_gC (by omega), u_gW (by omega), u_gA (by omega)⟩, by rw [hJ _ (by omega) (by omega)], by rw [hJ _ (by omega) (by omega)], by rw [hJ _ (by omega) (by omega)]⟩) (fun g h1 h2 => by rw [e4] at h2; omega) ?_
  · rw [e2, e3, e4, ua_n (show 0 ≠ 5 by omega), ua_n (show 1 ≠ 5 by omega), up1_s, fi_v (by omega), h0 0 (by decide), h0 1 (by decide), h0 4 (by decide), h0 7 (by decide), h0 11 (by decide)]
    exact ⟨hC.1.1, hC.1.2.1, h3, hC.1.2.2.2⟩
  · rw [hC.2.1 k hk]
    unfold clP
    rw [ua_n (by omega)]
  · obtain ⟨k1, k2, k3⟩ := hC.2.2.2.2.2
    exact ⟨by rw [hJ _ (by omega) (by omega)]; exact k1, cdC.fr (fun i => by rw [hJ _ (by omega) (by omega)]) _ _ k2, k3⟩
theorem CelC.gue {a : Ce} {lc : Cd} {c : Nat} {I J : Ints} {L K : Lngs} (hC : CelC a lc c I L) (hW : WFc a) {kd x wy ag : Nat} (h6 : (a 4).val < 6) (hkd : kd ≤ 4) (hx : x < 64) (hwy : wy ≤ 3) (hag : ag ≤ 99) (hJ : ∀ k, c < k → k ≤ c + 10 → k ≠ c + 6 → k ≠ c + 7 → k ≠ c + 8 → J k = I k) (h0 : ∀ i, i ≠ 11 → J c i = I c i) (h11 : J c 11 = nI ((a 4).val + 1)) (j6 : ∀ g, g < (a 4).val → J (c + 6) g = I (c + 6) g ∧ J (c + 7) g = I (c + 7) g ∧ J (c + 8) g = I (c + 8) g) (n6 : J (c + 6) (a 4).val = nI kd) (n7 : J (c + 7) (a 4).val = nI (x * 4 + wy)) (n8 : J (c + 8) (a 4).val = nI ag) (hK : K c = L c) : CelC (setG a (a 4).val kd x wy ag) lc c J K := by
  have w2 := hW.2.2.1
  have w3 := hW.2.2.2.1
  have xn : ∀ k, k ≠ 4 → (k < 173 + 4 * (a 4).val ∨ 177 + 4 * (a 4).val ≤ k) → setG a (a 4).val kd x wy ag k = a k := fun k h2 hk => by unfold setG; rw [ua_n (by omega), ua_n (by omega), ua_n (by omega), ua_n (by omega), ua_n (by omega)]
  have e2 := xn 2 (by omega) (by omega)
  have e3 := xn 3 (by omega) (by omega)
  have e4 : (setG a (a 4).val kd x wy ag 4).val = (a 4).val + 1 := by unfold setG; rw [up1_s, fi_v (by omega)]
  refine hC.grow hW ?_ (fun k hk => ?_) (fun d hd => ⟨⟨xn _ (by omega) (by omega), fun s hs => xn _ (by omega) (by omega)⟩, by rw [hJ _ (by omega) (by omega) (by omega) (by omega) (by omega)], fun _ _ => by rw [hJ _ (by omega) (by omega) (by omega) (by omega) (by omega)]⟩) (fun d h1 h2 => by rw [e2] at h2; omega) (fun w hw => ⟨⟨xn _ (by omega) (by omega), xn _ (by omega) (by omega), fun k hk => ⟨xn _ (by omega) (by omega), xn _ (by omega) (by omega)⟩⟩, by rw [hJ _ (by omega) (by omega) (by omega) (by omega) (by omega)], by rw [hJ _ (by omega) (by omega) (by omega) (by omega) (by omega)], fun _ _ => by rw [hJ _ (by omega) (by omega) (by omega) (by omega) (by omega)]⟩) (fun w h1 h2 => by rw [e3] at h2; omega) (fun g hg => ⟨⟨xn _ (by omega) (by omega), xn _ (by omega) (by omega), xn _ (by omega) (by omega), xn _ (by omega) (by omega)⟩, j6 g hg⟩) (fun g h1 h2 => ?_) ?_
  · rw [e2, e3, e4, xn 0 (by omega) (by omega), xn 1 (by omega) (by omega), xn 5 (by omega) (by omega), h0 0 (by decide), h0 1 (by decide), h0 3 (by decide), h0 4 (by decide), h0 7 (by decide), h11]
    exact ⟨hC.1.1, hC.1.2.1, hC.1.2.2.1, hC.1.2.2.2.1, hC.1.2.2.2.2.1, rfl⟩
  · rw [hK, hC.2.1 k hk]
    unfold clP
    rw [xn _ (by omega) (by omega)]
  · rw [e4] at h2
    have eg : g = (a 4).val := by omega
    subst eg
    unfold hom setG
    (try simp (disch := omega) only [ua_n, u_dL, u_dS, u_wG, u_wM, u_wD, u_wT, u_gK, u_gC, u_gW, u_gA, h_dL, h_dS, h_wG, h_wM, h_wD, h_wT, h_gK, h_gC, h_gW, h_gA, up1_s])
    rw [fi_v (by omega), fi_v (by omega), fi_v (by omega), fi_v (by omega), n6, n7, n8, Nat.mul_comm]
    exact ⟨rfl, rfl, rfl⟩
  · obtain ⟨k1, k2, k3⟩ := hC.2.2.2.2.2
    exact ⟨by rw [hJ _ (by omega) (by omega) (by omega) (by omega) (by omega)]; exact k1, cdC.fr (fun i => by rw [hJ _ (by omega) (by omega) (by omega) (by omega) (by omega)]) _ _ k2, k3⟩
theorem pillarLine_ok {d : Nat} {sx : Sx} {I : Ints} {L : Lngs} {R : Rfs} {q : Q3} {ts : List Tk} {N c i : Nat} {a : Ce} {nm : Nm} {dn : List (List Nat)} {hc : Bool} {lc : Cd} (hP : PsC ts N c i a nm dn hc lc I L R) (hW : WFc a) (hi : i + 1 ≤ N)
    (hf : ∀ v J K, lnPil ts i a nm dn hc lc = .inl v → J 26 3 = nI v → RdF c I J L K → q (some (.int 0)) J K R)
    (ht : ∀ i' a' nm' dn' hc' lc' J K, lnPil ts i a nm dn hc lc = .inr (i', a', nm', dn', hc', lc') → PsC ts N c i' a' nm' dn' hc' lc' J K R → RdF c I J L K → q (some (.int 1)) J K R) : E0 mX5_pillarLine (d + 5) sx [.ref 26] I L R q := by
  obtain ⟨hB, ⟨hcl, hR⟩, h2, h3, hNm, hDn, h8, h9, hGc, hC⟩ := hP
  have hc' : c = 2 ∨ c = 14 := hcl
  have hN := hB.2.1.1
  have w4 := hW.2.2.2.2.1
  have w5 := hW.2.2.2.2.2.1
  have hK1 : Kp (fun k => k ≠ 26) I (u2 I 26 2 (nI (i + 1))) := Kp.rf.up (by simp)
  have hgo : ∀ m, (∀ x, x < 64 → bL m x = tak a hc x) → E0 mX5_place (d + 4) sx [.ref 26, .long m] (u2 I 26 2 (nI (i + 1))) L R (fun r J K T => Y mX5_pillarLine (d + 5) sx 49 [(0, .ref 26)] (r.toList ++ []) J K T q) := by
    intro m hm
    refine placeR_ok (a := a) (hB.k hK1) hcl hR (by rw [u2_nn _ _ _ _ (by omega)]; exact hC.1.1) (by rw [u2_nn _ _ _ _ (by omega)]; exact hC.1.2.1) hW.1 hW.2.1 hm (u2_ss _ _ _ _) hi (fun x J hx ek ef hi2 j2 j11 hR26 => ?_) (fun v J ef hJ => ?_)
    · refine RX5_pillarLine_49 hcl hR ⟨fun _ => ?_, fun c => absurd c (by decide)⟩
      rw [j11]
      have hKJ : Kp (fun k => k ≠ 26) I J := hK1.tr hR26.1
      have hm2 : ∀ k, k < 64 → bL ((L c 2) ||| ((1 : Int64) <<< (Int32.toInt64 (nI x) &&& 63))) k = (bL (L c 2) k || decide (k = x)) := fun k hk => by rw [bL_or, bL_one hx hk]
      have hBJ : RB ts N J (u2 L c 2 ((L c 2) ||| ((1 : Int64) <<< (Int32.toInt64 (nI x) &&& 63)))) := hB.fr (hKJ 27 (by decide)) (hKJ 28 (by decide)) (hKJ 29 (by decide)) (by funext j; exact u2_nn _ _ _ _ (by omega))
      have hLf : RdF c I J L (u2 L c 2 ((L c 2) ||| ((1 : Int64) <<< (Int32.toInt64 (nI x) &&& 63)))) := ⟨hKJ.mn (fun _ hk => hk.1), Kp.rf.up (by simp)⟩
      refine wordR_o (s := 59) hBJ j2 (by omega) (by decide) (by decide) (fun J2 es ew hi3 k2 k10 k11 hR2 => ?_) (fun v J2 ew hJ2 => ?_)
      · have hKJ2 : Kp (fun k => k ≠ 26) I J2 := hKJ.tr hR2.1
        have h26 : ∀ k, k ≠ 2 → k ≠ 10 → k ≠ 11 → J2 26 k = I 26 k := fun k a b c => by rw [hR2.2 k a b c, hR26.2 k a b c, u2_kk _ _ _ _ a]
        refine RX5_pillarLine_78 ⟨Or.inr rfl, ht _ _ _ _ _ _ J2 _ (by unfold lnPil; rw [ef, ew]) ⟨hBJ.k hR2.1, ⟨hcl, hR⟩, k2, by rw [h26 3 (by decide) (by decide) (by decide)]; exact h3, ⟨by rw [h26 5 (by decide) (by decide) (by decide)]; exact hNm.1, fun k hk => by rw [u2_nn _ _ _ _ (by omega)]; exact hNm.2 k hk⟩, fun d hd => by rw [u2_nn _ _ _ _ (by omega)]; exact hDn d hd, by rw [h26 8 (by decide) (by decide) (by decide)]; exact h8, by rw [h26 9 (by decide) (by decide) (by decide)]; exact h9, fun y hy => ?_, ?_⟩ (hLf.tr (RdF.k hR2.1))⟩
        · rw [u2_nn _ _ _ _ (by omega), hGc y hy]
          exact (any_up (ua_n (by omega)) (fun g hg => u_gC (by omega)) y).symm
        · exact (hC.pil hW hx hm2).fr (fun k h1 h2 => hKJ2 k (by omega)) rfl
      · exact RX5_pillarLine_78 ⟨Or.inl rfl, hf v J2 _ (by unfold lnPil; rw [ef, ew]) hJ2.1 (hLf.tr (RdF.k hJ2.2))⟩
    · exact RX5_pillarLine_49 hcl hR ⟨fun c => absurd rfl c, fun _ => hf v J L (by unfold lnPil; exact ef _) hJ.1 (RdF.k (hK1.tr hJ.2))⟩
  have hgs : ∀ x, x < 64 → bL (L 26 7) x = (List.range (a 4).val).any (fun g => decide ((gC a g).val = x)) := hGc
  refine EX5_pillarLine hcl hR ⟨fun c1 => ?_, fun c1 => ?_⟩
  · rw [h2, show nI i + 1 = nI (i + 1) from nI_add i 1]
    refine hgo _ (fun x hx => ?_)
    have ehc : hc = false := by
      cases hc with
      | false => rfl
      | true => rw [h8] at c1; exact absurd c1 (by decide)
    rw [bL_or, bL_or, bL_0, hC.2.1 x hx, hgs x hx, ehc]
    rfl
  · rw [h2, show nI i + 1 = nI (i + 1) from nI_add i 1]
    refine hgo _ (fun x hx => ?_)
    have ehc : hc = true := by
      cases hc with
      | true => rfl
      | false => rw [h8] at c1; exact absurd rfl c1
    rw [u2_nn _ _ _ _ (by omega), hC.1.2.2.1, bL_or, bL_or, bL_one w5 hx, hC.2.1 x hx, hgs x hx, ehc]
    unfold tak
    congr 2
    rw [Bool.true_and]
    exact decide_eq_decide.mpr ⟨fun e => e.symm, fun e => e.symm⟩
theorem carriageLine_ok {d : Nat} {sx : Sx} {I : Ints} {L : Lngs} {R : Rfs} {q : Q3} {ts : List Tk} {N c i : Nat} {a : Ce} {nm : Nm} {dn : List (List Nat)} {hc : Bool} {lc : Cd} (hP : PsC ts N c i a nm dn hc lc I L R) (hW : WFc a) (hi : i + 1 ≤ N) (hh : hc = false)
    (hf : ∀ v J K, lnCar ts i a nm dn hc lc = .inl v → J 26 3 = nI v → RdF c I J L K → q (some (.int 0)) J K R)
    (ht : ∀ i' a' nm' dn' hc' lc' J K, lnCar ts i a nm dn hc lc = .inr (i', a', nm', dn', hc', lc') → PsC ts N c i' a' nm' dn' hc' lc' J K R → RdF c I J L K → q (some (.int 1)) J K R) : E0 mX5_carriageLine (d + 5) sx [.ref 26] I L R q := by
  obtain ⟨hB, ⟨hcl, hR⟩, h2, h3, hNm, hDn, h8, h9, hGc, hC⟩ := hP
  have hc' : c = 2 ∨ c = 14 := hcl
  have hN := hB.2.1.1
  have w4 := hW.2.2.2.2.1
  have hK1 : Kp (fun k => k ≠ 26) I (u2 I 26 2 (nI (i + 1))) := Kp.rf.up (by simp)
  refine EX5_carriageLine hcl hR ?_
  rw [h2, show nI i + 1 = nI (i + 1) from nI_add i 1]
  refine placeR_ok (a := a) (tk := clP a) (hB.k hK1) hcl hR (by rw [u2_nn _ _ _ _ (by omega)]; exact hC.1.1) (by rw [u2_nn _ _ _ _ (by omega)]; exact hC.1.2.1) hW.1 hW.2.1 (fun x hx => hC.2.1 x hx) (u2_ss _ _ _ _) hi (fun x J hx ek ef hi2 j2 j11 hR26 => ?_) (fun v J ef hJ => ?_)
  · refine RX5_carriageLine_21 hcl hR ⟨fun _ => ?_, fun c => absurd c (by decide)⟩
    rw [j11]
    have hKJ : Kp (fun k => k ≠ 26) I J := hK1.tr hR26.1
    have hKJ3 : Kp (fun k => k ≠ 26 ∧ k ≠ c) I (u2 (u2 J c 3 (nI x)) 26 8 1) := ((hKJ.mn (fun k hk => hk.1)).up (by simp)).up (by simp)
    have hBJ : RB ts N (u2 (u2 J c 3 (nI x)) 26 8 1) L := hB.fr (hKJ3 27 (by omega)) (hKJ3 28 (by omega)) (hKJ3 29 (by omega)) rfl
    have hLf : RdF c I (u2 (u2 J c 3 (nI x)) 26 8 1) L L := ⟨hKJ3.mn (fun k hk => ⟨hk.1, by omega⟩), Kp.rf⟩
    refine wordR_o (s := 59) hBJ (by rw [u2_kk _ _ _ _ (by decide), u2_nn _ _ _ _ (by omega)]; exact j2) (by omega) (by decide) (by decide) (fun J2 es ew hi3 k2 k10 k11 hR2 => ?_) (fun v J2 ew hJ2 => ?_)
    · have h26 : ∀ k, k ≠ 2 → k ≠ 10 → k ≠ 11 → k ≠ 8 → J2 26 k = I 26 k := fun k a b c0 e => by rw [hR2.2 k a b c0, u2_kk _ _ _ _ e, u2_nn _ _ _ _ (by omega), hR26.2 k a b c0, u2_kk _ _ _ _ a]
      have hk : ∀ k, k ≠ 26 → k ≠ c → J2 k = I k := fun k h1 h2 => (hR2.1 k h1).trans (hKJ3 k ⟨h1, h2⟩)
      refine RX5_carriageLine_48 ⟨Or.inr rfl, ht _ _ _ _ _ _ J2 L (by unfold lnCar; rw [if_neg (by rw [hh]; decide), ef, ew]) ⟨hBJ.k hR2.1, ⟨hcl, hR⟩, k2, by rw [h26 3 (by decide) (by decide) (by decide) (by decide)]; exact h3, ⟨by rw [h26 5 (by decide) (by decide) (by decide) (by decide)]; exact hNm.1, hNm.2⟩, hDn, ?_, by rw [h26 9 (by decide) (by decide) (by decide) (by decide)]; exact h9, fun y hy => ?_, ?_⟩ (hLf.tr (RdF.k hR2.1))⟩
      · rw [hR2.2 8 (by decide) (by decide) (by decide), u2_ss]; rfl
      · rw [hGc y hy]
        exact (any_up (ua_n (by omega)) (fun g hg => u_gC (by omega)) y).symm
      · refine hC.car hW hx (fun k h1 h2 => hk k (by omega) (by omega)) (fun j hj => ?_) ?_
        · rw [hR2.1 c (by omega), u2_nn _ _ _ _ (by omega), u2_kk _ _ _ _ hj, hKJ c (by omega)]
        · rw [hR2.1 c (by omega), u2_nn _ _ _ _ (by omega), u2_ss]
    · exact RX5_carriageLine_48 ⟨Or.inl rfl, hf v J2 L (by unfold lnCar; rw [if_neg (by rw [hh]; decide), ef, ew]) hJ2.1 (hLf.tr (RdF.k hJ2.2))⟩
  · exact RX5_carriageLine_21 hcl hR ⟨fun c => absurd rfl c, fun _ => hf v J L (by unfold lnCar; rw [if_neg (by rw [hh]; decide)]; exact ef _) hJ.1 (RdF.k (hK1.tr hJ.2))⟩
theorem lawLine_ok {d : Nat} {sx : Sx} {I : Ints} {L : Lngs} {R : Rfs} {q : Q3} {ts : List Tk} {N c i : Nat} {a : Ce} {nm : Nm} {dn : List (List Nat)} {hc : Bool} {lc : Cd} (hP : PsC ts N c i a nm dn hc lc I L R) (hW : WFc a) (hi : i + 1 ≤ N) (hh : lc = [])
    (hf : ∀ v J K, lnLaw ts i a nm dn hc lc = .inl v → J 26 3 = nI v → RdF c I J L K → q (some (.int 0)) J K R)
    (ht : ∀ i' a' nm' dn' hc' lc' J K, lnLaw ts i a nm dn hc lc = .inr (i', a', nm', dn', hc', lc') → PsC ts N c i' a' nm' dn' hc' lc' J K R → RdF c I J L K → q (some (.int 1)) J K R) : E0 mX5_lawLine (d + 5) sx [.ref 26] I L R q := by
  obtain ⟨hB, ⟨hcl, hR⟩, h2, h3, hNm, hDn, h8, h9, hGc, hC⟩ := hP
  have hc' : c = 2 ∨ c = 14 := hcl
  have hN := hB.2.1.1
  have hlw := isLaw_c hcl
  subst hh
  refine EX5_lawLine hcl hR ?_
  rw [h2, show nI i + 1 = nI (i + 1) from nI_add i 1]
  have hKa : Kp (fun k => k ≠ 26) I (u2 (u2 I 26 2 (nI (i + 1))) 26 9 1) := (Kp.rf.up (by simp)).up (by simp)
  have hBJ := hB.k hKa
  have h26a : ∀ k, k ≠ 2 → k ≠ 9 → u2 (u2 I 26 2 (nI (i + 1))) 26 9 1 26 k = I 26 k := fun k a b => by rw [u2_kk _ _ _ _ b, u2_kk _ _ _ _ a]
  have e9 : u2 (u2 I 26 2 (nI (i + 1))) 26 9 1 26 9 = nI 1 := u2_ss _ _ _ _
  have hspec : lnLaw ts i a nm dn hc [] = match rgL ts (i + 1) with
    | .inl v => .inl v
    | .inr (j, c) => .inr (j, a, nm, dn, hc, c) := if_neg (fun hh => hh rfl)
  generalize u2 (u2 I 26 2 (nI (i + 1))) 26 9 1 = I1 at hKa hBJ h26a e9
  have hI1 : ∀ k, c ≤ k → k ≤ c + 11 → I1 k = I k := fun k h1 h2 => hKa k (by omega)
  refine build_ok hlw hB.1 hB.2.1 hBJ.2.2 hi (by omega) (by rw [hI1 _ (by omega) (by omega)]; exact hC.2.2.2.2.2.1) (fun k j J er hk1 hk5 hj j5 hK => ?_) (fun j cc J er j5 j1 jc hK => ?_)
  · refine RX5_lawLine_33 hcl hR ⟨fun c0 => ?_, fun _ => ?_⟩
    · exfalso; simp (disch := omega) only [nlit, natrem, nIrm, nIam, nIam',  nI_add, pk_mul, nIsub, nIrem, nIdiv, nIand1, nIand3, nIand7, nIand31, nIshr, nIle, nIlt, nIeq, nIc, vpI, nIm1, m1nI, m1lt, nIlm, m1le, nIlem, nIneg, u2_ss, u2_nn, u2_kk, nIm1n, m1nIn, m1ltn, nIlmn, m1len, nIlemn] at c0; omega
    · rw [j5]
      have hKJ : Kp (fun k => k ≠ 26 ∧ ¬ (c ≤ k ∧ k ≤ c + 11)) I (u2 J 26 2 (nI j)) := ((hKa.mn (fun k hk => hk.1)).tr (hK.mn (fun k hk => ⟨by omega, by omega, by omega⟩))).up (by simp)
      have hBJ2 : RB ts N (u2 J 26 2 (nI j)) L := hB.fr (hKJ 27 ⟨by omega, by omega⟩) (hKJ 28 ⟨by omega, by omega⟩) (hKJ 29 ⟨by omega, by omega⟩) rfl
      refine wrongR_ok hBJ2 (u2_ss _ _ _ _) hj (RX5_lawLine_57 ⟨fun _ => hf _ _ L ?_ (u2_ss _ _ _ _) ⟨hKJ.up (by simp), Kp.rf⟩, fun c => absurd rfl c⟩)
      rw [hspec, er]
  · refine RX5_lawLine_33 hcl hR ⟨fun _ => ?_, fun c0 => absurd rfl c0⟩
    rw [j5]
    obtain ⟨⟨g1, g2, g3⟩, g4, g5⟩ := rgL_ok hB.1 hB.2.1 hi er
    have hKJ : Kp (fun k => k ≠ 26 ∧ LWP (c + 9) k) I (u2 J 26 2 (nI j)) := ((hKa.mn (fun k hk => hk.1)).tr (hK.mn (fun k hk => hk.2))).up (by simp)
    have h26 : ∀ k, k ≠ 2 → u2 J 26 2 (nI j) 26 k = I1 26 k := fun k hk => by rw [u2_kk _ _ _ _ hk, hK 26 ⟨by omega, by omega, by omega⟩]
    refine ht _ _ _ _ _ _ _ L (by rw [hspec, er]) ⟨hB.fr (hKJ 27 ⟨by omega, by omega, by omega, by omega⟩) (hKJ 28 ⟨by omega, by omega, by omega, by omega⟩) (hKJ 29 ⟨by omega, by omega, by omega, by omega⟩) rfl, ⟨hcl, hR⟩, u2_ss _ _ _ _, by rw [h26 3 (by decide), h26a 3 (by decide) (by decide)]; exact h3, ⟨by rw [h26 5 (by decide), h26a 5 (by decide) (by decide)]; exact hNm.1, hNm.2⟩, hDn, by rw [h26 8 (by decide), h26a 8 (by decide) (by decide)]; exact h8, by rw [h26 9 (by decide), e9, if_neg g4], hGc, ?_⟩ ⟨hKJ.mn (fun k hk => ⟨hk.1, by omega, by omega, by omega⟩), Kp.rf⟩
    obtain ⟨k1, k2, k3, k4, k5, k6⟩ := hC
    have hr : ∀ k, c ≤ k → k ≤ c + 8 → u2 J 26 2 (nI j) k = I k := fun k h1 h2 => hKJ k ⟨by omega, by omega, by omega, by omega⟩
    refine ⟨?_, k2, ?_, ?_, ?_, ?_⟩
    · rw [hr c (by omega) (by omega)]; exact k1
    · rw [hr (c + 1) (by omega) (by omega), hr (c + 2) (by omega) (by omega)]; exact k3
    · rw [hr (c + 3) (by omega) (by omega), hr (c + 4) (by omega) (by omega), hr (c + 5) (by omega) (by omega)]; exact k4
    · rw [hr (c + 6) (by omega) (by omega), hr (c + 7) (by omega) (by omega), hr (c + 8) (by omega) (by omega)]; exact k5
    · refine ⟨by rw [u2_nn _ _ _ _ (by omega)]; exact j1, cdC.fr (fun i => by rw [u2_nn _ _ _ _ (by omega)]) _ _ jc, by omega, fun _ => g5⟩
