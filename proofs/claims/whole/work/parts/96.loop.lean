theorem pr_send {sx : Sx} {v : Int32} {kc ks : Nat} {I : Ints} {L : Lngs} {R : Rfs} {a : Ce} {lc : List (Nat × Nat)} {lf : Nat → Nat} {gl : Nat → List Nat} {sn : Nat → Nat} {us : List Es} {mk : Mk} {tp : List Nat} (hv : VI sx v) (hC : GC a lc lf gl sn us mk tp I L R) (hM : GM a lc lf gl sn us mk tp I L) (hok : tpOk tp) (hk : kc + 1 ≤ 601024 ∧ ks + 6 ≤ 7293034) (hN : NX sx v (kc + 1) (ks + 6)) : YK 601024 7293034 kc ks mL_law 100 sx 690 (lvw v) [.ref 116, .int (sx.2 (v + 1).toNatClampNeg), .ref 0] I L R Q1 := by
  obtain ⟨⟨c, s, hCC, hs, hsc, h3⟩, hT, hP, hK, hS, hR⟩ := id hC
  have e11 : I c 11 = nI (a 4).val := hCC.2.2.2.2.1.1.2.2.2.2.2
  have h4 := hCC.2.2.1.2.2.2.2.1
  refine X_lsend (d := 90) hCC.1 hCC.2.1 hk.1 hk.2 ?_
  rw [e11]
  refine isOrderC_ok h4 (fun hO => ⟨1, rfl, fun _ => ?_, fun c => absurd c (by decide)⟩) (fun hO => ⟨0, rfl, fun c => absurd rfl c, fun _ => ?_⟩)
  · refine c_sendT hCC hS hO (fun J K T hQ => ⟨_, rfl, ?_⟩)
    obtain ⟨hC2, hM2⟩ := CB.gc hQ hs hsc h3 hC hM
    have hl : Kp Lo K (u2 K 116 0 (spSend a lc gl (sx.2 (v + 1).toNatClampNeg)).toInt64) := Kp.rf.up (by decide)
    have hM3 := hM2.hi (K := u2 K 116 0 (spSend a lc gl (sx.2 (v + 1).toNatClampNeg)).toInt64) Kp.rf (by funext i; exact u2_nn _ _ _ _ (by decide))
    refine RL_law_693 hk ⟨hv.1, m_send hM3.1.1 (fun _ J2 e0 hF => RL_law_705 hk (EX12_thrown (RL_law_711 hk ⟨fun _ => ⟨fun c => absurd rfl c, fun _ => ⟨fun _ => hN _ _ _ _ _ _ _ _ _ _ _ ((hC2.lo Kp.rf hl).lo (fq_lo hF) Kp.rf) (hM3.q hF (fun _ => rfl)) hok, fun c => absurd ?_ c⟩⟩, fun c => absurd e0 c⟩))) (fun hn => absurd hO hn)⟩
    rw [u2_ss, lg_cmp_eq]
  · refine RL_law_693 hk ⟨hv.1, m_send hM.1.1 (fun hy => absurd hy hO) (fun _ J2 e0 hF => RL_law_705 hk (EX12_thrown (RL_law_711 hk ⟨fun _ => ⟨fun _ => hN _ _ _ _ _ _ _ _ _ _ _ (hC.lo (fq_lo hF) Kp.rf) (hM.q hF (fun _ => rfl)) hok, fun c => absurd c (by decide)⟩, fun c => absurd e0 c⟩)))⟩
theorem lp_cnd {l v : Nat} (hl : l ≤ 3584) (hv : v ≤ 3591) : (Int32.ofNat l - 7 < nI v) ↔ l < v + 7 := by
  show (nI l - nI 7 < nI v) ↔ _
  by_cases h : 7 ≤ l
  · rw [nIsub h, nIlt (by omega) (by omega)]
    omega
  · refine ⟨fun _ => by omega, fun _ => ?_⟩
    exact Int32.lt_of_lt_of_le ((nIneg (by decide) (by omega)).mpr trivial) ((nIle (by decide) (by omega)).mpr (Nat.zero_le _))
theorem law_lp {sx : Sx} (hL : sx.1 ≤ 3584) : ∀ (n w kc ks : Nat), sx.1 < w + n → w ≤ 3591 → kc ≤ 117 + w → ks ≤ 37780 + 6 * w → ∀ (a : Ce) (lc : List (Nat × Nat)) (lf : Nat → Nat) (gl : Nat → List Nat) (sn : Nat → Nat) (us : List Es) (mk : Mk) (tp : List Nat) (I : Ints) (L : Lngs) (R : Rfs), GC a lc lf gl sn us mk tp I L R → GM a lc lf gl sn us mk tp I L → tpOk tp → YK 601024 7293034 kc ks mL_law 100 sx 23 (lvw (nI w)) [] I L R Q1 := by
  intro n
  induction n with
  | zero =>
    intro w kc ks hn hw h1 h2 a lc lf gl sn us mk tp I L R hC hM hok
    exact RL_law_23 ⟨by omega, by omega⟩ ⟨fun _ => rfl, fun c => absurd ((lp_cnd hL hw).mpr (by omega)) c⟩
  | succ n ih =>
    intro w kc ks hn hw h1 h2 a lc lf gl sn us mk tp I L R hC hM hok
    have hk : kc ≤ 601024 ∧ ks ≤ 7293034 := ⟨by omega, by omega⟩
    have hk2 : kc + 1 ≤ 601024 ∧ ks + 6 ≤ 7293034 := ⟨by omega, by omega⟩
    refine RL_law_23 hk ⟨fun _ => rfl, fun c => ?_⟩
    have c : w + 7 ≤ sx.1 := by
      rcases Nat.lt_or_ge sx.1 (w + 7) with h | h
      · exact absurd ((lp_cnd hL hw).mpr h) c
      · exact h
    have hv : VI sx (nI w) := by
      unfold VI
      have e1 : nI w + 1 = nI (w + 1) := nI_add w 1
      have e2 : nI w + 2 = nI (w + 2) := nI_add w 2
      have e3 : nI w + 3 = nI (w + 3) := nI_add w 3
      have e4 : nI w + 4 = nI (w + 4) := nI_add w 4
      have e5 : nI w + 5 = nI (w + 5) := nI_add w 5
      have e6 : nI w + 6 = nI (w + 6) := nI_add w 6
      rw [e1, e2, e3, e4, e5, e6, vpI (by omega), vpI (by omega), vpI (by omega), vpI (by omega), vpI (by omega), vpI (by omega)]
      omega
    have e7 : nI w + 7 = nI (w + 7) := nI_add w 7
    have hN : NX sx (nI w) kc ks := fun a lc lf gl sn us mk tp J K T x y z => by
      rw [e7]
      exact ih (w + 7) kc ks (by omega) (by omega) (by omega) (by omega) a lc lf gl sn us mk tp J K T x y z
    have hN2 : NX sx (nI w) (kc + 1) (ks + 6) := fun a lc lf gl sn us mk tp J K T x y z => by
      rw [e7]
      exact ih (w + 7) (kc + 1) (ks + 6) (by omega) (by omega) (by omega) (by omega) a lc lf gl sn us mk tp J K T x y z
    exact ⟨(vpI (by omega)).mpr (by omega), ⟨fun _ => ⟨hv.1, hv.2.1, hv.2.2.1, hv.2.2.2.1, hv.2.2.2.2.1, hv.2.2.2.2.2, pr_feed hk hv hN hC hM hok⟩, fun _ => ⟨fun _ => pr_cellar hk hv hN hC hM hok, fun _ => ⟨fun _ => ⟨hv.1, hv.2.1, pr_step hk hv hN hC hM hok⟩, fun _ => ⟨fun _ => ⟨hv.1, hv.2.1, pr_wine hk hv hN hC hM hok⟩, fun _ => ⟨fun _ => ⟨hv.1, hv.2.1, pr_guest hk hv hN hC hM hok⟩, fun _ => ⟨fun _ => ⟨hv.1, hv.2.1, pr_glass hk hv hN hC hM hok⟩, fun _ => ⟨fun _ => ⟨hv.1, hv.2.1, pr_pour hk hv hN hC hM hok⟩, fun _ => ⟨fun _ => ⟨hv.1, pr_water hk hv hN hC hM hok⟩, fun _ => ⟨fun _ => pr_undo hk hv hN hC hM hok, fun _ => ⟨fun _ => ⟨hv.1, hv.2.1, pr_walk hk hv hN hC hM hok⟩, fun _ => ⟨fun _ => ⟨hv.1, hv.2.1, hv.2.2.1, pr_ball hk hv hN hC hM hok⟩, fun _ => ⟨fun _ => ⟨hv.1, hv.2.1, hv.2.2.1, hv.2.2.2.1, pr_fewest hk hv hN hC hM hok⟩, fun _ => ⟨fun _ => ⟨hv.1, pr_send hv hC hM hok hk2 hN2⟩, fun _ => ⟨fun _ => ⟨hv.1, pr_best hk hv hN hC hM hok⟩, fun _ => ⟨fun _ => ⟨hv.1, hv.2.1, hv.2.2.1, hv.2.2.2.1, pr_served hk hv hN hC hM hok⟩, fun _ => ⟨fun _ => ⟨hv.1, hv.2.1, hv.2.2.1, hv.2.2.2.1, hv.2.2.2.2.1, hv.2.2.2.2.2, pr_row hk hv hN hC hM hok⟩, fun _ => ⟨fun _ => ⟨hv.1, pr_couples hk hv hN hC hM hok⟩, fun _ => ⟨fun _ => ⟨hv.1, hv.2.1, pr_quarrel hk hv hN hC hM hok⟩, fun _ => ⟨fun _ => ⟨hv.1, pr_found hk hv hN hC hM hok⟩, fun _ => ⟨fun _ => ⟨hv.1, hv.2.1, hv.2.2.1, pr_see hk hv hN hC hM hok⟩, fun _ => ⟨fun _ => ⟨hv.1, pr_read hk hv hN hC hM hok⟩, fun _ => ⟨fun _ => ⟨hv.1, hv.2.1, pr_dance hk hv hN hC hM hok⟩, fun _ => ⟨fun _ => ⟨hv.1, hv.2.1, fun z => pr_mark0 hk hv hN hC hM hok rfl z, fun z => pr_mark1 hk hv hN hC hM hok rfl z⟩, fun _ => ⟨fun _ => ⟨hv.1, pr_count hk hv hN hC hM hok⟩, fun _ => hN _ _ _ _ _ _ _ _ _ _ _ hC hM hok⟩⟩⟩⟩⟩⟩⟩⟩⟩⟩⟩⟩⟩⟩⟩⟩⟩⟩⟩⟩⟩⟩⟩⟩⟩
theorem hal_wf : WFc (aHal 2 2) := by
  have xn : ∀ k, 2 ≤ k → (aHal 2 2 k).val = 0 := fun k hk => by unfold aHal; rw [ua_n (by omega), ua_n (by omega)]; rfl
  have x2 := xn 2 (by omega)
  have x3 := xn 3 (by omega)
  have x4 := xn 4 (by omega)
  exact ⟨by decide, by decide, by omega, by omega, by omega, by rw [xn 5 (by omega)]; decide, fun c hc => by rw [xn _ (by omega)]; decide, fun d' hd' => by omega, fun w' hw' => by omega, fun g hg => by omega, fun w' _ _ => xn _ (by omega)⟩
theorem st_98 : ∀ k, k < 204 → k ≠ 6 → I1 98 k = nI (aHal 2 2 k).val := by decide +kernel
theorem st_wd : ∀ w, w < 28 → L1 97 w = lN (pk 37 96 (wds.getD w [])) := by decide +kernel
theorem st_cl : ∀ k, k < 64 → bL (L1 2 2) k = clP (aHal 2 2) k := by decide +kernel
theorem st_e : ∀ w, w < 6 → I1 34 w = nI 0 ∧ I1 35 w = nI 0 ∧ I1 37 w = -1 ∧ I1 106 w = nI 0 ∧ I1 106 (6 + 7 * w) = nI 0 ∧ I1 106 (48 + w) = -1 := by decide +kernel
theorem st_m : ∀ m, m < 4 → I1 41 m = nI 0 ∧ I1 107 m = nI 0 := by decide +kernel
theorem st_x : I1 2 0 = nI 2 ∧ I1 2 1 = nI 2 ∧ I1 2 3 = nI 0 ∧ I1 2 4 = nI 0 ∧ I1 2 7 = nI 0 ∧ I1 2 11 = nI 0 ∧ I1 11 1 = nI 0 ∧ I1 0 1 = nI 0 ∧ I1 38 1 = nI 0 ∧ I1 56 0 = nI 0 ∧ I1 48 3 = nI 0 ∧ I1 98 6 = -1 ∧ I1 92 22 = nI 0 ∧ I1 92 2 = nI 0 ∧ R1 0 2 = some 2 ∧ R1 0 3 = some 14 := by decide +kernel
theorem st_f : FcM I1 := by unfold FcM; decide +kernel
theorem st_WFe : WFe (aHal 2 2) (fun _ => 0) (fun _ => []) (fun _ => 0) := ⟨fun _ _ => Nat.zero_le _, fun _ _ => ⟨Nat.zero_le _, fun i hi => absurd hi (Nat.not_lt_zero _)⟩, fun _ _ => Nat.zero_le _, fun _ _ _ => rfl, fun _ _ _ => ⟨rfl, rfl⟩⟩
theorem st_C : GC (aHal 2 2) [] (fun _ => 0) (fun _ => []) (fun _ => 0) [] (fun _ => none) [] I1 L1 R1 := by
  have xn : ∀ k, 2 ≤ k → (aHal 2 2 k).val = 0 := fun k hk => by unfold aHal; rw [ua_n (by omega), ua_n (by omega)]; rfl
  have x2 := xn 2 (by omega)
  have x3 := xn 3 (by omega)
  have x4 := xn 4 (by omega)
  have x5 := xn 5 (by omega)
  obtain ⟨y0, y1, y3, y4, y7, y11, z1, z2, z3, z4, z5, -, -, -, z8, z9⟩ := st_x
  refine ⟨⟨2, 14, ⟨Or.inl rfl, z8, hal_wf, st_WFe, ⟨⟨y0, y1, by rw [x5]; exact y3, by rw [x2]; exact y4, by rw [x3]; exact y7, by rw [x4]; exact y11⟩, st_cl, fun d hd => by omega, fun w hw => by omega, fun g hg => by omega, z1, trivial, by decide, fun h => absurd rfl h⟩, ⟨fun w hw => (st_e w hw).1, fun g hg => ⟨(st_e g hg).2.1, ALo.nil⟩, fun g hg => (st_e g hg).2.2.1⟩, fun g hg => by omega⟩, Or.inr rfl, by decide, z9⟩, ⟨z2, ALo.nil⟩, ⟨z3, Nat.zero_le _, trivial⟩, fun m hm => Or.inl ⟨rfl, (st_m m hm).1⟩, Or.inl z4, Or.inl z5⟩
theorem st_M : GM (aHal 2 2) [] (fun _ => 0) (fun _ => []) (fun _ => 0) [] (fun _ => none) [] I1 L1 := by
  obtain ⟨-, -, -, -, -, -, -, -, -, -, -, w1, w2, w3, -, -⟩ := st_x
  refine ⟨⟨⟨hal_wf, st_WFe, st_98, Or.inl ⟨rfl, w1⟩, ⟨fun w hw => by rw [Nat.zero_add]; exact (st_e w hw).2.2.2.1, fun g hg => ⟨by rw [Nat.zero_add]; exact (st_e g hg).2.2.2.2.1, fun i hi => absurd hi (Nat.not_lt_zero _)⟩⟩, fun g hg => by rw [Nat.zero_add]; exact (st_e g hg).2.2.2.2.2⟩, (fun p hp => nomatch hp), (fun m hm e he => nomatch he), ⟨w2, Nat.zero_le _, trivial⟩, fun m hm => Or.inl ⟨rfl, (st_m m hm).2⟩⟩, st_wd, st_f, w3, ALo.nil⟩
theorem law_loop {L : Nat} {xs : Nat → Int32} (hL : L ≤ 3584) : YK 601024 7293034 117 37780 mL_law (90 + 10) (L, xs) 23 [(0, .retAddr 0), (1, .ref 0), (2, .ref 92), (3, .ref 116), (4, .int 0)] [] I1 L1 R1 (fun r _ _ _ => r = some (.int 1)) :=
  law_lp (sx := (L, xs)) hL 3585 0 117 37780 (by show L < 0 + 3585; omega) (by decide) (by decide) (by decide) _ _ _ _ _ _ _ _ _ _ _ st_C st_M ⟨Nat.zero_le _, fun x hx => nomatch hx⟩
