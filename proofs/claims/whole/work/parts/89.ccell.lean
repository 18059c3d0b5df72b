theorem parse_ok {d : Nat} {sx : Sx} {I : Ints} {L : Lngs} {R : Rfs} {q : Q3} {tp : List Nat} {c : Nat} (hcl : isCel c) (hok : tpOk tp) (hA : ALo I 1 0 tp)
    (hf : ∀ v J K, cellS (toks tp) = .inl v → isF v → Kp (fun k => ¬ (26 ≤ k ∧ k ≤ 29) ∧ ¬ (c ≤ k ∧ k ≤ c + 11)) I J → Kp (fun k => k ≠ 26 ∧ ¬ (30 ≤ k ∧ k ≤ 32) ∧ k ≠ c) L K → q (some (.int (nI v))) J K (u2 R 26 1 (some c)))
    (ht : ∀ i a nm dn hc lc J K, cellS (toks tp) = .inr (i, a, nm, dn, hc, lc) → WFc a → CelC a lc c J K → Kp (fun k => ¬ (26 ≤ k ∧ k ≤ 29) ∧ ¬ (c ≤ k ∧ k ≤ c + 11)) I J → Kp (fun k => k ≠ 26 ∧ ¬ (30 ≤ k ∧ k ≤ 32) ∧ k ≠ c) L K → q (some (.int (nI 0))) J K (u2 R 26 1 (some c))) : E0 mX5_parse (d + 8) sx [.ref 26, .ref 1, .int (nI tp.length), .ref c] I L R q := by
  have hc' : c = 2 ∨ c = 14 := hcl
  have hT := toks_ok hok.1
  have hE := hT.ends
  refine EX5_parse hcl ?_
  refine cut_ok hok.1 (fun x hx => by have := hok.2 x hx; omega) hA (fun J1 L1 hT1 hK1 => ?_)
  refine RX5_parse_9 hcl ?_
  refine EX0_clear hcl ?_
  have hlw := isLaw_c hcl
  refine EX3_clear hlw ?_
  refine RX0_clear_42 ?_
  refine RX5_parse_21 ?_
  have hR : u2 R 26 1 (some c) 26 1 = some c := u2_ss _ _ _ _
  generalize u2 R 26 1 (some c) = R1 at *
  have hTt := hT1
  generalize toks tp = ts at *
  generalize ts.length - 1 = N at *
  -- the start of a reading
  have hI0 : ∃ I0 : Ints, ∃ L0 : Lngs, I0 = (u2 (u2 (u2 (u2 (u2 (u2 (u2 (u2 (u2 (u2 (u2 (u2 J1 c 0 2) c 1 2) c 3 0) c 4 0) c 7 0) c 11 0) (c + 9) 1 0) 26 2 0) 26 3 0) 26 5 0) 26 8 0) 26 9 0) ∧ L0 = u2 (u2 L1 c 2 0) 26 7 0 := ⟨_, _, rfl, rfl⟩
  obtain ⟨I0, L0, eI0, eL0⟩ := hI0
  rw [← eI0, ← eL0]
  have hkI : Kp (fun k => k ≠ 26 ∧ k ≠ c ∧ k ≠ c + 9) J1 I0 := by
    rw [eI0]
    exact (((((((((((((Kp.rf.up (by simp)).up (by simp)).up (by simp)).up (by simp)).up (by simp)).up (by simp)).up (by simp)).up (by simp)).up (by simp)).up (by simp)).up (by simp)).up (by simp)))
  have hkL : Kp (fun k => k ≠ 26 ∧ k ≠ c) L1 L0 := by rw [eL0]; exact (Kp.rf.up (by simp)).up (by simp)
  have z3 : I0 c 3 = nI 0 := by rw [eI0]; simp (disch := omega) only [nlit, natrem, nIrm, nIam, nIam',  nI_add, pk_mul, nIsub, nIrem, nIdiv, nIand1, nIand3, nIand7, nIand31, nIshr, nIle, nIlt, nIeq, nIc, vpI, nIm1, m1nI, m1lt, nIlm, m1le, nIlem, nIneg, u2_ss, u2_nn, u2_kk, nIm1n, m1nIn, m1ltn, nIlmn, m1len, nIlemn]
  have z4 : I0 c 4 = nI 0 := by rw [eI0]; simp (disch := omega) only [nlit, natrem, nIrm, nIam, nIam',  nI_add, pk_mul, nIsub, nIrem, nIdiv, nIand1, nIand3, nIand7, nIand31, nIshr, nIle, nIlt, nIeq, nIc, vpI, nIm1, m1nI, m1lt, nIlm, m1le, nIlem, nIneg, u2_ss, u2_nn, u2_kk, nIm1n, m1nIn, m1ltn, nIlmn, m1len, nIlemn]
  have z7 : I0 c 7 = nI 0 := by rw [eI0]; simp (disch := omega) only [nlit, natrem, nIrm, nIam, nIam',  nI_add, pk_mul, nIsub, nIrem, nIdiv, nIand1, nIand3, nIand7, nIand31, nIshr, nIle, nIlt, nIeq, nIc, vpI, nIm1, m1nI, m1lt, nIlm, m1le, nIlem, nIneg, u2_ss, u2_nn, u2_kk, nIm1n, m1nIn, m1ltn, nIlmn, m1len, nIlemn]
  have z11 : I0 c 11 = nI 0 := by rw [eI0]; simp (disch := omega) only [nlit, natrem, nIrm, nIam, nIam',  nI_add, pk_mul, nIsub, nIrem, nIdiv, nIand1, nIand3, nIand7, nIand31, nIshr, nIle, nIlt, nIeq, nIc, vpI, nIm1, m1nI, m1lt, nIlm, m1le, nIlem, nIneg, u2_ss, u2_nn, u2_kk, nIm1n, m1nIn, m1ltn, nIlmn, m1len, nIlemn]
  have z9 : I0 (c + 9) 1 = nI 0 := by rw [eI0]; simp (disch := omega) only [nlit, natrem, nIrm, nIam, nIam',  nI_add, pk_mul, nIsub, nIrem, nIdiv, nIand1, nIand3, nIand7, nIand31, nIshr, nIle, nIlt, nIeq, nIc, vpI, nIm1, m1nI, m1lt, nIlm, m1le, nIlem, nIneg, u2_ss, u2_nn, u2_kk, nIm1n, m1nIn, m1ltn, nIlmn, m1len, nIlemn]
  have y2 : I0 26 2 = nI 0 := by rw [eI0]; simp (disch := omega) only [nlit, natrem, nIrm, nIam, nIam',  nI_add, pk_mul, nIsub, nIrem, nIdiv, nIand1, nIand3, nIand7, nIand31, nIshr, nIle, nIlt, nIeq, nIc, vpI, nIm1, m1nI, m1lt, nIlm, m1le, nIlem, nIneg, u2_ss, u2_nn, u2_kk, nIm1n, m1nIn, m1ltn, nIlmn, m1len, nIlemn]
  have y3 : I0 26 3 = nI 0 := by rw [eI0]; simp (disch := omega) only [nlit, natrem, nIrm, nIam, nIam',  nI_add, pk_mul, nIsub, nIrem, nIdiv, nIand1, nIand3, nIand7, nIand31, nIshr, nIle, nIlt, nIeq, nIc, vpI, nIm1, m1nI, m1lt, nIlm, m1le, nIlem, nIneg, u2_ss, u2_nn, u2_kk, nIm1n, m1nIn, m1ltn, nIlmn, m1len, nIlemn]
  have y5 : I0 26 5 = nI 0 := by rw [eI0]; simp (disch := omega) only [nlit, natrem, nIrm, nIam, nIam',  nI_add, pk_mul, nIsub, nIrem, nIdiv, nIand1, nIand3, nIand7, nIand31, nIshr, nIle, nIlt, nIeq, nIc, vpI, nIm1, m1nI, m1lt, nIlm, m1le, nIlem, nIneg, u2_ss, u2_nn, u2_kk, nIm1n, m1nIn, m1ltn, nIlmn, m1len, nIlemn]
  have y8 : I0 26 8 = nI 0 := by rw [eI0]; simp (disch := omega) only [nlit, natrem, nIrm, nIam, nIam',  nI_add, pk_mul, nIsub, nIrem, nIdiv, nIand1, nIand3, nIand7, nIand31, nIshr, nIle, nIlt, nIeq, nIc, vpI, nIm1, m1nI, m1lt, nIlm, m1le, nIlem, nIneg, u2_ss, u2_nn, u2_kk, nIm1n, m1nIn, m1ltn, nIlmn, m1len, nIlemn]
  have y9 : I0 26 9 = nI 0 := by rw [eI0]; simp (disch := omega) only [nlit, natrem, nIrm, nIam, nIam',  nI_add, pk_mul, nIsub, nIrem, nIdiv, nIand1, nIand3, nIand7, nIand31, nIshr, nIle, nIlt, nIeq, nIc, vpI, nIm1, m1nI, m1lt, nIlm, m1le, nIlem, nIneg, u2_ss, u2_nn, u2_kk, nIm1n, m1nIn, m1ltn, nIlmn, m1len, nIlemn]
  have yL : L0 26 7 = 0 := by rw [eL0, u2_ss]
  have yP : L0 c 2 = 0 := by rw [eL0, u2_nn _ _ _ _ (by omega), u2_ss]
  have hB : RB ts N I0 L0 := ⟨hT, hE, hTt.fr (hkI 27 ⟨by omega, by omega, by omega⟩) (hkI 28 ⟨by omega, by omega, by omega⟩) (hkI 29 ⟨by omega, by omega, by omega⟩) (hkL 30 ⟨by omega, by omega⟩)⟩
  clear eI0 eL0
  have hFrI : ∀ J K, RdF c I0 J L0 K → Kp (fun k => ¬ (26 ≤ k ∧ k ≤ 29) ∧ ¬ (c ≤ k ∧ k ≤ c + 11)) I J ∧ Kp (fun k => k ≠ 26 ∧ ¬ (30 ≤ k ∧ k ≤ 32) ∧ k ≠ c) L K := fun J K h => ⟨fun k hk => by rw [h.1 k ⟨by omega, hk.2⟩, hkI k ⟨by omega, by omega, by omega⟩, hK1.1 k ⟨by omega, by omega, by omega⟩], fun k hk => by rw [h.2 k ⟨hk.1, by omega, by omega, hk.2.2⟩, hkL k ⟨hk.1, hk.2.2⟩, hK1.2 k (by omega)]⟩
  have hfq : ∀ v J K, cellS ts = .inl v → J 26 3 = nI v → RdF c I0 J L0 K → Y mX5_parse (d + 8) sx 55 [(0, .ref 26)] [.int 0] J K R1 q := by
    intro v J K e h3 hF
    have hv := cellS_f hT e
    refine RX5_parse_55 (RX5_parse_60 ⟨fun c1 => absurd c1 (by decide), fun _ => ⟨fun _ => ?_, fun c2 => absurd rfl c2⟩⟩)
    rw [h3]
    exact hf v J K e hv (hFrI J K hF).1 (hFrI J K hF).2
  -- the lines
  have hlp : ∀ n i a nm dn hc lc J K, n ≤ 1000 → N < i + n → PsC ts N c i a nm dn hc lc J K R1 → POk ts N (i, a, nm, dn, hc, lc) → RdF c I0 J L0 K → cellS ts = lins ts n (i, a, nm, dn, hc, lc) → Y mX5_parse (d + 8) sx 60 [(0, .ref 26), (4, .int 1), (5, .int (nI (1000 - n)))] [] J K R1 q := by
    intro n
    induction n with
    | zero =>
      intro i a nm dn hc lc J K hn hiN hP hO hF e
      have hi : i ≤ N := hO.1
      omega
    | succ n ih =>
      intro i a nm dn hc lc J K hn hiN hP hO hF e
      have hi : i ≤ N := hO.1
      have hBJ := hP.1
      have h2 := hP.2.2.1
      have h3 := hP.2.2.2.1
      have hlt := hT.lt i
      refine RX5_parse_60 ⟨fun c1 => ?_, fun c1 => ⟨fun c2 => absurd c2 (by decide), fun c2 => ?_⟩⟩
      · exfalso; simp (disch := omega) only [nlit, natrem, nIrm, nIam, nIam',  nI_add, pk_mul, nIsub, nIrem, nIdiv, nIand1, nIand3, nIand7, nIand31, nIshr, nIle, nIlt, nIeq, nIc, vpI, nIm1, m1nI, m1lt, nIlm, m1le, nIlem, nIneg, u2_ss, u2_nn, u2_kk, nIm1n, m1nIn, m1ltn, nIlmn, m1len, nIlemn] at c1; omega
      · refine sortR_ok hBJ h2 hi ?_
        refine RX5_parse_77 ⟨fun c3 => ?_, fun c3 => ?_⟩
        · simp (disch := omega) only [nlit, natrem, nIrm, nIam, nIam',  nI_add, pk_mul, nIsub, nIrem, nIdiv, nIand1, nIand3, nIand7, nIand31, nIshr, nIle, nIlt, nIeq, nIc, vpI, nIm1, m1nI, m1lt, nIlm, m1le, nIlem, nIneg, u2_ss, u2_nn, u2_kk, nIm1n, m1nIn, m1ltn, nIlmn, m1len, nIlemn] at c3
          rw [h3]
          refine ht i a nm dn hc lc J K ?_ hO.2.1 hP.2.2.2.2.2.2.2.2.2 (hFrI J K hF).1 (hFrI J K hF).2
          rw [e]
          exact if_pos c3
        · simp (disch := omega) only [nlit, natrem, nIrm, nIam, nIam',  nI_add, pk_mul, nIsub, nIrem, nIdiv, nIand1, nIand3, nIand7, nIand31, nIshr, nIle, nIlt, nIeq, nIc, vpI, nIm1, m1nI, m1lt, nIlm, m1le, nIlem, nIneg, u2_ss, u2_nn, u2_kk, nIm1n, m1nIn, m1ltn, nIlmn, m1len, nIlemn] at c3
          have e2 : cellS ts = match lin1 ts (i, a, nm, dn, hc, lc) with
            | .inl v => .inl v
            | .inr st' => lins ts n st' := by rw [e]; exact if_neg c3
          have e4 : nI (1000 - (n + 1)) + 1 = nI (1000 - n) := by rw [show (1 : Int32) = nI 1 from rfl, nI_add]; congr 1; omega
          refine line_ok hP hO c3 (fun v J2 K2 el h3' hF2 => RX5_parse_86 ?_) (fun i' a' nm' dn' hc' lc' J2 K2 el hP2 hF2 => RX5_parse_86 ?_)
          · rw [el] at e2
            have hv := cellS_f hT e2
            refine RX5_parse_60 ⟨fun c1 => ?_, fun _ => ⟨fun _ => ?_, fun c2 => absurd rfl c2⟩⟩
            · rw [h3']
              exact hf v J2 K2 e2 hv (hFrI J2 K2 (hF.tr hF2)).1 (hFrI J2 K2 (hF.tr hF2)).2
            · rw [h3']
              exact hf v J2 K2 e2 hv (hFrI J2 K2 (hF.tr hF2)).1 (hFrI J2 K2 (hF.tr hF2)).2
          · rw [el] at e2
            obtain ⟨hlt', hO'⟩ := lin1_ok hT hE hO c3 el
            have hlt' : i < i' := hlt'
            rw [e4]
            exact ih i' a' nm' dn' hc' lc' J2 K2 (by omega) (by omega) hP2 hO' (hF.tr hF2) e2
  -- the hall
  have ecs : cellS ts = wrd ts 0 0 (nmb ts 2 8 1 (fun w => nmb ts 2 8 2 (fun d => wrd ts 59 3 (lins ts 1000 (4, aHal w d, [], [], false, []))))) := rfl
  have hRk : ∀ J : Ints, R26 I0 J → RdF c I0 J L0 L0 := fun J h => RdF.k h.1
  refine EX5_hallLine ?_
  refine wordR_o (s := 0) hB y2 (Nat.zero_le _) (by decide) (by decide) (fun J2 s2 ew2 hi2 p2 _ _ r2 => ?_) (fun v J2 ew2 hJ2 => RX5_hallLine_5 ⟨fun _ => hfq v J2 L0 (by rw [ecs]; exact ew2 _) hJ2.1 (RdF.k hJ2.2), fun c => absurd rfl c⟩)
  rw [ew2] at ecs
  refine RX5_hallLine_5 ⟨fun c => absurd c (by decide), fun _ => ?_⟩
  refine numberR_o (lo := 2) (hi := 8) (hB.k r2.1) p2 hi2 (by decide) (by decide) (fun J3 s3 v3 ew3 hi3 p3 p3n _ r3 => ?_) (fun v J3 ew3 hJ3 => RX5_hallLine_15 hcl hR ⟨fun c => absurd rfl c, fun _ => hfq v J3 L0 (by rw [ecs]; exact ew3 _) hJ3.1 (RdF.k (r2.1.tr hJ3.2))⟩)
  have ew3 : ∀ f, nmb ts 2 8 1 f = f (vK ts 1) := ew3
  rw [ew3] at ecs
  refine RX5_hallLine_15 hcl hR ⟨fun _ => ?_, fun c => absurd c (by decide)⟩
  rw [p3n]
  have hK3 : Kp (fun k => k ≠ 26 ∧ k ≠ c) I0 (u2 J3 c 0 (nI (vK ts (0 + 1)))) := ((r2.tr r3).1.mn (fun _ hk => hk.1)).up (by simp)
  have hB3 : RB ts N (u2 J3 c 0 (nI (vK ts (0 + 1)))) L0 := hB.fr (hK3 27 ⟨by omega, by omega⟩) (hK3 28 ⟨by omega, by omega⟩) (hK3 29 ⟨by omega, by omega⟩) rfl
  have hF3 : RdF c I0 (u2 J3 c 0 (nI (vK ts (0 + 1)))) L0 L0 := ⟨hK3.mn (fun k hk => ⟨hk.1, by omega⟩), Kp.rf⟩
  refine numberR_o (lo := 2) (hi := 8) hB3 (show u2 J3 c 0 (nI (vK ts (0 + 1))) 26 2 = nI 2 by rw [u2_nn _ _ _ _ (by omega)]; exact p3) hi3 (by decide) (by decide) (fun J4 s4 v4 ew4 hi4 p4 p4n _ r4 => ?_) (fun v J4 ew4 hJ4 => RX5_hallLine_38 hcl hR ⟨fun c => absurd rfl c, fun _ => hfq v J4 L0 (by rw [ecs]; exact ew4 _) hJ4.1 (hF3.tr (RdF.k hJ4.2))⟩)
  rw [ew4] at ecs
  refine RX5_hallLine_38 hcl hR ⟨fun _ => ?_, fun c => absurd c (by decide)⟩
  rw [p4n]
  have hK4 : Kp (fun k => k ≠ 26 ∧ k ≠ c) I0 (u2 J4 c 1 (nI (vK ts 2))) := (hK3.tr (r4.1.mn (fun _ hk => hk.1))).up (by simp)
  have hB4 : RB ts N (u2 J4 c 1 (nI (vK ts 2))) L0 := hB.fr (hK4 27 ⟨by omega, by omega⟩) (hK4 28 ⟨by omega, by omega⟩) (hK4 29 ⟨by omega, by omega⟩) rfl
  have hF4 : RdF c I0 (u2 J4 c 1 (nI (vK ts 2))) L0 L0 := ⟨hK4.mn (fun k hk => ⟨hk.1, by omega⟩), Kp.rf⟩
  refine wordR_o (s := 59) hB4 (show u2 J4 c 1 (nI (vK ts 2)) 26 2 = nI 3 by rw [u2_nn _ _ _ _ (by omega)]; exact p4) hi4 (by decide) (by decide) (fun J5 s5 ew5 hi5 p5 _ _ r5 => ?_) (fun v J5 ew5 hJ5 => RX5_hallLine_60 ⟨Or.inl rfl, hfq v J5 L0 (by rw [ecs]; exact ew5 _) hJ5.1 (hF4.tr (RdF.k hJ5.2))⟩)
  rw [ew5] at ecs
  refine RX5_hallLine_60 ⟨Or.inr rfl, RX5_parse_55 ?_⟩
  have hrow : ∀ k, k ≠ 26 → J5 k = u2 J4 c 1 (nI (vK ts 2)) k := fun k hk => r5.1 k hk
  have h26 : ∀ k, k ≠ 2 → k ≠ 10 → k ≠ 11 → J5 26 k = I0 26 k := fun k x y z => by rw [r5.2 k x y z, u2_nn _ _ _ _ (by omega), r4.2 k x y z, u2_nn _ _ _ _ (by omega), (r2.tr r3).2 k x y z]
  have hcc : ∀ x, J5 c x = if x = 1 then nI (vK ts 2) else if x = 0 then nI (vK ts 1) else I0 c x := fun x => by
    rw [hrow c (by omega)]
    by_cases e1 : x = 1
    · rw [if_pos e1, e1, u2_ss]
    · rw [if_neg e1, u2_kk _ _ _ _ e1, r4.1 c (by omega)]
      by_cases e0 : x = 0
      · rw [if_pos e0, e0, u2_ss]
      · rw [if_neg e0, u2_kk _ _ _ _ e0, (r2.tr r3).1 c (by omega)]
  have v3 : 2 ≤ vK ts 1 ∧ vK ts 1 ≤ 8 := v3
  have xn : ∀ k, 2 ≤ k → (aHal (vK ts 1) (vK ts 2) k).val = 0 := fun k hk => by unfold aHal; rw [ua_n (by omega), ua_n (by omega)]; rfl
  refine hlp 1000 4 (aHal (vK ts 1) (vK ts 2)) [] [] false [] J5 L0 (Nat.le_refl _) (by have := hE.1; omega) ⟨hB4.k r5.1, ⟨hcl, hR⟩, p5, by rw [h26 3 (by decide) (by decide) (by decide)]; exact y3, ⟨by rw [h26 5 (by decide) (by decide) (by decide)]; exact y5, fun k hk => absurd hk (Nat.not_lt_zero _)⟩, fun k hk => absurd hk (Nat.not_lt_zero _), by rw [h26 8 (by decide) (by decide) (by decide)]; exact y8, by rw [h26 9 (by decide) (by decide) (by decide)]; exact y9, fun x hx => ?_, ?_, ?_, ?_, ?_, ?_, ?_, ?_⟩ (hal_ok hE s2 s3 s4 s5 v3 v4) (hF4.tr (RdF.k r5.1)) ecs
  · rw [yL, bL_0, xn 4 (by omega)]
    rfl
  · refine ⟨?_, ?_, ?_, ?_, ?_, ?_⟩
    · rw [hcc 0]; unfold aHal; rw [ua_n (by omega), up1_s, fi_v (by omega)]; rfl
    · rw [hcc 1]; unfold aHal; rw [up1_s, fi_v (by omega)]; rfl
    · rw [hcc 3, xn 5 (by omega)]; exact z3
    · rw [hcc 4, xn 2 (by omega)]; exact z4
    · rw [hcc 7, xn 3 (by omega)]; exact z7
    · rw [hcc 11, xn 4 (by omega)]; exact z11
  · intro k hk
    rw [yP, bL_0]
    unfold clP
    rw [xn _ (by omega)]
    rfl
  · intro x hx
    rw [xn 2 (by omega)] at hx
    exact absurd hx (Nat.not_lt_zero _)
  · intro x hx
    rw [xn 3 (by omega)] at hx
    exact absurd hx (Nat.not_lt_zero _)
  · intro x hx
    rw [xn 4 (by omega)] at hx
    exact absurd hx (Nat.not_lt_zero _)
  · rw [hrow _ (by omega), u2_nn _ _ _ _ (by omega), r4.1 _ (by omega), u2_nn _ _ _ _ (by omega), (r2.tr r3).1 _ (by omega)]; exact z9
  · exact ⟨trivial, by decide, fun hh => absurd rfl hh⟩
theorem fill6_ok {d : Nat} {sx : Sx} {I : Ints} {L : Lngs} {R : Rfs} {q : Q3} {o : Nat} {v : Int32} (hs : S0[o]? = some (Sum.inr (.int, 6))) (h : ∀ J, (∀ i, i < 6 → J o i = v) → Kp (fun k => k ≠ o) I J → q none J L R) : E0 mJ7_fill_53178 (d + 1) sx [.ref o, .int v] I L R q := by
  have hlp : ∀ m n : Nat, ∀ J, m = 6 - n → n ≤ 6 → (∀ i, i < n → J o i = v) → Kp (fun k => k ≠ o) I J → Y mJ7_fill_53178 (d + 1) sx 5 [(0, .ref o), (1, .int v), (2, .int (nI n)), (3, .int (nI 6))] [] J L R q := by
    intro m
    induction m with
    | zero =>
      intro n J hm hn hi hF
      refine RJ7_fill_53178_5 hs ⟨fun c1 => ?_, fun c1 => ⟨?_, ?_⟩⟩
      · (try simp (disch := omega) only [nlit, natrem, nIrm, nIam, nIam',  nI_add, pk_mul, nIsub, nIrem, nIdiv, nIand1, nIand3, nIand7, nIand31, nIshr, nIle, nIlt, nIeq, nIc, vpI, nIm1, m1nI, m1lt, nIlm, m1le, nIlem, nIneg, u2_ss, u2_nn, u2_kk, nIm1n, m1nIn, m1ltn, nIlmn, m1len, nIlemn] at c1); (try simp (disch := omega) only [nlit, natrem, nIrm, nIam, nIam',  nI_add, pk_mul, nIsub, nIrem, nIdiv, nIand1, nIand3, nIand7, nIand31, nIshr, nIle, nIlt, nIeq, nIc, vpI, nIm1, m1nI, m1lt, nIlm, m1le, nIlem, nIneg, u2_ss, u2_nn, u2_kk, nIm1n, m1nIn, m1ltn, nIlmn, m1len, nIlemn])
        exact h J (fun i hi2 => hi i (by omega)) hF
      · (try simp (disch := omega) only [nlit, natrem, nIrm, nIam, nIam',  nI_add, pk_mul, nIsub, nIrem, nIdiv, nIand1, nIand3, nIand7, nIand31, nIshr, nIle, nIlt, nIeq, nIc, vpI, nIm1, m1nI, m1lt, nIlm, m1le, nIlem, nIneg, u2_ss, u2_nn, u2_kk, nIm1n, m1nIn, m1ltn, nIlmn, m1len, nIlemn] at c1) <;> (try simp (disch := omega) only [nlit, natrem, nIrm, nIam, nIam',  nI_add, pk_mul, nIsub, nIrem, nIdiv, nIand1, nIand3, nIand7, nIand31, nIshr, nIle, nIlt, nIeq, nIc, vpI, nIm1, m1nI, m1lt, nIlm, m1le, nIlem, nIneg, u2_ss, u2_nn, u2_kk, nIm1n, m1nIn, m1ltn, nIlmn, m1len, nIlemn]) <;> (first | omega | trivial)
      · (try simp (disch := omega) only [nlit, natrem, nIrm, nIam, nIam',  nI_add, pk_mul, nIsub, nIrem, nIdiv, nIand1, nIand3, nIand7, nIand31, nIshr, nIle, nIlt, nIeq, nIc, vpI, nIm1, m1nI, m1lt, nIlm, m1le, nIlem, nIneg, u2_ss, u2_nn, u2_kk, nIm1n, m1nIn, m1ltn, nIlmn, m1len, nIlemn] at c1) <;> (first | omega | exact absurd rfl c1 | exact absurd trivial c1)
    | succ m ih =>
      intro n J hm hn hi hF
      refine RJ7_fill_53178_5 hs ⟨fun c1 => ?_, fun c1 => ⟨?_, ?_⟩⟩
      · (try simp (disch := omega) only [nlit, natrem, nIrm, nIam, nIam',  nI_add, pk_mul, nIsub, nIrem, nIdiv, nIand1, nIand3, nIand7, nIand31, nIshr, nIle, nIlt, nIeq, nIc, vpI, nIm1, m1nI, m1lt, nIlm, m1le, nIlem, nIneg, u2_ss, u2_nn, u2_kk, nIm1n, m1nIn, m1ltn, nIlmn, m1len, nIlemn] at c1); (try simp (disch := omega) only [nlit, natrem, nIrm, nIam, nIam',  nI_add, pk_mul, nIsub, nIrem, nIdiv, nIand1, nIand3, nIand7, nIand31, nIshr, nIle, nIlt, nIeq, nIc, vpI, nIm1, m1nI, m1lt, nIlm, m1le, nIlem, nIneg, u2_ss, u2_nn, u2_kk, nIm1n, m1nIn, m1ltn, nIlmn, m1len, nIlemn])
        omega
      · (try simp (disch := omega) only [nlit, natrem, nIrm, nIam, nIam',  nI_add, pk_mul, nIsub, nIrem, nIdiv, nIand1, nIand3, nIand7, nIand31, nIshr, nIle, nIlt, nIeq, nIc, vpI, nIm1, m1nI, m1lt, nIlm, m1le, nIlem, nIneg, u2_ss, u2_nn, u2_kk, nIm1n, m1nIn, m1ltn, nIlmn, m1len, nIlemn] at c1) <;> (try simp (disch := omega) only [nlit, natrem, nIrm, nIam, nIam',  nI_add, pk_mul, nIsub, nIrem, nIdiv, nIand1, nIand3, nIand7, nIand31, nIshr, nIle, nIlt, nIeq, nIc, vpI, nIm1, m1nI, m1lt, nIlm, m1le, nIlem, nIneg, u2_ss, u2_nn, u2_kk, nIm1n, m1nIn, m1ltn, nIlmn, m1len, nIlemn]) <;> (first | omega | trivial)
      · (try simp (disch := omega) only [nlit, natrem, nIrm, nIam, nIam',  nI_add, pk_mul, nIsub, nIrem, nIdiv, nIand1, nIand3, nIand7, nIand31, nIshr, nIle, nIlt, nIeq, nIc, vpI, nIm1, m1nI, m1lt, nIlm, m1le, nIlem, nIneg, u2_ss, u2_nn, u2_kk, nIm1n, m1nIn, m1ltn, nIlmn, m1len, nIlemn] at c1); (try simp (disch := omega) only [nlit, natrem, nIrm, nIam, nIam',  nI_add, pk_mul, nIsub, nIrem, nIdiv, nIand1, nIand3, nIand7, nIand31, nIshr, nIle, nIlt, nIeq, nIc, vpI, nIm1, m1nI, m1lt, nIlm, m1le, nIlem, nIneg, u2_ss, u2_nn, u2_kk, nIm1n, m1nIn, m1ltn, nIlmn, m1len, nIlemn])
        refine ih (n + 1) _ (by omega) (by omega) (fun i hi2 => ?_) (hF.up (by simp))
        by_cases e : i = n
        · rw [e, u2_ss]
        · rw [u2_kk _ _ _ _ e]; exact hi i (by omega)
  exact EJ7_fill_53178 hs (hlp _ 0 I rfl (by decide) (fun i hi => absurd hi (Nat.not_lt_zero _)) Kp.rf)
theorem begin_ok {d : Nat} {sx : Sx} {I : Ints} {L : Lngs} {R : Rfs} {q : Q3} {a : Ce} {lc : Cd} {c : Nat} (hcl : isCel c) (hW : WFc a) (hC : CelC a lc c I L) (h : ∀ J, EvC 33 (fun w => (wG a w).val) (fun _ => []) (fun _ => 0) J → Kp (fun k => k ≠ 34 ∧ k ≠ 35 ∧ k ≠ 37) I J → q none J L R) : E0 mX1_begin (d + 2) sx [.ref 33, .ref c] I L R q := by
  have hc' : c = 2 ∨ c = 14 := hcl
  have ho : isEve 33 := Or.inl rfl
  have w3 := hW.2.2.2.1
  refine EX1_begin ho hcl (fill6_ok rfl (fun J1 f1 k1 => ?_))
  have e7 : J1 c 7 = nI (a 3).val := by rw [k1 c (by omega)]; exact hC.1.2.2.2.2.1
  refine RX1_begin_8 ho hcl ⟨?_, ?_, ?_, ?_⟩
  · rw [e7]; exact i32_ltz (by omega)
  · rw [e7, nIc (by omega)]; omega
  · rw [e7, nIc (by omega)]; omega
  rw [e7, nIc (by omega)]
  refine fill6_ok rfl (fun J2 f2 k2 => RX1_begin_33 ho (fill6_ok rfl (fun J3 f3 k3 => RX1_begin_41 ?_)))
  refine h J3 ⟨fun w hw => ?_, fun g hg => ⟨?_, ?_⟩, fun g hg => ?_⟩ (fun k hk => ?_)
  · rw [k3 _ (by omega), k2 _ (by omega)]
    by_cases e : w < (a 3).val
    · rw [cp2_in (by omega) (by omega), k1 _ (by omega)]
      have := (hC.2.2.2.1 w e).1
      rw [show 0 + (w - 0) = w by omega]
      exact this
    · rw [cp2_out (by omega)]
      show J1 (33 + 1) w = nI (wG a w).val
      rw [show J1 (33 + 1) w = 0 from f1 w hw, hW.2.2.2.2.2.2.2.2.2.2 w hw (by omega)]
      rfl
  · rw [k3 _ (by omega)]
    exact f2 g hg
  · exact ALo.nil
  · exact f3 g hg
  · rw [k3 k (by omega), k2 k (by omega), cp2_n (by omega), k1 k (by omega)]
theorem c_cellar {d : Nat} {sx : Sx} {I : Ints} {L : Lngs} {R : Rfs} {q : Q3} {a : Ce} {lc : List (Nat × Nat)} {lf : Nat → Nat} {gl : Nat → List Nat} {sn : Nat → Nat} {c s : Nat} {tp : List Nat} (hC : CC a lc lf gl sn c I L R) (hs : isCel s) (hsc : s ≠ c) (hR3 : R 0 3 = some s) (hT : TpC tp I) (hok : tpOk tp)
    (hf : ∀ v J K T, cellS (toks tp) = .inl v → CC a lc lf gl sn c J K T → T 0 3 = some s → TpC [] J → Kp (fun k => k ≠ 0 ∧ ¬ (26 ≤ k ∧ k ≤ 29) ∧ ¬ (2 ≤ k ∧ k ≤ 25)) I J → Kp (fun k => 92 ≤ k) L K → q (some (.int (nI v))) J K T)
    (ht : ∀ i a' nm dn hc lc' J K T, cellS (toks tp) = .inr (i, a', nm, dn, hc, lc') → CC a' lc' (fun w => (wG a' w).val) (fun _ => []) (fun _ => 0) s J K T → T 0 3 = some c → TpC [] J → J 38 1 = nI 0 → (∀ m, m < 4 → J 41 m = nI 0) → J 56 0 = nI 0 → J 48 3 = nI 0 → Kp (fun k => 92 ≤ k) I J → Kp (fun k => 92 ≤ k) L K → q (some (.int (nI 0))) J K T) : E0 mX11_cellar (d + 9) sx [.ref 0] I L R q := by
  obtain ⟨hcl, hR2, hW, hE, hCl, hEv, hRt⟩ := hC
  have hc' : c = 2 ∨ c = 14 := hcl
  have hs' : s = 2 ∨ s = 14 := hs
  refine EX11_cellar hs hR3 ?_
  rw [hT.1]
  have hT0 : ∀ T : Rfs, T = u2 R 26 1 (some s) → T 0 = R 0 := fun T e => by rw [e]; funext x; exact u2_nn _ _ _ _ (by decide)
  refine parse_ok hs hok hT.2 (fun v J K e hv kI kL => ?_) (fun i a' nm dn hc lc' J K e hW' hC' kI kL => ?_)
  · have hR0 := hT0 _ rfl
    generalize u2 R 26 1 (some s) = T at *
    refine RX11_cellar_19 hs (by rw [hR0]; exact hR3) hcl (by rw [hR0]; exact hR2) ⟨fun c0 => ?_, fun _ => ?_⟩
    · exfalso; simp (disch := omega) only [nlit, natrem, nIrm, nIam, nIam',  nI_add, pk_mul, nIsub, nIrem, nIdiv, nIand1, nIand3, nIand7, nIand31, nIshr, nIle, nIlt, nIeq, nIc, vpI, nIm1, m1nI, m1lt, nIlm, m1le, nIlem, nIneg, u2_ss, u2_nn, u2_kk, nIm1n, m1nIn, m1ltn, nIlmn, m1len, nIlemn] at c0; omega
    · have kJ : Kp (fun k => k ≠ 0 ∧ ¬ (26 ≤ k ∧ k ≤ 29) ∧ ¬ (s ≤ k ∧ k ≤ s + 11)) I (u2 J 0 1 0) := (kI.mn (fun k hk => hk.2)).up (by simp)
      refine hf v _ K T e ⟨hcl, by rw [hR0]; exact hR2, hW, hE, hCl.fr (fun k h1 h2 => kJ k ⟨by omega, by omega, by omega⟩) (kL c ⟨by omega, by omega, by omega⟩), hEv.fr (fun k h1 h2 => kJ k ⟨by omega, by omega, by omega⟩), fun g hg h43 => ?_⟩ (by rw [hR0]; exact hR3) ⟨u2_ss _ _ _ _, ALo.nil⟩ (kJ.mn (fun k hk => ⟨hk.1, hk.2.1, by omega⟩)) (kL.mn (fun k (hk : 92 ≤ k) => ⟨by omega, by omega, by omega⟩))
      have w4 := hW.2.2.2.2.1
      rw [kJ 43 ⟨by omega, by omega, by omega⟩] at h43
      exact (hRt g hg h43).fr (kJ _ ⟨by omega, by omega, by omega⟩) (kJ _ ⟨by omega, by omega, by omega⟩) (kL _ ⟨by omega, by omega, by omega⟩)
  · have hR0 := hT0 _ rfl
    generalize u2 R 26 1 (some s) = T at *
    refine RX11_cellar_19 hs (by rw [hR0]; exact hR3) hcl (by rw [hR0]; exact hR2) ⟨fun _ => ?_, fun c0 => absurd rfl c0⟩
    have hC2 : CelC a' lc' s (u2 J 0 1 0) K := hC'.fr (fun k h1 h2 => by funext x; exact u2_nn _ _ _ _ (by omega)) rfl
    refine begin_ok hs hW' hC2 (fun J2 hE2 k2 => RX11_cellar_60 (EX4_clear (RX11_cellar_67 ?_)))
    have hT3 : u2 (u2 T 0 3 (some c)) 0 2 (some s) 0 3 = some c := by rw [u2_kk _ _ _ _ (by decide), u2_ss]
    have hT2 : u2 (u2 T 0 3 (some c)) 0 2 (some s) 0 2 = some s := u2_ss _ _ _ _
    generalize u2 (u2 T 0 3 (some c)) 0 2 (some s) = T2 at *
    have e0 : vp_nar .boolean 0 = nI 0 := by decide
    have hlp : ∀ n m : Nat, ∀ J3 : Ints, n = 4 - m → m ≤ 4 → J3 38 1 = nI 0 → (∀ x, x < m → J3 41 x = nI 0) → Kp (fun k => k ≠ 38 ∧ k ≠ 41) J2 J3 → Y mX11_cellar (d + 9) sx 69 [(0, .ref 0), (3, .int (nI m))] [] J3 K T2 q := by
      intro n
      induction n with
      | zero =>
        intro m J3 hn hm h38 h41 k3
        refine RX11_cellar_69 ⟨fun _ => ?_, fun c1 => ?_⟩
        · refine allChanged_ok (fun J4 a1 a2 a3 k4 => RX11_cellar_91 ?_)
          have hrow : ∀ k, k ≠ 38 → k ≠ 41 → k ≠ 43 → k ≠ 48 → k ≠ 56 → J4 k = J2 k := fun k x1 x2 x3 x4 x5 => by rw [k4 k ⟨x3, x4, x5⟩, k3 k ⟨x1, x2⟩]
          refine ht i a' nm dn hc lc' J4 K T2 e ⟨hs, hT2, hW', ⟨fun w hw => ?_, fun g hg => ⟨Nat.zero_le _, fun i hi => absurd hi (Nat.not_lt_zero _)⟩, fun g hg => Nat.zero_le _, fun w hw h3 => hW'.2.2.2.2.2.2.2.2.2.2 w hw h3, fun g hg h4 => ⟨rfl, rfl⟩⟩, hC2.fr (fun k h1 h2 => by rw [hrow k (by omega) (by omega) (by omega) (by omega) (by omega), k2 k ⟨by omega, by omega, by omega⟩]) rfl, hE2.fr (fun k h1 h2 => hrow k (by omega) (by omega) (by omega) (by omega) (by omega)), fun g hg h43 => ?_⟩ hT3 ⟨?_, ALo.nil⟩ ?_ (fun m hm => ?_) a2 a3 (fun k (hk : 92 ≤ k) => ?_) (kL.mn (fun k (hk : 92 ≤ k) => ⟨by omega, by omega, by omega⟩))
          · by_cases e : w < (a' 3).val
            · exact (hW'.2.2.2.2.2.2.2.2.1 w e).1
            · show (wG a' w).val ≤ 99
              rw [hW'.2.2.2.2.2.2.2.2.2.2 w hw (by omega)]
              decide
          · have w4 := hW'.2.2.2.2.1
            rw [a1 g (by omega)] at h43
            exact absurd h43 (by decide)
          · rw [hrow 0 (by omega) (by omega) (by omega) (by omega) (by omega), k2 0 ⟨by omega, by omega, by omega⟩]
            exact u2_ss _ _ _ _
          · rw [k4 38 ⟨by omega, by omega, by omega⟩]; exact h38
          · rw [k4 41 ⟨by omega, by omega, by omega⟩]; exact h41 m (by omega)
          · rw [hrow k (by omega) (by omega) (by omega) (by omega) (by omega), k2 k ⟨by omega, by omega, by omega⟩]
            funext x
            rw [u2_nn _ _ _ _ (by omega), kI k ⟨by omega, by omega⟩]
        · exfalso; simp (disch := omega) only [nlit, natrem, nIrm, nIam, nIam',  nI_add, pk_mul, nIsub, nIrem, nIdiv, nIand1, nIand3, nIand7, nIand31, nIshr, nIle, nIlt, nIeq, nIc, vpI, nIm1, m1nI, m1lt, nIlm, m1le, nIlem, nIneg, u2_ss, u2_nn, u2_kk, nIm1n, m1nIn, m1ltn, nIlmn, m1len, nIlemn] at c1; omega
      | succ n ih =>
        intro m J3 hn hm h38 h41 k3
        refine RX11_cellar_69 ⟨fun c1 => ?_, fun c1 => ⟨by simp (disch := omega) only [nlit, natrem, nIrm, nIam, nIam',  nI_add, pk_mul, nIsub, nIrem, nIdiv, nIand1, nIand3, nIand7, nIand31, nIshr, nIle, nIlt, nIeq, nIc, vpI, nIm1, m1nI, m1lt, nIlm, m1le, nIlem, nIneg, u2_ss, u2_nn, u2_kk, nIm1n, m1nIn, m1ltn, nIlmn, m1len, nIlemn]; omega, ?_⟩⟩
        · exfalso; simp (disch := omega) only [nlit, natrem, nIrm, nIam, nIam',  nI_add, pk_mul, nIsub, nIrem, nIdiv, nIand1, nIand3, nIand7, nIand31, nIshr, nIle, nIlt, nIeq, nIc, vpI, nIm1, m1nI, m1lt, nIlm, m1le, nIlem, nIneg, u2_ss, u2_nn, u2_kk, nIm1n, m1nIn, m1ltn, nIlmn, m1len, nIlemn] at c1; omega
        · rw [nIc (by omega), e0, show nI m + 1 = nI (m + 1) from nI_add m 1]
          refine ih (m + 1) _ (by omega) (by omega) (by rw [u2_nn _ _ _ _ (by decide)]; exact h38) (fun x hx => ?_) (k3.up (by simp))
          by_cases ex : x = m
          · rw [ex, u2_ss]
          · rw [u2_kk _ _ _ _ ex]; exact h41 x (by omega)
    exact hlp 4 0 _ rfl (by decide) (u2_ss _ _ _ _) (fun x hx => absurd hx (Nat.not_lt_zero _)) (Kp.rf.up (by simp))
