/-! the model's served and row -/
theorem rwd_s {W k r w : Nat} (hw : w < W) : rwd W (k + 1) (r * W + w) = rwd W k r ++ [w] := by
  show rwd W k ((r * W + w) / W) ++ [(r * W + w) % W] = _
  rw [Nat.mul_comm, Nat.mul_add_div (by omega), Nat.div_eq_of_lt hw, Nat.add_zero, Nat.mul_add_mod, Nat.mod_eq_of_lt hw]
def fdV42 (f : Option Nat) : Int32 := match f with
  | none => -1
  | some m => nI (m / 1000)
def SvM (a : Ce) (s : Ss) (J : Ints) : Prop := J 92 41 = nI s.1 ∧ J 92 42 = fdV42 s.2 ∧ ∀ m, s.2 = some m → ALo J 114 0 (rwd (max 1 (a 3).val) (m / 1000) (m % 1000))
theorem SvM.fr {a : Ce} {s : Ss} {I J : Ints} (h : SvM a s I) (h1 : J 92 41 = I 92 41) (h2 : J 92 42 = I 92 42) (h3 : ∀ i, J 114 i = I 114 i) : SvM a s J := ⟨h1.trans h.1, h2.trans h.2.1, fun m hm => (h.2.2 m hm).congr h3⟩
theorem serves_ok {a : Ce} {lc : List (Nat × Nat)} {lf : Nat → Nat} {gl : Nat → List Nat} {sn : Nat → Nat} {R : Rfs} {L : Lngs} {sx : Sx} {I0 : Ints} (hM : MC a lc lf gl sn I0) {g ce wy n : Nat} {wv : Int32} (hg : g < (a 4).val) (hce : ce < 64) (hwy : wy < 4) (hn : n ≤ 3) :
    ∀ (rem d k r : Nat) (s : Ss) (I : Ints) (q : Q3), k + rem = n → r < (max 1 (a 3).val) ^ k → (k = 0 ∨ 1 ≤ (a 3).val) → s.1 + (a 3).val ^ rem ≤ 5000 → ALo I 109 0 (rwd (max 1 (a 3).val) k r) → SvM a s I → Fr AQ FQ I0 I →
      (∀ J, SvM a (smR (hitR a lc g (ce * 4 + wy)) wv (n * 1000 + r * (a 3).val ^ rem) s ((a 3).val ^ rem)) J → (∀ i, i < k → J 109 i = I 109 i) → Fr AQ FQ I0 J → q none J L R) →
      E0 mX12_serves (d + rem + 6) sx [.ref 92, .int (nI g), .int (nI k), .int (nI n), .int (nI ce), .int (nI wy), .int wv] I L R q := by
  have hW := hM.1
  have hE := hM.2.1
  have hMc := hM.2.2.1
  have hl := hM.2.2.2.1
  have w3 := hW.2.2.2.1
  have hB : max 1 (a 3).val ≤ 6 ∧ 1 ≤ max 1 (a 3).val := by omega
  intro rem
  induction rem with
  | zero =>
    intro d k r s I q hk hr hk1 hs hA hS hF h
    have hkn : k = n := by omega
    subst hkn
    have hr3 : r < 216 := Nat.lt_of_lt_of_le hr (Nat.le_trans (Nat.pow_le_pow_left hB.1 k) (Nat.le_trans (Nat.pow_le_pow_right (by decide) hn) (by decide)))
    have hws := rwd_ok (a := a) (k := k) (r := r) (by omega) hk1
    have hlen := rwd_len (max 1 (a 3).val) k r
    have hsm : smR (hitR a lc g (ce * 4 + wy)) wv (k * 1000 + r * (a 3).val ^ 0) s ((a 3).val ^ 0) = if wkA a lc g (rwd (max 1 (a 3).val) k r) = ce * 4 + wy then (s.1 + 1, if nI s.1 = wv then some (k * 1000 + r) else s.2) else s := by
      show sm1 _ wv s (k * 1000 + r * 1 + 0) = _
      unfold sm1
      rw [Nat.mul_one, Nat.add_zero]
      have eh : hitR a lc g (ce * 4 + wy) (k * 1000 + r) ↔ wkA a lc g (rwd (max 1 (a 3).val) k r) = ce * 4 + wy := by
        unfold hitR
        rw [show (k * 1000 + r) / 1000 = k by omega, show (k * 1000 + r) % 1000 = r by omega]
      by_cases hcc : wkA a lc g (rwd (max 1 (a 3).val) k r) = ce * 4 + wy
      · rw [if_pos hcc, if_pos (eh.mpr hcc)]
      · rw [if_neg hcc, if_neg (fun w => hcc (eh.mp w))]
    rw [hsm] at h
    rw [Nat.pow_zero] at hs
    refine EX12_serves ⟨fun w => absurd rfl w, fun _ => ?_⟩
    have hlay := laysSteps_ok (d := d + 1) (sx := sx) (L := L) (R := R) (I := I) (ws := rwd (max 1 (a 3).val) k r) (q := fun r' J' K' T' => Y mX12_serves (d + 6) sx 11 [(0, .ref 92), (1, .int (nI g)), (3, .int (nI k)), (4, .int (nI ce)), (5, .int (nI wy)), (6, .int wv)] (r'.toList ++ []) J' K' T' q) (hMc.fr hF rfl rfl) hW (hl.fr hF rfl rfl rfl rfl) hg hws hA (fun J hJ => RX12_serves_11 ?_)
    · rw [hlen] at hlay
      exact hlay
    have hFJ : Fr AQ FQ I J := hJ.1.mn rfl rfl
    have hln := rt_len hW (lc := lc) (g := g) hws
    refine walks_ok (al := 1) (cl := clP a) (hMc.fr (hF.tr hFJ) rfl rfl) hW hg (by decide) clP_M (by omega) hJ.2.1 hJ.2.2.2 rt_ne (rt_le hW hws) (fun K hK hFK => RX12_serves_17 ?_)
    have hK : atP K (wkA a lc g (rwd (max 1 (a 3).val) k r)) := hK
    have hwk := hK.1
    have e30 := hK.2.2.2
    have hFI : Fr AQ FQ I K := hFJ.tr (hFK.mn rfl rfl)
    have hSK : SvM a s K := hS.fr (by rw [hFK 92 41 rfl rfl, hJ.1 92 41 rfl rfl]) (by rw [hFK 92 42 rfl rfl, hJ.1 92 42 rfl rfl]) (fun i => by rw [hFK.ar 114 rfl rfl, hJ.1.ar 114 rfl rfl])
    have h109 : ∀ i, K 109 i = I 109 i := fun i => by rw [hFK.ar 109 rfl rfl, hJ.1.ar 109 rfl rfl]
    refine cellNow_ok hK ?_
    have hmiss : wkA a lc g (rwd (max 1 (a 3).val) k r) ≠ ce * 4 + wy → q none K L R := by
      intro hne
      rw [if_neg hne] at h
      exact h K hSK (fun i _ => h109 i) (hF.tr hFI)
    refine RX12_serves_21 ⟨fun cc => ?_, fun cc => ⟨fun c2 => ?_, fun c2 => ?_⟩⟩
    · rw [nIeq (by omega) (by omega)] at cc
      exact hmiss (by omega)
    · rw [e30, nIeq (by omega) (by omega)] at c2
      exact hmiss (by omega)
    · rw [nIeq (by omega) (by omega)] at cc
      rw [e30, nIeq (by omega) (by omega)] at c2
      rw [if_pos (by omega)] at h
      have e41 := hSK.1
      have e42 := hSK.2.1
      by_cases hwv : nI s.1 = wv
      · rw [if_pos hwv] at h
        have hcp : ∀ m j : Nat, ∀ M, m = k - j → j ≤ k → Fr [114] [] K M → (∀ i, i < j → M 114 i = nI ((rwd (max 1 (a 3).val) k r).getD i 0)) → Y mX12_serves (d + 6) sx 38 [(0, .ref 92), (3, .int (nI k)), (6, .int wv), (7, .int (nI j))] [] M L R q := by
          intro m
          induction m with
          | zero =>
            intro j M hm hj hFM hi
            have e : j = k := by omega
            subst e
            have e41 := (hFM.ar 92 rfl rfl 41).trans e41
            refine RX12_serves_38 ⟨fun _ => ⟨fun c3 => absurd (e41.trans hwv) c3, fun _ => ?_⟩, fun w => absurd (Int32.le_refl _) w⟩
            refine h _ ⟨?_, ?_, fun m' hm' => ?_⟩ (fun i _ => ?_) (((hF.tr (hFI.tr (hFM.mn rfl rfl))).uf rfl).uf rfl)
            · rw [u2_ss, e41]; exact nI_add _ 1
            · rw [u2_kk _ _ _ _ (by decide), u2_ss]
              show _ = nI ((j * 1000 + r) / 1000)
              rw [show (j * 1000 + r) / 1000 = j by omega]
            · cases hm'
              rw [show (j * 1000 + r) / 1000 = j by omega, show (j * 1000 + r) % 1000 = r by omega]
              intro i hil
              rw [hlen] at hil
              rw [Nat.zero_add, u2_nn _ _ _ _ (by decide), u2_nn _ _ _ _ (by decide)]
              exact hi i hil
            · rw [u2_nn _ _ _ _ (by decide), u2_nn _ _ _ _ (by decide), hFM.ar 109 rfl rfl]; exact h109 i
          | succ m ih2 =>
            intro j M hm hj hFM hi
            have e41 := (hFM.ar 92 rfl rfl 41).trans e41
            have e9 := hA j (by rw [hlen]; omega)
            rw [Nat.zero_add, ← h109, ← hFM.ar 109 rfl rfl] at e9
            refine RX12_serves_38 ⟨fun w => ?_, fun _ => ⟨fun c3 => absurd (e41.trans hwv) c3, fun _ => ⟨?_, ?_, ?_⟩⟩⟩
            · exfalso
              rw [nIle (by omega) (by omega)] at w
              omega
            · simp (disch := omega) only [nlit, natrem, nIrm, nIam, nIam',  nI_add, pk_mul, nIsub, nIrem, nIdiv, nIand1, nIand3, nIand7, nIand31, nIshr, nIle, nIlt, nIeq, nIc, vpI, nIm1, m1nI, m1lt, nIlm, m1le, nIlem, nIneg, u2_ss, u2_nn, u2_kk, nIm1n, m1nIn, m1ltn, nIlmn, m1len, nIlemn]; omega
            · simp (disch := omega) only [nlit, natrem, nIrm, nIam, nIam',  nI_add, pk_mul, nIsub, nIrem, nIdiv, nIand1, nIand3, nIand7, nIand31, nIshr, nIle, nIlt, nIeq, nIc, vpI, nIm1, m1nI, m1lt, nIlm, m1le, nIlem, nIneg, u2_ss, u2_nn, u2_kk, nIm1n, m1nIn, m1ltn, nIlmn, m1len, nIlemn]; omega
            · rw [nIc (by omega), e9, show nI j + 1 = nI (j + 1) from nI_add j 1]
              refine ih2 (j + 1) _ (by omega) (by omega) (hFM.ua rfl) (fun i hij => ?_)
              by_cases e : i = j
              · rw [e, u2_ss]
              · rw [u2_kk _ _ _ _ e]; exact hi i (by omega)
        exact hcp _ 0 K rfl (Nat.zero_le _) Fr.rf (fun i hi => absurd hi (Nat.not_lt_zero _))
      · rw [if_neg hwv] at h
        have hq : q none (u2 (u2 K 92 42 (K 92 42)) 92 41 (K 92 41 + 1)) L R := by
          refine h _ ⟨?_, ?_, fun m' hm' => ?_⟩ (fun i _ => ?_) (((hF.tr hFI).uf rfl).uf rfl)
          · rw [u2_ss, e41]; exact nI_add _ 1
          · rw [u2_kk _ _ _ _ (by decide), u2_ss]; exact e42
          · exact (hSK.2.2 m' hm').congr (fun i => by rw [u2_nn _ _ _ _ (by decide), u2_nn _ _ _ _ (by decide)])
          · rw [u2_nn _ _ _ _ (by decide), u2_nn _ _ _ _ (by decide)]; exact h109 i
        refine RX12_serves_38 ⟨fun _ => ⟨fun _ => hq, fun w => absurd (e41.symm.trans w) hwv⟩, fun _ => ⟨fun _ => hq, fun w => absurd (e41.symm.trans w) hwv⟩⟩
  | succ rem ih =>
    intro d k r s I q hk hr hk1 hs hA hS hF h
    rw [show d + (rem + 1) + 6 = (d + rem + 6) + 1 by omega]
    have hpw : (a 3).val ^ (rem + 1) = (a 3).val * (a 3).val ^ rem := by rw [Nat.pow_succ, Nat.mul_comm]
    have hlen := rwd_len (max 1 (a 3).val) k r
    have hlp : ∀ m w : Nat, ∀ J, m = (a 3).val - w → w ≤ (a 3).val → SvM a (smR (hitR a lc g (ce * 4 + wy)) wv (n * 1000 + r * (a 3).val ^ (rem + 1)) s (w * (a 3).val ^ rem)) J → (∀ i, i < k → J 109 i = I 109 i) → Fr AQ FQ I0 J → Y mX12_serves ((d + rem + 6) + 1) sx 108 [(0, .ref 92), (1, .int (nI g)), (2, .int (nI k)), (3, .int (nI n)), (4, .int (nI ce)), (5, .int (nI wy)), (6, .int wv), (7, .int (nI w))] [] J L R q := by
      intro m
      induction m with
      | zero =>
        intro w J hm hw hSJ h9 hFJ
        have e : w = (a 3).val := by omega
        refine RX12_serves_108 (wines_ok (hMc.fr hFJ rfl rfl) (RX12_serves_114 ⟨fun _ => ?_, fun cc => ?_⟩))
        · rw [e, ← hpw] at hSJ
          exact h J hSJ h9 hFJ
        · exfalso
          rw [nIle (by omega) (by omega)] at cc
          omega
      | succ m ihm =>
        intro w J hm hw hSJ h9 hFJ
        have hcnt := smR_le (p := hitR a lc g (ce * 4 + wy)) (wv := wv) (lo := n * 1000 + r * (a 3).val ^ (rem + 1)) (s := s) (w * (a 3).val ^ rem)
        have hmono : (w + 1) * (a 3).val ^ rem ≤ (a 3).val * (a 3).val ^ rem := Nat.mul_le_mul_right _ (by omega)
        have hsplit : (w + 1) * (a 3).val ^ rem = w * (a 3).val ^ rem + (a 3).val ^ rem := Nat.succ_mul _ _
        have hB1 : max 1 (a 3).val = (a 3).val := Nat.max_eq_right (by omega)
        have hnext : smR (hitR a lc g (ce * 4 + wy)) wv (n * 1000 + r * (a 3).val ^ (rem + 1)) s ((w + 1) * (a 3).val ^ rem) = smR (hitR a lc g (ce * 4 + wy)) wv (n * 1000 + (r * (a 3).val + w) * (a 3).val ^ rem) (smR (hitR a lc g (ce * 4 + wy)) wv (n * 1000 + r * (a 3).val ^ (rem + 1)) s (w * (a 3).val ^ rem)) ((a 3).val ^ rem) := by
          rw [hsplit, smR_add, show n * 1000 + r * (a 3).val ^ (rem + 1) + w * (a 3).val ^ rem = n * 1000 + (r * (a 3).val + w) * (a 3).val ^ rem by rw [hpw, Nat.add_mul, Nat.mul_assoc, Nat.add_assoc]]
        generalize smR (hitR a lc g (ce * 4 + wy)) wv (n * 1000 + r * (a 3).val ^ (rem + 1)) s (w * (a 3).val ^ rem) = t at *
        refine RX12_serves_108 (wines_ok (hMc.fr hFJ rfl rfl) (RX12_serves_114 ⟨fun cc => ?_, fun cc => ⟨?_, ?_⟩⟩))
        · exfalso
          rw [nIle (by omega) (by omega)] at cc
          omega
        · simp (disch := omega) only [nlit, natrem, nIrm, nIam, nIam',  nI_add, pk_mul, nIsub, nIrem, nIdiv, nIand1, nIand3, nIand7, nIand31, nIshr, nIle, nIlt, nIeq, nIc, vpI, nIm1, m1nI, m1lt, nIlm, m1le, nIlem, nIneg, u2_ss, u2_nn, u2_kk, nIm1n, m1nIn, m1ltn, nIlmn, m1len, nIlemn]; omega
        · rw [nIc (by omega), show nI k + 1 = nI (k + 1) from nI_add k 1]
          have hr' : r * (a 3).val + w < (max 1 (a 3).val) ^ (k + 1) := by
            rw [hB1] at hr ⊢
            have h1 : (r + 1) * (a 3).val ≤ (a 3).val ^ (k + 1) := by rw [Nat.pow_succ]; exact Nat.mul_le_mul_right _ hr
            rw [Nat.succ_mul] at h1
            omega
          refine ih d (k + 1) (r * (a 3).val + w) t _ _ (by omega) hr' (by omega) (by omega) ?_ (hSJ.fr (u2_nn _ _ _ _ (by decide)) (u2_nn _ _ _ _ (by decide)) (fun i => u2_nn _ _ _ _ (by decide))) (hFJ.ua rfl) (fun N hN1 hN2 hN3 => RX12_serves_140 ?_)
          · rw [hB1, rwd_s (by omega)]
            have hAJ : ALo J 109 0 (rwd (a 3).val k r) := by
              intro i hi
              rw [rwd_len] at hi
              rw [Nat.zero_add, h9 i hi]
              have := hA i (by rw [hlen]; exact hi)
              rw [Nat.zero_add, hB1] at this
              exact this
            exact hAJ.push (by rw [rwd_len]; omega)
          · rw [show nI w + 1 = nI (w + 1) from nI_add w 1]
            refine ihm (w + 1) N (by omega) (by omega) (by rw [hnext]; exact hN1) (fun i hi => ?_) hN3
            rw [hN2 i (by omega), u2_kk _ _ _ _ (by omega)]
            exact h9 i hi
    refine EX12_serves ⟨fun _ => ?_, fun cc => ?_⟩
    · refine hlp _ 0 I rfl (Nat.zero_le _) ?_ (fun i _ => rfl) hF
      rw [Nat.zero_mul]
      exact hS
    · exfalso
      rw [nIeq (by omega) (by omega)] at cc
      omega
theorem findServed_ok {d : Nat} {sx : Sx} {I : Ints} {L : Lngs} {R : Rfs} {q : Q3} {a : Ce} {lc : List (Nat × Nat)} {lf : Nat → Nat} {gl : Nat → List Nat} {sn : Nat → Nat} (hM : MC a lc lf gl sn I) {g x y w wv : Int32}
    (ht : okPo a g x y w → ∀ J m, Rl wv m (svS a lc g.toNatClampNeg (poN x y w) wv 4) → m.1 ≤ 864 → SvM a m J → Fr AQ FQ I J → q (some (.int 1)) J L R) (hf : ¬ okPo a g x y w → ∀ J, Fr AQ FQ I J → q (some (.int 0)) J L R) : E0 mX12_findServed (d + 10) sx [.ref 92, .int g, .int x, .int y, .int w, .int wv] I L R q := by
  refine EX12_findServed ?_
  have hF0 : Fr AQ FQ I (u2 (u2 I 92 41 0) 92 42 (-1)) := (Fr.rf.uf rfl).uf rfl
  have hM1 := hM.fr hF0
  have hS0 : SvM a (0, none) (u2 (u2 I 92 41 0) 92 42 (-1)) := ⟨by rw [u2_kk _ _ _ _ (by decide), u2_ss]; rfl, by rw [u2_ss]; rfl, fun m hm => by cases hm⟩
  generalize u2 (u2 I 92 41 0) 92 42 (-1) = I1 at *
  have hMc := hM1.2.2.1
  have hW := hM.1
  have w0 := hW.1.2
  have w1 := hW.2.1.2
  refine isGuestM_ok hMc (fun n hn e => ?_) (fun hn => RX12_findServed_15 ⟨fun _ => hf (fun w => hn w.1) I1 hF0, fun w => absurd rfl w⟩)
  refine RX12_findServed_15 ⟨fun w => absurd w (by decide), fun _ => ?_⟩
  refine isInV hMc (fun m k hm hk e1 e2 => ?_) (fun hno => RX12_findServed_24 ⟨fun _ => hf (fun w => hno w.2.1) I1 hF0, fun w => absurd rfl w⟩)
  refine RX12_findServed_24 ⟨fun w => absurd w (by decide), fun _ => ?_⟩
  refine within_ok (n := 3) (by decide) (fun v hv e3 => ?_) (fun hno => RX12_findServed_34 ⟨fun w => absurd rfl w, fun _ => hf (fun w => hno w.2.2) I1 hF0⟩)
  subst e; subst e1; subst e2; subst e3
  have hok := okPo_nI hn hm hk hv
  have ht := ht hok
  rw [poN_nI (by omega) (by omega) hv, nIc (by omega)] at ht
  refine RX12_findServed_34 ⟨fun _ => ?_, fun w => absurd w (by decide)⟩
  have hlp : ∀ j i : Nat, ∀ J s, j = 4 - i → i ≤ 4 → Rl wv s (svS a lc n ((k * 8 + m) * 4 + v) wv i) → s.1 ≤ 216 * i → SvM a s J → Fr AQ FQ I J → Y mX12_findServed (d + 10) sx 42 [(0, .ref 92), (1, .int (nI n)), (2, .int (nI m)), (3, .int (nI k)), (4, .int (nI v)), (5, .int wv), (6, .int (nI i))] [] J L R q := by
    intro j
    induction j with
    | zero =>
      intro i J s hj hi hR hs hS hF
      have e : i = 4 := by omega
      subst e
      refine RX12_findServed_42  ⟨fun c1 => ?_, fun c1 => ?_⟩
      · (try simp (disch := omega) only [nlit, natrem, nIrm, nIam, nIam',  nI_add, pk_mul, nIsub, nIrem, nIdiv, nIand1, nIand3, nIand7, nIand31, nIshr, nIle, nIlt, nIeq, nIc, vpI, nIm1, m1nI, m1lt, nIlm, m1le, nIlem, nIneg, u2_ss, u2_nn, u2_kk, nIm1n, m1nIn, m1ltn, nIlmn, m1len, nIlemn] at c1); (try simp (disch := omega) only [nlit, natrem, nIrm, nIam, nIam',  nI_add, pk_mul, nIsub, nIrem, nIdiv, nIand1, nIand3, nIand7, nIand31, nIshr, nIle, nIlt, nIeq, nIc, vpI, nIm1, m1nI, m1lt, nIlm, m1le, nIlem, nIneg, u2_ss, u2_nn, u2_kk, nIm1n, m1nIn, m1ltn, nIlmn, m1len, nIlemn])
        exact ht J s hR hs hS hF
      · (try simp (disch := omega) only [nlit, natrem, nIrm, nIam, nIam',  nI_add, pk_mul, nIsub, nIrem, nIdiv, nIand1, nIand3, nIand7, nIand31, nIshr, nIle, nIlt, nIeq, nIc, vpI, nIm1, m1nI, m1lt, nIlm, m1le, nIlem, nIneg, u2_ss, u2_nn, u2_kk, nIm1n, m1nIn, m1ltn, nIlmn, m1len, nIlemn] at c1) <;> (first | omega | exact absurd rfl c1 | exact absurd trivial c1)
    | succ j ih =>
      intro i J s hj hi hR hs hS hF
      have hpw := powW hW (n := i) (by omega)
      refine RX12_findServed_42  ⟨fun c1 => ?_, fun c1 => ?_⟩
      · (try simp (disch := omega) only [nlit, natrem, nIrm, nIam, nIam',  nI_add, pk_mul, nIsub, nIrem, nIdiv, nIand1, nIand3, nIand7, nIand31, nIshr, nIle, nIlt, nIeq, nIc, vpI, nIm1, m1nI, m1lt, nIlm, m1le, nIlem, nIneg, u2_ss, u2_nn, u2_kk, nIm1n, m1nIn, m1ltn, nIlmn, m1len, nIlemn] at c1); (try simp (disch := omega) only [nlit, natrem, nIrm, nIam, nIam',  nI_add, pk_mul, nIsub, nIrem, nIdiv, nIand1, nIand3, nIand7, nIand31, nIshr, nIle, nIlt, nIeq, nIc, vpI, nIm1, m1nI, m1lt, nIlm, m1le, nIlem, nIneg, u2_ss, u2_nn, u2_kk, nIm1n, m1nIn, m1ltn, nIlmn, m1len, nIlemn])
        omega
      · (try simp (disch := omega) only [nlit, natrem, nIrm, nIam, nIam',  nI_add, pk_mul, nIsub, nIrem, nIdiv, nIand1, nIand3, nIand7, nIand31, nIshr, nIle, nIlt, nIeq, nIc, vpI, nIm1, m1nI, m1lt, nIlm, m1le, nIlem, nIneg, u2_ss, u2_nn, u2_kk, nIm1n, m1nIn, m1ltn, nIlmn, m1len, nIlemn] at c1); (try simp (disch := omega) only [nlit, natrem, nIrm, nIam, nIam',  nI_add, pk_mul, nIsub, nIrem, nIdiv, nIand1, nIand3, nIand7, nIand31, nIshr, nIle, nIlt, nIeq, nIc, vpI, nIm1, m1nI, m1lt, nIlm, m1le, nIlem, nIneg, u2_ss, u2_nn, u2_kk, nIm1n, m1nIn, m1ltn, nIlmn, m1len, nIlemn])
        rw [show 8 * k + m = k * 8 + m by omega]
        have hs0 := serves_ok (L := L) (R := R) (sx := sx) (I0 := I) hM (g := n) (ce := k * 8 + m) (wy := v) (n := i) (wv := wv) hn (by omega) hv (by omega) i (d + (3 - i)) 0 0 s J (fun r J' K' T' => Y mX12_findServed (d + 10) sx 66 [(0, .ref 92), (1, .int (nI n)), (2, .int (nI m)), (3, .int (nI k)), (4, .int (nI v)), (5, .int wv), (6, .int (nI i))] (r.toList ++ []) J' K' T' q) (by omega) (by rw [Nat.pow_zero]; decide) (Or.inl rfl) (by omega) ALo.nil hS hF (fun K hK _ hFK => RX12_findServed_66 ?_)
        · rw [show d + (3 - i) + i + 6 = d + 9 by omega] at hs0
          exact hs0
        · rw [show nI i + 1 = nI (i + 1) from nI_add i 1]
          rw [Nat.zero_mul, Nat.add_zero] at hK
          have hle := smR_le (p := hitR a lc n ((k * 8 + m) * 4 + v)) (wv := wv) (lo := i * 1000) (s := s) ((a 3).val ^ i)
          exact ih (i + 1) K _ (by omega) (by omega) (Rl.scan hR _ (by omega)) (by omega) hK hFK
  exact hlp _ 0 I1 (0, none) rfl (by decide) ⟨rfl, fun _ => rfl, fun w => absurd rfl w⟩ (by decide) hS0 hF0
theorem m_served {d : Nat} {sx : Sx} {I : Ints} {L : Lngs} {R : Rfs} {q : Q3} {a : Ce} {lc : List (Nat × Nat)} {lf : Nat → Nat} {gl : Nat → List Nat} {sn : Nat → Nat} (hM : MC a lc lf gl sn I) {g x y w : Int32} (h : ∀ J, Fr AQ FQ I J → q (some (.int (spServed a lc g x y w))) J L R) : E0 mX12_served (d + 11) sx [.ref 92, .int g, .int x, .int y, .int w] I L R q := by
  refine EX12_served ?_
  have hF0 : Fr AQ FQ I (u2 I 92 0 0) := fq0
  refine findServed_ok (hM.fr hF0) (fun hok J m hR hm hS hF => ?_) (fun hno J hF => ?_)
  · have h := h J (hF0.tr hF)
    unfold spServed at h
    rw [if_pos hok] at h
    have e := svS_m1 hM.1 (lc := lc) (g := g.toNatClampNeg) (po := poN x y w) 4 (Nat.le_refl _)
    rw [← hR.2.1 e] at h
    refine RX12_served_15 ⟨fun w => absurd w (by decide), fun _ => ?_⟩
    rw [hS.1]
    exact h
  · have h := h J (hF0.tr hF)
    unfold spServed at h
    rw [if_neg hno] at h
    exact RX12_served_15 ⟨fun _ => h, fun w => absurd rfl w⟩
theorem m_row {d : Nat} {sx : Sx} {I : Ints} {L : Lngs} {R : Rfs} {q : Q3} {a : Ce} {lc : List (Nat × Nat)} {lf : Nat → Nat} {gl : Nat → List Nat} {sn : Nat → Nat} (hM : MC a lc lf gl sn I) {g x y w i z : Int32} (h : ∀ J, Fr AQ FQ I J → q (some (.int (spRow a lc g x y w i z))) J L R) : E0 mX12_row (d + 11) sx [.ref 92, .int g, .int x, .int y, .int w, .int i, .int z] I L R q := by
  have hF0 : Fr AQ FQ I (u2 I 92 0 0) := fq0
  have hno : ¬ (okPo a g x y w ∧ ¬ i < 0 ∧ -1 ≤ z) → ∀ J, Fr AQ FQ I J → q (some (.int (-1))) J L R := by
    intro hn J hJ
    have h := h J hJ
    unfold spRow at h
    rw [if_neg hn] at h
    exact h
  refine EX12_row ⟨fun c1 => hno (fun w => w.2.1 c1) _ hF0, fun c1 => ⟨fun c2 => hno (fun w => i32_nlt w.2.2 c2) _ hF0, fun c2 => ?_⟩⟩
  have hz : -1 ≤ z := Int32.not_lt.mp c2
  refine findServed_ok (hM.fr hF0) (fun hok J m hR hm hS hF => ?_) (fun hn J hF => RX12_row_27 ⟨fun _ => hno (fun w => hn w.1) J (hF0.tr hF), fun w => absurd rfl w⟩)
  have h := h J (hF0.tr hF)
  unfold spRow at h
  rw [if_pos ⟨hok, c1, hz⟩, ← hR.1] at h
  have e42 := hS.2.1
  match hm2 : m.2 with
  | none =>
    rw [hm2] at h e42
    have e42 : J 92 42 = -1 := e42
    refine RX12_row_27 ⟨fun w => absurd w (by decide), fun _ => ⟨fun c4 => ?_, fun _ => h⟩⟩
    rw [e42] at c4
    exact absurd c4 (by decide)
  | some v =>
    rw [hm2] at h e42
    have e42 : J 92 42 = nI (v / 1000) := e42
    have hA := hS.2.2 v hm2
    unfold rowA at h
    simp only at h
    have hv4 : v < 4000 := by
      have e := hR.1
      rw [hm2] at e
      have hsv : ∀ n, n ≤ 4 → ∀ u, (svS a lc g.toNatClampNeg (poN x y w) i n).2 = some u → u < 4000 := by
        intro n
        induction n with
        | zero => intro _ u hu; cases hu
        | succ n ihn =>
          intro hn u hu
          have hpw := powW hM.1 (n := n) (by omega)
          by_cases hnn : (svS a lc g.toNatClampNeg (poN x y w) i n).2 = none
          · have := scR_wr (p := hitR a lc g.toNatClampNeg (poN x y w)) (wv := i) (lo := n * 1000) hnn _ u hu
            omega
          · have hd := scR_done (p := hitR a lc g.toNatClampNeg (poN x y w)) (wv := i) (lo := n * 1000) hnn ((a 3).val ^ n)
            have hu : (scR (hitR a lc g.toNatClampNeg (poN x y w)) i (n * 1000) (svS a lc g.toNatClampNeg (poN x y w) i n) ((a 3).val ^ n)).2 = some u := hu
            rw [hd] at hu
            exact ihn (by omega) u hu
      exact hsv 4 (Nat.le_refl _) v e.symm
    refine RX12_row_27 ⟨fun w => absurd w (by decide), fun _ => ⟨fun c4 => ⟨fun c5 => ⟨fun c6 => ?_, fun c6 => ⟨?_, ?_⟩⟩, fun c5 => ?_⟩, fun c4 => ?_⟩⟩
    · rw [e42] at c6
      rw [if_neg c5, if_pos c6] at h
      exact h
    · rw [e42] at c6
      have hz0 : ¬ z < 0 := fun hzz => c5 (z_m1 hzz hz)
      obtain ⟨h3, h4⟩ := i32_nn hz0
      rw [h4, nIle (by omega) h3] at c6
      rw [h4]
      simp (disch := omega) only [nlit, natrem, nIrm, nIam, nIam',  nI_add, pk_mul, nIsub, nIrem, nIdiv, nIand1, nIand3, nIand7, nIand31, nIshr, nIle, nIlt, nIeq, nIc, vpI, nIm1, m1nI, m1lt, nIlm, m1le, nIlem, nIneg, u2_ss, u2_nn, u2_kk, nIm1n, m1nIn, m1ltn, nIlmn, m1len, nIlemn]
      omega
    · rw [e42] at c6
      have c6' := c6
      have hz0 : ¬ z < 0 := fun hzz => c5 (z_m1 hzz hz)
      obtain ⟨h3, h4⟩ := i32_nn hz0
      rw [h4, nIle (by omega) h3] at c6
      have hg9 := hA z.toNatClampNeg (by rw [rwd_len]; omega)
      rw [Nat.zero_add] at hg9
      rw [if_neg c5, if_neg c6'] at h
      rw [hg9]
      exact h
    · rw [if_pos c5] at h
      rw [e42]
      exact h
    · rw [e42] at c4
      exact absurd ((nIle (a := 0) (by decide) (by omega)).mpr (Nat.zero_le _)) c4
