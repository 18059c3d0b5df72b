/-! what one was served -/
def rwd (W : Nat) : Nat → Nat → List Nat
  | 0, _ => []
  | k + 1, r => rwd W k (r / W) ++ [r % W]
theorem rwd_len (W : Nat) : ∀ k r, (rwd W k r).length = k
  | 0, _ => rfl
  | k + 1, r => by show (rwd W k (r / W) ++ [_]).length = _; rw [List.length_append, rwd_len W k, List.length_singleton]
theorem rwd_get (W : Nat) : ∀ k r i, i < k → (rwd W k r).getD i 0 = r / W ^ (k - 1 - i) % W
  | 0, _, _, h => absurd h (Nat.not_lt_zero _)
  | k + 1, r, i, h => by
    show (rwd W k (r / W) ++ [r % W]).getD i 0 = _
    by_cases e : i = k
    · rw [e, getD_r (by rw [rwd_len]; omega), rwd_len, Nat.sub_self, show k + 1 - 1 - k = 0 by omega, Nat.pow_zero, Nat.div_one]
      rfl
    · rw [getD_l (by rw [rwd_len]; omega), rwd_get W k (r / W) i (by omega), Nat.div_div_eq_div_mul, show k + 1 - 1 - i = (k - 1 - i) + 1 by omega, Nat.pow_succ, Nat.mul_comm]
theorem rwd_ok {a : Ce} {k r : Nat} (hk : k ≤ 6) (h : k = 0 ∨ 1 ≤ (a 3).val) : wsOk a (rwd (max 1 (a 3).val) k r) := by
  refine ⟨by rw [rwd_len]; exact hk, fun i hi => ?_⟩
  rw [rwd_len] at hi
  rw [rwd_get _ _ _ _ hi]
  have h1 : 1 ≤ (a 3).val := by omega
  rw [Nat.max_eq_right h1]
  exact Nat.mod_lt _ h1
abbrev hitR (a : Ce) (lc : List (Nat × Nat)) (g po m : Nat) : Prop := wkA a lc g (rwd (max 1 (a 3).val) (m / 1000) (m % 1000)) = po
def svS (a : Ce) (lc : List (Nat × Nat)) (g po : Nat) (wv : Int32) : Nat → Ss
  | 0 => (0, none)
  | n + 1 => scR (hitR a lc g po) wv (n * 1000) (svS a lc g po wv n) ((a 3).val ^ n)
theorem powW {a : Ce} (hW : WFc a) {n : Nat} (hn : n ≤ 3) : (a 3).val ^ n ≤ 216 := Nat.le_trans (Nat.pow_le_pow_left hW.2.2.2.1 n) (Nat.le_trans (Nat.pow_le_pow_right (by decide) hn) (by decide))
theorem svS_le {a : Ce} (hW : WFc a) {lc : List (Nat × Nat)} {g po : Nat} {wv : Int32} : ∀ n, n ≤ 4 → (svS a lc g po wv n).1 ≤ 216 * n
  | 0, _ => Nat.le_refl 0
  | n + 1, hn => by
    have h1 := svS_le hW (lc := lc) (g := g) (po := po) (wv := wv) n (by omega)
    have h2 := powW hW (n := n) (by omega)
    have h3 := scR_le (p := hitR a lc g po) (wv := wv) (lo := n * 1000) (s := svS a lc g po wv n) ((a 3).val ^ n)
    show (scR _ wv _ _ _).1 ≤ _
    omega
theorem setRow_ok {d : Nat} {sx : Sx} {I : Ints} {L : Lngs} {R : Rfs} {q : Q3} {a : Ce} {lc : List (Nat × Nat)} {c k r : Nat} (hc : isCel c) (hW : WFc a) (hR6 : R 48 6 = some c) (hC : CelC a lc c I L) (h1 : I 48 1 = nI k) (hk : k ≤ 6) (hr : r < 100000)
    (h : ∀ J, ALo J 49 0 (rwd (max 1 (a 3).val) k r) → Kp (fun k => k ≠ 49) I J → q none J L R) : E0 mX8_setRow (d + 2) sx [.ref 48, .int (nI r)] I L R q := by
  have w3 := hW.2.2.2.1
  have e7 := hC.1.2.2.2.2.1
  refine EX8_setRow hc hR6 ?_
  rw [e7]
  refine max_ok (a := 1) (by decide) (by omega) (RX8_setRow_13 ?_)
  rw [h1]
  have hB : 1 ≤ max 1 (a 3).val ∧ max 1 (a 3).val ≤ 6 := by omega
  generalize max 1 (a 3).val = B at *
  have hdl : ∀ j : Nat, ∀ J, j ≤ k → Kp (fun k => k ≠ 49) I J → (∀ i, j ≤ i → i < k → J 49 i = nI ((rwd B k r).getD i 0)) → Y mX8_setRow (d + 2) sx 22 [(0, .ref 48), (2, .int (nI (r / B ^ (k - j)))), (3, .int (nI B)), (4, .int (nI j - 1))] [] J L R q := by
    intro j
    induction j with
    | zero =>
      intro J hj hF hi
      refine RX8_setRow_22 ⟨fun _ => h J (fun i hin => ?_) hF, fun cc => absurd (by decide) cc⟩
      rw [rwd_len] at hin
      rw [Nat.zero_add]
      exact hi i (Nat.zero_le _) hin
    | succ j ih =>
      intro J hj hF hi
      have hb : r / B ^ (k - (j + 1)) ≤ r := Nat.div_le_self _ _
      have ed := rwd_get B k r j (by omega)
      rw [show k - 1 - j = k - (j + 1) by omega] at ed
      have ej : nI (j + 1) - 1 = nI j := nIsub (b := 1) (by omega)
      have ez : ¬ nI B = 0 := by rw [show (0 : Int32) = nI 0 from rfl, nIeq (by omega) (by decide)]; omega
      rw [ej]
      refine RX8_setRow_22 ⟨fun cc => absurd cc (i32_ltz (by omega)), fun _ => ⟨ez, ?_, ez, ?_⟩⟩
      · simp (disch := omega) only [nlit, natrem, nIrm, nIam, nIam',  nI_add, pk_mul, nIsub, nIrem, nIdiv, nIand1, nIand3, nIand7, nIand31, nIshr, nIle, nIlt, nIeq, nIc, vpI, nIm1, m1nI, m1lt, nIlm, m1le, nIlem, nIneg, u2_ss, u2_nn, u2_kk, nIm1n, m1nIn, m1ltn, nIlmn, m1len, nIlemn]; omega
      · rw [nIrem (by omega) (by omega) (by omega), nIdiv (by omega) (by omega) (by omega), nIc (by omega), ← ed, i_addn]
        have e1 : r / B ^ (k - (j + 1)) / B = r / B ^ (k - j) := by
          rw [Nat.div_div_eq_div_mul, ← Nat.pow_succ]
          congr 2
          omega
        rw [e1]
        refine ih _ (by omega) (hF.up (by simp)) (fun i h1 h2 => ?_)
        by_cases e : i = j
        · rw [e, u2_ss]
        · rw [u2_kk _ _ _ _ e]; exact hi i (by omega) h2
  have := hdl k I (Nat.le_refl _) Kp.rf (fun i h1 h2 => absurd h1 (by omega))
  rw [Nat.sub_self, Nat.pow_zero, Nat.div_one] at this
  exact this
def RwF (c : Nat) (I J : Ints) : Prop := Kp (fun k => ¬ (48 ≤ k ∧ k ≤ 53) ∧ k ≠ c + 11) I J
theorem RwF.cel {a : Ce} {lc : List (Nat × Nat)} {c : Nat} {I J : Ints} {L : Lngs} (hF : RwF c I J) (hc : isCel c) (h : CelC a lc c I L) : CelC a lc c J L := by
  have hc' : c = 2 ∨ c = 14 := hc
  exact h.fr (fun k h1 h2 => hF k ⟨by omega, by omega⟩) rfl
theorem seekW_ok {d : Nat} {sx : Sx} {I : Ints} {L : Lngs} {R : Rfs} {q : Q3} {a : Ce} {lc : List (Nat × Nat)} {c g po : Nat} {wv : Int32} (hc : isCel c) (hW : WFc a) (hg : g < (a 4).val) (hC : CelC a lc c I L) (hpo : po < 256)
    (h1 : ∀ m, (svS a lc g po wv 4).2 = some m → m < 4000 → ∀ J T, RwF c I J → Kp (fun k => k ≠ 48) R T → J 48 3 = nI 0 → J 48 1 = nI (m / 1000) → m / 1000 ≤ 3 → ALo J 49 0 (rwd (max 1 (a 3).val) (m / 1000) (m % 1000)) → q (some (.int 1)) J L T)
    (h0 : (svS a lc g po wv 4).2 = none → ∀ J T, RwF c I J → Kp (fun k => k ≠ 48) R T → J 48 3 = nI 0 → J 48 2 = nI (svS a lc g po wv 4).1 → q (some (.int 0)) J L T) : E0 mX8_seek (d + 5) sx [.ref 48, .ref c, .int (nI g), .int (nI po), .int wv] I L R q := by
  have hc' : c = 2 ∨ c = 14 := hc
  have w3 := hW.2.2.2.1
  have hout : ∀ k n : Nat, ∀ J T, k = 4 - n → n ≤ 4 → (svS a lc g po wv n).2 = none → RwF c I J → Kp (fun k => k ≠ 48) R T → J 48 3 = nI 0 → J 48 2 = nI (svS a lc g po wv n).1 → Y mX8_seek (d + 5) sx 16 [(0, .ref 48), (1, .ref c), (2, .int (nI g)), (3, .int (nI po)), (4, .int wv), (5, .int (nI ((a 3).val ^ n))), (6, .int (nI n))] [] J L T q := by
    intro k
    induction k with
    | zero =>
      intro n J T hk hn hno hF hT h3 h2
      have e : n = 4 := by omega
      subst e
      refine RX8_seek_16 hc ⟨fun c1 => ?_, fun c1 => ?_⟩
      · (try simp (disch := omega) only [nlit, natrem, nIrm, nIam, nIam',  nI_add, pk_mul, nIsub, nIrem, nIdiv, nIand1, nIand3, nIand7, nIand31, nIshr, nIle, nIlt, nIeq, nIc, vpI, nIm1, m1nI, m1lt, nIlm, m1le, nIlem, nIneg, u2_ss, u2_nn, u2_kk, nIm1n, m1nIn, m1ltn, nIlmn, m1len, nIlemn] at c1); (try simp (disch := omega) only [nlit, natrem, nIrm, nIam, nIam',  nI_add, pk_mul, nIsub, nIrem, nIdiv, nIand1, nIand3, nIand7, nIand31, nIshr, nIle, nIlt, nIeq, nIc, vpI, nIm1, m1nI, m1lt, nIlm, m1le, nIlem, nIneg, u2_ss, u2_nn, u2_kk, nIm1n, m1nIn, m1ltn, nIlmn, m1len, nIlemn])
        exact h0 hno J T hF hT h3 h2
      · (try simp (disch := omega) only [nlit, natrem, nIrm, nIam, nIam',  nI_add, pk_mul, nIsub, nIrem, nIdiv, nIand1, nIand3, nIand7, nIand31, nIshr, nIle, nIlt, nIeq, nIc, vpI, nIm1, m1nI, m1lt, nIlm, m1le, nIlem, nIneg, u2_ss, u2_nn, u2_kk, nIm1n, m1nIn, m1ltn, nIlmn, m1len, nIlemn] at c1) <;> (first | omega | exact absurd rfl c1 | exact absurd trivial c1)
    | succ k ih =>
      intro n J T hk hn hno hF hT h3 h2
      have hpw := powW hW (n := n) (by omega)
      have hcn := svS_le hW (lc := lc) (g := g) (po := po) (wv := wv) n (by omega)
      refine RX8_seek_16 hc ⟨fun c1 => ?_, fun c1 => ?_⟩
      · (try simp (disch := omega) only [nlit, natrem, nIrm, nIam, nIam',  nI_add, pk_mul, nIsub, nIrem, nIdiv, nIand1, nIand3, nIand7, nIand31, nIshr, nIle, nIlt, nIeq, nIc, vpI, nIm1, m1nI, m1lt, nIlm, m1le, nIlem, nIneg, u2_ss, u2_nn, u2_kk, nIm1n, m1nIn, m1ltn, nIlmn, m1len, nIlemn] at c1); (try simp (disch := omega) only [nlit, natrem, nIrm, nIam, nIam',  nI_add, pk_mul, nIsub, nIrem, nIdiv, nIand1, nIand3, nIand7, nIand31, nIshr, nIle, nIlt, nIeq, nIc, vpI, nIm1, m1nI, m1lt, nIlm, m1le, nIlem, nIneg, u2_ss, u2_nn, u2_kk, nIm1n, m1nIn, m1ltn, nIlmn, m1len, nIlemn])
        omega
      · (try simp (disch := omega) only [nlit, natrem, nIrm, nIam, nIam',  nI_add, pk_mul, nIsub, nIrem, nIdiv, nIand1, nIand3, nIand7, nIand31, nIshr, nIle, nIlt, nIeq, nIc, vpI, nIm1, m1nI, m1lt, nIlm, m1le, nIlem, nIneg, u2_ss, u2_nn, u2_kk, nIm1n, m1nIn, m1ltn, nIlmn, m1len, nIlemn] at c1); (try simp (disch := omega) only [nlit, natrem, nIrm, nIam, nIam',  nI_add, pk_mul, nIsub, nIrem, nIdiv, nIand1, nIand3, nIand7, nIand31, nIshr, nIle, nIlt, nIeq, nIc, vpI, nIm1, m1nI, m1lt, nIlm, m1le, nIlem, nIneg, u2_ss, u2_nn, u2_kk, nIm1n, m1nIn, m1ltn, nIlmn, m1len, nIlemn])
        refine ready_ok hc hW hg (hF.cel hc hC) (by omega) (fun K hK hFK h48 => RX8_seek_30 hc ?_)
        have hFK' : RwF c I K := Kp.tr hF (hFK.mn (fun k hk => ⟨by omega, by omega, by omega, hk.2⟩))
        have hT' : Kp (fun k => k ≠ 48) R (u2 T 48 6 (some c)) := hT.up (by simp)
        have hR6 : (u2 T 48 6 (some c)) 48 6 = some c := u2_ss _ _ _ _
        have h3K : K 48 3 = nI 0 := by rw [h48 3 (by decide) (by decide)]; exact h3
        have h2K : K 48 2 = nI (svS a lc g po wv n).1 := by rw [h48 2 (by decide) (by decide)]; exact h2
        generalize u2 T 48 6 (some c) = T' at *
        have hin : ∀ m r : Nat, ∀ M, m = (a 3).val ^ n - r → r ≤ (a 3).val ^ n → (scR (hitR a lc g po) wv (n * 1000) (svS a lc g po wv n) r).2 = none → RwF c I M → RwI a lc g n M → M 48 3 = nI 0 → M 48 2 = nI (scR (hitR a lc g po) wv (n * 1000) (svS a lc g po wv n) r).1 → Y mX8_seek (d + 5) sx 33 [(0, .ref 48), (1, .ref c), (2, .int (nI g)), (3, .int (nI po)), (4, .int wv), (5, .int (nI ((a 3).val ^ n))), (6, .int (nI n)), (7, .int (nI r))] [] M L T' q := by
          intro m
          induction m with
          | zero =>
            intro r M hm hr hno hFM hI h3 h2
            have e : r = (a 3).val ^ n := by omega
            have e7 := (hFM.cel hc hC).1.2.2.2.2.1
            rw [e] at hno h2
            refine RX8_seek_33 hc ⟨fun _ => ?_, fun cc => ?_⟩
            · rw [e7, pk_mul, ← Nat.pow_succ, show nI n + 1 = nI (n + 1) from nI_add n 1]
              exact ih (n + 1) M T' (by omega) (by omega) hno hFM hT' h3 h2
            · exfalso
              rw [nIle (by omega) (by omega)] at cc
              omega
          | succ m ih2 =>
            intro r M hm hr hno hFM hI h3 h2
            have hCM := hFM.cel hc hC
            have hcr := scR_le (p := hitR a lc g po) (wv := wv) (lo := n * 1000) (s := svS a lc g po wv n) r
            have hn1 : n = 0 ∨ 1 ≤ (a 3).val := by
              rcases Nat.eq_zero_or_pos n with h | h
              · exact Or.inl h
              · refine Or.inr (Nat.pos_of_ne_zero (fun e => ?_))
                rw [e, Nat.zero_pow h] at hm
                omega
            have hstep : scR (hitR a lc g po) wv (n * 1000) (svS a lc g po wv n) (r + 1) = if hitR a lc g po (n * 1000 + r) then ((scR (hitR a lc g po) wv (n * 1000) (svS a lc g po wv n) r).1 + 1, if nI (scR (hitR a lc g po) wv (n * 1000) (svS a lc g po wv n) r).1 = wv then some (n * 1000 + r) else none) else scR (hitR a lc g po) wv (n * 1000) (svS a lc g po wv n) r := by
              show sc1 _ wv _ (n * 1000 + r) = _
              unfold sc1
              rw [hno]
            have hnx := ih2 (r + 1)
            rw [hstep] at hnx
            have ehit : hitR a lc g po (n * 1000 + r) ↔ wkA a lc g (rwd (max 1 (a 3).val) n r) = po := by
              unfold hitR
              rw [show (n * 1000 + r) / 1000 = n by omega, show (n * 1000 + r) % 1000 = r by omega]
            have hws := rwd_ok (a := a) (k := n) (r := r) (by omega) hn1
            have hlen := rwd_len (max 1 (a 3).val) n r
            have hwk := wkA_lt hW (lc := lc) (ws := rwd (max 1 (a 3).val) n r) hg
            refine RX8_seek_33 hc ⟨fun cc => ?_, fun _ => ?_⟩
            · exfalso
              rw [nIle (by omega) (by omega)] at cc
              omega
            refine setRow_ok hc hW hR6 hCM hI.2.1 (by omega) (by omega) (fun N hN hFN => RX8_seek_46 hc ?_)
            have hFN' : RwF c I N := Kp.tr hFM (hFN.mn (fun k hk => by omega))
            have hIN : RwI a lc g n N := hI.fr (by rw [hFN 48 (by decide)]) (by rw [hFN 48 (by decide)]) (fun i => by rw [hFN 51 (by decide)]) (fun i => by rw [hFN 52 (by decide)])
            refine endR_ok (ws := rwd (max 1 (a 3).val) n r) hc hW hg hR6 (hFN'.cel hc hC) (by rw [hlen]; exact hIN) hws hN (fun P hP hFP => ?_)
            rw [hlen] at hP
            have hFP' : RwF c I P := Kp.tr hFN' (hFP.mn (fun k hk => by omega))
            have e48 : ∀ i, P 48 i = M 48 i := fun i => by rw [hFP 48 (by decide), hFN 48 (by decide)]
            have h3P : P 48 3 = nI 0 := (e48 3).trans h3
            have h2P := (e48 2).trans h2
            refine RX8_seek_50 hc ⟨fun cc => ?_, fun cc => ⟨fun c2 => ?_, fun c2 => ?_⟩⟩
            · rw [nIeq (by omega) (by omega)] at cc
              rw [if_neg (fun w => cc (ehit.mp w))] at hnx
              rw [show nI r + 1 = nI (r + 1) from nI_add r 1]
              exact hnx P (by omega) (by omega) hno hFP' hP h3P h2P
            · rw [nIeq (by omega) (by omega)] at cc
              rw [if_pos (ehit.mpr cc)] at hnx
              rw [h2P] at c2 ⊢
              rw [if_neg c2] at hnx
              rw [show nI r + 1 = nI (r + 1) from nI_add r 1]
              refine hnx _ (by omega) (by omega) rfl (hFP'.up (by omega)) (hP.fr ?_ ?_ (fun i => u2_nn _ _ _ _ (by decide)) (fun i => u2_nn _ _ _ _ (by decide))) ?_ ?_
              · rw [u2_kk _ _ _ _ (by decide)]
              · rw [u2_kk _ _ _ _ (by decide)]
              · rw [u2_kk _ _ _ _ (by decide)]; exact h3P
              · rw [u2_ss]; exact nI_add _ 1
            · rw [nIeq (by omega) (by omega)] at cc
              rw [h2P] at c2
              rw [if_pos (ehit.mpr cc), if_pos c2] at hstep
              have hfin : ∀ j, j ≤ 4 → n < j → (svS a lc g po wv j).2 = some (n * 1000 + r) := by
                intro j
                induction j with
                | zero => intro _ hj; omega
                | succ j ihj =>
                  intro hj4 hj
                  by_cases e : j = n
                  · subst e
                    show (scR _ wv _ _ _).2 = _
                    have hall := scR_add (p := hitR a lc g po) (wv := wv) (lo := j * 1000) (s := svS a lc g po wv j) (r + 1) ((a 3).val ^ j - (r + 1))
                    rw [show r + 1 + ((a 3).val ^ j - (r + 1)) = (a 3).val ^ j by omega, hstep] at hall
                    have hall := hall.trans (scR_done (by simp) _)
                    rw [hall]
                  · have := ihj (by omega) (by omega)
                    show (scR _ wv _ _ _).2 = _
                    rw [scR_done (by rw [this]; simp)]
                    exact this
              refine h1 (n * 1000 + r) (hfin 4 (by omega) (by omega)) (by omega) P T' hFP' hT' h3P ?_ (by omega) ?_
              · rw [show (n * 1000 + r) / 1000 = n by omega]; exact hP.2.1
              · rw [show (n * 1000 + r) / 1000 = n by omega, show (n * 1000 + r) % 1000 = r by omega]
                exact hN.congr (fun j => by rw [hFP 49 (by decide)])
        exact hin _ 0 K rfl (Nat.zero_le _) hno hFK' hK h3K h2K
  refine EX8_seek hc ?_
  have := hout _ 0 (u2 (u2 I 48 3 0) 48 2 0) R rfl (by decide) rfl ((Kp.rf.up (by omega)).up (by omega)) Kp.rf (by rw [u2_kk _ _ _ _ (by decide), u2_ss]; rfl) (by rw [u2_ss]; rfl)
  rw [Nat.pow_zero] at this
  exact this
