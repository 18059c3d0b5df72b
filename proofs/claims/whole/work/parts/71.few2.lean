/-! the fewest glasses, of the class -/
def fwN (o : Option (List Nat)) : Int32 := match o with
  | none => -1
  | some r => nI r.length
def RoC (a : Ce) (lc : List (Nat × Nat)) (lf : Nat → Nat) (I : Ints) : Prop := I 48 3 = nI 0 ∨ ∃ g ce, g < (a 4).val ∧ ce < 64 ∧ I 48 7 = nI g ∧ I 48 5 = nI ce ∧ I 48 4 = fwN (fwS a lc lf g ce) ∧ ∀ r, fwS a lc lf g ce = some r → r.length ≤ 6 ∧ ALo I 49 0 r
theorem fS_okR {a : Ce} {lc : List (Nat × Nat)} {lf : Nat → Nat} {g ce n : Nat} {r : List Nat} (h : fS a lc lf g ce n [] = some r) : okR a lf n r ∧ wkA a lc g r / 4 = ce ∧ r.length = n := by
  obtain ⟨h1, h2, h3⟩ := fS_some n [] r h (fun x hx => absurd hx List.not_mem_nil)
  have hl : r.length = n := by simpa using h1
  refine ⟨⟨hl, fun i hi => ?_⟩, h2, hl⟩
  have hm : r.getD i 0 ∈ r := by
    rw [List.getD_eq_getElem?_getD, List.getElem?_eq_getElem (by omega)]
    exact List.getElem_mem _
  have := h3 _ hm
  have hp : 0 < r.count (r.getD i 0) := List.count_pos_iff.mpr hm
  exact ⟨this.1, by omega⟩
theorem shortest_ok {d : Nat} {sx : Sx} {I : Ints} {L : Lngs} {R : Rfs} {q : Q3} {a : Ce} {lc : List (Nat × Nat)} {lf : Nat → Nat} {gl : Nat → List Nat} {sn : Nat → Nat} {c g ce : Nat} (hC : CC a lc lf gl sn c I L R) (hg : g < (a 4).val) (hce : ce < 64) (hRo : RoC a lc lf I)
    (h : ∀ J T, RwF c I J → Kp (fun k => k ≠ 48) R T → RoC a lc lf J → (∀ r, fwS a lc lf g ce = some r → r.length ≤ 6 ∧ ALo J 49 0 r) → q (some (.int (fwN (fwS a lc lf g ce)))) J L T) : E0 mX8_shortest (d + 13) sx [.ref 48, .ref c, .int (nI g), .int (nI ce), .ref 34] I L R q := by
  have hCC := hC
  obtain ⟨hc, hR, hW, hE, hCl, hEv, hRt⟩ := hC
  have hc' : c = 2 ∨ c = 14 := hc
  have w3 := hW.2.2.2.1
  have w4 := hW.2.2.2.2.1
  have hs34 : S0[34]? = some (Sum.inr (.int, 6)) := rfl
  have hk4 := (hW.2.2.2.2.2.2.2.2.2.1 g hg).1
  have hsum := sumL_le hE.1 (a 3).val (by omega)
  have hmain : ∀ (ms n : Nat) (J : Ints) (T : Rfs), ms ≤ 6 → n ≤ ms + 1 → (∀ k, ms < k → k ≤ 6 → fwP a lc lf g ce (ms + 1) = none → fS a lc lf g ce k [] = none) → fwP a lc lf g ce n = none → RwF c I J → Kp (fun k => k ≠ 48) R T → LfC a lf [] J → J 48 5 = nI ce → J 48 4 = -1 → (n ≠ 0 → J 48 7 = nI g) → Y mX8_shortest (d + 13) sx 107 [(0, .ref 48), (1, .ref c), (2, .int (nI g)), (6, .int (nI ms)), (7, .int (nI n))] [] J L T q := by
    intro ms n
    generalize hmm : ms + 1 - n = m
    induction m generalizing n with
    | zero =>
      intro J T hms hn hbig hno hF hT hL h5 h4 h7
      have e : n = ms + 1 := by omega
      subst e
      have hall : fwS a lc lf g ce = none := fwP_none (fun k hk => by
        by_cases hk2 : k < ms + 1
        · have := hno
          unfold fwP at this
          rw [List.findSome?_eq_none_iff] at this
          exact this k (List.mem_range.mpr hk2)
        · exact hbig k (by omega) (by omega) hno)
      have h4' : J 48 4 = -nI 1 := h4
      rw [hall] at h
      refine RX8_shortest_107 hc ⟨fun c1 => ?_, fun c1 => ⟨fun c2 => ?_, fun c2 => ?_⟩⟩
      · (try simp (disch := omega) only [nlit, natrem, nIrm, nIam, nIam',  nI_add, pk_mul, nIsub, nIrem, nIdiv, nIand1, nIand3, nIand7, nIand31, nIshr, nIle, nIlt, nIeq, nIc, vpI, nIm1, m1nI, m1lt, nIlm, m1le, nIlem, nIneg, u2_ss, u2_nn, u2_kk, nIm1n, m1nIn, m1ltn, nIlmn, m1len, nIlemn, h4'] at c1); (try simp (disch := omega) only [nlit, natrem, nIrm, nIam, nIam',  nI_add, pk_mul, nIsub, nIrem, nIdiv, nIand1, nIand3, nIand7, nIand31, nIshr, nIle, nIlt, nIeq, nIc, vpI, nIm1, m1nI, m1lt, nIlm, m1le, nIlem, nIneg, u2_ss, u2_nn, u2_kk, nIm1n, m1nIn, m1ltn, nIlmn, m1len, nIlemn, h4'])
        refine h _ T (hF.up (by omega)) hT (Or.inr ⟨g, ce, hg, hce, ?_, ?_, ?_, ?_⟩) (fun r hr => by cases hr)
        · rw [u2_kk _ _ _ _ (by decide)]; exact h7 (by omega)
        · rw [u2_kk _ _ _ _ (by decide)]; exact h5
        · rw [u2_kk _ _ _ _ (by decide), hall]; exact h4
        · rw [hall]; intro r hr; cases hr
      · (try simp (disch := omega) only [nlit, natrem, nIrm, nIam, nIam',  nI_add, pk_mul, nIsub, nIrem, nIdiv, nIand1, nIand3, nIand7, nIand31, nIshr, nIle, nIlt, nIeq, nIc, vpI, nIm1, m1nI, m1lt, nIlm, m1le, nIlem, nIneg, u2_ss, u2_nn, u2_kk, nIm1n, m1nIn, m1ltn, nIlmn, m1len, nIlemn, h4'] at c1 c2) <;> (first | omega | exact absurd rfl c1 | exact absurd trivial c1 | exact absurd rfl c2 | exact absurd trivial c2)
      · (try simp (disch := omega) only [nlit, natrem, nIrm, nIam, nIam',  nI_add, pk_mul, nIsub, nIrem, nIdiv, nIand1, nIand3, nIand7, nIand31, nIshr, nIle, nIlt, nIeq, nIc, vpI, nIm1, m1nI, m1lt, nIlm, m1le, nIlem, nIneg, u2_ss, u2_nn, u2_kk, nIm1n, m1nIn, m1ltn, nIlmn, m1len, nIlemn, h4'] at c1 c2) <;> (first | omega | exact absurd rfl c1 | exact absurd trivial c1 | exact absurd rfl c2 | exact absurd trivial c2)
    | succ m ih =>
      intro J T hms hn hbig hno hF hT hL h5 h4 h7
      have h4' : J 48 4 = -nI 1 := h4
      refine RX8_shortest_107 hc ⟨fun c1 => ?_, fun c1 => ⟨fun c2 => ?_, fun c2 => ?_⟩⟩
      · (try simp (disch := omega) only [nlit, natrem, nIrm, nIam, nIam',  nI_add, pk_mul, nIsub, nIrem, nIdiv, nIand1, nIand3, nIand7, nIand31, nIshr, nIle, nIlt, nIeq, nIc, vpI, nIm1, m1nI, m1lt, nIlm, m1le, nIlem, nIneg, u2_ss, u2_nn, u2_kk, nIm1n, m1nIn, m1ltn, nIlmn, m1len, nIlemn, h4'] at c1); (try simp (disch := omega) only [nlit, natrem, nIrm, nIam, nIam',  nI_add, pk_mul, nIsub, nIrem, nIdiv, nIand1, nIand3, nIand7, nIand31, nIshr, nIle, nIlt, nIeq, nIc, vpI, nIm1, m1nI, m1lt, nIlm, m1le, nIlem, nIneg, u2_ss, u2_nn, u2_kk, nIm1n, m1nIn, m1ltn, nIlmn, m1len, nIlemn, h4'])
        omega
      · (try simp (disch := omega) only [nlit, natrem, nIrm, nIam, nIam',  nI_add, pk_mul, nIsub, nIrem, nIdiv, nIand1, nIand3, nIand7, nIand31, nIshr, nIle, nIlt, nIeq, nIc, vpI, nIm1, m1nI, m1lt, nIlm, m1le, nIlem, nIneg, u2_ss, u2_nn, u2_kk, nIm1n, m1nIn, m1ltn, nIlmn, m1len, nIlemn, h4'] at c1 c2) <;> (first | omega | exact absurd rfl c1 | exact absurd trivial c1 | exact absurd rfl c2 | exact absurd trivial c2)
      · (try simp (disch := omega) only [nlit, natrem, nIrm, nIam, nIam',  nI_add, pk_mul, nIsub, nIrem, nIdiv, nIand1, nIand3, nIand7, nIand31, nIshr, nIle, nIlt, nIeq, nIc, vpI, nIm1, m1nI, m1lt, nIlm, m1le, nIlem, nIneg, u2_ss, u2_nn, u2_kk, nIm1n, m1nIn, m1ltn, nIlmn, m1len, nIlemn, h4'] at c1 c2); (try simp (disch := omega) only [nlit, natrem, nIrm, nIam, nIam',  nI_add, pk_mul, nIsub, nIrem, nIdiv, nIand1, nIand3, nIand7, nIand31, nIshr, nIle, nIlt, nIeq, nIc, vpI, nIm1, m1nI, m1lt, nIlm, m1le, nIlem, nIneg, u2_ss, u2_nn, u2_kk, nIm1n, m1nIn, m1ltn, nIlmn, m1len, nIlemn, h4'])
        refine ready_ok hc hW hg (hF.cel hc hCl) (by omega) (fun K hK hFK h48 => RX8_shortest_130 hc ?_)
        have hFK' : RwF c I K := Kp.tr hF (hFK.mn (fun k hk => ⟨by omega, by omega, by omega, hk.2⟩))
        have hT' : Kp (fun k => k ≠ 48) R (u2 T 48 6 (some c)) := hT.up (by simp)
        have hR6 : (u2 T 48 6 (some c)) 48 6 = some c := u2_ss _ _ _ _
        have hL50 : LfC a lf [] K := fun w hw => by rw [hFK 50 ⟨by omega, by omega, by omega, by omega⟩]; exact hL w hw
        have h5K : K 48 5 = nI ce := by rw [h48 5 (by decide) (by decide)]; exact h5
        have h4K : K 48 4 = -1 := by rw [h48 4 (by decide) (by decide)]; exact h4
        generalize u2 T 48 6 (some c) = T' at *
        have hnx := ih (n + 1) (by omega)
        have hstep := fwP_s (a := a) (lc := lc) (lf := lf) (g := g) (ce := ce) n
        rw [hno] at hstep
        have hstep : fwP a lc lf g ce (n + 1) = fS a lc lf g ce n [] := hstep
        refine mayReach_ok (lf := lf) (gl := gl) (sn := sn) hc hW hg hE hR6 hCl (by omega) hce hFK' hK hL50 h5K (fun M hM1 hM2 => ?_) (fun hnone M hM1 hM2 => ?_)
        · refine RX8_shortest_134 hc ⟨fun w => absurd w (by decide), fun _ => ?_⟩
          have hFM : RwF c I M := Kp.tr hFK' (hM2.mn (fun k hk => by omega))
          have h48M : ∀ i, M 48 i = K 48 i := fun i => by rw [hM2 48 (by decide)]
          have hch := choose_ok (lf := lf) (gl := gl) (sn := sn) (L := L) (R := T') (sx := sx) hc hW hg hE hR6 (I0 := I) hCl (n := n) (ce := ce) (by omega) hce n (d + (6 - n)) [] M (fun r J' K' T'' => Y mX8_shortest (d + 13) sx 142 [(0, .ref 48), (1, .ref c), (2, .int (nI g)), (6, .int (nI ms)), (7, .int (nI n))] (r.toList ++ []) J' K' T'' q) (by simp) ⟨by simp, fun i hi => absurd hi (Nat.not_lt_zero _)⟩ (fun w _ => Nat.zero_le _) (fun w hw => by rw [hM2 50 (by decide)]; exact hL50 w hw) ALo.nil hM1 (by rw [h48M]; exact h5K) hFM (fun hn0 N hN => ?_) (fun r hr N hN hAr => ?_)
          · rw [show d + (6 - n) + n + 6 = d + 12 by omega] at hch
            exact hch
          · refine RX8_shortest_142 hc ⟨fun _ => ?_, fun w => absurd rfl w⟩
            have hFN : RwF c I N := Kp.tr hFM (hN.2.2.1.mn (fun k hk => by omega))
            have h48N : ∀ i, N 48 i = K 48 i := fun i => by rw [hN.2.2.1 48 (by decide)]; exact h48M i
            rw [show nI n + 1 = nI (n + 1) from nI_add n 1]
            exact hnx N T' hms (by omega) hbig (by rw [hstep]; exact hn0) hFN hT' hN.1 (by rw [h48N]; exact h5K) (by rw [h48N]; exact h4K) (fun _ => hN.2.1.1)
          · refine RX8_shortest_142 hc ⟨fun w => absurd w (by decide), fun _ => ?_⟩
            have hFN : RwF c I N := Kp.tr hFM (hN.2.2.1.mn (fun k hk => by omega))
            have h48N : ∀ i, N 48 i = K 48 i := fun i => by rw [hN.2.2.1 48 (by decide)]; exact h48M i
            have hlr := (fS_okR hr).2.2
            have hall : fwS a lc lf g ce = some r := fwP_some (n := n + 1) (by rw [hstep]; exact hr) 7 (by omega)
            have e4 : (u2 N 48 4 (nI n)) 48 4 = nI n := u2_ss _ _ _ _
            have hfin : ∀ P, P = u2 N 48 4 (nI n) → q (some (.int (nI n))) (u2 P 48 3 1) L T' := by
              intro P hP
              subst hP
              rw [hall] at h
              have hAq : ALo (u2 (u2 N 48 4 (nI n)) 48 3 1) 49 0 r := hAr.congr (fun i => by rw [u2_nn _ _ _ _ (by decide), u2_nn _ _ _ _ (by decide)])
              have hq := h (u2 (u2 N 48 4 (nI n)) 48 3 1) T' ((hFN.up (by omega)).up (by omega)) hT' (Or.inr ⟨g, ce, hg, hce, ?_, ?_, ?_, ?_⟩) (fun r' hr' => by cases hr'; exact ⟨by omega, hAq⟩)
              · show q (some (.int (nI n))) _ L T'
                have : fwN (some r) = nI n := by unfold fwN; simp only; rw [hlr]
                rw [this] at hq
                exact hq
              · rw [u2_kk _ _ _ _ (by decide), u2_kk _ _ _ _ (by decide)]; exact hN.2.1.1
              · rw [u2_kk _ _ _ _ (by decide), u2_kk _ _ _ _ (by decide), h48N]; exact h5K
              · rw [u2_kk _ _ _ _ (by decide), u2_ss, hall]; unfold fwN; simp only; rw [hlr]
              · rw [hall]; intro r' hr'; cases hr'; exact ⟨by omega, hAq⟩
            refine RX8_shortest_107 hc ⟨fun _ => ?_, fun _ => ⟨fun _ => ?_, fun cc => ?_⟩⟩
            · rw [e4]; exact hfin _ rfl
            · rw [e4]; exact hfin _ rfl
            · exfalso
              rw [e4] at cc
              exact m1_ne (by omega) cc
        · refine RX8_shortest_134 hc ⟨fun _ => ?_, fun w => absurd rfl w⟩
          have hFM : RwF c I M := Kp.tr hFK' (hM2.mn (fun k hk => by omega))
          have h48M : ∀ i, M 48 i = K 48 i := fun i => by rw [hM2 48 (by decide)]
          have hn0 : fS a lc lf g ce n [] = none := by
            match hf : fS a lc lf g ce n [] with
            | none => rfl
            | some r =>
              obtain ⟨k1, k2, k3⟩ := fS_okR hf
              exact absurd k2 (hnone r k1)
          rw [show nI n + 1 = nI (n + 1) from nI_add n 1]
          exact hnx M T' hms (by omega) hbig (by rw [hstep]; exact hn0) hFM hT' (fun w hw => by rw [hM2 50 (by decide)]; exact hL50 w hw) (by rw [h48M]; exact h5K) (by rw [h48M]; exact h4K) (fun _ => hM1.1)
  have hcopy : ∀ m w : Nat, ∀ J, m = (a 3).val - w → w ≤ (a 3).val → RwF c I J → (∀ x, x < w → J 50 x = nI (lf x)) → Y mX8_shortest (d + 13) sx 34 [(0, .ref 48), (1, .ref c), (2, .int (nI g)), (3, .int (nI ce)), (4, .ref 34), (5, .int (nI (sumL lf w))), (6, .int (nI w))] [] J L R q := by
    intro m
    induction m with
    | zero =>
      intro w J hm hw hF h50
      have e : w = (a 3).val := by omega
      subst e
      have hCJ := hF.cel hc hCl
      have e7 := hCJ.1.2.2.2.2.1
      have eK := (hCJ.2.2.2.2.1 g hg).1
      have hF2 : RwF c I (u2 (u2 J 48 5 (nI ce)) 48 4 (-nI 1)) := (hF.up (by omega)).up (by omega)
      have hL2 : LfC a lf [] (u2 (u2 J 48 5 (nI ce)) 48 4 (-nI 1)) := fun x hx => by rw [u2_nn _ _ _ _ (by decide), u2_nn _ _ _ _ (by decide)]; exact h50 x hx
      refine RX8_shortest_34 hc hs34 ⟨fun c1 => ⟨?_, ⟨fun c2 => ?_, fun c2 => ?_⟩⟩, fun c1 => ⟨?_, ⟨?_, ⟨?_, ?_⟩⟩⟩⟩
      · (try simp (disch := omega) only [nlit, natrem, nIrm, nIam, nIam',  nI_add, pk_mul, nIsub, nIrem, nIdiv, nIand1, nIand3, nIand7, nIand31, nIshr, nIle, nIlt, nIeq, nIc, vpI, nIm1, m1nI, m1lt, nIlm, m1le, nIlem, nIneg, u2_ss, u2_nn, u2_kk, nIm1n, m1nIn, m1ltn, nIlmn, m1len, nIlemn, e7, eK] at c1) <;> (try simp (disch := omega) only [nlit, natrem, nIrm, nIam, nIam',  nI_add, pk_mul, nIsub, nIrem, nIdiv, nIand1, nIand3, nIand7, nIand31, nIshr, nIle, nIlt, nIeq, nIc, vpI, nIm1, m1nI, m1lt, nIlm, m1le, nIlem, nIneg, u2_ss, u2_nn, u2_kk, nIm1n, m1nIn, m1ltn, nIlmn, m1len, nIlemn, e7, eK]) <;> (first | omega | trivial)
      · (try simp (disch := omega) only [nlit, natrem, nIrm, nIam, nIam',  nI_add, pk_mul, nIsub, nIrem, nIdiv, nIand1, nIand3, nIand7, nIand31, nIshr, nIle, nIlt, nIeq, nIc, vpI, nIm1, m1nI, m1lt, nIlm, m1le, nIlem, nIneg, u2_ss, u2_nn, u2_kk, nIm1n, m1nIn, m1ltn, nIlmn, m1len, nIlemn, e7, eK] at c1 c2); (try simp (disch := omega) only [nlit, natrem, nIrm, nIam, nIam',  nI_add, pk_mul, nIsub, nIrem, nIdiv, nIand1, nIand3, nIand7, nIand31, nIshr, nIle, nIlt, nIeq, nIc, vpI, nIm1, m1nI, m1lt, nIlm, m1le, nIlem, nIneg, u2_ss, u2_nn, u2_kk, nIm1n, m1nIn, m1ltn, nIlmn, m1len, nIlemn, e7, eK])
        refine min_ok (b := 6) (by omega) (by decide) (RX8_shortest_102 hc ?_)
        refine hmain (min (sumL lf (a 3).val) 6) 0 _ R (by omega) (by omega) (fun k hk hk6 _ => fS_big (by omega)) rfl hF2 Kp.rf hL2 ?_ ?_ (fun w => absurd rfl w)
        · rw [u2_kk _ _ _ _ (by decide), u2_ss]
        · rw [u2_ss]; rfl
      · (try simp (disch := omega) only [nlit, natrem, nIrm, nIam, nIam',  nI_add, pk_mul, nIsub, nIrem, nIdiv, nIand1, nIand3, nIand7, nIand31, nIshr, nIle, nIlt, nIeq, nIc, vpI, nIm1, m1nI, m1lt, nIlm, m1le, nIlem, nIneg, u2_ss, u2_nn, u2_kk, nIm1n, m1nIn, m1ltn, nIlmn, m1len, nIlemn, e7, eK] at c1 c2); (try simp (disch := omega) only [nlit, natrem, nIrm, nIam, nIam',  nI_add, pk_mul, nIsub, nIrem, nIdiv, nIand1, nIand3, nIand7, nIand31, nIshr, nIle, nIlt, nIeq, nIc, vpI, nIm1, m1nI, m1lt, nIlm, m1le, nIlem, nIneg, u2_ss, u2_nn, u2_kk, nIm1n, m1nIn, m1ltn, nIlmn, m1len, nIlemn, e7, eK])
        refine hmain 0 0 _ R (by omega) (by omega) (fun k hk hk6 hno => fS_wait c2 ?_) rfl hF2 Kp.rf hL2 ?_ ?_ (fun w => absurd rfl w)
        · have := fwP_s (a := a) (lc := lc) (lf := lf) (g := g) (ce := ce) 0
          rw [hno] at this
          exact this.symm
        · rw [u2_kk _ _ _ _ (by decide), u2_ss]
        · rw [u2_ss]; rfl
      · (try simp (disch := omega) only [nlit, natrem, nIrm, nIam, nIam',  nI_add, pk_mul, nIsub, nIrem, nIdiv, nIand1, nIand3, nIand7, nIand31, nIshr, nIle, nIlt, nIeq, nIc, vpI, nIm1, m1nI, m1lt, nIlm, m1le, nIlem, nIneg, u2_ss, u2_nn, u2_kk, nIm1n, m1nIn, m1ltn, nIlmn, m1len, nIlemn, e7, eK] at c1) <;> (try simp (disch := omega) only [nlit, natrem, nIrm, nIam, nIam',  nI_add, pk_mul, nIsub, nIrem, nIdiv, nIand1, nIand3, nIand7, nIand31, nIshr, nIle, nIlt, nIeq, nIc, vpI, nIm1, m1nI, m1lt, nIlm, m1le, nIlem, nIneg, u2_ss, u2_nn, u2_kk, nIm1n, m1nIn, m1ltn, nIlmn, m1len, nIlemn, e7, eK]) <;> (first | omega | trivial)
      · (try simp (disch := omega) only [nlit, natrem, nIrm, nIam, nIam',  nI_add, pk_mul, nIsub, nIrem, nIdiv, nIand1, nIand3, nIand7, nIand31, nIshr, nIle, nIlt, nIeq, nIc, vpI, nIm1, m1nI, m1lt, nIlm, m1le, nIlem, nIneg, u2_ss, u2_nn, u2_kk, nIm1n, m1nIn, m1ltn, nIlmn, m1len, nIlemn, e7, eK] at c1) <;> (try simp (disch := omega) only [nlit, natrem, nIrm, nIam, nIam',  nI_add, pk_mul, nIsub, nIrem, nIdiv, nIand1, nIand3, nIand7, nIand31, nIshr, nIle, nIlt, nIeq, nIc, vpI, nIm1, m1nI, m1lt, nIlm, m1le, nIlem, nIneg, u2_ss, u2_nn, u2_kk, nIm1n, m1nIn, m1ltn, nIlmn, m1len, nIlemn, e7, eK]) <;> (first | omega | trivial)
      · (try simp (disch := omega) only [nlit, natrem, nIrm, nIam, nIam',  nI_add, pk_mul, nIsub, nIrem, nIdiv, nIand1, nIand3, nIand7, nIand31, nIshr, nIle, nIlt, nIeq, nIc, vpI, nIm1, m1nI, m1lt, nIlm, m1le, nIlem, nIneg, u2_ss, u2_nn, u2_kk, nIm1n, m1nIn, m1ltn, nIlmn, m1len, nIlemn, e7, eK] at c1) <;> (try simp (disch := omega) only [nlit, natrem, nIrm, nIam, nIam',  nI_add, pk_mul, nIsub, nIrem, nIdiv, nIand1, nIand3, nIand7, nIand31, nIshr, nIle, nIlt, nIeq, nIc, vpI, nIm1, m1nI, m1lt, nIlm, m1le, nIlem, nIneg, u2_ss, u2_nn, u2_kk, nIm1n, m1nIn, m1ltn, nIlmn, m1len, nIlemn, e7, eK]) <;> (first | omega | trivial)
      · (try simp (disch := omega) only [nlit, natrem, nIrm, nIam, nIam',  nI_add, pk_mul, nIsub, nIrem, nIdiv, nIand1, nIand3, nIand7, nIand31, nIshr, nIle, nIlt, nIeq, nIc, vpI, nIm1, m1nI, m1lt, nIlm, m1le, nIlem, nIneg, u2_ss, u2_nn, u2_kk, nIm1n, m1nIn, m1ltn, nIlmn, m1len, nIlemn, e7, eK] at c1) <;> (first | omega | exact absurd rfl c1 | exact absurd trivial c1)
    | succ m ih =>
      intro w J hm hw hF h50
      have hCJ := hF.cel hc hCl
      have e7 := hCJ.1.2.2.2.2.1
      have e34 : J 34 w = nI (lf w) := by rw [hF 34 ⟨by omega, by omega⟩]; exact hEv.1 w (by omega)
      have h99 := hE.1 w (by omega)
      have hsw := sumL_le hE.1 w (by omega)
      refine RX8_shortest_34 hc hs34 ⟨fun c1 => ⟨?_, ⟨fun c2 => ?_, fun c2 => ?_⟩⟩, fun c1 => ⟨?_, ⟨?_, ⟨?_, ?_⟩⟩⟩⟩
      · (try simp (disch := omega) only [nlit, natrem, nIrm, nIam, nIam',  nI_add, pk_mul, nIsub, nIrem, nIdiv, nIand1, nIand3, nIand7, nIand31, nIshr, nIle, nIlt, nIeq, nIc, vpI, nIm1, m1nI, m1lt, nIlm, m1le, nIlem, nIneg, u2_ss, u2_nn, u2_kk, nIm1n, m1nIn, m1ltn, nIlmn, m1len, nIlemn, e7, e34] at c1) <;> (try simp (disch := omega) only [nlit, natrem, nIrm, nIam, nIam',  nI_add, pk_mul, nIsub, nIrem, nIdiv, nIand1, nIand3, nIand7, nIand31, nIshr, nIle, nIlt, nIeq, nIc, vpI, nIm1, m1nI, m1lt, nIlm, m1le, nIlem, nIneg, u2_ss, u2_nn, u2_kk, nIm1n, m1nIn, m1ltn, nIlmn, m1len, nIlemn, e7, e34]) <;> (first | omega | trivial)
      · (try simp (disch := omega) only [nlit, natrem, nIrm, nIam, nIam',  nI_add, pk_mul, nIsub, nIrem, nIdiv, nIand1, nIand3, nIand7, nIand31, nIshr, nIle, nIlt, nIeq, nIc, vpI, nIm1, m1nI, m1lt, nIlm, m1le, nIlem, nIneg, u2_ss, u2_nn, u2_kk, nIm1n, m1nIn, m1ltn, nIlmn, m1len, nIlemn, e7, e34] at c1 c2); (try simp (disch := omega) only [nlit, natrem, nIrm, nIam, nIam',  nI_add, pk_mul, nIsub, nIrem, nIdiv, nIand1, nIand3, nIand7, nIand31, nIshr, nIle, nIlt, nIeq, nIc, vpI, nIm1, m1nI, m1lt, nIlm, m1le, nIlem, nIneg, u2_ss, u2_nn, u2_kk, nIm1n, m1nIn, m1ltn, nIlmn, m1len, nIlemn, e7, e34])
        omega
      · (try simp (disch := omega) only [nlit, natrem, nIrm, nIam, nIam',  nI_add, pk_mul, nIsub, nIrem, nIdiv, nIand1, nIand3, nIand7, nIand31, nIshr, nIle, nIlt, nIeq, nIc, vpI, nIm1, m1nI, m1lt, nIlm, m1le, nIlem, nIneg, u2_ss, u2_nn, u2_kk, nIm1n, m1nIn, m1ltn, nIlmn, m1len, nIlemn, e7, e34] at c1 c2); (try simp (disch := omega) only [nlit, natrem, nIrm, nIam, nIam',  nI_add, pk_mul, nIsub, nIrem, nIdiv, nIand1, nIand3, nIand7, nIand31, nIshr, nIle, nIlt, nIeq, nIc, vpI, nIm1, m1nI, m1lt, nIlm, m1le, nIlem, nIneg, u2_ss, u2_nn, u2_kk, nIm1n, m1nIn, m1ltn, nIlmn, m1len, nIlemn, e7, e34])
        omega
      · (try simp (disch := omega) only [nlit, natrem, nIrm, nIam, nIam',  nI_add, pk_mul, nIsub, nIrem, nIdiv, nIand1, nIand3, nIand7, nIand31, nIshr, nIle, nIlt, nIeq, nIc, vpI, nIm1, m1nI, m1lt, nIlm, m1le, nIlem, nIneg, u2_ss, u2_nn, u2_kk, nIm1n, m1nIn, m1ltn, nIlmn, m1len, nIlemn, e7, e34] at c1) <;> (try simp (disch := omega) only [nlit, natrem, nIrm, nIam, nIam',  nI_add, pk_mul, nIsub, nIrem, nIdiv, nIand1, nIand3, nIand7, nIand31, nIshr, nIle, nIlt, nIeq, nIc, vpI, nIm1, m1nI, m1lt, nIlm, m1le, nIlem, nIneg, u2_ss, u2_nn, u2_kk, nIm1n, m1nIn, m1ltn, nIlmn, m1len, nIlemn, e7, e34]) <;> (first | omega | trivial)
      · (try simp (disch := omega) only [nlit, natrem, nIrm, nIam, nIam',  nI_add, pk_mul, nIsub, nIrem, nIdiv, nIand1, nIand3, nIand7, nIand31, nIshr, nIle, nIlt, nIeq, nIc, vpI, nIm1, m1nI, m1lt, nIlm, m1le, nIlem, nIneg, u2_ss, u2_nn, u2_kk, nIm1n, m1nIn, m1ltn, nIlmn, m1len, nIlemn, e7, e34] at c1) <;> (try simp (disch := omega) only [nlit, natrem, nIrm, nIam, nIam',  nI_add, pk_mul, nIsub, nIrem, nIdiv, nIand1, nIand3, nIand7, nIand31, nIshr, nIle, nIlt, nIeq, nIc, vpI, nIm1, m1nI, m1lt, nIlm, m1le, nIlem, nIneg, u2_ss, u2_nn, u2_kk, nIm1n, m1nIn, m1ltn, nIlmn, m1len, nIlemn, e7, e34]) <;> (first | omega | trivial)
      · (try simp (disch := omega) only [nlit, natrem, nIrm, nIam, nIam',  nI_add, pk_mul, nIsub, nIrem, nIdiv, nIand1, nIand3, nIand7, nIand31, nIshr, nIle, nIlt, nIeq, nIc, vpI, nIm1, m1nI, m1lt, nIlm, m1le, nIlem, nIneg, u2_ss, u2_nn, u2_kk, nIm1n, m1nIn, m1ltn, nIlmn, m1len, nIlemn, e7, e34] at c1) <;> (try simp (disch := omega) only [nlit, natrem, nIrm, nIam, nIam',  nI_add, pk_mul, nIsub, nIrem, nIdiv, nIand1, nIand3, nIand7, nIand31, nIshr, nIle, nIlt, nIeq, nIc, vpI, nIm1, m1nI, m1lt, nIlm, m1le, nIlem, nIneg, u2_ss, u2_nn, u2_kk, nIm1n, m1nIn, m1ltn, nIlmn, m1len, nIlemn, e7, e34]) <;> (first | omega | trivial)
      · (try simp (disch := omega) only [nlit, natrem, nIrm, nIam, nIam',  nI_add, pk_mul, nIsub, nIrem, nIdiv, nIand1, nIand3, nIand7, nIand31, nIshr, nIle, nIlt, nIeq, nIc, vpI, nIm1, m1nI, m1lt, nIlm, m1le, nIlem, nIneg, u2_ss, u2_nn, u2_kk, nIm1n, m1nIn, m1ltn, nIlmn, m1len, nIlemn, e7, e34] at c1); (try simp (disch := omega) only [nlit, natrem, nIrm, nIam, nIam',  nI_add, pk_mul, nIsub, nIrem, nIdiv, nIand1, nIand3, nIand7, nIand31, nIshr, nIle, nIlt, nIeq, nIc, vpI, nIm1, m1nI, m1lt, nIlm, m1le, nIlem, nIneg, u2_ss, u2_nn, u2_kk, nIm1n, m1nIn, m1ltn, nIlmn, m1len, nIlemn, e7, e34])
        refine ih (w + 1) _ (by omega) (by omega) (hF.up (by omega)) (fun x hx => ?_)
        by_cases e : x = w
        · rw [e, u2_ss]
        · rw [u2_kk _ _ _ _ e]; exact h50 x (by omega)
  have hgo := hcopy _ 0 I rfl (Nat.zero_le _) Kp.rf (fun x hx => absurd hx (Nat.not_lt_zero _))
  refine EX8_shortest hc hs34 ⟨fun _ => hgo, fun c1 => ⟨fun _ => hgo, fun c2 => ⟨fun _ => hgo, fun c3 => ?_⟩⟩⟩
  rcases hRo with h0 | ⟨g', ce', hg', hce', k7, k5, k4, k9⟩
  · exact absurd h0 c1
  · rw [k7, nIeq (by omega) (by omega)] at c2
    rw [k5, nIeq (by omega) (by omega)] at c3
    subst c2; subst c3
    rw [k4]
    exact h I R Kp.rf Kp.rf (Or.inr ⟨g, ce, hg, hce, k7, k5, k4, k9⟩) k9
