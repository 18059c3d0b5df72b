theorem CelC.dan {a b : Ce} {lc : Cd} {c s : Nat} {I J : Ints} {L K : Lngs} (hC : CelC a lc c I L) (hW : WFc a) (h6 : (a 2).val < 6) (hA : Agr a b (71 + 9 * (a 2).val) (80 + 9 * (a 2).val)) (hl : (dL b (a 2).val).val = s) (hs : s ≤ 8) (hJ : ∀ k, c < k → k ≤ c + 10 → k ≠ c + 1 → k ≠ c + 2 → J k = I k) (h0 : ∀ i, i ≠ 4 → J c i = I c i) (h4 : J c 4 = nI ((a 2).val + 1)) (j1 : ∀ d, d < (a 2).val → J (c + 1) d = I (c + 1) d) (n1 : J (c + 1) (a 2).val = nI s) (j2 : ∀ x, x < (a 2).val * 8 → J (c + 2) x = I (c + 2) x) (n2 : ∀ s', s' < s → J (c + 2) ((a 2).val * 8 + s') = nI (dS b (a 2).val s').val) (hK : K c = L c) : CelC (up1 b 2 (fi ((a 2).val + 1))) lc c J K := by
  have w3 := hW.2.2.2.1
  have w4 := hW.2.2.2.2.1
  have xn : ∀ k, k ≠ 2 → (k < 71 + 9 * (a 2).val ∨ 80 + 9 * (a 2).val ≤ k) → up1 b 2 (fi ((a 2).val + 1)) k = a k := fun k h2 hk => by rw [ua_n h2]; exact hA k hk
  have e2 : (up1 b 2 (fi ((a 2).val + 1)) 2).val = (a 2).val + 1 := by rw [up1_s, fi_v (by omega)]
  have e3 := xn 3 (by omega) (by omega)
  have e4 := xn 4 (by omega) (by omega)
  refine hC.grow hW ?_ (fun k hk => ?_) (fun d hd => ⟨⟨xn _ (by omega) (by omega), fun s hs => xn _ (by omega) (by omega)⟩, j1 d hd, fun s hs => j2 _ (by omega)⟩) (fun d h1 h2 => ?_) (fun w hw => ⟨⟨xn _ (by omega) (by omega), xn _ (by omega) (by omega), fun k hk => ⟨xn _ (by omega) (by omega), xn _ (by omega) (by omega)⟩⟩, by rw [hJ _ (by omega) (by omega) (by omega) (by omega)], by rw [hJ _ (by omega) (by omega) (by omega) (by omega)], fun _ _ => by rw [hJ _ (by omega) (by omega) (by omega) (by omega)]⟩) (fun w h1 h2 => by rw [e3] at h2; omega) (fun g hg => ⟨⟨xn _ (by omega) (by omega), xn _ (by omega) (by omega), xn _ (by omega) (by omega), xn _ (by omega) (by omega)⟩, by rw [hJ _ (by omega) (by omega) (by omega) (by omega)], by rw [hJ _ (by omega) (by omega) (by omega) (by omega)], by rw [hJ _ (by omega) (by omega) (by omega) (by omega)]⟩) (fun g h1 h2 => by rw [e4] at h2; omega) ?_
  · rw [e2, e3, e4, xn 0 (by omega) (by omega), xn 1 (by omega) (by omega), xn 5 (by omega) (by omega), h0 0 (by decide), h0 1 (by decide), h0 3 (by decide), h0 7 (by decide), h0 11 (by decide), h4]
    exact ⟨hC.1.1, hC.1.2.1, hC.1.2.2.1, rfl, hC.1.2.2.2.2.1, hC.1.2.2.2.2.2⟩
  · rw [hK, hC.2.1 k hk]
    unfold clP
    rw [xn _ (by omega) (by omega)]
  · rw [e2] at h2
    have ed : d = (a 2).val := by omega
    subst ed
    rw [u_dL (by omega), hl]
    refine ⟨n1, fun s' hs' => ?_⟩
    rw [u_dS (by omega)]
    exact n2 s' hs'
  · obtain ⟨k1, k2, k3⟩ := hC.2.2.2.2.2
    exact ⟨by rw [hJ _ (by omega) (by omega) (by omega) (by omega)]; exact k1, cdC.fr (fun i => by rw [hJ _ (by omega) (by omega) (by omega) (by omega)]) _ _ k2, k3⟩
theorem danceLine_ok {d : Nat} {sx : Sx} {I : Ints} {L : Lngs} {R : Rfs} {q : Q3} {ts : List Tk} {N c i : Nat} {a : Ce} {nm : Nm} {dn : List (List Nat)} {hc : Bool} {lc : Cd} (hP : PsC ts N c i a nm dn hc lc I L R) (hW : WFc a) (hZ : Zr a) (hNo : NmOk a nm dn) (hi : i + 1 ≤ N) (h26 : (a 2).val < 6)
    (hf : ∀ v J K, lnDan ts i a nm dn hc lc = .inl v → J 26 3 = nI v → RdF c I J L K → q (some (.int 0)) J K R)
    (ht : ∀ i' a' nm' dn' hc' lc' J K, lnDan ts i a nm dn hc lc = .inr (i', a', nm', dn', hc', lc') → PsC ts N c i' a' nm' dn' hc' lc' J K R → RdF c I J L K → q (some (.int 1)) J K R) : E0 mX5_danceLine (d + 5) sx [.ref 26] I L R q := by
  obtain ⟨hB, ⟨hcl, hR⟩, h2, h3, hNm, hDn, h8, h9, hGc, hC⟩ := hP
  have hc' : c = 2 ∨ c = 14 := hcl
  have hN := hB.2.1.1
  have w3 := hW.2.2.2.1
  have w4 := hW.2.2.2.2.1
  have hK1 : Kp (fun k => k ≠ 26) I (u2 I 26 2 (nI (i + 1))) := Kp.rf.up (by simp)
  have e1 : ∀ k, nI k + 1 = nI (k + 1) := fun k => nI_add k 1
  have esp : lnDan ts i a nm dn hc lc = newN ts nm (a 2).val (i + 1) (fun nm' => stpF ts (a 2).val (fun j b => wrd ts 59 j (.inr (j + 1, up1 b 2 (fi ((a 2).val + 1)), nm', dn ++ [wK ts (i + 1)], hc, lc))) 9 (i + 2) 0 a) := if_neg (by omega)
  rw [esp] at hf ht
  refine EX5_danceLine hcl hR ?_
  rw [h2, e1, u2_nn _ _ _ _ (show c ≠ 26 by omega), hC.1.2.2.2.1]
  refine newName_ok (tag := (a 2).val) (i := i + 1) (nm := nm) (hB.k hK1) ⟨by rw [u2_kk _ _ _ _ (by decide)]; exact hNm.1, hNm.2⟩ hNo.2.2.1 (by have := hNo.1; omega) (u2_ss _ _ _ _) hi (fun n1 hi2 ef J K hNm' hK31 eJ hLK => ?_) (fun v J ef hJ => ?_)
  rotate_left
  · exact RX5_danceLine_22 ⟨fun c => absurd rfl c, fun _ => hf v J L (ef _) hJ.1 (RdF.k (hK1.tr hJ.2))⟩
  rw [ef] at hf ht
  let P : Nat → Prop := fun k => k = c + 1 ∨ k = c + 2 ∨ k = c
  have hP26 : ¬ P 27 ∧ ¬ P 28 ∧ ¬ P 29 := ⟨by show ¬ (_ ∨ _); omega, by show ¬ (_ ∨ _); omega, by show ¬ (_ ∨ _); omega⟩
  have hI1 : LnI P I J (nm.length + 1) := by
    rw [eJ]
    refine ⟨((hK1.up (by simp)).up (by simp)).mn (fun _ hk => hk.1), fun k k2 k5 _ _ => by rw [u2_kk _ _ _ _ k2, u2_kk _ _ _ _ k5, u2_kk _ _ _ _ k2], by rw [u2_kk _ _ _ _ (by decide), u2_ss]⟩
  have j2 : J 26 2 = nI (i + 2) := by rw [eJ, u2_ss]
  have j5 : J 26 5 = nI (nm.length + 1) := hI1.2.2
  have hnl : nm.length < 18 := by have := hNo.1; omega
  refine RX5_danceLine_22 ⟨fun _ => ⟨?_, ?_, ?_⟩, fun c => absurd c (by decide)⟩
  · rw [j5]; simp (disch := omega) only [nlit, natrem, nIrm, nIam, nIam',  nI_add, pk_mul, nIsub, nIrem, nIdiv, nIand1, nIand3, nIand7, nIand31, nIshr, nIle, nIlt, nIeq, nIc, vpI, nIm1, m1nI, m1lt, nIlm, m1le, nIlem, nIneg, u2_ss, u2_nn, u2_kk, nIm1n, m1nIn, m1ltn, nIlmn, m1len, nIlemn, Nat.add_sub_cancel]; omega
  · simp (disch := omega) only [nlit, natrem, nIrm, nIam, nIam',  nI_add, pk_mul, nIsub, nIrem, nIdiv, nIand1, nIand3, nIand7, nIand31, nIshr, nIle, nIlt, nIeq, nIc, vpI, nIm1, m1nI, m1lt, nIlm, m1le, nIlem, nIneg, u2_ss, u2_nn, u2_kk, nIm1n, m1nIn, m1ltn, nIlmn, m1len, nIlemn]; omega
  rw [j5, show nI (nm.length + 1) - 1 = nI nm.length by rw [show (1 : Int32) = nI 1 from rfl, nIsub (by omega)]; rfl, nIc (by omega), nIc (by omega), hK31]
  have hK2 : Kp (fun k => k ≠ 31 ∧ k ≠ 32) L (u2 K 32 (a 2).val (lN (pk 256 0 (wK ts (i + 1))))) := (hLK.mn (fun _ hk => hk.1)).up (by simp)
  have hNm2 : ∀ k, k < (nm ++ [(wK ts (i + 1), (a 2).val)]).length → u2 K 32 (a 2).val (lN (pk 256 0 (wK ts (i + 1)))) 31 k = lN (pk 256 0 ((nm ++ [(wK ts (i + 1), (a 2).val)]).getD k ([], 0)).1) := fun k hk => by rw [u2_nn _ _ _ _ (by decide)]; exact hNm'.2 k hk
  have hDn2 : ∀ d, d < (dn ++ [wK ts (i + 1)]).length → u2 K 32 (a 2).val (lN (pk 256 0 (wK ts (i + 1)))) 32 d = lN (pk 256 0 ((dn ++ [wK ts (i + 1)]).getD d [])) := fun d hd => by
    rw [List.length_append, List.length_singleton] at hd
    have hdl := hNo.2.1
    by_cases e : d = dn.length
    · subst e
      rw [hdl, u2_ss, ← hdl]
      simp
    · rw [u2_kk _ _ _ _ (by omega), hLK 32 (by decide), List.getD_eq_getElem?_getD, List.getElem?_append_left (by omega), ← List.getD_eq_getElem?_getD]
      exact hDn d (by omega)
  generalize u2 K 32 (a 2).val (lN (pk 256 0 (wK ts (i + 1)))) = K2 at *
  have hK30 : K2 30 = L 30 := hK2 30 (by decide)
  have hRd : ∀ J', LnI P I J' (nm.length + 1) → RdF c I J' L K2 := fun J' h => ⟨h.1.mn (fun k hk => ⟨hk.1, fun hp => hk.2 (by show c ≤ k ∧ k ≤ c + 11; rcases hp with e | e | e <;> omega)⟩), hK2.mn (fun k hk => ⟨hk.2.1, hk.2.2.1⟩)⟩
  have hBB : ∀ J', LnI P I J' (nm.length + 1) → RB ts N J' K2 := fun J' h => h.rb hB hP26 hK30
  have hfl : ∀ (k j : Nat) (J' : Ints) pc, 1 ≤ k → LnI P I J' (nm.length + 1) → J' 26 2 = nI j → j ≤ N → stpF ts (a 2).val (fun j b => wrd ts 59 j (.inr (j + 1, up1 b 2 (fi ((a 2).val + 1)), nm ++ [(wK ts (i + 1), (a 2).val)], dn ++ [wK ts (i + 1)], hc, lc))) 9 (i + 2) 0 a = .inl (fK ts k j) → (pc = 105 ∨ pc = 93) → E0 mX5_wrong (d + 4) sx [.ref 26, .int (nI k)] J' K2 R (fun r J K T => Y mX5_danceLine (d + 5) sx pc [] (r.toList ++ []) J K T q) := by
    intro k j J' pc hk hI' h2' hj es hpc
    refine wrongR_ok (hBB J' hI') h2' hj ?_
    have hq := hf _ (u2 J' 26 3 (nI (fK ts k j))) K2 es (u2_ss _ _ _ _) ⟨(hRd J' hI').1.up (by simp), (hRd J' hI').2⟩
    rcases hpc with rfl | rfl
    · exact RX5_danceLine_105 ⟨Or.inl rfl, hq⟩
    · exact RX5_danceLine_93 ⟨Or.inl rfl, hq⟩
  have hlp : ∀ n j s (b : Ce) (J' : Ints), n + s = 9 → 1 ≤ n → j ≤ N → LnI P I J' (nm.length + 1) → J' 26 2 = nI j → J' c = I c → J' (c + 1) = I (c + 1) → (∀ x, x < (a 2).val * 8 → J' (c + 2) x = I (c + 2) x) → (∀ s', s' < s → J' (c + 2) ((a 2).val * 8 + s') = nI (dS b (a 2).val s').val) → Agr a b (71 + 9 * (a 2).val) (80 + 9 * (a 2).val) → (dL b (a 2).val).val = s →
      stpF ts (a 2).val (fun j b => wrd ts 59 j (.inr (j + 1, up1 b 2 (fi ((a 2).val + 1)), nm ++ [(wK ts (i + 1), (a 2).val)], dn ++ [wK ts (i + 1)], hc, lc))) 9 (i + 2) 0 a = stpF ts (a 2).val (fun j b => wrd ts 59 j (.inr (j + 1, up1 b 2 (fi ((a 2).val + 1)), nm ++ [(wK ts (i + 1), (a 2).val)], dn ++ [wK ts (i + 1)], hc, lc))) n j s b →
      Y mX5_danceLine (d + 5) sx 46 [(0, .ref 26), (1, .int (nI (a 2).val)), (2, .int (nI s))] [] J' K2 R q := by
    intro n
    induction n with
    | zero => intro j s b J' _ h1; omega
    | succ n ih =>
      intro j s b J' hns _ hj hI' h2' hc0 hc1 hc2 hc2n hA hl es
      have hlt := hB.1.lt j
      have hst : E0 mX5_sort (d + 4) sx [.ref 26] J' K2 R (fun r J K T => Y mX5_danceLine (d + 5) sx 82 [(0, .ref 26), (1, .int (nI (a 2).val)), (2, .int (nI s))] (r.toList ++ []) J K T q) ∨ (s ≠ 0 ∧ sK ts j = 59) := by
        by_cases h59 : s ≠ 0 ∧ sK ts j = 59
        · exact Or.inr h59
        refine Or.inl (sortR_ok (hBB J' hI') h2' hj (RX5_danceLine_82 (isStepC_ok (by omega) (fun hss => ?_) (fun hss => ?_))))
        · have hjN := lt_N hB.2.1 hj (by unfold isSt at hss; omega)
          by_cases h8' : s = 8
          · refine RX5_danceLine_85 hcl hR ⟨fun _ => ⟨fun c2 => ?_, fun _ => ?_⟩, fun c => absurd c (by decide)⟩
            · exfalso; rw [h8'] at c2; exact c2 rfl
            · refine hfl 5 j J' 105 (by decide) hI' h2' hj ?_ (Or.inl rfl)
              rw [es]
              show (if _ then _ else _) = _
              rw [if_pos hss, if_pos h8']
          · refine RX5_danceLine_85 hcl hR ⟨fun _ => ⟨fun _ => ?_, fun c2 => ?_⟩, fun c => absurd c (by decide)⟩
            · refine sortR_ok (hBB J' hI') h2' hj ?_
              refine RX5_danceLine_123 hcl ⟨?_, ?_⟩
              · simp (disch := omega) only [nlit, natrem, nIrm, nIam, nIam',  nI_add, pk_mul, nIsub, nIrem, nIdiv, nIand1, nIand3, nIand7, nIand31, nIshr, nIle, nIlt, nIeq, nIc, vpI, nIm1, m1nI, m1lt, nIlm, m1le, nIlem, nIneg, u2_ss, u2_nn, u2_kk, nIm1n, m1nIn, m1ltn, nIlmn, m1len, nIlemn]; omega
              · rw [show nI (a 2).val * 8 + nI s = nI ((a 2).val * 8 + s) by rw [show (8 : Int32) = nI 8 from rfl, pk_mul, nI_add], nIc (by omega), show nI (sK ts j) - 12 = nI (sK ts j - 12) by rw [show (12 : Int32) = nI 12 from rfl, nIsub (by unfold isSt at hss; omega)], u2_nn _ _ _ _ (show 26 ≠ c + 2 by omega), h2', e1, e1]
                have hsv : (fi (sK ts j - 12)).val = sK ts j - 12 := fi_v (by omega)
                refine ih (j + 1) (s + 1) (up1 (up1 b (72 + 9 * (a 2).val + s) (fi (sK ts j - 12))) (71 + 9 * (a 2).val) (fi (s + 1))) _ (by omega) (by omega) (by omega) (hI'.u (Or.inr (Or.inl rfl)) (by omega)).at (u2_ss _ _ _ _) ?_ ?_ (fun x hx => ?_) (fun s' hs' => ?_) (fun k hk => by rw [ua_n (by omega), ua_n (by omega)]; exact hA k hk) (by rw [h_dL rfl, fi_v (by omega)]) ?_
                · funext x; rw [u2_nn _ _ _ _ (by omega), u2_nn _ _ _ _ (by omega), hc0]
                · funext x; rw [u2_nn _ _ _ _ (by omega), u2_nn _ _ _ _ (by omega), hc1]
                · rw [u2_nn _ _ _ _ (by omega), u2_kk _ _ _ _ (by omega)]; exact hc2 x hx
                · rw [u2_nn _ _ _ _ (by omega), u_dS (by omega)]
                  by_cases e : s' = s
                  · rw [e, u2_ss, h_dS rfl, hsv]
                  · rw [u2_kk _ _ _ _ (by omega), u_dS (by omega)]; exact hc2n s' (by omega)
                · rw [es]
                  show (if _ then _ else _) = _
                  rw [if_pos hss, if_neg h8']
            · exfalso; simp (disch := omega) only [nlit, natrem, nIrm, nIam, nIam',  nI_add, pk_mul, nIsub, nIrem, nIdiv, nIand1, nIand3, nIand7, nIand31, nIshr, nIle, nIlt, nIeq, nIc, vpI, nIm1, m1nI, m1lt, nIlm, m1le, nIlem, nIneg, u2_ss, u2_nn, u2_kk, nIm1n, m1nIn, m1ltn, nIlmn, m1len, nIlemn] at c2; omega
        · refine RX5_danceLine_85 hcl hR ⟨fun c => absurd rfl c, fun _ => ?_⟩
          refine hfl 1 j J' 93 (by decide) hI' h2' hj ?_ (Or.inr rfl)
          rw [es]
          show (if _ then _ else _) = _
          rw [if_neg hss]
          by_cases h0 : s = 0
          · rw [if_pos h0]
          · rw [if_neg h0]
            exact if_neg (fun hh => h59 ⟨h0, hh⟩)
      refine RX5_danceLine_46 hcl hR ⟨fun c1 => ?_, fun c1 => ⟨fun c2 => ?_, fun c2 => ?_⟩⟩
      · exfalso; simp (disch := omega) only [nlit, natrem, nIrm, nIam, nIam',  nI_add, pk_mul, nIsub, nIrem, nIdiv, nIand1, nIand3, nIand7, nIand31, nIshr, nIle, nIlt, nIeq, nIc, vpI, nIm1, m1nI, m1lt, nIlm, m1le, nIlem, nIneg, u2_ss, u2_nn, u2_kk, nIm1n, m1nIn, m1ltn, nIlmn, m1len, nIlemn] at c1; omega
      · simp (disch := omega) only [nlit, natrem, nIrm, nIam, nIam',  nI_add, pk_mul, nIsub, nIrem, nIdiv, nIand1, nIand3, nIand7, nIand31, nIshr, nIle, nIlt, nIeq, nIc, vpI, nIm1, m1nI, m1lt, nIlm, m1le, nIlem, nIneg, u2_ss, u2_nn, u2_kk, nIm1n, m1nIn, m1ltn, nIlmn, m1len, nIlemn] at c2
        rcases hst with hst | hst
        · exact hst
        · omega
      · simp (disch := omega) only [nlit, natrem, nIrm, nIam, nIam',  nI_add, pk_mul, nIsub, nIrem, nIdiv, nIand1, nIand3, nIand7, nIand31, nIshr, nIle, nIlt, nIeq, nIc, vpI, nIm1, m1nI, m1lt, nIlm, m1le, nIlem, nIneg, u2_ss, u2_nn, u2_kk, nIm1n, m1nIn, m1ltn, nIlmn, m1len, nIlemn] at c2
        refine sortR_ok (hBB J' hI') h2' hj ?_
        refine RX5_danceLine_60 hcl hR ⟨fun c3 => ?_, fun c3 => ⟨?_, ?_⟩⟩
        · rcases hst with hst | hst
          · exact hst
          · exfalso; simp (disch := omega) only [nlit, natrem, nIrm, nIam, nIam',  nI_add, pk_mul, nIsub, nIrem, nIdiv, nIand1, nIand3, nIand7, nIand31, nIshr, nIle, nIlt, nIeq, nIc, vpI, nIm1, m1nI, m1lt, nIlm, m1le, nIlem, nIneg, u2_ss, u2_nn, u2_kk, nIm1n, m1nIn, m1ltn, nIlmn, m1len, nIlemn] at c3; omega
        · simp (disch := omega) only [nlit, natrem, nIrm, nIam, nIam',  nI_add, pk_mul, nIsub, nIrem, nIdiv, nIand1, nIand3, nIand7, nIand31, nIshr, nIle, nIlt, nIeq, nIc, vpI, nIm1, m1nI, m1lt, nIlm, m1le, nIlem, nIneg, u2_ss, u2_nn, u2_kk, nIm1n, m1nIn, m1ltn, nIlmn, m1len, nIlemn]; omega
        · simp (disch := omega) only [nlit, natrem, nIrm, nIam, nIam',  nI_add, pk_mul, nIsub, nIrem, nIdiv, nIand1, nIand3, nIand7, nIand31, nIshr, nIle, nIlt, nIeq, nIc, vpI, nIm1, m1nI, m1lt, nIlm, m1le, nIlem, nIneg, u2_ss, u2_nn, u2_kk, nIm1n, m1nIn, m1ltn, nIlmn, m1len, nIlemn] at c3
          have es2 : stpF ts (a 2).val (fun j b => wrd ts 59 j (.inr (j + 1, up1 b 2 (fi ((a 2).val + 1)), nm ++ [(wK ts (i + 1), (a 2).val)], dn ++ [wK ts (i + 1)], hc, lc))) 9 (i + 2) 0 a = wrd ts 59 j (.inr (j + 1, up1 b 2 (fi ((a 2).val + 1)), nm ++ [(wK ts (i + 1), (a 2).val)], dn ++ [wK ts (i + 1)], hc, lc)) := by
            rw [es]
            show (if _ then _ else _) = _
            rw [if_neg (by unfold isSt; omega), if_neg (by omega)]
          have e4 : u2 J' (c + 1) (a 2).val (nI s) c 4 = nI (a 2).val := by rw [u2_nn _ _ _ _ (by omega), hc0]; exact hC.1.2.2.2.1
          rw [nIc (by omega), e4, e1]
          have hIz : LnI P I (u2 (u2 J' (c + 1) (a 2).val (nI s)) c 4 (nI ((a 2).val + 1))) (nm.length + 1) := (hI'.u (Or.inl rfl) (by omega)).u (Or.inr (Or.inr rfl)) (by omega)
          refine wordR_o (s := 59) (hBB _ hIz) (by rw [u2_nn _ _ _ _ (by omega), u2_nn _ _ _ _ (by omega)]; exact h2') hj (by decide) (by decide) (fun J3 s3 ew hi4 p3 _ _ r3 => ?_) (fun v J3 ew hJ3 => RX5_danceLine_162 ⟨Or.inl rfl, hf v J3 K2 (by rw [es2]; exact ew _) hJ3.1 ((hRd _ hIz).tr (RdF.k hJ3.2))⟩)
          have hI3 := hIz.r26 r3
          refine RX5_danceLine_162 ⟨Or.inr rfl, ht _ _ _ _ _ _ J3 K2 (by rw [es2, ew]) ⟨hBB J3 hI3, ⟨hcl, hR⟩, p3, by rw [hI3.2.1 3 (by decide) (by decide) (by decide) (by decide)]; exact h3, ⟨by rw [hI3.2.2, List.length_append]; rfl, hNm2⟩, hDn2, by rw [hI3.2.1 8 (by decide) (by decide) (by decide) (by decide)]; exact h8, by rw [hI3.2.1 9 (by decide) (by decide) (by decide) (by decide)]; exact h9, fun y hy => ?_, ?_⟩ ((hRd _ hIz).tr (RdF.k r3.1))⟩
          · rw [hK2 26 (by decide), hGc y hy]
            refine (any_up ?_ (fun g hg => ?_) y).symm
            · rw [ua_n (by omega)]; exact hA 4 (by omega)
            · rw [u_gC (by omega)]; exact hA _ (by omega)
          · have hgz : ∀ k, k ≠ 26 → J3 k = u2 (u2 J' (c + 1) (a 2).val (nI s)) c 4 (nI ((a 2).val + 1)) k := fun k hk => r3.1 k hk
            refine hC.dan (s := s) hW h26 hA hl (by omega) (fun k k1 k2 k6 k7 => hI3.1 k ⟨by omega, by show ¬ (_ ∨ _); omega⟩) (fun x hx => ?_) ?_ (fun x hx => ?_) ?_ (fun x hx => ?_) (fun s' hs' => ?_) (hK2 c (by omega))
            · rw [hgz c (by omega), u2_kk _ _ _ _ hx, u2_nn _ _ _ _ (by omega), hc0]
            · rw [hgz c (by omega), u2_ss]
            · rw [hgz _ (by omega), u2_nn _ _ _ _ (by omega), u2_kk _ _ _ _ (by omega), hc1]
            · rw [hgz _ (by omega), u2_nn _ _ _ _ (by omega), u2_ss]
            · rw [hgz _ (by omega), u2_nn _ _ _ _ (by omega), u2_nn _ _ _ _ (by omega)]; exact hc2 x hx
            · rw [hgz _ (by omega), u2_nn _ _ _ _ (by omega), u2_nn _ _ _ _ (by omega)]; exact hc2n s' hs'
  have hJc : ∀ k, k ≠ 26 → J k = I k := fun k hk => by rw [eJ]; funext x; rw [u2_nn _ _ _ _ hk, u2_nn _ _ _ _ hk, u2_nn _ _ _ _ hk]
  exact hlp 9 (i + 2) 0 a J rfl (by decide) (by omega) hI1 j2 (hJc c (by omega)) (hJc _ (by omega)) (fun x _ => by rw [hJc _ (by omega)]) (fun s' hs' => absurd hs' (Nat.not_lt_zero _)) (fun k _ => rfl) (hZ.1 _ (Nat.le_refl _) h26) rfl
