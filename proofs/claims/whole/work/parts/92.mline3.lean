theorem stepHere_ok {d : Nat} {sx : Sx} {I : Ints} {L : Lngs} {R : Rfs} {q : Q3} {ts : List Tk} {N i : Nat} (hB : MB ts N I L) (h8 : I 92 8 = nI 0) (h7 : I 92 7 = nI i) (hil : i ≤ N) (ht : isSt (sK ts i) → q (some (.int (nI (sK ts i - 12)))) I L R) (hf : ¬ isSt (sK ts i) → q (some (.int (-1))) I L R) : E0 mX12_stepHere (d + 2) sx [.ref 92] I L R q := by
  obtain ⟨hT, hE, hM, hWd, hFc⟩ := id hB
  have hlen := hE.2.1
  have hlp : ∀ n k v2, n = 5 - k → k ≤ 5 → ((∃ j, j < k ∧ sK ts i = 12 + j ∧ v2 = nI j) ∨ ((∀ j, j < k → sK ts i ≠ 12 + j) ∧ v2 = -1)) → Y mX12_stepHere (d + 2) sx 4 [(0, .ref 92), (1, .int v2), (2, .int (nI k))] [] I L R q := by
    intro n
    induction n with
    | succ n ih =>
      intro k v2 hn' hk hv2
      have hn1 : n = 5 - (k + 1) ∧ k + 1 ≤ 5 ∧ k < 5 := by clear hv2; omega
      refine RX12_stepHere_4 ⟨fun c => ?_, fun _ => ?_⟩
      · exfalso; clear hv2; simp (disch := omega) only [nlit, natrem, nIrm, nIam, nIam',  nI_add, pk_mul, nIsub, nIrem, nIdiv, nIand1, nIand3, nIand7, nIand31, nIshr, nIle, nIlt, nIeq, nIc, vpI, nIm1, m1nI, m1lt, nIlm, m1le, nIlem, nIneg, u2_ss, u2_nn, u2_kk, nIm1n, m1nIn, m1ltn, nIlmn, m1len, nIlemn] at c; omega
      · rw [show (12 : Int32) + nI k = nI (12 + k) by rw [show (12 : Int32) = nI 12 from rfl, nI_add]]
        refine isWordM_ok hT hM hWd h8 h7 (by clear hv2; omega) (by clear hv2; omega) (fun es => RX12_stepHere_17 ⟨fun c => absurd c (by decide), fun _ => ?_⟩) (fun es => RX12_stepHere_17 ⟨fun _ => ?_, fun c => absurd rfl c⟩)
        · rw [show nI k + 1 = nI (k + 1) from nI_add k 1]
          exact ih (k + 1) _ hn1.1 hn1.2.1 (Or.inl ⟨k, Nat.lt_succ_self k, es, rfl⟩)
        · rw [show nI k + 1 = nI (k + 1) from nI_add k 1]
          refine ih (k + 1) v2 hn1.1 hn1.2.1 ?_
          rcases hv2 with ⟨j, hj, ej⟩ | ⟨hj, ej⟩
          · exact Or.inl ⟨j, by omega, ej⟩
          · refine Or.inr ⟨fun j hj2 => ?_, ej⟩
            by_cases e : j = k
            · rw [e]; exact es
            · exact hj j (by omega)
    | zero =>
      intro k v2 hn' hk hv2
      refine RX12_stepHere_4 ⟨fun _ => ?_, fun c => ?_⟩
      · rcases hv2 with ⟨j, hj, es, ev⟩ | ⟨hno, ev⟩
        · have := ht (by unfold isSt; omega)
          rw [show sK ts i - 12 = j by omega] at this
          rw [ev]; exact this
        · rw [ev]
          refine hf (fun hh => ?_)
          unfold isSt at hh
          exact hno (sK ts i - 12) (by omega) (by omega)
      · exfalso; clear hv2; simp (disch := omega) only [nlit, natrem, nIrm, nIam, nIam',  nI_add, pk_mul, nIsub, nIrem, nIdiv, nIand1, nIand3, nIand7, nIand31, nIshr, nIle, nIlt, nIeq, nIc, vpI, nIm1, m1nI, m1lt, nIlm, m1le, nIlem, nIneg, u2_ss, u2_nn, u2_kk, nIm1n, m1nIn, m1ltn, nIlmn, m1len, nIlemn] at c; omega
  exact EX12_stepHere (hlp 5 0 (-1) rfl (by decide) (Or.inr ⟨fun j hj => absurd hj (Nat.not_lt_zero _), rfl⟩))
theorem readDance_ok {d : Nat} {sx : Sx} {I : Ints} {L : Lngs} {R : Rfs} {q : Q3} {ts : List Tk} {N i : Nat} {a : Ce} {nm : Nm} {dn : List (List Nat)} {hc : Bool} {lc : Cd} (hP : PsM ts N i a nm hc lc I L) (hW : WFc a) (hZ : Zr a) (hNo : NmOk a nm dn) (hi : i + 1 ≤ N) (hf : LnF ts N I L R q (lnDan ts i a nm dn hc lc)) (ht : LnT ts N I L R q (lnDan ts i a nm dn hc lc)) : E0 mX12_readDance (d + 3) sx [.ref 92] I L R q := by
  obtain ⟨hT, hE, hM, hWd, hFc⟩ := id hP.1
  have hlen := hE.2.1
  have hN := hE.1
  have w2 := hW.2.2.1
  have w3 := hW.2.2.2.1
  have w4 := hW.2.2.2.2.1
  have e206 : I 98 206 = nI (a 2).val := hP.2.2.2.2.2.1.ix rfl (by decide) (by decide)
  by_cases h26 : (a 2).val = 6
  · refine EX12_readDance ⟨fun c => ?_, fun _ => ?_⟩
    · exfalso; rw [e206, h26] at c; exact c rfl
    · refine wrongM_ok (k := 5) hT hM hP.2.2.1 hP.2.1 (by omega) (RX12_readDance_20 ?_)
      exact hf _ _ L (if_pos h26) (fK_f hT (by decide) (by decide)) (u2_ss _ _ _ _) (FM.rf.u (Or.inl ⟨rfl, by omega⟩))
  have esp : lnDan ts i a nm dn hc lc = newN ts nm (a 2).val (i + 1) (fun nm' => stpF ts (a 2).val (fun j b => wrd ts 59 j (.inr (j + 1, up1 b 2 (fi ((a 2).val + 1)), nm', dn ++ [wK ts (i + 1)], hc, lc))) 9 (i + 2) 0 a) := if_neg h26
  have f54 : ∀ v J K v2, lnDan ts i a nm dn hc lc = .inl v → isF v → J 92 8 = nI v → FM I J L K → Y mX12_readDance (d + 3) sx 54 [(0, .ref 92), (2, .int v2)] [] J K R q := by
    intro v J K v2 e hv j8 hF
    refine RX12_readDance_54 ⟨fun _ => hf v _ K e hv (by rw [u2_nn _ _ _ _ (by decide)]; exact j8) (hF.u (Or.inr (Or.inl ⟨rfl, by decide⟩))), fun c => ?_⟩
    exfalso; rw [j8] at c; simp (disch := omega) only [nlit, natrem, nIrm, nIam, nIam',  nI_add, pk_mul, nIsub, nIrem, nIdiv, nIand1, nIand3, nIand7, nIand31, nIshr, nIle, nIlt, nIeq, nIc, vpI, nIm1, m1nI, m1lt, nIlm, m1le, nIlem, nIneg, u2_ss, u2_nn, u2_kk, nIm1n, m1nIn, m1ltn, nIlmn, m1len, nIlemn] at c; omega
  refine EX12_readDance ⟨fun _ => ?_, fun c => ?_⟩
  rotate_left
  · exfalso; rw [e206] at c; simp (disch := omega) only [nlit, natrem, nIrm, nIam, nIam',  nI_add, pk_mul, nIsub, nIrem, nIdiv, nIand1, nIand3, nIand7, nIand31, nIshr, nIle, nIlt, nIeq, nIc, vpI, nIm1, m1nI, m1lt, nIlm, m1le, nIlem, nIneg, u2_ss, u2_nn, u2_kk, nIm1n, m1nIn, m1ltn, nIlmn, m1len, nIlemn] at c; omega
  rw [e206]
  have eix : (275 : Int32) + 9 * nI (a 2).val = nI (275 + 9 * (a 2).val) := by rw [show (9 : Int32) = nI 9 from rfl, pk_mul, show (275 : Int32) = nI 275 from rfl, nI_add]
  refine readName_ok (tag := (a 2).val) hP.1 hP.2.2.2.1 hNo.2.2.1 (by have := hNo.1; omega) (fun t e => hNo.t w2 e) hP.2.2.1 hP.2.1 hi (fun hn ef hi2 J1 K1 hNm1 p7 p8 hF1 hK1 => ?_) (fun v J1 ef hv j8 f8 => ?_)
  rotate_left
  · refine RX12_readDance_26 ⟨fun _ => f54 v J1 L _ (by rw [esp]; exact ef _) hv j8 f8.fm, fun c => ?_⟩
    exfalso; rw [j8] at c; simp (disch := omega) only [nlit, natrem, nIrm, nIam, nIam',  nI_add, pk_mul, nIsub, nIrem, nIdiv, nIand1, nIand3, nIand7, nIand31, nIshr, nIle, nIlt, nIeq, nIc, vpI, nIm1, m1nI, m1lt, nIlm, m1le, nIlem, nIneg, u2_ss, u2_nn, u2_kk, nIm1n, m1nIn, m1ltn, nIlmn, m1len, nIlemn] at c; omega
  obtain ⟨hP1, hFM1⟩ := hP.nm hNm1 p7 p8 hF1 hK1
  rw [ef] at esp
  have hlp : ∀ n j s (b : Ce) (J : Ints), n + s = 9 → 1 ≤ n → j ≤ N → (s ≠ 0 ∨ isSt (sK ts j)) → PsM ts N j b (nm ++ [(wK ts (i + 1), (a 2).val)]) hc lc J K1 → FM I J L K1 → Agr a b (71 + 9 * (a 2).val) (80 + 9 * (a 2).val) → (dL b (a 2).val).val = s → lnDan ts i a nm dn hc lc = stpF ts (a 2).val (fun j b => wrd ts 59 j (.inr (j + 1, up1 b 2 (fi ((a 2).val + 1)), nm ++ [(wK ts (i + 1), (a 2).val)], dn ++ [wK ts (i + 1)], hc, lc))) n j s b →
      Y mX12_readDance (d + 3) sx 54 [(0, .ref 92), (2, .int (nI (275 + 9 * (a 2).val)))] [] J K1 R q := by
    intro n
    induction n with
    | zero => intro j s b J _ h1; omega
    | succ n ih =>
      intro j s b J hns _ hj hs0 hPj hFj hA hl es
      have hlt := hT.lt j
      have hM1 := hPj.1.2.2.1
      have e275 : J 98 (275 + 9 * (a 2).val) = nI s := by
        have := hPj.2.2.2.2.2.1.ix (k := 275 + 9 * (a 2).val) (j := 71 + 9 * (a 2).val) (by omega) (by omega) (by omega)
        rw [this, ← hl]; rfl
      have e206j : J 98 206 = nI (a 2).val := by
        have := hPj.2.2.2.2.2.1.ix (k := 206) (j := 2) rfl (by decide) (by decide)
        rw [this, hA 2 (by omega)]
      refine RX12_readDance_54 ⟨fun c => absurd hPj.2.2.1 c, fun _ => ?_⟩
      refine stepHere_ok hPj.1 hPj.2.2.1 hPj.2.1 hj (fun hst => ?_) (fun hst => ?_)
      · have hjN := lt_N hE hj (by unfold isSt at hst; omega)
        refine RX12_readDance_65 ⟨fun c => absurd c (i32_ltz (by omega)), fun _ => ⟨by simp (disch := omega) only [nlit, natrem, nIrm, nIam, nIam',  nI_add, pk_mul, nIsub, nIrem, nIdiv, nIand1, nIand3, nIand7, nIand31, nIshr, nIle, nIlt, nIeq, nIc, vpI, nIm1, m1nI, m1lt, nIlm, m1le, nIlem, nIneg, u2_ss, u2_nn, u2_kk, nIm1n, m1nIn, m1ltn, nIlmn, m1len, nIlemn]; omega, ?_⟩⟩
        rw [nIc (by omega), e275]
        by_cases h8' : s = 8
        · refine ⟨fun c => ?_, fun _ => ?_⟩
          · exfalso; rw [h8'] at c; exact c rfl
          · have hvv := fK_f hT (i := j) (k := 5) (by decide) (by decide)
            refine wrongM_ok (k := 5) hT hM1 hPj.2.2.1 hPj.2.1 (by omega) (RX12_readDance_84 (f54 _ _ K1 _ ?_ hvv (u2_ss _ _ _ _) (hFj.u (Or.inl ⟨rfl, by omega⟩))))
            rw [es]
            show (if _ then _ else _) = _
            rw [if_pos hst, if_pos h8']
        · refine ⟨fun _ => ⟨by simp (disch := omega) only [nlit, natrem, nIrm, nIam, nIam',  nI_add, pk_mul, nIsub, nIrem, nIdiv, nIand1, nIand3, nIand7, nIand31, nIshr, nIle, nIlt, nIeq, nIc, vpI, nIm1, m1nI, m1lt, nIlm, m1le, nIlem, nIneg, u2_ss, u2_nn, u2_kk, nIm1n, m1nIn, m1ltn, nIlmn, m1len, nIlemn]; omega, ?_⟩, fun c => ?_⟩
          · refine stepHere_ok hPj.1 hPj.2.2.1 hPj.2.1 hj (fun _ => ?_) (fun hh => absurd hst hh)
            rw [show nI (275 + 9 * (a 2).val) + 1 + nI s = nI (275 + 9 * (a 2).val + 1 + s) by rw [show (1 : Int32) = nI 1 from rfl, nI_add, nI_add]]
            refine RX12_readDance_105 ⟨by simp (disch := omega) only [nlit, natrem, nIrm, nIam, nIam',  nI_add, pk_mul, nIsub, nIrem, nIdiv, nIand1, nIand3, nIand7, nIand31, nIshr, nIle, nIlt, nIeq, nIc, vpI, nIm1, m1nI, m1lt, nIlm, m1le, nIlem, nIneg, u2_ss, u2_nn, u2_kk, nIm1n, m1nIn, m1ltn, nIlmn, m1len, nIlemn]; omega, by simp (disch := omega) only [nlit, natrem, nIrm, nIam, nIam',  nI_add, pk_mul, nIsub, nIrem, nIdiv, nIand1, nIand3, nIand7, nIand31, nIshr, nIle, nIlt, nIeq, nIc, vpI, nIm1, m1nI, m1lt, nIlm, m1le, nIlem, nIneg, u2_ss, u2_nn, u2_kk, nIm1n, m1nIn, m1ltn, nIlmn, m1len, nIlemn]; omega, by simp (disch := omega) only [nlit, natrem, nIrm, nIam, nIam',  nI_add, pk_mul, nIsub, nIrem, nIdiv, nIand1, nIand3, nIand7, nIand31, nIshr, nIle, nIlt, nIeq, nIc, vpI, nIm1, m1nI, m1lt, nIlm, m1le, nIlem, nIneg, u2_ss, u2_nn, u2_kk, nIm1n, m1nIn, m1ltn, nIlmn, m1len, nIlemn]; omega, ?_⟩
            rw [nIc (by omega), nIc (by omega), u2_kk _ _ _ _ (show 275 + 9 * (a 2).val ≠ 275 + 9 * (a 2).val + 1 + s by omega), e275, hPj.2.1, show nI s + 1 = nI (s + 1) from nI_add s 1, show nI j + 1 = nI (j + 1) from nI_add j 1]
            have hPk := ((hPj.sp (v := sK ts j - 12) (k := 72 + 9 * (a 2).val + s) (o := 275 + 9 * (a 2).val + 1 + s) (by omega) (by omega) (by omega)).sp (v := s + 1) (k := 71 + 9 * (a 2).val) (o := 275 + 9 * (a 2).val) (by omega) (by omega) (by omega)).f7 (F7.rf.u (v := nI (j + 1))) (u2_ss _ _ _ _)
            refine ih (j + 1) (s + 1) _ _ (by omega) (by omega) (by omega) (Or.inl (by omega)) hPk (((hFj.u (Or.inr (Or.inl ⟨rfl, by omega⟩))).u (Or.inr (Or.inl ⟨rfl, by omega⟩))).u (Or.inl ⟨rfl, by omega⟩)) (fun k hk => by rw [ua_n (by omega), ua_n (by omega)]; exact hA k hk) (by rw [h_dL rfl, fi_v (by omega)]) ?_
            rw [es]
            show (if _ then _ else _) = _
            rw [if_pos hst, if_neg h8']
          · exfalso; simp (disch := omega) only [nlit, natrem, nIrm, nIam, nIam',  nI_add, pk_mul, nIsub, nIrem, nIdiv, nIand1, nIand3, nIand7, nIand31, nIshr, nIle, nIlt, nIeq, nIc, vpI, nIm1, m1nI, m1lt, nIlm, m1le, nIlem, nIneg, u2_ss, u2_nn, u2_kk, nIm1n, m1nIn, m1ltn, nIlmn, m1len, nIlemn] at c; omega
      · refine RX12_readDance_65 ⟨fun _ => ?_, fun c => absurd (by decide) c⟩
        have hs1 : s ≠ 0 := by rcases hs0 with h | h; exact h; exact absurd h hst
        rw [e206j, show nI (a 2).val + 1 = nI ((a 2).val + 1) from nI_add _ 1]
        have hPk := hPj.sp (v := (a 2).val + 1) (k := 2) (o := 206) (by omega) (by omega) (by omega)
        refine ht j _ _ (dn ++ [wK ts (i + 1)]) hc lc _ K1 ?_ hj hPk (hFj.u (Or.inr (Or.inl ⟨rfl, by decide⟩)))
        rw [es]
        show (if _ then _ else _) = _
        rw [if_neg hst, if_neg hs1]
  refine RX12_readDance_26 ⟨fun c => absurd p8 c, fun _ => ?_⟩
  rw [eix]
  refine stepHere_ok hP1.1 p8 p7 hi2 (fun hst => ?_) (fun hst => ?_)
  · refine RX12_readDance_46 ⟨fun _ => ?_, fun c => ?_⟩
    · exact hlp 9 (i + 2) 0 a J1 rfl (by decide) hi2 (Or.inr hst) hP1 hFM1 (fun k _ => rfl) (hZ.1 _ (Nat.le_refl _) (by omega)) esp
    · have hlt := hT.lt (i + 2)
      exfalso; exact c (by rw [show (0 : Int32) = nI 0 from rfl, nIle (by decide) (by omega)]; omega)
  · refine RX12_readDance_46 ⟨fun c => absurd c (by decide), fun _ => ?_⟩
    have hvv := fK_f hT (i := i + 2) (k := 1) (by decide) (by decide)
    refine wrongM_ok (k := 1) hT hP1.1.2.2.1 p8 p7 (by omega) (f54 _ _ K1 _ ?_ hvv (u2_ss _ _ _ _) (hFM1.u (Or.inl ⟨rfl, by omega⟩)))
    rw [esp]
    show (if _ then _ else _) = _
    rw [if_neg hst]
    rfl
theorem readPart_ok {d : Nat} {sx : Sx} {I : Ints} {L : Lngs} {R : Rfs} {q : Q3} {ts : List Tk} {N j k w : Nat} {b : Ce} {nm : Nm} {hc : Bool} {lc : Cd} (hP : PsM ts N j b nm hc lc I L) (hw : ∀ k, k < nm.length → wOk (nm.getD k ([], 0)).1) (hl : nm.length ≤ 18) (htg : ∀ t, fnd nm (wK ts j) = some t → t < 1000) (hw6 : w < 6) (hk : (wM b w).val = k) (hk3 : k ≤ 3) (hwd : ∀ m, m < k → (wD b w m).val < 6) (hj : j ≤ N) (hn : isN (sK ts j))
    (ht : ∀ x, fnd nm (wK ts j) = some x → x < 6 → usb b w k x = false → k ≠ 3 → ∀ J, (∀ f, nmb ts 1 4 (j + 1) f = f (vK ts (j + 1))) → j + 2 ≤ N → PsM ts N (j + 2) (up1 (up1 (up1 b (127 + 8 * w + 2 * k) (fi x)) (128 + 8 * w + 2 * k) (fi (vK ts (j + 1)))) (126 + 8 * w) (fi (k + 1))) nm hc lc J L → FM I J L L → q none J L R)
    (hf : ∀ v, isF v → ((fnd nm (wK ts j) = none ∧ v = fK ts 2 j) ∨ (∃ x, fnd nm (wK ts j) = some x ∧ ((6 ≤ x ∧ v = fK ts 2 j) ∨ (x < 6 ∧ usb b w k x = true ∧ v = fK ts 3 j) ∨ (x < 6 ∧ usb b w k x = false ∧ k = 3 ∧ v = fK ts 5 j) ∨ (x < 6 ∧ usb b w k x = false ∧ k ≠ 3 ∧ ∀ f, nmb ts 1 4 (j + 1) f = .inl v)))) → ∀ J, J 92 8 = nI v → FM I J L L → q none J L R) : E0 mX12_readPart (d + 3) sx [.ref 92, .int (nI (329 + 8 * w))] I L R q := by
  obtain ⟨hT, hE, hM, hWd, hFc⟩ := id hP.1
  have hlen := hE.2.1
  have hN := hE.1
  have h8 := hP.2.2.1
  have h7 := hP.2.1
  have hjN := lt_N hE hj (isN_ne hn).1
  have eM : I 98 (329 + 8 * w + 1) = nI k := by
    have := hP.2.2.2.2.2.1.ix (k := 329 + 8 * w + 1) (j := 126 + 8 * w) (by omega) (by omega) (by omega)
    rw [this, ← hk]; rfl
  have eD : ∀ m, m < k → I 98 (329 + 8 * w + 2 + 2 * m) = nI (wD b w m).val := fun m hm => hP.2.2.2.2.2.1.ix (by omega) (by omega) (by omega)
  have ea : ∀ z, nI (329 + 8 * w) + nI z = nI (329 + 8 * w + z) := fun z => nI_add _ _
  have f83 : ∀ v J v3, isF v → J 92 8 = nI v → q none J L R → Y mX12_readPart (d + 3) sx 83 [(0, .ref 92), (1, .int (nI (329 + 8 * w))), (2, .int (nI k)), (3, .int v3)] [] J L R q := by
    intro v J v3 hv j8 hq
    refine RX12_readPart_83 ⟨fun _ => hq, fun c => ?_⟩
    exfalso; rw [j8] at c; simp (disch := omega) only [nlit, natrem, nIrm, nIam, nIam',  nI_add, pk_mul, nIsub, nIrem, nIdiv, nIand1, nIand3, nIand7, nIand31, nIshr, nIle, nIlt, nIeq, nIc, vpI, nIm1, m1nI, m1lt, nIlm, m1le, nIlem, nIneg, u2_ss, u2_nn, u2_kk, nIm1n, m1nIn, m1ltn, nIlmn, m1len, nIlemn] at c; omega
  have f32 : ∀ v J v3 v4, isF v → J 92 8 = nI v → q none J L R → Y mX12_readPart (d + 3) sx 32 [(0, .ref 92), (1, .int (nI (329 + 8 * w))), (2, .int (nI k)), (3, .int v3), (4, .int v4)] [] J L R q := by
    intro v J v3 v4 hv j8 hq
    have hnz : ¬ J 92 8 = 0 := fun c => by rw [j8] at c; simp (disch := omega) only [nlit, natrem, nIrm, nIam, nIam',  nI_add, pk_mul, nIsub, nIrem, nIdiv, nIand1, nIand3, nIand7, nIand31, nIshr, nIle, nIlt, nIeq, nIc, vpI, nIm1, m1nI, m1lt, nIlm, m1le, nIlem, nIneg, u2_ss, u2_nn, u2_kk, nIm1n, m1nIn, m1ltn, nIlmn, m1len, nIlemn] at c; omega
    refine RX12_readPart_32 ⟨fun _ => ⟨fun _ => ⟨fun _ => hq, fun c => absurd c hnz⟩, fun _ => wrongM_f hv j8 (f83 v J v3 hv j8 hq)⟩, fun _ => ⟨fun _ => ⟨fun _ => hq, fun _ => wrongM_f hv j8 (f83 v J v3 hv j8 hq)⟩, fun c => absurd c hnz⟩⟩
  have hw2 : ∀ s0, ((fnd nm (wK ts j) = none) ∨ ∃ x, fnd nm (wK ts j) = some x ∧ 6 ≤ x) → E0 mX12_wrong (d + 2) sx [.ref 92, .int 2] I L R (fun r J K T => Y mX12_readPart (d + 3) sx 29 [(0, .ref 92), (1, .int (nI (329 + 8 * w))), (2, .int (nI k)), (3, .int s0)] (r.toList ++ []) J K T q) := by
    intro s0 hh
    have hvv := fK_f hT (i := j) (k := 2) (by decide) (by decide)
    refine wrongM_ok (k := 2) hT hM h8 h7 (by omega) (RX12_readPart_29 (f32 _ _ _ _ hvv (u2_ss _ _ _ _) (hf _ hvv ?_ _ (u2_ss _ _ _ _) (FM.rf.u (Or.inl ⟨rfl, by omega⟩)))))
    rcases hh with hh | ⟨x, h1, h2⟩
    · exact Or.inl ⟨hh, rfl⟩
    · exact Or.inr ⟨x, h1, Or.inl ⟨h2, rfl⟩⟩
  refine EX12_readPart ⟨by rw [show (1 : Int32) = nI 1 from rfl, ea]; simp (disch := omega) only [nlit, natrem, nIrm, nIam, nIam',  nI_add, pk_mul, nIsub, nIrem, nIdiv, nIand1, nIand3, nIand7, nIand31, nIshr, nIle, nIlt, nIeq, nIc, vpI, nIm1, m1nI, m1lt, nIlm, m1le, nIlem, nIneg, u2_ss, u2_nn, u2_kk, nIm1n, m1nIn, m1ltn, nIlmn, m1len, nIlemn]; omega, ?_⟩
  rw [show (1 : Int32) = nI 1 from rfl, ea, nIc (by omega), eM]
  refine find_ok hP.1 hP.2.2.2.1 hw hl h7 hj hn (fun e => ?_) (fun x e => ?_)
  · exact RX12_readPart_13 ⟨fun _ => hw2 _ (Or.inl e), fun c => absurd (by decide) c⟩
  have hx1000 := htg x e
  by_cases hx6 : x < 6
  rotate_left
  · refine RX12_readPart_13 ⟨fun c => absurd c (i32_ltz (by omega)), fun _ => ⟨fun c => ?_, fun _ => hw2 _ (Or.inr ⟨x, e, by omega⟩)⟩⟩
    exfalso; simp (disch := omega) only [nlit, natrem, nIrm, nIam, nIam',  nI_add, pk_mul, nIsub, nIrem, nIdiv, nIand1, nIand3, nIand7, nIand31, nIshr, nIle, nIlt, nIeq, nIc, vpI, nIm1, m1nI, m1lt, nIlm, m1le, nIlem, nIneg, u2_ss, u2_nn, u2_kk, nIm1n, m1nIn, m1ltn, nIlmn, m1len, nIlemn] at c; omega
  refine RX12_readPart_13 ⟨fun c => absurd c (i32_ltz (by omega)), fun _ => ⟨fun _ => ?_, fun c => ?_⟩⟩
  rotate_left
  · exfalso; simp (disch := omega) only [nlit, natrem, nIrm, nIam, nIam',  nI_add, pk_mul, nIsub, nIrem, nIdiv, nIand1, nIand3, nIand7, nIand31, nIshr, nIle, nIlt, nIeq, nIc, vpI, nIm1, m1nI, m1lt, nIlm, m1le, nIlem, nIneg, u2_ss, u2_nn, u2_kk, nIm1n, m1nIn, m1ltn, nIlmn, m1len, nIlemn] at c; omega
  -- the parts told already
  have hlp : ∀ n m, n = k - m → m ≤ k → (∀ m', m' < m → (wD b w m').val ≠ x) → Y mX12_readPart (d + 3) sx 32 [(0, .ref 92), (1, .int (nI (329 + 8 * w))), (2, .int (nI k)), (3, .int (nI x)), (4, .int (nI m))] [] I L R q := by
    intro n
    induction n with
    | succ n ih =>
      intro m hn' hm hno
      have hdm := hwd m (by omega)
      refine RX12_readPart_32 ⟨fun c => ?_, fun _ => ⟨fun c => absurd h8 c, fun _ => ⟨?_, fun c => ?_, fun c => ?_⟩⟩⟩
      · exfalso; simp (disch := omega) only [nlit, natrem, nIrm, nIam, nIam',  nI_add, pk_mul, nIsub, nIrem, nIdiv, nIand1, nIand3, nIand7, nIand31, nIshr, nIle, nIlt, nIeq, nIc, vpI, nIm1, m1nI, m1lt, nIlm, m1le, nIlem, nIneg, u2_ss, u2_nn, u2_kk, nIm1n, m1nIn, m1ltn, nIlmn, m1len, nIlemn] at c; omega
      · rw [show (2 : Int32) = nI 2 from rfl, ea, pk_mul, nI_add]; simp (disch := omega) only [nlit, natrem, nIrm, nIam, nIam',  nI_add, pk_mul, nIsub, nIrem, nIdiv, nIand1, nIand3, nIand7, nIand31, nIshr, nIle, nIlt, nIeq, nIc, vpI, nIm1, m1nI, m1lt, nIlm, m1le, nIlem, nIneg, u2_ss, u2_nn, u2_kk, nIm1n, m1nIn, m1ltn, nIlmn, m1len, nIlemn]; omega
      · rw [show (2 : Int32) = nI 2 from rfl, ea, pk_mul, nI_add, nIc (by omega), eD m (by omega)] at c
        simp (disch := omega) only [nlit, natrem, nIrm, nIam, nIam',  nI_add, pk_mul, nIsub, nIrem, nIdiv, nIand1, nIand3, nIand7, nIand31, nIshr, nIle, nIlt, nIeq, nIc, vpI, nIm1, m1nI, m1lt, nIlm, m1le, nIlem, nIneg, u2_ss, u2_nn, u2_kk, nIm1n, m1nIn, m1ltn, nIlmn, m1len, nIlemn] at c
        rw [show nI m + 1 = nI (m + 1) from nI_add m 1]
        refine ih (m + 1) (by omega) (by omega) (fun m' hm' => ?_)
        by_cases em : m' = m
        · rw [em]; exact c
        · exact hno m' (by omega)
      · rw [show (2 : Int32) = nI 2 from rfl, ea, pk_mul, nI_add, nIc (by omega), eD m (by omega)] at c
        simp (disch := omega) only [nlit, natrem, nIrm, nIam, nIam',  nI_add, pk_mul, nIsub, nIrem, nIdiv, nIand1, nIand3, nIand7, nIand31, nIshr, nIle, nIlt, nIeq, nIc, vpI, nIm1, m1nI, m1lt, nIlm, m1le, nIlem, nIneg, u2_ss, u2_nn, u2_kk, nIm1n, m1nIn, m1ltn, nIlmn, m1len, nIlemn] at c
        have hus : usb b w k x = true := usb_iff.mpr ⟨m, by omega, c⟩
        have hvv := fK_f hT (i := j) (k := 3) (by decide) (by decide)
        exact wrongM_ok (k := 3) hT hM h8 h7 (by omega) (RX12_readPart_67 (f32 _ _ _ _ hvv (u2_ss _ _ _ _) (hf _ hvv (Or.inr ⟨x, e, Or.inr (Or.inl ⟨hx6, hus, rfl⟩)⟩) _ (u2_ss _ _ _ _) (FM.rf.u (Or.inl ⟨rfl, by omega⟩)))))
    | zero =>
      intro m hn' hm hno
      have em : m = k := by omega
      subst em
      have hus : usb b w m x = false := by
        cases hh : usb b w m x with
        | false => rfl
        | true =>
          obtain ⟨m', h1, h2⟩ := usb_iff.mp hh
          exact absurd h2 (hno m' h1)
      by_cases h3 : m = 3
      · refine RX12_readPart_32 ⟨fun _ => ⟨fun c => ?_, fun _ => ?_⟩, fun c => absurd (Int32.le_refl _) c⟩
        · exfalso; rw [h3] at c; exact c rfl
        · have hvv := fK_f hT (i := j) (k := 5) (by decide) (by decide)
          exact wrongM_ok (k := 5) hT hM h8 h7 (by omega) (f83 _ _ _ hvv (u2_ss _ _ _ _) (hf _ hvv (Or.inr ⟨x, e, Or.inr (Or.inr (Or.inl ⟨hx6, hus, h3, rfl⟩))⟩) _ (u2_ss _ _ _ _) (FM.rf.u (Or.inl ⟨rfl, by omega⟩))))
      · have e2 : nI (329 + 8 * w) + 2 + 2 * nI m = nI (329 + 8 * w + 2 + 2 * m) := by rw [show (2 : Int32) = nI 2 from rfl, ea, pk_mul, nI_add]
        have e3 : nI (329 + 8 * w) + 3 + 2 * nI m = nI (329 + 8 * w + 3 + 2 * m) := by rw [show (2 : Int32) = nI 2 from rfl, show (3 : Int32) = nI 3 from rfl, ea, pk_mul, nI_add]
        refine RX12_readPart_32 ⟨fun _ => ⟨fun _ => ⟨fun c => absurd h8 c, fun _ => ⟨?_, ?_⟩⟩, fun c => ?_⟩, fun c => absurd (Int32.le_refl _) c⟩
        · rw [e2]; simp (disch := omega) only [nlit, natrem, nIrm, nIam, nIam',  nI_add, pk_mul, nIsub, nIrem, nIdiv, nIand1, nIand3, nIand7, nIand31, nIshr, nIle, nIlt, nIeq, nIc, vpI, nIm1, m1nI, m1lt, nIlm, m1le, nIlem, nIneg, u2_ss, u2_nn, u2_kk, nIm1n, m1nIn, m1ltn, nIlmn, m1len, nIlemn]; omega
        · rw [e2, e3, nIc (by omega), h7, show nI j + 1 = nI (j + 1) from nI_add j 1]
          have hP1 := (hP.f7 (F7.rf.u (v := nI (j + 1))) (u2_ss _ _ _ _)).sp (v := x) (k := 127 + 8 * w + 2 * m) (o := 329 + 8 * w + 2 + 2 * m) (by omega) (by omega) (by omega)
          have hFM1 : FM I (u2 (u2 I 92 7 (nI (j + 1))) 98 (329 + 8 * w + 2 + 2 * m) (nI x)) L L := (FM.rf.u (Or.inl ⟨rfl, by omega⟩)).u (Or.inr (Or.inl ⟨rfl, by omega⟩))
          refine takeNumberM_o (lo := 1) (hi := 4) hP1.1 hP1.2.2.1 hP1.2.1 (by omega) (by decide) (by decide) (fun J2 s2 v2 ew2 hi2 j7 f7 => ?_) (fun v J2 ew2 hv j8 f8 => ?_)
          · have hP2 := (hP1.f7 f7 j7).sp (v := vK ts (j + 1)) (k := 128 + 8 * w + 2 * m) (o := 329 + 8 * w + 3 + 2 * m) (by omega) (by omega) (by omega)
            have eM2 : u2 J2 98 (329 + 8 * w + 3 + 2 * m) (nI (vK ts (j + 1))) 98 (329 + 8 * w + 1) = nI m := by
              have := hP2.2.2.2.2.2.1.ix (k := 329 + 8 * w + 1) (j := 126 + 8 * w) (by omega) (by omega) (by omega)
              rw [ua_n (by omega), ua_n (by omega)] at this
              rw [this, ← hk]; rfl
            refine RX12_readPart_130 ⟨by simp (disch := omega) only [nlit, natrem, nIrm, nIam, nIam',  nI_add, pk_mul, nIsub, nIrem, nIdiv, nIand1, nIand3, nIand7, nIand31, nIshr, nIle, nIlt, nIeq, nIc, vpI, nIm1, m1nI, m1lt, nIlm, m1le, nIlem, nIneg, u2_ss, u2_nn, u2_kk, nIm1n, m1nIn, m1ltn, nIlmn, m1len, nIlemn]; omega, by rw [show (1 : Int32) = nI 1 from rfl, ea]; simp (disch := omega) only [nlit, natrem, nIrm, nIam, nIam',  nI_add, pk_mul, nIsub, nIrem, nIdiv, nIand1, nIand3, nIand7, nIand31, nIshr, nIle, nIlt, nIeq, nIc, vpI, nIm1, m1nI, m1lt, nIlm, m1le, nIlem, nIneg, u2_ss, u2_nn, u2_kk, nIm1n, m1nIn, m1ltn, nIlmn, m1len, nIlemn]; omega, by rw [show (1 : Int32) = nI 1 from rfl, ea]; simp (disch := omega) only [nlit, natrem, nIrm, nIam, nIam',  nI_add, pk_mul, nIsub, nIrem, nIdiv, nIand1, nIand3, nIand7, nIand31, nIshr, nIle, nIlt, nIeq, nIc, vpI, nIm1, m1nI, m1lt, nIlm, m1le, nIlem, nIneg, u2_ss, u2_nn, u2_kk, nIm1n, m1nIn, m1ltn, nIlmn, m1len, nIlemn]; omega, ?_⟩
            rw [nIc (by omega), show nI (329 + 8 * w) + 1 = nI (329 + 8 * w + 1) from ea 1, nIc (by omega), eM2, show nI m + 1 = nI (m + 1) from nI_add m 1]
            have hP3 := hP2.sp (v := m + 1) (k := 126 + 8 * w) (o := 329 + 8 * w + 1) (by omega) (by omega) (by omega)
            exact ht x e hx6 hus h3 _ ew2 hi2 hP3 (((hFM1.tr f7.f.fm).u (Or.inr (Or.inl ⟨rfl, by omega⟩))).u (Or.inr (Or.inl ⟨rfl, by omega⟩)))
          · refine RX12_readPart_130 ⟨by simp (disch := omega) only [nlit, natrem, nIrm, nIam, nIam',  nI_add, pk_mul, nIsub, nIrem, nIdiv, nIand1, nIand3, nIand7, nIand31, nIshr, nIle, nIlt, nIeq, nIc, vpI, nIm1, m1nI, m1lt, nIlm, m1le, nIlem, nIneg, u2_ss, u2_nn, u2_kk, nIm1n, m1nIn, m1ltn, nIlmn, m1len, nIlemn]; omega, by rw [show (1 : Int32) = nI 1 from rfl, ea]; simp (disch := omega) only [nlit, natrem, nIrm, nIam, nIam',  nI_add, pk_mul, nIsub, nIrem, nIdiv, nIand1, nIand3, nIand7, nIand31, nIshr, nIle, nIlt, nIeq, nIc, vpI, nIm1, m1nI, m1lt, nIlm, m1le, nIlem, nIneg, u2_ss, u2_nn, u2_kk, nIm1n, m1nIn, m1ltn, nIlmn, m1len, nIlemn]; omega, by rw [show (1 : Int32) = nI 1 from rfl, ea]; simp (disch := omega) only [nlit, natrem, nIrm, nIam, nIam',  nI_add, pk_mul, nIsub, nIrem, nIdiv, nIand1, nIand3, nIand7, nIand31, nIshr, nIle, nIlt, nIeq, nIc, vpI, nIm1, m1nI, m1lt, nIlm, m1le, nIlem, nIneg, u2_ss, u2_nn, u2_kk, nIm1n, m1nIn, m1ltn, nIlmn, m1len, nIlemn]; omega, ?_⟩
            rw [nIc (by omega), show nI (329 + 8 * w) + 1 = nI (329 + 8 * w + 1) from ea 1, nIc (by omega)]
            exact hf v hv (Or.inr ⟨x, e, Or.inr (Or.inr (Or.inr ⟨hx6, hus, h3, ew2⟩))⟩) _ (by rw [u2_nn _ _ _ _ (by decide), u2_nn _ _ _ _ (by decide)]; exact j8) (((hFM1.tr f8.fm).u (Or.inr (Or.inl ⟨rfl, by omega⟩))).u (Or.inr (Or.inl ⟨rfl, by omega⟩)))
        · exfalso; simp (disch := omega) only [nlit, natrem, nIrm, nIam, nIam',  nI_add, pk_mul, nIsub, nIrem, nIdiv, nIand1, nIand3, nIand7, nIand31, nIshr, nIle, nIlt, nIeq, nIc, vpI, nIm1, m1nI, m1lt, nIlm, m1le, nIlem, nIneg, u2_ss, u2_nn, u2_kk, nIm1n, m1nIn, m1ltn, nIlmn, m1len, nIlemn] at c; omega
  exact hlp k 0 rfl (Nat.zero_le _) (fun m' hm' => absurd hm' (Nat.not_lt_zero _))
theorem readWine_ok {d : Nat} {sx : Sx} {I : Ints} {L : Lngs} {R : Rfs} {q : Q3} {ts : List Tk} {N i : Nat} {a : Ce} {nm : Nm} {dn : List (List Nat)} {hc : Bool} {lc : Cd} (hP : PsM ts N i a nm hc lc I L) (hW : WFc a) (hZ : Zr a) (hNo : NmOk a nm dn) (hi : i + 1 ≤ N) (hf : LnF ts N I L R q (lnWin ts i a nm dn hc lc)) (ht : LnT ts N I L R q (lnWin ts i a nm dn hc lc)) : E0 mX12_readWine (d + 5) sx [.ref 92] I L R q := by
  obtain ⟨hT, hE, hM, hWd, hFc⟩ := id hP.1
  have hlen := hE.2.1
  have hN := hE.1
  have w2 := hW.2.2.1
  have w3 := hW.2.2.2.1
  have w4 := hW.2.2.2.2.1
  have e207 : I 98 207 = nI (a 3).val := hP.2.2.2.2.2.1.ix rfl (by decide) (by decide)
  by_cases h36 : (a 3).val = 6
  · refine EX12_readWine ⟨fun c => ?_, fun _ => ?_⟩
    · exfalso; rw [e207, h36] at c; exact c rfl
    · refine wrongM_ok (k := 5) hT hM hP.2.2.1 hP.2.1 (by omega) (RX12_readWine_20 ?_)
      exact hf _ _ L (if_pos h36) (fK_f hT (by decide) (by decide)) (u2_ss _ _ _ _) (FM.rf.u (Or.inl ⟨rfl, by omega⟩))
  have esp : lnWin ts i a nm dn hc lc = newN ts nm 100 (i + 1) (fun nm' => wrd ts 5 (i + 2) (nmb ts 0 99 (i + 3) (fun gl => wrd ts 6 (i + 4) (prtF ts nm' (a 3).val (fun j b => wrd ts 59 j (.inr (j + 1, up1 b 3 (fi ((a 3).val + 1)), nm', dn, hc, lc))) 4 (i + 5) 0 (up1 a (125 + 8 * (a 3).val) (fi gl)))))) := if_neg h36
  have f75 : ∀ v J K v2, lnWin ts i a nm dn hc lc = .inl v → isF v → J 92 8 = nI v → FM I J L K → Y mX12_readWine (d + 5) sx 75 [(0, .ref 92), (2, .int v2)] [] J K R q := by
    intro v J K v2 e hv j8 hF
    exact RX12_readWine_75 (isNameM_f hv j8 (RX12_readWine_79 ⟨fun _ => hf v _ K e hv (by rw [u2_nn _ _ _ _ (by decide)]; exact j8) (hF.u (Or.inr (Or.inl ⟨rfl, by decide⟩))), fun c => absurd rfl c⟩))
  have f56 : ∀ v J K v2, lnWin ts i a nm dn hc lc = .inl v → isF v → J 92 8 = nI v → FM I J L K → Y mX12_readWine (d + 5) sx 56 [(0, .ref 92), (2, .int v2)] [] J K R q := by
    intro v J K v2 e hv j8 hF
    refine RX12_readWine_56 ⟨fun _ => f75 v J K v2 e hv j8 hF, fun c => ?_⟩
    exfalso; rw [j8] at c; simp (disch := omega) only [nlit, natrem, nIrm, nIam, nIam',  nI_add, pk_mul, nIsub, nIrem, nIdiv, nIand1, nIand3, nIand7, nIand31, nIshr, nIle, nIlt, nIeq, nIc, vpI, nIm1, m1nI, m1lt, nIlm, m1le, nIlem, nIneg, u2_ss, u2_nn, u2_kk, nIm1n, m1nIn, m1ltn, nIlmn, m1len, nIlemn] at c; omega
  have eix : (329 : Int32) + 8 * nI (a 3).val = nI (329 + 8 * (a 3).val) := by rw [show (8 : Int32) = nI 8 from rfl, pk_mul, show (329 : Int32) = nI 329 from rfl, nI_add]
  have f49 : ∀ v J K v2 s2, lnWin ts i a nm dn hc lc = .inl v → isF v → J 92 8 = nI v → FM I J L K → Y mX12_readWine (d + 5) sx 49 [(0, .ref 92), (2, .int v2)] [.int s2, .int (nI (329 + 8 * (a 3).val)), .ref 98] J K R q := by
    intro v J K v2 s2 e hv j8 hF
    refine RX12_readWine_49 ⟨by simp (disch := omega) only [nlit, natrem, nIrm, nIam, nIam',  nI_add, pk_mul, nIsub, nIrem, nIdiv, nIand1, nIand3, nIand7, nIand31, nIshr, nIle, nIlt, nIeq, nIc, vpI, nIm1, m1nI, m1lt, nIlm, m1le, nIlem, nIneg, u2_ss, u2_nn, u2_kk, nIm1n, m1nIn, m1ltn, nIlmn, m1len, nIlemn]; omega, ?_⟩
    rw [nIc (by omega)]
    have j8' : u2 J 98 (329 + 8 * (a 3).val) s2 92 8 = nI v := by rw [u2_nn _ _ _ _ (by decide)]; exact j8
    exact takeWordM_f hv j8' (f56 v _ K _ e hv j8' (hF.u (Or.inr (Or.inl ⟨rfl, by omega⟩))))
  refine EX12_readWine ⟨fun _ => ?_, fun c => ?_⟩
  rotate_left
  · exfalso; rw [e207] at c; simp (disch := omega) only [nlit, natrem, nIrm, nIam, nIam',  nI_add, pk_mul, nIsub, nIrem, nIdiv, nIand1, nIand3, nIand7, nIand31, nIshr, nIle, nIlt, nIeq, nIc, vpI, nIm1, m1nI, m1lt, nIlm, m1le, nIlem, nIneg, u2_ss, u2_nn, u2_kk, nIm1n, m1nIn, m1ltn, nIlmn, m1len, nIlemn] at c; omega
  rw [e207]
  refine readName_ok (tag := 100) hP.1 hP.2.2.2.1 hNo.2.2.1 (by have := hNo.1; omega) (fun t e => hNo.t w2 e) hP.2.2.1 hP.2.1 hi (fun hn ef hi2 J1 K1 hNm1 p7 p8 hF1 hK1 => RX12_readWine_27 ?_) (fun v J1 ef hv j8 f8 => RX12_readWine_27 (by rw [eix]; exact takeAfterM_f hv j8 (f49 v J1 L _ _ (by rw [esp]; exact ef _) hv j8 f8.fm)))
  obtain ⟨hP1, hFM1⟩ := hP.nm hNm1 p7 p8 hF1 hK1
  rw [eix]
  rw [ef] at esp
  have hwk := wK_ok hT (i := i + 1) (by omega) (isN_ne hn).2
  have hn2 : fnd nm (wK ts (i + 1)) = none := by
    have := ef (fun _ => .inl 0)
    unfold newN at this
    rw [if_pos hn] at this
    by_cases hh : fnd nm (wK ts (i + 1)) = none
    · exact hh
    · rw [if_neg hh] at this
      exact absurd (Sum.inl.inj this) (fK_nz (by decide))
  have hNo' := hNo.other (b := up1 a 3 (fi ((a 3).val + 1))) hwk hn2 (by rw [ua_n (by omega)]) (by rw [up1_s, ua_n (by omega), fi_v (by omega)]; omega)
  have hnl : (nm ++ [(wK ts (i + 1), 100)]).length ≤ 18 := by have := hNo.1; simp; omega
  generalize nm ++ [(wK ts (i + 1), 100)] = nm' at *
  refine takeAfterM_o (w := 5) (lo := 0) (hi := 99) hP1.1 p8 p7 hi2 (by decide) (by decide) (by decide) (fun J2 v2 ew2 hi4 j7 f7 => ?_) (fun v J2 ew2 hv j8 f8 => f49 v J2 K1 _ _ (by rw [esp]; exact ew2 _) hv j8 (hFM1.tr f8.fm))
  have ew2 : ∀ f, wrd ts 5 (i + 2) (nmb ts 0 99 (i + 3) f) = f (vK ts (i + 3)) := ew2
  rw [ew2] at esp
  have v2 : vK ts (i + 3) ≤ 99 := v2.2
  have hP2 := (hP1.f7 f7 j7).sp (v := vK ts (i + 3)) (k := 125 + 8 * (a 3).val) (o := 329 + 8 * (a 3).val) (by omega) (by omega) (by omega)
  have hFM2 := (hFM1.tr f7.f.fm).u (v := nI (vK ts (i + 3))) (Or.inr (Or.inl ⟨rfl, show 204 ≤ 329 + 8 * (a 3).val by omega⟩))
  refine RX12_readWine_49 ⟨by simp (disch := omega) only [nlit, natrem, nIrm, nIam, nIam',  nI_add, pk_mul, nIsub, nIrem, nIdiv, nIand1, nIand3, nIand7, nIand31, nIshr, nIle, nIlt, nIeq, nIc, vpI, nIm1, m1nI, m1lt, nIlm, m1le, nIlem, nIneg, u2_ss, u2_nn, u2_kk, nIm1n, m1nIn, m1ltn, nIlmn, m1len, nIlemn]; omega, ?_⟩
  rw [nIc (by omega)]
  refine takeWordM_o (w := 6) hP2.1 hP2.2.2.1 hP2.2.1 hi4 (by decide) (fun J3 s3 ew3 hi5 j7' f7' => ?_) (fun v J3 ew3 hv j8 f8 => f56 v J3 K1 _ (by rw [esp]; exact ew3 _) hv j8 (hFM2.tr f8.fm))
  have ew3 : ∀ f, wrd ts 6 (i + 4) f = f := ew3
  rw [ew3] at esp
  have hP3 := hP2.f7 f7' j7'
  have hFM3 := hFM2.tr f7'.f.fm
  have hlp : ∀ n j k (b : Ce) (J : Ints), n + k = 4 → 1 ≤ n → j ≤ N → (k ≠ 0 ∨ isN (sK ts j)) → PsM ts N j b nm' hc lc J K1 → FM I J L K1 → Agr a b (125 + 8 * (a 3).val) (133 + 8 * (a 3).val) → (wM b (a 3).val).val = k → (∀ m, m < k → (wD b (a 3).val m).val < 6) → lnWin ts i a nm dn hc lc = prtF ts nm' (a 3).val (fun j b => wrd ts 59 j (.inr (j + 1, up1 b 3 (fi ((a 3).val + 1)), nm', dn, hc, lc))) n j k b →
      Y mX12_readWine (d + 5) sx 75 [(0, .ref 92), (2, .int (nI (329 + 8 * (a 3).val)))] [] J K1 R q := by
    intro n
    induction n with
    | zero => intro j k b J _ h1; omega
    | succ n ih =>
      intro j k b J hnk _ hj hk0 hPj hFj hA hk hwd es
      have e207j : J 98 207 = nI (a 3).val := by
        have := hPj.2.2.2.2.2.1.ix (k := 207) (j := 3) rfl (by decide) (by decide)
        rw [this, hA 3 (by omega)]
      refine RX12_readWine_75 (isNameM_ok hT hPj.1.2.2.1 hPj.1.2.2.2.1 hPj.2.2.1 hPj.2.1 (by omega) (fun hnj => ?_) (fun hnj => ?_))
      · have htg : ∀ t, fnd nm' (wK ts j) = some t → t < 1000 := fun t e => by
          rcases hNo'.2.2.2.2 _ _ e with h | h
          · omega
          · have := hNo.2.1; omega
        refine RX12_readWine_79 ⟨fun c => absurd c (by decide), fun _ => ?_⟩
        refine readPart_ok hPj hNo'.2.2.1 hnl htg (by omega) hk (by omega) hwd hj hnj (fun x e hx hus h3 J4 ew4 hi6 hP4 hF4 => RX12_readWine_87 ?_) (fun v hv hcs J4 j8 hF4 => RX12_readWine_87 ?_)
        · refine ih (j + 2) (k + 1) _ J4 (by omega) (by omega) hi6 (Or.inl (by omega)) hP4 (hFj.tr hF4) (fun k' hk' => by rw [ua_n (by omega), ua_n (by omega), ua_n (by omega)]; exact hA k' hk') (by rw [h_wM rfl, fi_v (by omega)]) (fun m hm => ?_) ?_
          · by_cases em : m = k
            · subst em; rw [u_wD (by omega), u_wD (by omega), h_wD rfl, fi_v (by omega)]; exact hx
            · rw [u_wD (by omega), u_wD (by omega), u_wD (by omega)]; exact hwd m (by omega)
          · rw [es]
            show (if _ then _ else _) = _
            rw [if_pos hnj, e]
            show (if _ then _ else _) = _
            rw [if_neg (by omega), if_neg (by rw [hus]; decide), if_neg h3, ew4]
        · refine f75 v J4 K1 _ ?_ hv j8 (hFj.tr hF4)
          rw [es]
          show (if _ then _ else _) = _
          rw [if_pos hnj]
          rcases hcs with ⟨e, rfl⟩ | ⟨x, e, hcs⟩
          · rw [e]
          · rw [e]
            show (if _ then _ else _) = _
            rcases hcs with ⟨h6, rfl⟩ | ⟨h6, hus, rfl⟩ | ⟨h6, hus, h3, rfl⟩ | ⟨h6, hus, h3, ew⟩
            · rw [if_pos h6]
            · rw [if_neg (by omega), if_pos hus]
            · rw [if_neg (by omega), if_neg (by rw [hus]; decide), if_pos h3]
            · rw [if_neg (by omega), if_neg (by rw [hus]; decide), if_neg h3]
              exact ew _
      · refine RX12_readWine_79 ⟨fun _ => ?_, fun c => absurd rfl c⟩
        have hk1 : k ≠ 0 := by rcases hk0 with h | h; exact h; exact absurd h hnj
        rw [e207j, show nI (a 3).val + 1 = nI ((a 3).val + 1) from nI_add _ 1]
        have hPk := hPj.sp (v := (a 3).val + 1) (k := 3) (o := 207) (by omega) (by omega) (by omega)
        refine ht j _ _ dn hc lc _ K1 ?_ hj hPk (hFj.u (Or.inr (Or.inl ⟨rfl, by decide⟩)))
        rw [es]
        show (if _ then _ else _) = _
        rw [if_neg hnj, if_neg hk1]
  refine RX12_readWine_56 ⟨fun c => absurd hP3.2.2.1 c, fun _ => ?_⟩
  refine isNameM_ok hT hP3.1.2.2.1 hP3.1.2.2.2.1 hP3.2.2.1 hP3.2.1 (by omega) (fun hnj => ?_) (fun hnj => ?_)
  · refine RX12_readWine_67 ⟨fun _ => ?_, fun c => absurd c (by decide)⟩
    exact hlp 4 (i + 5) 0 _ J3 rfl (by decide) hi5 (Or.inr hnj) hP3 hFM3 (fun k hk => ua_n (by omega)) (by rw [u_wM (by omega)]; exact hZ.2.2 _ (Nat.le_refl _) (by omega)) (fun m hm => absurd hm (Nat.not_lt_zero _)) esp
  · refine RX12_readWine_67 ⟨fun c => absurd rfl c, fun _ => ?_⟩
    have hvv := fK_f hT (i := i + 5) (k := 1) (by decide) (by decide)
    refine wrongM_ok (k := 1) hT hP3.1.2.2.1 hP3.2.2.1 hP3.2.1 (by omega) (f75 _ _ K1 _ ?_ hvv (u2_ss _ _ _ _) (hFM3.u (Or.inl ⟨rfl, by omega⟩)))
    rw [esp]
    show (if _ then _ else _) = _
    rw [if_neg hnj]
    rfl
