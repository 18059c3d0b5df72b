/-! the class reads a wine -/
theorem danceNamed_ok {d : Nat} {sx : Sx} {I : Ints} {L : Lngs} {R : Rfs} {q : Q3} {c : Nat} {a : Ce} {dn : List (List Nat)} {w : List Nat} (hcl : isCel c) (hR : R 26 1 = some c) (h4 : I c 4 = nI (a 2).val) (h26 : (a 2).val ≤ 6) (hl : dn.length = (a 2).val) (hD : ∀ d, d < dn.length → wOk (dn.getD d []) ∧ L 32 d = lN (pk 256 0 (dn.getD d []))) (hw : wOk w)
    (ht : ∀ x, x < (a 2).val → dn.getD x [] = w → q (some (.int (nI x))) I L R) (hf : (∀ x, x < (a 2).val → dn.getD x [] ≠ w) → q (some (.int (-1))) I L R) : E0 mX5_danceNamed (d + 1) sx [.ref 26, .long (lN (pk 256 0 w))] I L R q := by
  have hlp : ∀ n k : Nat, n = (a 2).val - k → k ≤ (a 2).val → (∀ x, x < k → dn.getD x [] ≠ w) → Y mX5_danceNamed (d + 1) sx 2 [(0, .ref 26), (1, .long (lN (pk 256 0 w))), (3, .int (nI k))] [] I L R q := by
    intro n
    induction n with
    | zero =>
      intro k hn hk hx
      refine RX5_danceNamed_2 hcl hR ⟨fun _ => hf (fun x hxx => hx x (by omega)), fun c1 => ?_⟩
      exfalso; rw [h4] at c1; simp (disch := omega) only [nlit, natrem, nIrm, nIam, nIam',  nI_add, pk_mul, nIsub, nIrem, nIdiv, nIand1, nIand3, nIand7, nIand31, nIshr, nIle, nIlt, nIeq, nIc, vpI, nIm1, m1nI, m1lt, nIlm, m1le, nIlem, nIneg, u2_ss, u2_nn, u2_kk, nIm1n, m1nIn, m1ltn, nIlmn, m1len, nIlemn] at c1; omega
    | succ n ih =>
      intro k hn hk hx
      have hdk := hD k (by omega)
      have hq := pw_eq (b := 256) (s := 0) (by decide) (by decide) (by decide) hdk.1 hw
      refine RX5_danceNamed_2 hcl hR ⟨fun c1 => ?_, fun c1 => ⟨?_, fun c2 => ?_, fun c2 => ?_⟩⟩
      · exfalso; rw [h4] at c1; simp (disch := omega) only [nlit, natrem, nIrm, nIam, nIam',  nI_add, pk_mul, nIsub, nIrem, nIdiv, nIand1, nIand3, nIand7, nIand31, nIshr, nIle, nIlt, nIeq, nIc, vpI, nIm1, m1nI, m1lt, nIlm, m1le, nIlem, nIneg, u2_ss, u2_nn, u2_kk, nIm1n, m1nIn, m1ltn, nIlmn, m1len, nIlemn] at c1; omega
      · simp (disch := omega) only [nlit, natrem, nIrm, nIam, nIam',  nI_add, pk_mul, nIsub, nIrem, nIdiv, nIand1, nIand3, nIand7, nIand31, nIshr, nIle, nIlt, nIeq, nIc, vpI, nIm1, m1nI, m1lt, nIlm, m1le, nIlem, nIneg, u2_ss, u2_nn, u2_kk, nIm1n, m1nIn, m1ltn, nIlmn, m1len, nIlemn]; omega
      · rw [nIc (by omega), hdk.2, lg_cmp_eq] at c2
        rw [show nI k + 1 = nI (k + 1) from nI_add k 1]
        refine ih (k + 1) (by omega) (by omega) (fun x hxx => ?_)
        by_cases e : x = k
        · rw [e]; exact fun hh => c2 (hq.mpr hh)
        · exact hx x (by omega)
      · rw [nIc (by omega), hdk.2, lg_cmp_eq] at c2
        exact ht k (by omega) (hq.mp c2)
  exact EX5_danceNamed (hlp _ 0 rfl (Nat.zero_le _) (fun x hx => absurd hx (Nat.not_lt_zero _)))
theorem blend_ok {d : Nat} {sx : Sx} {I : Ints} {L : Lngs} {R : Rfs} {q : Q3} {c w dd t m e0 : Nat} {f : Nat → Nat} (hcl : isCel c) (hR : R 26 1 = some c) (hw : w < 6) (hd : dd < 6) (h1 : I (c + 1) dd = nI m) (hm1 : 1 ≤ m) (hm : m ≤ 8) (hS : ∀ s, s < m → I (c + 2) (dd * 8 + s) = nI (f s)) (h4 : I (c + 4) w = nI e0) (he : e0 + t * m ≤ 96) (ht4 : t ≤ 4)
    (h : ∀ J, J (c + 4) w = nI (e0 + t * m) → (∀ x, x ≠ w → J (c + 4) x = I (c + 4) x) → (∀ l, l < t * m → J (c + 5) (w * 96 + e0 + l) = nI (f (l % m))) → (∀ x, x < w * 96 + e0 → J (c + 5) x = I (c + 5) x) → Kp (fun k => k ≠ c + 4 ∧ k ≠ c + 5) I J → q none J L R) : E0 mX5_blend (d + 1) sx [.ref 26, .int (nI w), .int (nI dd), .int (nI t)] I L R q := by
  have hc' : c = 2 ∨ c = 14 := hcl
  have hlp : ∀ n k : Nat, ∀ J, n = t - k → k ≤ t → J (c + 4) w = nI (e0 + k * m) → (∀ x, x ≠ w → J (c + 4) x = I (c + 4) x) → (∀ l, l < k * m → J (c + 5) (w * 96 + e0 + l) = nI (f (l % m))) → (∀ x, x < w * 96 + e0 → J (c + 5) x = I (c + 5) x) → Kp (fun k => k ≠ c + 4 ∧ k ≠ c + 5) I J →
      Y mX5_blend (d + 1) sx 14 [(0, .ref 26), (1, .int (nI w)), (2, .int (nI dd)), (3, .int (nI t)), (4, .int (nI m)), (5, .int (nI k))] [] J L R q := by
    intro n
    induction n with
    | zero =>
      intro k J hn hk j1 j2 j3 j4 hK
      have ek : k = t := by omega
      subst ek
      refine RX5_blend_14 hcl hR ⟨fun _ => h J j1 j2 j3 j4 hK, fun c1 => ?_⟩
      exfalso; simp (disch := omega) only [nlit, natrem, nIrm, nIam, nIam',  nI_add, pk_mul, nIsub, nIrem, nIdiv, nIand1, nIand3, nIand7, nIand31, nIshr, nIle, nIlt, nIeq, nIc, vpI, nIm1, m1nI, m1lt, nIlm, m1le, nIlem, nIneg, u2_ss, u2_nn, u2_kk, nIm1n, m1nIn, m1ltn, nIlmn, m1len, nIlemn] at c1; omega
    | succ n ih =>
      intro k J hn hk j1 j2 j3 j4 hK
      have hkm : k * m + m = (k + 1) * m := by rw [Nat.add_mul, Nat.one_mul]
      have hle : (k + 1) * m ≤ t * m := Nat.mul_le_mul_right m (by omega)
      have e48 : nI dd * 8 = nI (dd * 8) := by rw [show (8 : Int32) = nI 8 from rfl, pk_mul]
      have e96 : nI w * 96 + nI (e0 + k * m) = nI (w * 96 + (e0 + k * m)) := by rw [show (96 : Int32) = nI 96 from rfl, pk_mul, nI_add]
      refine RX5_blend_14 hcl hR ⟨fun c1 => ?_, fun c1 => ⟨?_, fun c2 => ⟨?_, ?_, ?_, ?_, ?_, ?_, ?_⟩, fun c2 => ?_⟩⟩
      · exfalso; simp (disch := omega) only [nlit, natrem, nIrm, nIam, nIam',  nI_add, pk_mul, nIsub, nIrem, nIdiv, nIand1, nIand3, nIand7, nIand31, nIshr, nIle, nIlt, nIeq, nIc, vpI, nIm1, m1nI, m1lt, nIlm, m1le, nIlem, nIneg, u2_ss, u2_nn, u2_kk, nIm1n, m1nIn, m1ltn, nIlmn, m1len, nIlemn] at c1; omega
      · simp (disch := omega) only [nlit, natrem, nIrm, nIam, nIam',  nI_add, pk_mul, nIsub, nIrem, nIdiv, nIand1, nIand3, nIand7, nIand31, nIshr, nIle, nIlt, nIeq, nIc, vpI, nIm1, m1nI, m1lt, nIlm, m1le, nIlem, nIneg, u2_ss, u2_nn, u2_kk, nIm1n, m1nIn, m1ltn, nIlmn, m1len, nIlemn]; omega
      · rw [e48]; exact i32_ltz (by omega)
      · rw [nIc (by omega), j1, e96]; exact i32_ltz (by omega)
      · exact i32_ltz (by omega)
      · rw [e48, nIc (by omega), nIc (by omega)]; omega
      · rw [nIc (show w < _ by omega), j1, e96, nIc (by omega), nIc (by omega)]; omega
      · simp (disch := omega) only [nlit, natrem, nIrm, nIam, nIam',  nI_add, pk_mul, nIsub, nIrem, nIdiv, nIand1, nIand3, nIand7, nIand31, nIshr, nIle, nIlt, nIeq, nIc, vpI, nIm1, m1nI, m1lt, nIlm, m1le, nIlem, nIneg, u2_ss, u2_nn, u2_kk, nIm1n, m1nIn, m1ltn, nIlmn, m1len, nIlemn]; omega
      · rw [nIc (show w < _ by omega), j1, e96, e48, nIc (by omega), nIc (by omega), nIc (show m < _ by omega), nI_add, show nI k + 1 = nI (k + 1) from nI_add k 1, show e0 + k * m + m = e0 + (k + 1) * m by omega]
        refine ih (k + 1) _ (by omega) (by omega) (u2_ss _ _ _ _) (fun x hx => ?_) (fun l hl => ?_) (fun x hx => ?_) ((fun k' hk' => ?_))
        · rw [u2_kk _ _ _ _ hx, cp2_n (by omega)]; exact j2 x hx
        · rw [u2_nn _ _ _ _ (by omega)]
          by_cases hlk : l < k * m
          · rw [cp2_out (by omega)]; exact j3 l hlk
          · rw [cp2_in (by omega) (by omega)]
            have hlm : l % m = l - k * m := by
              have e : l = m * k + (l - k * m) := by rw [Nat.mul_comm]; omega
              have e2 : (m * k + (l - k * m)) % m = (l - k * m) % m := Nat.mul_add_mod m k _
              rw [← e] at e2
              rw [e2]
              exact Nat.mod_eq_of_lt (by omega)
            rw [hlm, show dd * 8 + (w * 96 + e0 + l - (w * 96 + (e0 + k * m))) = dd * 8 + (l - k * m) by omega, hK (c + 2) ⟨by omega, by omega⟩]
            exact hS _ (by omega)
        · rw [u2_nn _ _ _ _ (by omega), cp2_out (by omega)]; exact j4 x hx
        · funext x
          rw [u2_nn _ _ _ _ (by omega), cp2_n (by omega), hK k' hk']
      · exfalso
        rw [nIc (show w < _ by omega), j1, nI_add] at c2
        simp (disch := omega) only [nlit, natrem, nIrm, nIam, nIam',  nI_add, pk_mul, nIsub, nIrem, nIdiv, nIand1, nIand3, nIand7, nIand31, nIshr, nIle, nIlt, nIeq, nIc, vpI, nIm1, m1nI, m1lt, nIlm, m1le, nIlem, nIneg, u2_ss, u2_nn, u2_kk, nIm1n, m1nIn, m1ltn, nIlmn, m1len, nIlemn] at c2
        omega
  refine EX5_blend hcl hR ⟨by simp (disch := omega) only [nlit, natrem, nIrm, nIam, nIam',  nI_add, pk_mul, nIsub, nIrem, nIdiv, nIand1, nIand3, nIand7, nIand31, nIshr, nIle, nIlt, nIeq, nIc, vpI, nIm1, m1nI, m1lt, nIlm, m1le, nIlem, nIneg, u2_ss, u2_nn, u2_kk, nIm1n, m1nIn, m1ltn, nIlmn, m1len, nIlemn]; omega, ?_⟩
  rw [nIc (by omega), h1]
  refine hlp t 0 I rfl (Nat.zero_le _) (by rw [h4, Nat.zero_mul, Nat.add_zero]) (fun _ _ => rfl) (fun l hl => ?_) (fun _ _ => rfl) Kp.rf
  rw [Nat.zero_mul] at hl
  exact absurd hl (Nat.not_lt_zero _)
theorem usb_iff {a : Ce} {w k d : Nat} : usb a w k d = true ↔ ∃ j, j < k ∧ (wD a w j).val = d := by
  unfold usb
  rw [List.any_eq_true]
  constructor
  · rintro ⟨j, hj, e⟩
    exact ⟨j, List.mem_range.mp hj, by simpa using e⟩
  · rintro ⟨j, hj, e⟩
    exact ⟨j, List.mem_range.mpr hj, by simpa using e⟩
theorem usb_s {a : Ce} {w k d dd : Nat} {t : Fin 128} (hd : d < 128) (hk : k < 3) (hw : w < 6) : usb (up1 (up1 (up1 a (127 + 8 * w + 2 * k) (fi d)) (128 + 8 * w + 2 * k) t) (126 + 8 * w) (fi (k + 1))) w (k + 1) dd = true ↔ usb a w k dd = true ∨ d = dd := by
  rw [usb_iff, usb_iff]
  constructor
  · rintro ⟨j, hj, e⟩
    by_cases ej : j = k
    · subst ej
      rw [u_wD (by omega), u_wD (by omega), h_wD rfl, fi_v hd] at e
      exact Or.inr e
    · rw [u_wD (by omega), u_wD (by omega), u_wD (by omega)] at e
      exact Or.inl ⟨j, by omega, e⟩
  · rintro (⟨j, hj, e⟩ | e)
    · exact ⟨j, by omega, by rw [u_wD (by omega), u_wD (by omega), u_wD (by omega)]; exact e⟩
    · exact ⟨k, by omega, by rw [u_wD (by omega), u_wD (by omega), h_wD rfl, fi_v hd]; exact e⟩
theorem wl_cg {a b : Ce} {w : Nat} : ∀ k, (∀ j, j < k → wP b w j = wP a w j) → wl b w k = wl a w k
  | 0, _ => rfl
  | k + 1, h => by show wl b w k + wP b w k = wl a w k + wP a w k; rw [wl_cg k (fun j hj => h j (by omega)), h k (by omega)]
theorem partName_ok {d : Nat} {sx : Sx} {I : Ints} {L : Lngs} {R : Rfs} {q : Q3} {ts : List Tk} {N c j k w u : Nat} {a b : Ce} {nm : Nm} {dn : List (List Nat)} (hB : RB ts N I L) (hcl : isCel c) (hR : R 26 1 = some c) (h4 : I c 4 = nI (a 2).val) (h26 : (a 2).val ≤ 6) (hNo : NmOk a nm dn ∨ (dn.length = (a 2).val ∧ (∀ d, d < dn.length → wOk (dn.getD d []) ∧ fnd nm (dn.getD d []) = some d) ∧ ∀ w t, fnd nm w = some t → t = 100 ∨ (t < dn.length ∧ w = dn.getD t []))) (hD : ∀ d, d < dn.length → L 32 d = lN (pk 256 0 (dn.getD d []))) (h2 : I 26 2 = nI j) (hj : j ≤ N) (hk : k ≤ 3) (hu : u < 64) (hub : ∀ x, x < 6 → (bt u x = 1 ↔ usb b w k x = true))
    (ht : ∀ x, isN (sK ts j) → fnd nm (wK ts j) = some x → x < (a 2).val → usb b w k x = false → k ≠ 3 → j + 1 ≤ N → ∀ J, J 26 2 = nI (j + 1) → R26 I J → q (some (.int (nI x))) J L R)
    (hf : ∀ kd, 1 ≤ kd → kd ≤ 5 → (isN (sK ts j) → (match fnd nm (wK ts j) with
      | none => fK ts kd j = fK ts 2 j
      | some x => fK ts kd j = if 6 ≤ x then fK ts 2 j else if usb b w k x = true then fK ts 3 j else fK ts 5 j) ∧ ∀ x, fnd nm (wK ts j) = some x → ¬ 6 ≤ x → usb b w k x = false → k = 3) → (¬ isN (sK ts j) → kd = 1) → ∀ J, flt I J (fK ts kd j) → q (some (.int (-1))) J L R) : E0 mX5_partName (d + 3) sx [.ref 26, .int (nI k), .int (nI u)] I L R q := by
  have hN := hB.2.1.1
  have hlen := hB.2.1.2.1
  have hlt := hB.1.lt j
  have hg := hB.2.2.get (i := j) (by omega)
  have hNo : dn.length = (a 2).val ∧ (∀ d, d < dn.length → wOk (dn.getD d []) ∧ fnd nm (dn.getD d []) = some d) ∧ ∀ w t, fnd nm w = some t → t = 100 ∨ (t < dn.length ∧ w = dn.getD t []) := by
    rcases hNo with h | h
    · exact ⟨h.2.1, h.2.2.2.1, h.2.2.2.2⟩
    · exact h
  refine EX5_partName (sortR_ok hB h2 hj (RX5_partName_4 (isNameC_ok (by omega) (fun hn => ?_) (fun hn => ?_))))
  rotate_left
  · refine RX5_partName_7 ⟨fun c => absurd rfl c, fun _ => ?_⟩
    exact wrongR_ok (k := 1) hB h2 hj (RX5_partName_15 (hf 1 (by decide) (by decide) (fun hh => absurd hh hn) (fun _ => rfl) _ ⟨u2_ss _ _ _ _, Kp.rf.up (by simp)⟩))
  have hjN := lt_N hB.2.1 hj (isN_ne hn).1
  have hwk := wK_ok hB.1 (i := j) (by omega) (isN_ne hn).2
  refine RX5_partName_7 ⟨fun _ => ⟨?_, ?_⟩, fun c => absurd c (by decide)⟩
  · rw [h2]; simp (disch := omega) only [nlit, natrem, nIrm, nIam, nIam',  nI_add, pk_mul, nIsub, nIrem, nIdiv, nIand1, nIand3, nIand7, nIand31, nIshr, nIle, nIlt, nIeq, nIc, vpI, nIm1, m1nI, m1lt, nIlm, m1le, nIlem, nIneg, u2_ss, u2_nn, u2_kk, nIm1n, m1nIn, m1ltn, nIlmn, m1len, nIlemn]; omega
  rw [h2, nIc (by omega), hg.2.2.1 (isN_ne hn).2]
  refine danceNamed_ok hcl hR h4 h26 hNo.1 (fun x hx => ⟨(hNo.2.1 x hx).1, hD x hx⟩) hwk (fun x hx e => ?_) (fun hx => ?_)
  · have hfx : fnd nm (wK ts j) = some x := by rw [← e]; exact (hNo.2.1 x (by omega)).2
    have hbt : (nI u >>> (nI x &&& 31)) &&& 1 = nI (bt u x) := by
      rw [show (31 : Int32) = nI 31 from rfl, nIand31, show (1 : Int32) = nI 1 from rfl, i_bt (by omega) (by omega)]
    have hb1 := bt_le u x
    have hbu := hub x (by omega)
    refine RX5_partName_34 ⟨fun c1 => ⟨fun c2 => ?_, fun c2 => ⟨fun c3 => ?_, fun c3 => ?_⟩⟩, fun c1 => ?_⟩
    · rw [hbt] at c2
      simp (disch := omega) only [nlit, natrem, nIrm, nIam, nIam',  nI_add, pk_mul, nIsub, nIrem, nIdiv, nIand1, nIand3, nIand7, nIand31, nIshr, nIle, nIlt, nIeq, nIc, vpI, nIm1, m1nI, m1lt, nIlm, m1le, nIlem, nIneg, u2_ss, u2_nn, u2_kk, nIm1n, m1nIn, m1ltn, nIlmn, m1len, nIlemn] at c2
      have hus := hbu.mp (by omega)
      refine wrongR_ok (k := 3) hB h2 hj (RX5_partName_78 (hf 3 (by decide) (by decide) (fun _ => ⟨?_, fun y hy _ hyu => ?_⟩) (fun hh => absurd hn hh) _ ⟨u2_ss _ _ _ _, Kp.rf.up (by simp)⟩))
      · rw [hfx]
        show _ = if _ then _ else _
        rw [if_neg (by omega), if_pos hus]
      · rw [hfx] at hy
        have hy := Option.some.inj hy
        rw [← hy, hus] at hyu
        cases hyu
    · rw [hbt] at c2
      simp (disch := omega) only [nlit, natrem, nIrm, nIam, nIam',  nI_add, pk_mul, nIsub, nIrem, nIdiv, nIand1, nIand3, nIand7, nIand31, nIshr, nIle, nIlt, nIeq, nIc, vpI, nIm1, m1nI, m1lt, nIlm, m1le, nIlem, nIneg, u2_ss, u2_nn, u2_kk, nIm1n, m1nIn, m1ltn, nIlmn, m1len, nIlemn] at c2 c3
      rw [h2, show nI j + 1 = nI (j + 1) from nI_add j 1]
      refine ht x hn hfx hx ?_ c3 (by omega) _ (u2_ss _ _ _ _) (R26.rf.u (by omega))
      cases hh : usb b w k x with
      | false => rfl
      | true => have := hbu.mpr hh; omega
    · rw [hbt] at c2
      simp (disch := omega) only [nlit, natrem, nIrm, nIam, nIam',  nI_add, pk_mul, nIsub, nIrem, nIdiv, nIand1, nIand3, nIand7, nIand31, nIshr, nIle, nIlt, nIeq, nIc, vpI, nIm1, m1nI, m1lt, nIlm, m1le, nIlem, nIneg, u2_ss, u2_nn, u2_kk, nIm1n, m1nIn, m1ltn, nIlmn, m1len, nIlemn] at c2 c3
      have hus : usb b w k x = false := by
        cases hh : usb b w k x with
        | false => rfl
        | true => have := hbu.mpr hh; omega
      refine wrongR_ok (k := 5) hB h2 hj (RX5_partName_78 (hf 5 (by decide) (by decide) (fun _ => ⟨?_, fun y hy _ hyu => c3⟩) (fun hh => absurd hn hh) _ ⟨u2_ss _ _ _ _, Kp.rf.up (by simp)⟩))
      rw [hfx]
      show _ = if _ then _ else _
      rw [if_neg (by omega), if_neg (by rw [hus]; decide)]
    · exfalso; exact m1_ne (by omega) c1
  · refine RX5_partName_34 ⟨fun c1 => absurd rfl c1, fun _ => ?_⟩
    have hfn : ∀ y, fnd nm (wK ts j) = some y → 6 ≤ y := fun y hy => by
      rcases hNo.2.2 _ _ hy with h | ⟨h, e⟩
      · omega
      · exact absurd e.symm (hx y (by omega))
    refine wrongR_ok (k := 2) hB h2 hj (RX5_partName_45 (hf 2 (by decide) (by decide) (fun _ => ⟨?_, fun y hy h6 _ => absurd (hfn y hy) h6⟩) (fun hh => absurd hn hh) _ ⟨u2_ss _ _ _ _, Kp.rf.up (by simp)⟩))
    cases hfy : fnd nm (wK ts j) with
    | none => rfl
    | some y =>
      show _ = if _ then _ else _
      rw [if_pos (hfn y hfy)]
