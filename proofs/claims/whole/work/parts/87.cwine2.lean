theorem wl_le32 {b : Ce} {w : Nat} : ∀ k, (∀ m, m < k → wP b w m ≤ 32) → wl b w k ≤ 32 * k
  | 0, _ => Nat.le_refl 0
  | k + 1, h => by
    have h1 := wl_le32 k (fun m hm => h m (by omega))
    have h2 := h k (by omega)
    show wl b w k + wP b w k ≤ _
    omega
theorem wl_find {b : Ce} {w : Nat} : ∀ k l, l < wl b w k → ∃ m, m < k ∧ wl b w m ≤ l ∧ l < wl b w (m + 1)
  | 0, l, h => absurd h (Nat.not_lt_zero _)
  | k + 1, l, h => by
    by_cases e : l < wl b w k
    · obtain ⟨m, h1, h2⟩ := wl_find k l e
      exact ⟨m, by omega, h2⟩
    · exact ⟨k, by omega, by omega, h⟩
theorem CelC.win {a b : Ce} {lc : Cd} {c gl : Nat} {I J : Ints} {L K : Lngs} (hC : CelC a lc c I L) (hW : WFc a) (h6 : (a 3).val < 6) (hA : Agr a b (125 + 8 * (a 3).val) (133 + 8 * (a 3).val)) (hG : (wG b (a 3).val).val = gl) (hM : 1 ≤ (wM b (a 3).val).val ∧ (wM b (a 3).val).val ≤ 3) (hp : ∀ m, m < (wM b (a 3).val).val → (wD b (a 3).val m).val < (a 2).val ∧ 1 ≤ (wT b (a 3).val m).val ∧ (wT b (a 3).val m).val ≤ 4) (hJ : ∀ k, c < k → k ≤ c + 10 → k ≠ c + 3 → k ≠ c + 4 → k ≠ c + 5 → J k = I k) (h0 : ∀ i, i ≠ 7 → J c i = I c i) (h7 : J c 7 = nI ((a 3).val + 1)) (j3 : ∀ x, x < (a 3).val → J (c + 3) x = I (c + 3) x ∧ J (c + 4) x = I (c + 4) x) (n3 : J (c + 3) (a 3).val = nI gl) (n4 : J (c + 4) (a 3).val = nI (wl b (a 3).val (wM b (a 3).val).val)) (j5 : ∀ x, x < (a 3).val * 96 → J (c + 5) x = I (c + 5) x)
    (n5 : ∀ m, m < (wM b (a 3).val).val → ∀ l, wl b (a 3).val m ≤ l → l < wl b (a 3).val (m + 1) → J (c + 5) ((a 3).val * 96 + l) = nI (dS b (wD b (a 3).val m).val ((l - wl b (a 3).val m) % (dL b (wD b (a 3).val m).val).val)).val) (hK : K c = L c) : CelC (up1 b 3 (fi ((a 3).val + 1))) lc c J K := by
  have w2 := hW.2.2.1
  have w4 := hW.2.2.2.2.1
  have xn : ∀ k, k ≠ 3 → (k < 125 + 8 * (a 3).val ∨ 133 + 8 * (a 3).val ≤ k) → up1 b 3 (fi ((a 3).val + 1)) k = a k := fun k h2 hk => by rw [ua_n h2]; exact hA k hk
  have e3 : (up1 b 3 (fi ((a 3).val + 1)) 3).val = (a 3).val + 1 := by rw [up1_s, fi_v (by omega)]
  have e2 := xn 2 (by omega) (by omega)
  have e4 := xn 4 (by omega) (by omega)
  refine hC.grow hW ?_ (fun k hk => ?_) (fun d hd => ⟨⟨xn _ (by omega) (by omega), fun s hs => xn _ (by omega) (by omega)⟩, by rw [hJ _ (by omega) (by omega) (by omega) (by omega) (by omega)], fun _ _ => by rw [hJ _ (by omega) (by omega) (by omega) (by omega) (by omega)]⟩) (fun d h1 h2 => by rw [e2] at h2; omega) (fun w hw => ⟨⟨xn _ (by omega) (by omega), xn _ (by omega) (by omega), fun k hk => ⟨xn _ (by omega) (by omega), xn _ (by omega) (by omega)⟩⟩, (j3 w hw).1, (j3 w hw).2, fun x hx => j5 _ (by omega)⟩) (fun w h1 h2 => ?_) (fun g hg => ⟨⟨xn _ (by omega) (by omega), xn _ (by omega) (by omega), xn _ (by omega) (by omega), xn _ (by omega) (by omega)⟩, by rw [hJ _ (by omega) (by omega) (by omega) (by omega) (by omega)], by rw [hJ _ (by omega) (by omega) (by omega) (by omega) (by omega)], by rw [hJ _ (by omega) (by omega) (by omega) (by omega) (by omega)]⟩) (fun g h1 h2 => by rw [e4] at h2; omega) ?_
  · rw [e2, e3, e4, xn 0 (by omega) (by omega), xn 1 (by omega) (by omega), xn 5 (by omega) (by omega), h0 0 (by decide), h0 1 (by decide), h0 3 (by decide), h0 4 (by decide), h0 11 (by decide), h7]
    exact ⟨hC.1.1, hC.1.2.1, hC.1.2.2.1, hC.1.2.2.2.1, rfl, hC.1.2.2.2.2.2⟩
  · rw [hK, hC.2.1 k hk]
    unfold clP
    rw [xn _ (by omega) (by omega)]
  · rw [e3] at h2
    have ed : w = (a 3).val := by omega
    subst ed
    have hcg := wCong (a := b) (b := up1 b 3 (fi ((a 3).val + 1))) (w := (a 3).val) (u_wM (by omega)) (fun k hk => by
      have hdk := (hp k hk).1
      have hdw := hW.2.2.2.2.2.2.2.1 _ hdk
      have ed : dL b (wD b (a 3).val k).val = dL a (wD b (a 3).val k).val := hA _ (by omega)
      refine ⟨u_wD (by omega), u_wT (by omega), u_dL (by omega), ?_, fun s hs => u_dS (by omega)⟩
      rw [ed]
      exact ⟨hdw.1, hdw.2.1⟩)
    rw [u_wG (by omega), hG, hcg.1]
    refine ⟨n3, n4, fun l hl => ?_⟩
    rw [hcg.2 l]
    obtain ⟨m, hm, m1, m2⟩ := wl_find _ l hl
    rw [wS_part hm m1 m2]
    exact n5 m hm l m1 m2
  · obtain ⟨k1, k2, k3⟩ := hC.2.2.2.2.2
    exact ⟨by rw [hJ _ (by omega) (by omega) (by omega) (by omega) (by omega)]; exact k1, cdC.fr (fun i => by rw [hJ _ (by omega) (by omega) (by omega) (by omega) (by omega)]) _ _ k2, k3⟩
theorem wineLine_ok {d : Nat} {sx : Sx} {I : Ints} {L : Lngs} {R : Rfs} {q : Q3} {ts : List Tk} {N c i : Nat} {a : Ce} {nm : Nm} {dn : List (List Nat)} {hc : Bool} {lc : Cd} (hP : PsC ts N c i a nm dn hc lc I L R) (hW : WFc a) (hZ : Zr a) (hNo : NmOk a nm dn) (hi : i + 1 ≤ N) (h36 : (a 3).val < 6)
    (hf : ∀ v J K, lnWin ts i a nm dn hc lc = .inl v → J 26 3 = nI v → RdF c I J L K → q (some (.int 0)) J K R)
    (ht : ∀ i' a' nm' dn' hc' lc' J K, lnWin ts i a nm dn hc lc = .inr (i', a', nm', dn', hc', lc') → PsC ts N c i' a' nm' dn' hc' lc' J K R → RdF c I J L K → q (some (.int 1)) J K R) : E0 mX5_wineLine (d + 5) sx [.ref 26] I L R q := by
  obtain ⟨hB, ⟨hcl, hR⟩, h2, h3, hNm, hDn, h8, h9, hGc, hC⟩ := hP
  have hc' : c = 2 ∨ c = 14 := hcl
  have hN := hB.2.1.1
  have w2 := hW.2.2.1
  have w4 := hW.2.2.2.2.1
  have hK1 : Kp (fun k => k ≠ 26) I (u2 I 26 2 (nI (i + 1))) := Kp.rf.up (by simp)
  have e1 : ∀ k, nI k + 1 = nI (k + 1) := fun k => nI_add k 1
  have esp : lnWin ts i a nm dn hc lc = newN ts nm 100 (i + 1) (fun nm' => wrd ts 5 (i + 2) (nmb ts 0 99 (i + 3) (fun gl => wrd ts 6 (i + 4) (prtF ts nm' (a 3).val (fun j b => wrd ts 59 j (.inr (j + 1, up1 b 3 (fi ((a 3).val + 1)), nm', dn, hc, lc))) 4 (i + 5) 0 (up1 a (125 + 8 * (a 3).val) (fi gl)))))) := if_neg (by omega)
  rw [esp] at hf ht
  refine EX5_wineLine hcl hR ?_
  rw [h2, e1, u2_nn _ _ _ _ (show c ≠ 26 by omega), hC.1.2.2.2.2.1]
  refine newName_ok (tag := 100) (i := i + 1) (nm := nm) (hB.k hK1) ⟨by rw [u2_kk _ _ _ _ (by decide)]; exact hNm.1, hNm.2⟩ hNo.2.2.1 (by have := hNo.1; omega) (u2_ss _ _ _ _) hi (fun n1 hi2 ef J K hNm' hK31 eJ hLK => ?_) (fun v J ef hJ => ?_)
  rotate_left
  · exact RX5_wineLine_22 ⟨fun _ => hf v J L (ef _) hJ.1 (RdF.k (hK1.tr hJ.2)), fun c => absurd rfl c⟩
  rw [ef] at hf ht
  have hwk := wK_ok hB.1 (i := i + 1) (by have := hB.2.1.2.1; omega) (isN_ne n1).2
  have hn2 : fnd nm (wK ts (i + 1)) = none := by
    have := ef (fun _ => .inl 0)
    unfold newN at this
    rw [if_pos n1] at this
    by_cases hh : fnd nm (wK ts (i + 1)) = none
    · exact hh
    · rw [if_neg hh] at this
      exact absurd (Sum.inl.inj this) (fK_nz (by decide))
  have hNo' := hNo.other (b := up1 a 3 (fi ((a 3).val + 1))) hwk hn2 (by rw [ua_n (by omega)]) (by rw [up1_s, ua_n (by omega), fi_v (by omega)]; omega)
  have hNx : dn.length = (a 2).val ∧ (∀ d, d < dn.length → wOk (dn.getD d []) ∧ fnd (nm ++ [(wK ts (i + 1), 100)]) (dn.getD d []) = some d) ∧ ∀ w t, fnd (nm ++ [(wK ts (i + 1), 100)]) w = some t → t = 100 ∨ (t < dn.length ∧ w = dn.getD t []) := ⟨hNo.2.1, hNo'.2.2.2.1, hNo'.2.2.2.2⟩
  generalize hnm' : nm ++ [(wK ts (i + 1), 100)] = nm' at *
  have hnl' : nm'.length = nm.length + 1 := by rw [← hnm']; simp
  let P : Nat → Prop := fun k => k = c + 3 ∨ k = c + 4 ∨ k = c + 5 ∨ k = c
  have hP26 : ¬ P 27 ∧ ¬ P 28 ∧ ¬ P 29 := ⟨by show ¬ (_ ∨ _); omega, by show ¬ (_ ∨ _); omega, by show ¬ (_ ∨ _); omega⟩
  have hI1 : LnI P I J (nm.length + 1) := by
    rw [eJ]
    refine ⟨((hK1.up (by simp)).up (by simp)).mn (fun _ hk => hk.1), fun k k2 k5 _ _ => by rw [u2_kk _ _ _ _ k2, u2_kk _ _ _ _ k5, u2_kk _ _ _ _ k2], by rw [u2_kk _ _ _ _ (by decide), u2_ss]⟩
  have j2 : J 26 2 = nI (i + 2) := by rw [eJ, u2_ss]
  have hJc : ∀ k, k ≠ 26 → J k = I k := fun k hk => by rw [eJ]; funext x; rw [u2_nn _ _ _ _ hk, u2_nn _ _ _ _ hk, u2_nn _ _ _ _ hk]
  have hK30 : K 30 = L 30 := hLK 30 (by decide)
  have hRd : ∀ J', LnI P I J' (nm.length + 1) → RdF c I J' L K := fun J' h => ⟨h.1.mn (fun k hk => ⟨hk.1, fun hp => hk.2 (by show c ≤ k ∧ k ≤ c + 11; rcases hp with e | e | e | e <;> omega)⟩), hLK.mn (fun k hk => hk.2.1)⟩
  have hBB : ∀ J', LnI P I J' (nm.length + 1) → RB ts N J' K := fun J' h => h.rb hB hP26 hK30
  refine RX5_wineLine_22 ⟨fun c => absurd c (by decide), fun _ => ?_⟩
  refine wordR_o (s := 5) (hBB J hI1) j2 (by omega) (by decide) (by decide) (fun J3 s3 ew hi4 p3 _ _ r3 => ?_) (fun v J3 ew hJ3 => RX5_wineLine_30 ⟨fun _ => hf v J3 K (ew _) hJ3.1 ((hRd J hI1).tr (RdF.k hJ3.2)), fun c => absurd rfl c⟩)
  have ew : ∀ f, wrd ts 5 (i + 2) f = f := ew
  rw [ew] at hf ht
  have hI3 := hI1.r26 r3
  refine RX5_wineLine_30 ⟨fun c => absurd c (by decide), fun _ => ?_⟩
  refine numberR_o (lo := 0) (hi := 99) (hBB J3 hI3) p3 hi4 (by decide) (by decide) (fun J4 s4 v4 ew4 hi5 p4 p4n _ r4 => ?_) (fun v J4 ew4 hJ4 => RX5_wineLine_40 hcl hR ⟨fun c => absurd rfl c, fun _ => hf v J4 K (ew4 _) hJ4.1 ((hRd J3 hI3).tr (RdF.k hJ4.2))⟩)
  have ew4 : ∀ f, nmb ts 0 99 (i + 3) f = f (vK ts (i + 3)) := ew4
  rw [ew4] at hf ht
  have hI4 := hI3.r26 r4
  have g4 : ∀ k, k ≠ 26 → J4 k = I k := fun k hk => by rw [r4.1 k hk, r3.1 k hk, hJc k hk]
  have v4 : vK ts (i + 3) ≤ 99 := v4.2
  have p4n : J4 26 10 = nI (vK ts (i + 3)) := p4n
  refine RX5_wineLine_40 hcl hR ⟨fun _ => ⟨by simp (disch := omega) only [nlit, natrem, nIrm, nIam, nIam',  nI_add, pk_mul, nIsub, nIrem, nIdiv, nIand1, nIand3, nIand7, nIand31, nIshr, nIle, nIlt, nIeq, nIc, vpI, nIm1, m1nI, m1lt, nIlm, m1le, nIlem, nIneg, u2_ss, u2_nn, u2_kk, nIm1n, m1nIn, m1ltn, nIlmn, m1len, nIlemn]; omega, by simp (disch := omega) only [nlit, natrem, nIrm, nIam, nIam',  nI_add, pk_mul, nIsub, nIrem, nIdiv, nIand1, nIand3, nIand7, nIand31, nIshr, nIle, nIlt, nIeq, nIc, vpI, nIm1, m1nI, m1lt, nIlm, m1le, nIlem, nIneg, u2_ss, u2_nn, u2_kk, nIm1n, m1nIn, m1ltn, nIlmn, m1len, nIlemn]; omega, ?_⟩, fun c => absurd c (by decide)⟩
  rw [nIc (by omega), p4n]
  have hI5 : LnI P I (u2 (u2 J4 (c + 3) (a 3).val (nI (vK ts (i + 3)))) (c + 4) (a 3).val 0) (nm.length + 1) := (hI4.u (Or.inl rfl) (by omega)).u (Or.inr (Or.inl rfl)) (by omega)
  refine wordR_o (s := 6) (hBB _ hI5) (show u2 (u2 J4 (c + 3) (a 3).val (nI (vK ts (i + 3)))) (c + 4) (a 3).val 0 26 2 = nI (i + 4) by rw [u2_nn _ _ _ _ (by omega), u2_nn _ _ _ _ (by omega)]; exact p4) hi5 (by decide) (by decide) (fun J6 s6 ew6 hi6 p6 _ _ r6 => ?_) (fun v J6 ew6 hJ6 => RX5_wineLine_74 ⟨fun c => absurd rfl c, fun _ => hf v J6 K (ew6 _) hJ6.1 ((hRd _ hI5).tr (RdF.k hJ6.2))⟩)
  rw [ew6] at hf ht
  have hI6 := hI5.r26 r6
  have g6 : ∀ k, k ≠ 26 → J6 k = u2 (u2 J4 (c + 3) (a 3).val (nI (vK ts (i + 3)))) (c + 4) (a 3).val 0 k := fun k hk => r6.1 k hk
  have hlp : ∀ n j k (b : Ce) (u : Nat) (J' : Ints), n + k = 4 → 1 ≤ n → j ≤ N → LnI P I J' (nm.length + 1) → J' 26 2 = nI j → J' c = I c → J' (c + 3) (a 3).val = nI (vK ts (i + 3)) → (∀ x, x < (a 3).val → J' (c + 3) x = I (c + 3) x ∧ J' (c + 4) x = I (c + 4) x) → J' (c + 4) (a 3).val = nI (wl b (a 3).val k) → (∀ x, x < (a 3).val * 96 → J' (c + 5) x = I (c + 5) x) →
      (∀ m, m < k → ∀ l, wl b (a 3).val m ≤ l → l < wl b (a 3).val (m + 1) → J' (c + 5) ((a 3).val * 96 + l) = nI (dS b (wD b (a 3).val m).val ((l - wl b (a 3).val m) % (dL b (wD b (a 3).val m).val).val)).val) → Agr a b (125 + 8 * (a 3).val) (133 + 8 * (a 3).val) → (wM b (a 3).val).val = k → (wG b (a 3).val).val = vK ts (i + 3) → (∀ m, m < k → (wD b (a 3).val m).val < (a 2).val ∧ 1 ≤ (wT b (a 3).val m).val ∧ (wT b (a 3).val m).val ≤ 4) → u < 64 → (∀ x, x < 6 → (bt u x = 1 ↔ usb b (a 3).val k x = true)) →
      prtF ts nm' (a 3).val (fun j b => wrd ts 59 j (.inr (j + 1, up1 b 3 (fi ((a 3).val + 1)), nm', dn, hc, lc))) 4 (i + 5) 0 (up1 a (125 + 8 * (a 3).val) (fi (vK ts (i + 3)))) = prtF ts nm' (a 3).val (fun j b => wrd ts 59 j (.inr (j + 1, up1 b 3 (fi ((a 3).val + 1)), nm', dn, hc, lc))) n j k b →
      Y mX5_wineLine (d + 5) sx 83 [(0, .ref 26), (1, .int (nI (a 3).val)), (2, .int (nI u)), (3, .int (nI k))] [] J' K R q := by
    intro n
    induction n with
    | zero => intro j k b u J' _ h1; omega
    | succ n ih =>
      intro j k b u J' hnk _ hj hI' h2' q0 q3 q34 q4 q5 q5n hA hM hG hp hu hub es
      have hlt := hB.1.lt j
      have hdd : ∀ x, x < (a 2).val → dL b x = dL a x ∧ ∀ s, s < 8 → dS b x s = dS a x s := fun x hx => ⟨hA _ (by omega), fun s hs => hA _ (by omega)⟩
      have hP32 : ∀ m, m < k → wP b (a 3).val m ≤ 32 := fun m hm => by
        obtain ⟨p1, p2, p3⟩ := hp m hm
        unfold wP
        rw [(hdd _ p1).1]
        exact Nat.mul_le_mul (hW.2.2.2.2.2.2.2.1 _ p1).2.1 p3
      have hwlk := wl_le32 k hP32
      have hpn : ¬ (k ≠ 0 ∧ sK ts j = 59) → E0 mX5_partName (d + 4) sx [.ref 26, .int (nI k), .int (nI u)] J' K R (fun r J K T => Y mX5_wineLine (d + 5) sx 110 [(0, .ref 26), (1, .int (nI (a 3).val)), (2, .int (nI u)), (3, .int (nI k))] (r.toList ++ []) J K T q) := by
        intro h59
        refine partName_ok (a := a) (b := b) (w := (a 3).val) (nm := nm') (dn := dn) (hBB J' hI') hcl hR (by rw [q0]; exact hC.1.2.2.2.1) w2 (Or.inr hNx) (fun x hx => by rw [hLK 32 (by decide)]; exact hDn x hx) h2' hj (by omega) hu hub (fun x hn hfx hx hus hk3 hjN J7 p7 r7 => ?_) (fun kd k1 k5 hs1 hs2 J7 hJ7 => ?_)
        · refine RX5_wineLine_110 ⟨fun c => absurd c (m1_ne (by omega)), fun _ => ?_⟩
          have hI7 := hI'.r26 r7
          have es2 : prtF ts nm' (a 3).val (fun j b => wrd ts 59 j (.inr (j + 1, up1 b 3 (fi ((a 3).val + 1)), nm', dn, hc, lc))) (n + 1) j k b = nmb ts 1 4 (j + 1) (fun t => prtF ts nm' (a 3).val (fun j b => wrd ts 59 j (.inr (j + 1, up1 b 3 (fi ((a 3).val + 1)), nm', dn, hc, lc))) n (j + 2) (k + 1) (up1 (up1 (up1 b (127 + 8 * (a 3).val + 2 * k) (fi x)) (128 + 8 * (a 3).val + 2 * k) (fi t)) (126 + 8 * (a 3).val) (fi (k + 1)))) := by
            show (if _ then _ else _) = _
            rw [if_pos hn, hfx]
            show (if _ then _ else _) = _
            rw [if_neg (by omega), if_neg (by rw [hus]; decide), if_neg hk3]
          rw [es2] at es
          refine numberR_o (lo := 1) (hi := 4) (hBB J7 hI7) p7 hjN (by decide) (by decide) (fun J8 s8 v8 ew8 hi8 p8 p8n _ r8 => ?_) (fun v J8 ew8 hJ8 => RX5_wineLine_124 ⟨fun c => absurd rfl c, fun _ => hf v J8 K (by rw [es]; exact ew8 _) hJ8.1 ((hRd J7 hI7).tr (RdF.k hJ8.2))⟩)
          rw [ew8] at es
          refine RX5_wineLine_124 ⟨fun _ => ?_, fun c => absurd c (by decide)⟩
          rw [p8n]
          have hI8 := hI7.r26 r8
          have g8 : ∀ k, k ≠ 26 → J8 k = J' k := fun k hk => by rw [r8.1 k hk, r7.1 k hk]
          have hdx := hW.2.2.2.2.2.2.2.1 x hx
          have hCd := hC.2.2.1 x hx
          have htm : vK ts (j + 1) * (dL a x).val ≤ 32 := by
            have := Nat.mul_le_mul v8.2 hdx.2.1
            exact this
          refine blend_ok (c := c) (m := (dL a x).val) (e0 := wl b (a 3).val k) (f := fun s => (dS a x s).val) hcl hR h36 (by omega) (by rw [g8 _ (by omega), hI'.1 (c + 1) ⟨by omega, by show ¬ (_ ∨ _); omega⟩]; exact hCd.1) hdx.1 hdx.2.1 (fun s hs => by rw [g8 _ (by omega), hI'.1 (c + 2) ⟨by omega, by show ¬ (_ ∨ _); omega⟩]; exact hCd.2 s hs) (by rw [g8 _ (by omega)]; exact q4) (by omega) v8.2 (fun J9 m4 m4x m5 m5x m9 => ?_)
          refine RX5_wineLine_147 ?_
          rw [e1, show nI u ||| ((1 : Int32) <<< (nI x &&& 31)) = nI (u ||| 2 ^ x) by rw [show (31 : Int32) = nI 31 from rfl, nIand31, show (1 : Int32) = nI 1 from rfl]; exact i_or (by omega)]
          have hI9 : LnI P I J9 (nm.length + 1) := by
            refine ⟨hI8.1.tr (m9.mn (fun k hk => ⟨fun e => hk.2 (Or.inr (Or.inl e)), fun e => hk.2 (Or.inr (Or.inr (Or.inl e)))⟩)), fun k a1 a2 a3 a4 => by rw [m9 26 ⟨by omega, by omega⟩]; exact hI8.2.1 k a1 a2 a3 a4, by rw [m9 26 ⟨by omega, by omega⟩]; exact hI8.2.2⟩
          have hx128 : x < 128 := by omega
          have ht128 : vK ts (j + 1) < 128 := by have := v8.2; omega
          have hbP : ∀ m, m < k → wP (up1 (up1 (up1 b (127 + 8 * (a 3).val + 2 * k) (fi x)) (128 + 8 * (a 3).val + 2 * k) (fi (vK ts (j + 1)))) (126 + 8 * (a 3).val) (fi (k + 1))) (a 3).val m = wP b (a 3).val m := fun m hm => by
            have pm := (hp m hm).1
            unfold wP
            rw [u_wD (by omega), u_wD (by omega), u_wD (by omega), u_wT (by omega), u_wT (by omega), u_wT (by omega), u_dL (by omega), u_dL (by omega), u_dL (by omega)]
          have hbl : ∀ m, m ≤ k → wl (up1 (up1 (up1 b (127 + 8 * (a 3).val + 2 * k) (fi x)) (128 + 8 * (a 3).val + 2 * k) (fi (vK ts (j + 1)))) (126 + 8 * (a 3).val) (fi (k + 1))) (a 3).val m = wl b (a 3).val m := fun m hm => wl_cg m (fun m' hm' => hbP m' (by omega))
          have hbk : wP (up1 (up1 (up1 b (127 + 8 * (a 3).val + 2 * k) (fi x)) (128 + 8 * (a 3).val + 2 * k) (fi (vK ts (j + 1)))) (126 + 8 * (a 3).val) (fi (k + 1))) (a 3).val k = vK ts (j + 1) * (dL a x).val := by
            unfold wP
            rw [u_wD (by omega), u_wD (by omega), h_wD rfl, u_wT (by omega), h_wT rfl, fi_v hx128, fi_v ht128, u_dL (by omega), u_dL (by omega), u_dL (by omega), (hdd x hx).1, Nat.mul_comm]
          have hbk1 : wl (up1 (up1 (up1 b (127 + 8 * (a 3).val + 2 * k) (fi x)) (128 + 8 * (a 3).val + 2 * k) (fi (vK ts (j + 1)))) (126 + 8 * (a 3).val) (fi (k + 1))) (a 3).val (k + 1) = wl b (a 3).val k + vK ts (j + 1) * (dL a x).val := by
            show wl _ _ k + wP _ _ k = _
            rw [hbl k (Nat.le_refl _), hbk]
          refine ih (j + 2) (k + 1) (up1 (up1 (up1 b (127 + 8 * (a 3).val + 2 * k) (fi x)) (128 + 8 * (a 3).val + 2 * k) (fi (vK ts (j + 1)))) (126 + 8 * (a 3).val) (fi (k + 1))) (u ||| 2 ^ x) J9 (by omega) (by omega) (by omega) hI9 (by rw [m9 26 ⟨by omega, by omega⟩]; exact p8) (by rw [m9 c ⟨by omega, by omega⟩, g8 c (by omega)]; exact q0) (by rw [m9 (c + 3) ⟨by omega, by omega⟩, g8 _ (by omega)]; exact q3) (fun y hy => ⟨by rw [m9 (c + 3) ⟨by omega, by omega⟩, g8 _ (by omega)]; exact (q34 y hy).1, by rw [m4x y (by omega), g8 _ (by omega)]; exact (q34 y hy).2⟩) (by rw [m4, hbk1]) (fun y hy => by rw [m5x y (by omega), g8 _ (by omega)]; exact q5 y hy) (fun m hm l l1 l2 => ?_) (fun k' hk' => by rw [ua_n (by omega), ua_n (by omega), ua_n (by omega)]; exact hA k' hk') (by rw [h_wM rfl, fi_v (by omega)]) (by rw [u_wG (by omega), u_wG (by omega), u_wG (by omega)]; exact hG) (fun m hm => ?_) (or_lt6 hu (by omega)) (fun y hy => ?_) es
          · by_cases em : m = k
            · subst em
              rw [hbl m (Nat.le_refl _)] at l1 ⊢
              rw [hbk1] at l2
              rw [u_wD (by omega), u_wD (by omega), h_wD rfl, fi_v hx128, u_dL (by omega), u_dL (by omega), u_dL (by omega), (hdd x hx).1]
              have hmod : (l - wl b (a 3).val m) % (dL a x).val < (dL a x).val := Nat.mod_lt _ (by omega)
              rw [u_dS (by omega), u_dS (by omega), u_dS (by omega), (hdd x hx).2 _ (by omega)]
              have hh := m5 (l - wl b (a 3).val m) (by omega)
              rw [show (a 3).val * 96 + wl b (a 3).val m + (l - wl b (a 3).val m) = (a 3).val * 96 + l by omega] at hh
              exact hh
            · have hmk : m < k := by omega
              rw [hbl m (by omega)] at l1 ⊢
              rw [hbl (m + 1) (by omega)] at l2
              have pm := (hp m hmk).1
              have hdm := hW.2.2.2.2.2.2.2.1 _ pm
              rw [u_wD (by omega), u_wD (by omega), u_wD (by omega), u_dL (by omega), u_dL (by omega), u_dL (by omega)]
              have hmod : (l - wl b (a 3).val m) % (dL b (wD b (a 3).val m).val).val < 8 := by
                rw [(hdd _ pm).1]
                have := Nat.mod_lt (l - wl b (a 3).val m) (show (dL a (wD b (a 3).val m).val).val > 0 by omega)
                omega
              rw [u_dS (by omega), u_dS (by omega), u_dS (by omega)]
              have hlw : l < wl b (a 3).val k := by
                have hmono : ∀ e, m + 1 + e ≤ k → wl b (a 3).val (m + 1) ≤ wl b (a 3).val (m + 1 + e) := by
                  intro e
                  induction e with
                  | zero => intro _; exact Nat.le_refl _
                  | succ e ihe => intro he; exact Nat.le_trans (ihe (by omega)) (Nat.le_add_right _ _)
                have := hmono (k - (m + 1)) (by omega)
                rw [show m + 1 + (k - (m + 1)) = k by omega] at this
                omega
              rw [m5x _ (by omega), g8 _ (by omega)]
              exact q5n m hmk l l1 l2
          · by_cases em : m = k
            · subst em
              rw [u_wD (by omega), u_wD (by omega), h_wD rfl, u_wT (by omega), h_wT rfl, fi_v hx128, fi_v ht128]
              exact ⟨hx, v8⟩
            · rw [u_wD (by omega), u_wD (by omega), u_wD (by omega), u_wT (by omega), u_wT (by omega), u_wT (by omega)]
              exact hp m (by omega)
          · rw [usb_s hx128 (by omega) h36, bt_or]
            by_cases ey : y = x
            · rw [if_pos ey]
              exact ⟨fun _ => Or.inr ey.symm, fun _ => rfl⟩
            · rw [if_neg ey, hub y hy]
              exact ⟨fun h => Or.inl h, fun h => by rcases h with h | h; exact h; exact absurd h.symm ey⟩
        · refine RX5_wineLine_110 ⟨fun _ => ?_, fun c => absurd rfl c⟩
          refine hf _ J7 K ?_ hJ7.1 ((hRd J' hI').tr (RdF.k hJ7.2))
          rw [es]
          show (if _ then _ else _) = _
          by_cases hn : isN (sK ts j)
          · rw [if_pos hn]
            obtain ⟨x1, x2⟩ := hs1 hn
            cases hfy : fnd nm' (wK ts j) with
            | none => rw [hfy] at x1; exact congrArg Sum.inl x1.symm
            | some y =>
              rw [hfy] at x1
              have x1 : fK ts kd j = if 6 ≤ y then fK ts 2 j else if usb b (a 3).val k y = true then fK ts 3 j else fK ts 5 j := x1
              show (if _ then _ else _) = _
              by_cases h6 : 6 ≤ y
              · rw [if_pos h6] at x1 ⊢
                rw [x1]
              · rw [if_neg h6] at x1 ⊢
                by_cases hus : usb b (a 3).val k y = true
                · rw [if_pos hus] at x1 ⊢
                  rw [x1]
                · rw [if_neg hus] at x1 ⊢
                  have hk3 := x2 y hfy h6 (by cases hh : usb b (a 3).val k y with
                    | false => rfl
                    | true => exact absurd hh hus)
                  rw [if_pos hk3, x1]
          · rw [if_neg hn, hs2 hn]
            by_cases h0 : k = 0
            · rw [if_pos h0]
            · rw [if_neg h0]
              exact if_neg (fun hh => h59 ⟨h0, hh⟩)
      refine RX5_wineLine_83 hcl hR ⟨fun c1 => ?_, fun c1 => ⟨fun c2 => ?_, fun c2 => ?_⟩⟩
      · exfalso; simp (disch := omega) only [nlit, natrem, nIrm, nIam, nIam',  nI_add, pk_mul, nIsub, nIrem, nIdiv, nIand1, nIand3, nIand7, nIand31, nIshr, nIle, nIlt, nIeq, nIc, vpI, nIm1, m1nI, m1lt, nIlm, m1le, nIlem, nIneg, u2_ss, u2_nn, u2_kk, nIm1n, m1nIn, m1ltn, nIlmn, m1len, nIlemn] at c1; omega
      · simp (disch := omega) only [nlit, natrem, nIrm, nIam, nIam',  nI_add, pk_mul, nIsub, nIrem, nIdiv, nIand1, nIand3, nIand7, nIand31, nIshr, nIle, nIlt, nIeq, nIc, vpI, nIm1, m1nI, m1lt, nIlm, m1le, nIlem, nIneg, u2_ss, u2_nn, u2_kk, nIm1n, m1nIn, m1ltn, nIlmn, m1len, nIlemn] at c2
        exact hpn (by omega)
      · simp (disch := omega) only [nlit, natrem, nIrm, nIam, nIam',  nI_add, pk_mul, nIsub, nIrem, nIdiv, nIand1, nIand3, nIand7, nIand31, nIshr, nIle, nIlt, nIeq, nIc, vpI, nIm1, m1nI, m1lt, nIlm, m1le, nIlem, nIneg, u2_ss, u2_nn, u2_kk, nIm1n, m1nIn, m1ltn, nIlmn, m1len, nIlemn] at c2
        refine sortR_ok (hBB J' hI') h2' hj ?_
        refine RX5_wineLine_96 hcl hR ⟨fun c3 => ?_, fun c3 => ?_⟩
        · simp (disch := omega) only [nlit, natrem, nIrm, nIam, nIam',  nI_add, pk_mul, nIsub, nIrem, nIdiv, nIand1, nIand3, nIand7, nIand31, nIshr, nIle, nIlt, nIeq, nIc, vpI, nIm1, m1nI, m1lt, nIlm, m1le, nIlem, nIneg, u2_ss, u2_nn, u2_kk, nIm1n, m1nIn, m1ltn, nIlmn, m1len, nIlemn] at c3
          exact hpn (fun hh => c3 hh.2)
        · simp (disch := omega) only [nlit, natrem, nIrm, nIam, nIam',  nI_add, pk_mul, nIsub, nIrem, nIdiv, nIand1, nIand3, nIand7, nIand31, nIshr, nIle, nIlt, nIeq, nIc, vpI, nIm1, m1nI, m1lt, nIlm, m1le, nIlem, nIneg, u2_ss, u2_nn, u2_kk, nIm1n, m1nIn, m1ltn, nIlmn, m1len, nIlemn] at c3
          have es2 : prtF ts nm' (a 3).val (fun j b => wrd ts 59 j (.inr (j + 1, up1 b 3 (fi ((a 3).val + 1)), nm', dn, hc, lc))) (n + 1) j k b = wrd ts 59 j (.inr (j + 1, up1 b 3 (fi ((a 3).val + 1)), nm', dn, hc, lc)) := by
            show (if _ then _ else _) = _
            rw [if_neg (by unfold isN; omega), if_neg (by omega)]
          rw [es2] at es
          rw [q0, hC.1.2.2.2.2.1, e1]
          have hIz : LnI P I (u2 J' c 7 (nI ((a 3).val + 1))) (nm.length + 1) := hI'.u (Or.inr (Or.inr (Or.inr rfl))) (by omega)
          refine wordR_o (s := 59) (hBB _ hIz) (by rw [u2_nn _ _ _ _ (by omega)]; exact h2') hj (by decide) (by decide) (fun J9 s9 ew9 hi9 p9 _ _ r9 => ?_) (fun v J9 ew9 hJ9 => RX5_wineLine_172 ⟨Or.inl rfl, hf v J9 K (by rw [es]; exact ew9 _) hJ9.1 ((hRd _ hIz).tr (RdF.k hJ9.2))⟩)
          have hI9 := hIz.r26 r9
          refine RX5_wineLine_172 ⟨Or.inr rfl, ht _ _ _ _ _ _ J9 K (by rw [es, ew9]) ⟨hBB J9 hI9, ⟨hcl, hR⟩, p9, by rw [hI9.2.1 3 (by decide) (by decide) (by decide) (by decide)]; exact h3, ⟨by rw [hI9.2.2, hnl'], hNm'.2⟩, fun x hx => by rw [hLK 32 (by decide)]; exact hDn x hx, by rw [hI9.2.1 8 (by decide) (by decide) (by decide) (by decide)]; exact h8, by rw [hI9.2.1 9 (by decide) (by decide) (by decide) (by decide)]; exact h9, fun y hy => ?_, ?_⟩ ((hRd _ hIz).tr (RdF.k r9.1))⟩
          · rw [hLK 26 (by decide), hGc y hy]
            refine (any_up ?_ (fun g hg => ?_) y).symm
            · rw [ua_n (by omega)]; exact hA 4 (by omega)
            · rw [u_gC (by omega)]; exact hA _ (by omega)
          · have g9 : ∀ k, k ≠ 26 → J9 k = u2 J' c 7 (nI ((a 3).val + 1)) k := fun k hk => r9.1 k hk
            have gr : ∀ k, k ≠ 26 → k ≠ c → J9 k = J' k := fun k hk hk2 => by rw [g9 k hk]; funext x; exact u2_nn _ _ _ _ hk2
            refine hC.win (gl := vK ts (i + 3)) hW h36 hA hG (by omega) (fun m hm => hp m (by omega)) (fun k' k1 k2 k6 k7 k8 => hI9.1 k' ⟨by omega, by show ¬ (_ ∨ _); omega⟩) (fun x hx => ?_) ?_ (fun x hx => ?_) ?_ ?_ (fun x hx => ?_) (fun m hm l l1 l2 => ?_) (hLK c (by omega))
            · rw [g9 c (by omega), u2_kk _ _ _ _ hx, q0]
            · rw [g9 c (by omega), u2_ss]
            · rw [gr _ (by omega) (by omega), gr _ (by omega) (by omega)]; exact q34 x hx
            · rw [gr _ (by omega) (by omega)]; exact q3
            · rw [gr _ (by omega) (by omega), hM]; exact q4
            · rw [gr _ (by omega) (by omega)]; exact q5 x hx
            · rw [gr _ (by omega) (by omega)]; exact q5n m (by omega) l l1 l2
  refine RX5_wineLine_74 ⟨fun _ => ?_, fun c => absurd c (by decide)⟩
  refine hlp 4 (i + 5) 0 (up1 a (125 + 8 * (a 3).val) (fi (vK ts (i + 3)))) 0 J6 rfl (by decide) hi6 hI6 p6 ?_ ?_ (fun x hx => ⟨?_, ?_⟩) ?_ (fun x hx => ?_) (fun m hm => absurd hm (Nat.not_lt_zero _)) (fun k hk => ua_n (by omega)) ?_ ?_ (fun m hm => absurd hm (Nat.not_lt_zero _)) (by decide) (fun x hx => ?_) rfl
  · funext x; rw [g6 c (by omega), u2_nn _ _ _ _ (by omega), u2_nn _ _ _ _ (by omega), g4 c (by omega)]
  · rw [g6 _ (by omega), u2_nn _ _ _ _ (by omega), u2_ss]
  · rw [g6 _ (by omega), u2_nn _ _ _ _ (by omega), u2_kk _ _ _ _ (by omega), g4 _ (by omega)]
  · rw [g6 _ (by omega), u2_kk _ _ _ _ (by omega), u2_nn _ _ _ _ (by omega), g4 _ (by omega)]
  · rw [g6 _ (by omega), u2_ss]; rfl
  · rw [g6 _ (by omega), u2_nn _ _ _ _ (by omega), u2_nn _ _ _ _ (by omega), g4 _ (by omega)]
  · rw [u_wM (by omega)]; exact hZ.2.2 _ (Nat.le_refl _) h36
  · rw [h_wG rfl, fi_v (by omega)]
  · rw [bt_zero]
    exact ⟨fun h => absurd h (by decide), fun h => by cases h⟩
