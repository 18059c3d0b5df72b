/-! see, count, mark of the class -/
theorem isCellV {d : Nat} {sx : Sx} {I : Ints} {L : Lngs} {R : Rfs} {q : Q3} {o : Nat} (ho : isCel o) {a : Ce} {x y : Int32} (h0 : I o 0 = nI (a 0).val) (h1 : I o 1 = nI (a 1).val)
    (ht : ∀ m n, m < (a 0).val → n < (a 1).val → x = nI m → y = nI n → q (some (.int 1)) I L R) (hf : ¬ (inR x (a 0).val ∧ inR y (a 1).val) → q (some (.int 0)) I L R) : E0 mX0_isCell (d + 1) sx [.ref o, .int x, .int y] I L R q := by
  refine EX0_isCell ho ⟨fun c1 => hf (fun w => w.1.1 c1), fun c1 => ⟨fun c2 => hf (fun w => ?_), fun c2 => ⟨fun c3 => hf (fun w => w.2.1 c3), fun c3 => ⟨fun c4 => hf (fun w => ?_), fun c4 => ?_⟩⟩⟩⟩
  · rw [h0] at c2; exact i32_nlt c2 w.1.2
  · rw [h1] at c4; exact i32_nlt c4 w.2.2
  · rw [h0] at c2
    rw [h1] at c4
    obtain ⟨m, hm, e1⟩ := inR_of (by omega) c1 (i32_nle c2)
    obtain ⟨n, hn, e2⟩ := inR_of (by omega) c3 (i32_nle c4)
    exact ht m n hm hn e1 e2
abbrev okS (a : Ce) (g x y : Int32) : Prop := inR g (a 4).val ∧ (x = -1 ∨ (inR x (a 0).val ∧ inR y (a 1).val))
def seV (x y : Int32) : Nat := if x = -1 then 0 else 8 * y.toNatClampNeg + x.toNatClampNeg + 1
theorem c_see {d : Nat} {sx : Sx} {I : Ints} {L : Lngs} {R : Rfs} {q : Q3} {a : Ce} {lc : List (Nat × Nat)} {lf : Nat → Nat} {gl : Nat → List Nat} {sn : Nat → Nat} {c : Nat} (hC : CC a lc lf gl sn c I L R) {g x y : Int32}
    (ht : okS a g x y → ∀ J, CC a lc lf gl (up1 sn g.toNatClampNeg (seV x y)) c J L R → Kp (fun k => k ≠ 37) I J → q (some (.int 1)) J L R) (hf : ¬ okS a g x y → q (some (.int 0)) I L R) : E0 mX11_see (d + 2) sx [.ref 0, .int g, .int x, .int y] I L R q := by
  have hCC := hC
  obtain ⟨hc, hR, hW, hE, hCl, hEv, hRt⟩ := hC
  have w4 := hW.2.2.2.2.1
  have w0 := hW.1.2
  have w1 := hW.2.1.2
  refine EX11_see hc hR (isGuestC_ok hc hCl (fun n hn e => ?_) (fun hn => ?_))
  · subst e
    have hin : inR (nI n) (a 4).val := (inR_nI (by omega) (by omega)).mpr hn
    rw [nIc (by omega)] at ht
    have key : ∀ v, v ≤ 64 → CC a lc lf gl (up1 sn n v) c (u2 I 37 n (snV v)) L R := by
      intro v hv
      refine hCC.upd ⟨fun w hw => ?_, fun g hg => ⟨?_, ?_⟩, fun g hg => ?_⟩ ⟨hE.1, hE.2.1, fun g hg => ?_, hE.2.2.2.1, fun g hg h4 => ⟨?_, (hE.2.2.2.2 g hg h4).2⟩⟩ (fun z hz h0 => ⟨?_, rfl⟩) (Kp.rf.up (by decide))
      · rw [u2_nn _ _ _ _ (by decide)]; exact hEv.1 w hw
      · rw [u2_nn _ _ _ _ (by decide)]; exact (hEv.2.1 g hg).1
      · exact (hEv.2.1 g hg).2.congr (fun j => by rw [u2_nn _ _ _ _ (by decide)])
      · by_cases e : g = n
        · rw [e, up1_s, u2_ss]
        · rw [up1_n _ _ e, u2_kk _ _ _ _ e]; exact hEv.2.2 g hg
      · by_cases e : g = n
        · rw [e, up1_s]; exact hv
        · rw [up1_n _ _ e]; exact hE.2.2.1 g hg
      · rw [up1_n _ _ (by omega)]; exact (hE.2.2.2.2 g hg h4).1
      · rw [u2_nn _ _ _ _ (by decide)] at h0; exact h0
    by_cases hx : x = -1
    · have e : seV x y = 0 := by unfold seV; rw [if_pos hx]
      rw [e] at ht
      refine RX11_see_8 hc hR ⟨fun _ => ⟨fun w => absurd hx w, fun _ => ⟨?_, ?_⟩⟩, fun w => absurd w (by decide)⟩
      · simp (disch := omega) only [nlit, natrem, nIrm, nIam, nIam',  nI_add, pk_mul, nIsub, nIrem, nIdiv, nIand1, nIand3, nIand7, nIand31, nIshr, nIle, nIlt, nIeq, nIc, vpI, nIm1, m1nI, m1lt, nIlm, m1le, nIlem, nIneg, u2_ss, u2_nn, u2_kk]; omega
      · simp (disch := omega) only [nlit, natrem, nIrm, nIam, nIam',  nI_add, pk_mul, nIsub, nIrem, nIdiv, nIand1, nIand3, nIand7, nIand31, nIshr, nIle, nIlt, nIeq, nIc, vpI, nIm1, m1nI, m1lt, nIlm, m1le, nIlem, nIneg, u2_ss, u2_nn, u2_kk]
        exact ht ⟨hin, Or.inl hx⟩ _ (key 0 (by decide)) (Kp.rf.up (by decide))
    · refine RX11_see_8 hc hR ⟨fun _ => ⟨fun _ => ?_, fun w => absurd w hx⟩, fun w => absurd w (by decide)⟩
      refine isCellV hc hCl.1.1 hCl.1.2.1 (fun m k hm hk e1 e2 => ?_) (fun hno => RX11_see_39 ⟨fun w => absurd rfl w, fun _ => hf (fun w => w.2.elim hx hno)⟩)
      subst e1
      subst e2
      have e : seV (nI m) (nI k) = 8 * k + m + 1 := by unfold seV; rw [if_neg hx, nIc (by omega), nIc (by omega)]
      rw [e] at ht
      have e3 : snV (8 * k + m + 1) = nI (k * 8 + m) := by unfold snV; rw [if_neg (by omega)]; congr 1; omega
      have hk9 := key (8 * k + m + 1) (by omega)
      rw [e3] at hk9
      refine RX11_see_39  ⟨fun c1 => ⟨?_, ?_⟩, fun c1 => ?_⟩
      · (try simp (disch := omega) only [nlit, natrem, nIrm, nIam, nIam',  nI_add, pk_mul, nIsub, nIrem, nIdiv, nIand1, nIand3, nIand7, nIand31, nIshr, nIle, nIlt, nIeq, nIc, vpI, nIm1, m1nI, m1lt, nIlm, m1le, nIlem, nIneg, u2_ss, u2_nn, u2_kk] at c1) <;> (try simp (disch := omega) only [nlit, natrem, nIrm, nIam, nIam',  nI_add, pk_mul, nIsub, nIrem, nIdiv, nIand1, nIand3, nIand7, nIand31, nIshr, nIle, nIlt, nIeq, nIc, vpI, nIm1, m1nI, m1lt, nIlm, m1le, nIlem, nIneg, u2_ss, u2_nn, u2_kk]) <;> (first | omega | trivial)
      · (try simp (disch := omega) only [nlit, natrem, nIrm, nIam, nIam',  nI_add, pk_mul, nIsub, nIrem, nIdiv, nIand1, nIand3, nIand7, nIand31, nIshr, nIle, nIlt, nIeq, nIc, vpI, nIm1, m1nI, m1lt, nIlm, m1le, nIlem, nIneg, u2_ss, u2_nn, u2_kk] at c1); (try simp (disch := omega) only [nlit, natrem, nIrm, nIam, nIam',  nI_add, pk_mul, nIsub, nIrem, nIdiv, nIand1, nIand3, nIand7, nIand31, nIshr, nIle, nIlt, nIeq, nIc, vpI, nIm1, m1nI, m1lt, nIlm, m1le, nIlem, nIneg, u2_ss, u2_nn, u2_kk])
        exact ht ⟨hin, Or.inr ⟨(inR_nI (by omega) (by omega)).mpr hm, (inR_nI (by omega) (by omega)).mpr hk⟩⟩ _ hk9 (Kp.rf.up (by decide))
      · (try simp (disch := omega) only [nlit, natrem, nIrm, nIam, nIam',  nI_add, pk_mul, nIsub, nIrem, nIdiv, nIand1, nIand3, nIand7, nIand31, nIshr, nIle, nIlt, nIeq, nIc, vpI, nIm1, m1nI, m1lt, nIlm, m1le, nIlem, nIneg, u2_ss, u2_nn, u2_kk] at c1) <;> (first | omega | exact absurd rfl c1 | exact absurd trivial c1)
  · refine RX11_see_8 hc hR ⟨fun w => absurd rfl w, fun _ => hf (fun w => hn w.1)⟩
def cq (a : Ce) (lf : Nat → Nat) (sn : Nat → Nat) (un tn m : Nat) : Nat := if m = 0 then (a 0).val else if m = 1 then (a 1).val else if m = 2 then (a 2).val else if m = 3 then (a 3).val else if m = 4 then (a 4).val else if m = 5 then sumL lf 6 else if m = 6 then cntS sn 6 else if m = 7 then un else if m = 8 then (a 5).val else tn
def spCount (a : Ce) (lf : Nat → Nat) (sn : Nat → Nat) (un tn : Nat) (x : Int32) : Int32 := if inR x 10 then nI (cq a lf sn un tn x.toNatClampNeg) else -1
theorem c_count {d : Nat} {sx : Sx} {I : Ints} {L : Lngs} {R : Rfs} {q : Q3} {a : Ce} {lc : List (Nat × Nat)} {lf : Nat → Nat} {gl : Nat → List Nat} {sn : Nat → Nat} {c un tn : Nat} (hC : CC a lc lf gl sn c I L R) (hu : I 38 1 = nI un) (hun : un ≤ 20) (ht : I 0 1 = nI tn) {x : Int32} (h : q (some (.int (spCount a lf sn un tn x))) I L R) : E0 mX11_count (d + 2) sx [.ref 0, .int x] I L R q := by
  obtain ⟨hc, hR, hW, hE, hCl, hEv, hRt⟩ := hC
  obtain ⟨e0, e1, e3, e4, e7, e11⟩ := hCl.1
  by_cases hx : inR x 10
  · obtain ⟨m, hm, e⟩ := inR_of (by decide) hx.1 hx.2
    subst e
    have e : spCount a lf sn un tn (nI m) = nI (cq a lf sn un tn m) := by unfold spCount; rw [if_pos hx, nIc (by omega)]
    rw [e] at h
    refine EX11_count hc hR ⟨fun c1 => ?_, fun c1 => ⟨fun c2 => ?_, fun c2 => ⟨fun c3 => ?_, fun c3 => ⟨fun c4 => ?_, fun c4 => ⟨fun c5 => ?_, fun c5 => ⟨fun c6 => ?_, fun c6 => ⟨fun c7 => ?_, fun c7 => ⟨fun c8 => ?_, fun c8 => ⟨fun c9 => ?_, fun c9 => ⟨fun c10 => ?_, fun c10 => ?_⟩⟩⟩⟩⟩⟩⟩⟩⟩⟩
    · (try simp (disch := omega) only [nlit, natrem, nIrm, nIam, nIam',  nI_add, pk_mul, nIsub, nIrem, nIdiv, nIand1, nIand3, nIand7, nIand31, nIshr, nIle, nIlt, nIeq, nIc, vpI, nIm1, m1nI, m1lt, nIlm, m1le, nIlem, nIneg, u2_ss, u2_nn, u2_kk, e0, e1, e3, e4, e7, e11, hu, ht] at c1); (try simp (disch := omega) only [nlit, natrem, nIrm, nIam, nIam',  nI_add, pk_mul, nIsub, nIrem, nIdiv, nIand1, nIand3, nIand7, nIand31, nIshr, nIle, nIlt, nIeq, nIc, vpI, nIm1, m1nI, m1lt, nIlm, m1le, nIlem, nIneg, u2_ss, u2_nn, u2_kk, e0, e1, e3, e4, e7, e11, hu, ht])
      unfold cq at h
      repeat (first | rw [if_pos (by omega)] at h | rw [if_neg (by omega)] at h)
      exact h
    · (try simp (disch := omega) only [nlit, natrem, nIrm, nIam, nIam',  nI_add, pk_mul, nIsub, nIrem, nIdiv, nIand1, nIand3, nIand7, nIand31, nIshr, nIle, nIlt, nIeq, nIc, vpI, nIm1, m1nI, m1lt, nIlm, m1le, nIlem, nIneg, u2_ss, u2_nn, u2_kk, e0, e1, e3, e4, e7, e11, hu, ht] at c1 c2); (try simp (disch := omega) only [nlit, natrem, nIrm, nIam, nIam',  nI_add, pk_mul, nIsub, nIrem, nIdiv, nIand1, nIand3, nIand7, nIand31, nIshr, nIle, nIlt, nIeq, nIc, vpI, nIm1, m1nI, m1lt, nIlm, m1le, nIlem, nIneg, u2_ss, u2_nn, u2_kk, e0, e1, e3, e4, e7, e11, hu, ht])
      unfold cq at h
      repeat (first | rw [if_pos (by omega)] at h | rw [if_neg (by omega)] at h)
      exact h
    · (try simp (disch := omega) only [nlit, natrem, nIrm, nIam, nIam',  nI_add, pk_mul, nIsub, nIrem, nIdiv, nIand1, nIand3, nIand7, nIand31, nIshr, nIle, nIlt, nIeq, nIc, vpI, nIm1, m1nI, m1lt, nIlm, m1le, nIlem, nIneg, u2_ss, u2_nn, u2_kk, e0, e1, e3, e4, e7, e11, hu, ht] at c1 c2 c3); (try simp (disch := omega) only [nlit, natrem, nIrm, nIam, nIam',  nI_add, pk_mul, nIsub, nIrem, nIdiv, nIand1, nIand3, nIand7, nIand31, nIshr, nIle, nIlt, nIeq, nIc, vpI, nIm1, m1nI, m1lt, nIlm, m1le, nIlem, nIneg, u2_ss, u2_nn, u2_kk, e0, e1, e3, e4, e7, e11, hu, ht])
      unfold cq at h
      repeat (first | rw [if_pos (by omega)] at h | rw [if_neg (by omega)] at h)
      exact h
    · (try simp (disch := omega) only [nlit, natrem, nIrm, nIam, nIam',  nI_add, pk_mul, nIsub, nIrem, nIdiv, nIand1, nIand3, nIand7, nIand31, nIshr, nIle, nIlt, nIeq, nIc, vpI, nIm1, m1nI, m1lt, nIlm, m1le, nIlem, nIneg, u2_ss, u2_nn, u2_kk, e0, e1, e3, e4, e7, e11, hu, ht] at c1 c2 c3 c4); (try simp (disch := omega) only [nlit, natrem, nIrm, nIam, nIam',  nI_add, pk_mul, nIsub, nIrem, nIdiv, nIand1, nIand3, nIand7, nIand31, nIshr, nIle, nIlt, nIeq, nIc, vpI, nIm1, m1nI, m1lt, nIlm, m1le, nIlem, nIneg, u2_ss, u2_nn, u2_kk, e0, e1, e3, e4, e7, e11, hu, ht])
      unfold cq at h
      repeat (first | rw [if_pos (by omega)] at h | rw [if_neg (by omega)] at h)
      exact h
    · (try simp (disch := omega) only [nlit, natrem, nIrm, nIam, nIam',  nI_add, pk_mul, nIsub, nIrem, nIdiv, nIand1, nIand3, nIand7, nIand31, nIshr, nIle, nIlt, nIeq, nIc, vpI, nIm1, m1nI, m1lt, nIlm, m1le, nIlem, nIneg, u2_ss, u2_nn, u2_kk, e0, e1, e3, e4, e7, e11, hu, ht] at c1 c2 c3 c4 c5); (try simp (disch := omega) only [nlit, natrem, nIrm, nIam, nIam',  nI_add, pk_mul, nIsub, nIrem, nIdiv, nIand1, nIand3, nIand7, nIand31, nIshr, nIle, nIlt, nIeq, nIc, vpI, nIm1, m1nI, m1lt, nIlm, m1le, nIlem, nIneg, u2_ss, u2_nn, u2_kk, e0, e1, e3, e4, e7, e11, hu, ht])
      unfold cq at h
      repeat (first | rw [if_pos (by omega)] at h | rw [if_neg (by omega)] at h)
      exact h
    · (try simp (disch := omega) only [nlit, natrem, nIrm, nIam, nIam',  nI_add, pk_mul, nIsub, nIrem, nIdiv, nIand1, nIand3, nIand7, nIand31, nIshr, nIle, nIlt, nIeq, nIc, vpI, nIm1, m1nI, m1lt, nIlm, m1le, nIlem, nIneg, u2_ss, u2_nn, u2_kk, e0, e1, e3, e4, e7, e11, hu, ht] at c1 c2 c3 c4 c5 c6); (try simp (disch := omega) only [nlit, natrem, nIrm, nIam, nIam',  nI_add, pk_mul, nIsub, nIrem, nIdiv, nIand1, nIand3, nIand7, nIand31, nIshr, nIle, nIlt, nIeq, nIc, vpI, nIm1, m1nI, m1lt, nIlm, m1le, nIlem, nIneg, u2_ss, u2_nn, u2_kk, e0, e1, e3, e4, e7, e11, hu, ht])
      unfold cq at h
      repeat (first | rw [if_pos (by omega)] at h | rw [if_neg (by omega)] at h)
      exact glassesLeft_ok hEv hE.1 (RX11_count_103 h)
    · (try simp (disch := omega) only [nlit, natrem, nIrm, nIam, nIam',  nI_add, pk_mul, nIsub, nIrem, nIdiv, nIand1, nIand3, nIand7, nIand31, nIshr, nIle, nIlt, nIeq, nIc, vpI, nIm1, m1nI, m1lt, nIlm, m1le, nIlem, nIneg, u2_ss, u2_nn, u2_kk, e0, e1, e3, e4, e7, e11, hu, ht] at c1 c2 c3 c4 c5 c6 c7); (try simp (disch := omega) only [nlit, natrem, nIrm, nIam, nIam',  nI_add, pk_mul, nIsub, nIrem, nIdiv, nIand1, nIand3, nIand7, nIand31, nIshr, nIle, nIlt, nIeq, nIc, vpI, nIm1, m1nI, m1lt, nIlm, m1le, nIlem, nIneg, u2_ss, u2_nn, u2_kk, e0, e1, e3, e4, e7, e11, hu, ht])
      unfold cq at h
      repeat (first | rw [if_pos (by omega)] at h | rw [if_neg (by omega)] at h)
      exact seenGuests_ok hEv hE.2.2.1 (RX11_count_111 h)
    · (try simp (disch := omega) only [nlit, natrem, nIrm, nIam, nIam',  nI_add, pk_mul, nIsub, nIrem, nIdiv, nIand1, nIand3, nIand7, nIand31, nIshr, nIle, nIlt, nIeq, nIc, vpI, nIm1, m1nI, m1lt, nIlm, m1le, nIlem, nIneg, u2_ss, u2_nn, u2_kk, e0, e1, e3, e4, e7, e11, hu, ht] at c1 c2 c3 c4 c5 c6 c7 c8); (try simp (disch := omega) only [nlit, natrem, nIrm, nIam, nIam',  nI_add, pk_mul, nIsub, nIrem, nIdiv, nIand1, nIand3, nIand7, nIand31, nIshr, nIle, nIlt, nIeq, nIc, vpI, nIm1, m1nI, m1lt, nIlm, m1le, nIlem, nIneg, u2_ss, u2_nn, u2_kk, e0, e1, e3, e4, e7, e11, hu, ht])
      unfold cq at h
      repeat (first | rw [if_pos (by omega)] at h | rw [if_neg (by omega)] at h)
      exact h
    · (try simp (disch := omega) only [nlit, natrem, nIrm, nIam, nIam',  nI_add, pk_mul, nIsub, nIrem, nIdiv, nIand1, nIand3, nIand7, nIand31, nIshr, nIle, nIlt, nIeq, nIc, vpI, nIm1, m1nI, m1lt, nIlm, m1le, nIlem, nIneg, u2_ss, u2_nn, u2_kk, e0, e1, e3, e4, e7, e11, hu, ht] at c1 c2 c3 c4 c5 c6 c7 c8 c9); (try simp (disch := omega) only [nlit, natrem, nIrm, nIam, nIam',  nI_add, pk_mul, nIsub, nIrem, nIdiv, nIand1, nIand3, nIand7, nIand31, nIshr, nIle, nIlt, nIeq, nIc, vpI, nIm1, m1nI, m1lt, nIlm, m1le, nIlem, nIneg, u2_ss, u2_nn, u2_kk, e0, e1, e3, e4, e7, e11, hu, ht])
      unfold cq at h
      repeat (first | rw [if_pos (by omega)] at h | rw [if_neg (by omega)] at h)
      exact h
    · (try simp (disch := omega) only [nlit, natrem, nIrm, nIam, nIam',  nI_add, pk_mul, nIsub, nIrem, nIdiv, nIand1, nIand3, nIand7, nIand31, nIshr, nIle, nIlt, nIeq, nIc, vpI, nIm1, m1nI, m1lt, nIlm, m1le, nIlem, nIneg, u2_ss, u2_nn, u2_kk, e0, e1, e3, e4, e7, e11, hu, ht] at c1 c2 c3 c4 c5 c6 c7 c8 c9 c10); (try simp (disch := omega) only [nlit, natrem, nIrm, nIam, nIam',  nI_add, pk_mul, nIsub, nIrem, nIdiv, nIand1, nIand3, nIand7, nIand31, nIshr, nIle, nIlt, nIeq, nIc, vpI, nIm1, m1nI, m1lt, nIlm, m1le, nIlem, nIneg, u2_ss, u2_nn, u2_kk, e0, e1, e3, e4, e7, e11, hu, ht])
      unfold cq at h
      repeat (first | rw [if_pos (by omega)] at h | rw [if_neg (by omega)] at h)
      exact h
    · (try simp (disch := omega) only [nlit, natrem, nIrm, nIam, nIam',  nI_add, pk_mul, nIsub, nIrem, nIdiv, nIand1, nIand3, nIand7, nIand31, nIshr, nIle, nIlt, nIeq, nIc, vpI, nIm1, m1nI, m1lt, nIlm, m1le, nIlem, nIneg, u2_ss, u2_nn, u2_kk, e0, e1, e3, e4, e7, e11, hu, ht] at c1 c2 c3 c4 c5 c6 c7 c8 c9 c10) <;> (first | omega | exact absurd rfl c1 | exact absurd trivial c1 | exact absurd rfl c2 | exact absurd trivial c2 | exact absurd rfl c3 | exact absurd trivial c3 | exact absurd rfl c4 | exact absurd trivial c4 | exact absurd rfl c5 | exact absurd trivial c5 | exact absurd rfl c6 | exact absurd trivial c6 | exact absurd rfl c7 | exact absurd trivial c7 | exact absurd rfl c8 | exact absurd trivial c8 | exact absurd rfl c9 | exact absurd trivial c9 | exact absurd rfl c10 | exact absurd trivial c10)
  · have e : spCount a lf sn un tn x = -1 := by unfold spCount; rw [if_neg hx]
    rw [e] at h
    have n0 := notIn (by decide) hx 0 (by decide)
    have n1 := notIn (by decide) hx 1 (by decide)
    have n2 := notIn (by decide) hx 2 (by decide)
    have n3 := notIn (by decide) hx 3 (by decide)
    have n4 := notIn (by decide) hx 4 (by decide)
    have n5 := notIn (by decide) hx 5 (by decide)
    have n6 := notIn (by decide) hx 6 (by decide)
    have n7 := notIn (by decide) hx 7 (by decide)
    have n8 := notIn (by decide) hx 8 (by decide)
    have n9 := notIn (by decide) hx 9 (by decide)
    refine EX11_count hc hR ⟨fun c1 => ?_, fun c1 => ⟨fun c2 => ?_, fun c2 => ⟨fun c3 => ?_, fun c3 => ⟨fun c4 => ?_, fun c4 => ⟨fun c5 => ?_, fun c5 => ⟨fun c6 => ?_, fun c6 => ⟨fun c7 => ?_, fun c7 => ⟨fun c8 => ?_, fun c8 => ⟨fun c9 => ?_, fun c9 => ⟨fun c10 => ?_, fun c10 => ?_⟩⟩⟩⟩⟩⟩⟩⟩⟩⟩
    · (try simp (disch := omega) only [nlit, natrem, nIrm, nIam, nIam',  nI_add, pk_mul, nIsub, nIrem, nIdiv, nIand1, nIand3, nIand7, nIand31, nIshr, nIle, nIlt, nIeq, nIc, vpI, nIm1, m1nI, m1lt, nIlm, m1le, nIlem, nIneg, u2_ss, u2_nn, u2_kk, n0, n1, n2, n3, n4, n5, n6, n7, n8, n9] at c1) <;> (first | omega | exact absurd rfl c1 | exact absurd trivial c1)
    · (try simp (disch := omega) only [nlit, natrem, nIrm, nIam, nIam',  nI_add, pk_mul, nIsub, nIrem, nIdiv, nIand1, nIand3, nIand7, nIand31, nIshr, nIle, nIlt, nIeq, nIc, vpI, nIm1, m1nI, m1lt, nIlm, m1le, nIlem, nIneg, u2_ss, u2_nn, u2_kk, n0, n1, n2, n3, n4, n5, n6, n7, n8, n9] at c1 c2) <;> (first | omega | exact absurd rfl c1 | exact absurd trivial c1 | exact absurd rfl c2 | exact absurd trivial c2)
    · (try simp (disch := omega) only [nlit, natrem, nIrm, nIam, nIam',  nI_add, pk_mul, nIsub, nIrem, nIdiv, nIand1, nIand3, nIand7, nIand31, nIshr, nIle, nIlt, nIeq, nIc, vpI, nIm1, m1nI, m1lt, nIlm, m1le, nIlem, nIneg, u2_ss, u2_nn, u2_kk, n0, n1, n2, n3, n4, n5, n6, n7, n8, n9] at c1 c2 c3) <;> (first | omega | exact absurd rfl c1 | exact absurd trivial c1 | exact absurd rfl c2 | exact absurd trivial c2 | exact absurd rfl c3 | exact absurd trivial c3)
    · (try simp (disch := omega) only [nlit, natrem, nIrm, nIam, nIam',  nI_add, pk_mul, nIsub, nIrem, nIdiv, nIand1, nIand3, nIand7, nIand31, nIshr, nIle, nIlt, nIeq, nIc, vpI, nIm1, m1nI, m1lt, nIlm, m1le, nIlem, nIneg, u2_ss, u2_nn, u2_kk, n0, n1, n2, n3, n4, n5, n6, n7, n8, n9] at c1 c2 c3 c4) <;> (first | omega | exact absurd rfl c1 | exact absurd trivial c1 | exact absurd rfl c2 | exact absurd trivial c2 | exact absurd rfl c3 | exact absurd trivial c3 | exact absurd rfl c4 | exact absurd trivial c4)
    · (try simp (disch := omega) only [nlit, natrem, nIrm, nIam, nIam',  nI_add, pk_mul, nIsub, nIrem, nIdiv, nIand1, nIand3, nIand7, nIand31, nIshr, nIle, nIlt, nIeq, nIc, vpI, nIm1, m1nI, m1lt, nIlm, m1le, nIlem, nIneg, u2_ss, u2_nn, u2_kk, n0, n1, n2, n3, n4, n5, n6, n7, n8, n9] at c1 c2 c3 c4 c5) <;> (first | omega | exact absurd rfl c1 | exact absurd trivial c1 | exact absurd rfl c2 | exact absurd trivial c2 | exact absurd rfl c3 | exact absurd trivial c3 | exact absurd rfl c4 | exact absurd trivial c4 | exact absurd rfl c5 | exact absurd trivial c5)
    · (try simp (disch := omega) only [nlit, natrem, nIrm, nIam, nIam',  nI_add, pk_mul, nIsub, nIrem, nIdiv, nIand1, nIand3, nIand7, nIand31, nIshr, nIle, nIlt, nIeq, nIc, vpI, nIm1, m1nI, m1lt, nIlm, m1le, nIlem, nIneg, u2_ss, u2_nn, u2_kk, n0, n1, n2, n3, n4, n5, n6, n7, n8, n9] at c1 c2 c3 c4 c5 c6) <;> (first | omega | exact absurd rfl c1 | exact absurd trivial c1 | exact absurd rfl c2 | exact absurd trivial c2 | exact absurd rfl c3 | exact absurd trivial c3 | exact absurd rfl c4 | exact absurd trivial c4 | exact absurd rfl c5 | exact absurd trivial c5 | exact absurd rfl c6 | exact absurd trivial c6)
    · (try simp (disch := omega) only [nlit, natrem, nIrm, nIam, nIam',  nI_add, pk_mul, nIsub, nIrem, nIdiv, nIand1, nIand3, nIand7, nIand31, nIshr, nIle, nIlt, nIeq, nIc, vpI, nIm1, m1nI, m1lt, nIlm, m1le, nIlem, nIneg, u2_ss, u2_nn, u2_kk, n0, n1, n2, n3, n4, n5, n6, n7, n8, n9] at c1 c2 c3 c4 c5 c6 c7) <;> (first | omega | exact absurd rfl c1 | exact absurd trivial c1 | exact absurd rfl c2 | exact absurd trivial c2 | exact absurd rfl c3 | exact absurd trivial c3 | exact absurd rfl c4 | exact absurd trivial c4 | exact absurd rfl c5 | exact absurd trivial c5 | exact absurd rfl c6 | exact absurd trivial c6 | exact absurd rfl c7 | exact absurd trivial c7)
    · (try simp (disch := omega) only [nlit, natrem, nIrm, nIam, nIam',  nI_add, pk_mul, nIsub, nIrem, nIdiv, nIand1, nIand3, nIand7, nIand31, nIshr, nIle, nIlt, nIeq, nIc, vpI, nIm1, m1nI, m1lt, nIlm, m1le, nIlem, nIneg, u2_ss, u2_nn, u2_kk, n0, n1, n2, n3, n4, n5, n6, n7, n8, n9] at c1 c2 c3 c4 c5 c6 c7 c8) <;> (first | omega | exact absurd rfl c1 | exact absurd trivial c1 | exact absurd rfl c2 | exact absurd trivial c2 | exact absurd rfl c3 | exact absurd trivial c3 | exact absurd rfl c4 | exact absurd trivial c4 | exact absurd rfl c5 | exact absurd trivial c5 | exact absurd rfl c6 | exact absurd trivial c6 | exact absurd rfl c7 | exact absurd trivial c7 | exact absurd rfl c8 | exact absurd trivial c8)
    · (try simp (disch := omega) only [nlit, natrem, nIrm, nIam, nIam',  nI_add, pk_mul, nIsub, nIrem, nIdiv, nIand1, nIand3, nIand7, nIand31, nIshr, nIle, nIlt, nIeq, nIc, vpI, nIm1, m1nI, m1lt, nIlm, m1le, nIlem, nIneg, u2_ss, u2_nn, u2_kk, n0, n1, n2, n3, n4, n5, n6, n7, n8, n9] at c1 c2 c3 c4 c5 c6 c7 c8 c9) <;> (first | omega | exact absurd rfl c1 | exact absurd trivial c1 | exact absurd rfl c2 | exact absurd trivial c2 | exact absurd rfl c3 | exact absurd trivial c3 | exact absurd rfl c4 | exact absurd trivial c4 | exact absurd rfl c5 | exact absurd trivial c5 | exact absurd rfl c6 | exact absurd trivial c6 | exact absurd rfl c7 | exact absurd trivial c7 | exact absurd rfl c8 | exact absurd trivial c8 | exact absurd rfl c9 | exact absurd trivial c9)
    · (try simp (disch := omega) only [nlit, natrem, nIrm, nIam, nIam',  nI_add, pk_mul, nIsub, nIrem, nIdiv, nIand1, nIand3, nIand7, nIand31, nIshr, nIle, nIlt, nIeq, nIc, vpI, nIm1, m1nI, m1lt, nIlm, m1le, nIlem, nIneg, u2_ss, u2_nn, u2_kk, n0, n1, n2, n3, n4, n5, n6, n7, n8, n9] at c1 c2 c3 c4 c5 c6 c7 c8 c9 c10) <;> (first | omega | exact absurd rfl c1 | exact absurd trivial c1 | exact absurd rfl c2 | exact absurd trivial c2 | exact absurd rfl c3 | exact absurd trivial c3 | exact absurd rfl c4 | exact absurd trivial c4 | exact absurd rfl c5 | exact absurd trivial c5 | exact absurd rfl c6 | exact absurd trivial c6 | exact absurd rfl c7 | exact absurd trivial c7 | exact absurd rfl c8 | exact absurd trivial c8 | exact absurd rfl c9 | exact absurd trivial c9 | exact absurd rfl c10 | exact absurd trivial c10)
    · (try simp (disch := omega) only [nlit, natrem, nIrm, nIam, nIam',  nI_add, pk_mul, nIsub, nIrem, nIdiv, nIand1, nIand3, nIand7, nIand31, nIshr, nIle, nIlt, nIeq, nIc, vpI, nIm1, m1nI, m1lt, nIlm, m1le, nIlem, nIneg, u2_ss, u2_nn, u2_kk, n0, n1, n2, n3, n4, n5, n6, n7, n8, n9] at c1 c2 c3 c4 c5 c6 c7 c8 c9 c10); (try simp (disch := omega) only [nlit, natrem, nIrm, nIam, nIam',  nI_add, pk_mul, nIsub, nIrem, nIdiv, nIand1, nIand3, nIand7, nIand31, nIshr, nIle, nIlt, nIeq, nIc, vpI, nIm1, m1nI, m1lt, nIlm, m1le, nIlem, nIneg, u2_ss, u2_nn, u2_kk, n0, n1, n2, n3, n4, n5, n6, n7, n8, n9])
      exact h
theorem copyOf_ok {d : Nat} {sx : Sx} {I : Ints} {L : Lngs} {R : Rfs} {q : Q3} {lf : Nat → Nat} {gl : Nat → List Nat} {sn : Nat → Nat} {o p : Nat} (ho : isEve o) (hp : isEve p) (hne : o ≠ p) (hE : EvC p lf gl sn I) (hlx : ∀ x, x < 6 → (gl x).length ≤ 6)
    (h : ∀ J, EvC o lf gl sn J → Kp (fun k => ¬ (o < k ∧ k ≤ o + 4)) I J → q none J L R) : E0 mX1_copyOf (d + 1) sx [.ref o, .ref p] I L R q := by
  have ho' : o = 33 ∨ o = 60 ∨ o = 65 ∨ o = 70 ∨ o = 75 := ho
  have hp' : p = 33 ∨ p = 60 ∨ p = 65 ∨ p = 70 ∨ p = 75 := hp
  refine EX1_copyOf ho hp ?_
  have n1 : p + 1 ≠ o + 1 ∧ p + 1 ≠ o + 2 ∧ p + 1 ≠ o + 3 ∧ p + 1 ≠ o + 4 := by omega
  have n2 : p + 2 ≠ o + 1 ∧ p + 2 ≠ o + 2 ∧ p + 2 ≠ o + 3 ∧ p + 2 ≠ o + 4 := by omega
  have n3 : p + 3 ≠ o + 1 ∧ p + 3 ≠ o + 2 ∧ p + 3 ≠ o + 3 ∧ p + 3 ≠ o + 4 := by omega
  have n4 : p + 4 ≠ o + 1 ∧ p + 4 ≠ o + 2 ∧ p + 4 ≠ o + 3 ∧ p + 4 ≠ o + 4 := by omega
  clear ho' hp'
  have r1 : ∀ j, j < 6 → (cp2 (cp2 (cp2 (cp2 I (p + 1) 0 (o + 1) 0 6) (p + 2) 0 (o + 2) 0 6) (p + 3) 0 (o + 3) 0 36) (p + 4) 0 (o + 4) 0 6) (o + 1) j = I (p + 1) j := by
    intro j hj
    rw [cp2_n (by omega), cp2_n (by omega), cp2_n (by omega), cp2_in (by omega) (by omega)]
    congr 1; omega
  have r2 : ∀ j, j < 6 → (cp2 (cp2 (cp2 (cp2 I (p + 1) 0 (o + 1) 0 6) (p + 2) 0 (o + 2) 0 6) (p + 3) 0 (o + 3) 0 36) (p + 4) 0 (o + 4) 0 6) (o + 2) j = I (p + 2) j := by
    intro j hj
    rw [cp2_n (by omega), cp2_n (by omega), cp2_in (by omega) (by omega), cp2_n n2.1]
    congr 1; omega
  have r3 : ∀ j, j < 36 → (cp2 (cp2 (cp2 (cp2 I (p + 1) 0 (o + 1) 0 6) (p + 2) 0 (o + 2) 0 6) (p + 3) 0 (o + 3) 0 36) (p + 4) 0 (o + 4) 0 6) (o + 3) j = I (p + 3) j := by
    intro j hj
    rw [cp2_n (by omega), cp2_in (by omega) (by omega), cp2_n n3.2.1, cp2_n n3.1]
    congr 1; omega
  have r4 : ∀ j, j < 6 → (cp2 (cp2 (cp2 (cp2 I (p + 1) 0 (o + 1) 0 6) (p + 2) 0 (o + 2) 0 6) (p + 3) 0 (o + 3) 0 36) (p + 4) 0 (o + 4) 0 6) (o + 4) j = I (p + 4) j := by
    intro j hj
    rw [cp2_in (by omega) (by omega), cp2_n n4.2.2.1, cp2_n n4.2.1, cp2_n n4.1]
    congr 1; omega
  refine h _ ⟨fun w hw => (r1 w hw).trans (hE.1 w hw), fun g hg => ⟨(r2 g hg).trans (hE.2.1 g hg).1, fun j hj => ?_⟩, fun g hg => (r4 g hg).trans (hE.2.2 g hg)⟩ (fun k hk => ?_)
  · have := hlx g hg
    exact (r3 _ (by omega)).trans ((hE.2.1 g hg).2 j hj)
  · rw [cp2_n (by omega), cp2_n (by omega), cp2_n (by omega), cp2_n (by omega)]
abbrev Mk : Type := Nat → Option (Es × (Nat → Nat))
def MkC (mk : Mk) (I : Ints) : Prop := ∀ m, m < 4 → (mk m = none ∧ I 41 m = nI 0) ∨ ∃ e, mk m = some e ∧ I 41 m = nI 1 ∧ EvC (60 + 5 * m) e.1.1 e.1.2 e.2 I
theorem mark_out {d : Nat} {sx : Sx} {I : Ints} {L : Lngs} {R : Rfs} {q : Q3} {v1 v2 : Int32} (hx : v1 < 0 ∨ ¬ v1 < 4) (h : q (some (.int 0)) I L R) : Y mX11_mark (d + 1) sx 0 [(0, .ref 0), (1, .int v1), (2, .int v2)] [] I L R q :=
  (X_blk lvX11_mark isX11_mark_0_10 cdX11_mark_0_10 (And.intro (fun z1 => (show Y mX11_mark (d + 1) sx 9 [] [] I L R q from X_blk lvX11_mark isX11_mark_9_10 cdX11_mark_9_10 (And.intro rfl (And.intro (Or.inl rfl) h)))) (fun z1 => (And.intro (fun z2 => absurd z2 (hx.resolve_left z1)) (fun z2 => (And.intro rfl (And.intro (Or.inl rfl) h)))))))
theorem isEve_m {m : Nat} (h : m < 4) : isEve (60 + 5 * m) ∧ sr0 40 m = some (60 + 5 * m) := by
  have : m = 0 ∨ m = 1 ∨ m = 2 ∨ m = 3 := by omega
  rcases this with rfl | rfl | rfl | rfl <;> exact ⟨by unfold isEve; decide, rfl⟩
theorem c_mark {d : Nat} {sx : Sx} {I : Ints} {L : Lngs} {R : Rfs} {q : Q3} {a : Ce} {lc : List (Nat × Nat)} {lf : Nat → Nat} {gl : Nat → List Nat} {sn : Nat → Nat} {mk : Mk} {us : List Es} {c b : Nat} (hC : CC a lc lf gl sn c I L R) (hP : PaC us (lf, gl) I) (hK : MkC mk I) (hKW : ∀ m, m < 4 → ∀ e, mk m = some e → WFe a e.1.1 e.1.2 e.2) (hb : b ≤ 1) {x : Int32}
    (h1 : b = 0 → inR x 4 → ∀ J, CC a lc lf gl sn c J L R → MkC (up1 mk x.toNatClampNeg (some ((lf, gl), sn))) J → Kp (fun k => k ≠ 41 ∧ ¬ (60 ≤ k ∧ k ≤ 79)) I J → q (some (.int 1)) J L R)
    (h2 : b = 1 → inR x 4 → ∀ e, mk x.toNatClampNeg = some e → ∀ J, CA a lc e.1.1 e.1.2 e.2 [] c I J L R → q (some (.int 1)) J L R)
    (h3 : ¬ (inR x 4 ∧ (b = 0 ∨ mk x.toNatClampNeg ≠ none)) → q (some (.int 0)) I L R) : E0 mX11_mark (d + 3) sx [.ref 0, .int x, .int (nI b)] I L R q := by
  have hCC := hC
  obtain ⟨hc, hR, hW, hE, hCl, hEv, hRt⟩ := hC
  have hlx : ∀ x, x < 6 → (gl x).length ≤ 6 := fun x hx => (hE.2.1 x hx).1
  by_cases hx : inR x 4
  · obtain ⟨m, hm, e⟩ := inR_of (by decide) hx.1 hx.2
    subst e
    obtain ⟨hev, hsr⟩ := isEve_m hm
    have hsr' : sr0 40 (nI m).toNatClampNeg = some (60 + 5 * m) := by rw [nIc (by omega)]; exact hsr
    rw [nIc (by omega)] at h1 h2 h3
    have e1 : vp_nar .boolean (nI 1) = nI 1 := by decide
    refine EX11_mark hev hsr' hev hsr' ⟨fun w => absurd w hx.1, fun _ => ⟨fun _ => ⟨fun c1 => ⟨?_, fun c2 => ⟨?_, ?_⟩, fun c2 => ?_⟩, fun c1 => ⟨?_, ?_⟩⟩, fun w => absurd hx.2 w⟩⟩
    · simp (disch := omega) only [nlit, natrem, nIrm, nIam, nIam',  nI_add, pk_mul, nIsub, nIrem, nIdiv, nIand1, nIand3, nIand7, nIand31, nIshr, nIle, nIlt, nIeq, nIc, vpI, nIm1, m1nI, m1lt, nIlm, m1le, nIlem, nIneg, u2_ss, u2_nn, u2_kk]; omega
    · simp (disch := omega) only [nlit, natrem, nIrm, nIam, nIam',  nI_add, pk_mul, nIsub, nIrem, nIdiv, nIand1, nIand3, nIand7, nIand31, nIshr, nIle, nIlt, nIeq, nIc, vpI, nIm1, m1nI, m1lt, nIlm, m1le, nIlem, nIneg, u2_ss, u2_nn, u2_kk]; omega
    · simp (disch := omega) only [nlit, natrem, nIrm, nIam, nIam',  nI_add, pk_mul, nIsub, nIrem, nIdiv, nIand1, nIand3, nIand7, nIand31, nIshr, nIle, nIlt, nIeq, nIc, vpI, nIm1, m1nI, m1lt, nIlm, m1le, nIlem, nIneg, u2_ss, u2_nn, u2_kk] at c1 c2
      rcases hK m hm with ⟨k1, k2⟩ | ⟨e, k1, k2, k3⟩
      · exact absurd k2 c2
      · have hWm := hKW m hm e k1
        refine copyOf_ok (Or.inl rfl) hev (by omega) k3 (fun x hx => (hWm.2.1 x hx).1) (fun J hJ hFJ => RX11_mark_61 ?_)
        refine EX4_clear ?_
        refine RX11_mark_68 (allChanged_ok (fun M m1 m2 m3 m4 => RX11_mark_72 (h2 (by omega) hx e k1 M ?_)))
        have hFF : Kp (fun k => ¬ (33 < k ∧ k ≤ 38) ∧ k ≠ 43 ∧ k ≠ 48 ∧ k ≠ 56) I M := Kp.tr (Kp.tr (hFJ.mn (fun k hk => by omega)) (Kp.rf.up (fun hh => hh.1 (by decide)))) (m4.mn (fun k hk => hk.2))
        refine ⟨hCC.upd ((hJ.fr (J := u2 J 38 1 0) (fun k h1 h2 => by funext i; exact u2_nn _ _ _ _ (by omega))).fr (fun k h1 h2 => m4 k ⟨by omega, by omega, by omega⟩)) hWm (fun x hx h0 => ?_) (hFF.mn (fun k hk => by omega)), ⟨?_, by decide, trivial⟩, m2, m3, hFF.mn (fun k hk => by omega)⟩
        · rw [m1 x (by have := hW.2.2.2.2.1; omega)] at h0
          exact absurd h0 (by decide)
        · rw [m4 38 (by decide), u2_ss]; rfl
    · simp (disch := omega) only [nlit, natrem, nIrm, nIam, nIam',  nI_add, pk_mul, nIsub, nIrem, nIdiv, nIand1, nIand3, nIand7, nIand31, nIshr, nIle, nIlt, nIeq, nIc, vpI, nIm1, m1nI, m1lt, nIlm, m1le, nIlem, nIneg, u2_ss, u2_nn, u2_kk] at c1 c2
      rcases hK m hm with ⟨k1, k2⟩ | ⟨e, k1, k2, k3⟩
      · refine h3 (fun w => ?_)
        rcases w.2 with w | w
        · omega
        · exact w k1
      · rw [k2] at c2; exact absurd c2 (by decide)
    · simp (disch := omega) only [nlit, natrem, nIrm, nIam, nIam',  nI_add, pk_mul, nIsub, nIrem, nIdiv, nIand1, nIand3, nIand7, nIand31, nIshr, nIle, nIlt, nIeq, nIc, vpI, nIm1, m1nI, m1lt, nIlm, m1le, nIlem, nIneg, u2_ss, u2_nn, u2_kk]; omega
    · simp (disch := omega) only [nlit, natrem, nIrm, nIam, nIam',  nI_add, pk_mul, nIsub, nIrem, nIdiv, nIand1, nIand3, nIand7, nIand31, nIshr, nIle, nIlt, nIeq, nIc, vpI, nIm1, m1nI, m1lt, nIlm, m1le, nIlem, nIneg, u2_ss, u2_nn, u2_kk] at c1
      refine copyOf_ok hev (Or.inl rfl) (by omega) hEv hlx (fun J hJ hFJ => ?_)
      refine RX11_mark_28 ⟨?_, ?_⟩
      · simp (disch := omega) only [nlit, natrem, nIrm, nIam, nIam',  nI_add, pk_mul, nIsub, nIrem, nIdiv, nIand1, nIand3, nIand7, nIand31, nIshr, nIle, nIlt, nIeq, nIc, vpI, nIm1, m1nI, m1lt, nIlm, m1le, nIlem, nIneg, u2_ss, u2_nn, u2_kk]; omega
      · simp (disch := omega) only [nlit, natrem, nIrm, nIam, nIam',  nI_add, pk_mul, nIsub, nIrem, nIdiv, nIand1, nIand3, nIand7, nIand31, nIshr, nIle, nIlt, nIeq, nIc, vpI, nIm1, m1nI, m1lt, nIlm, m1le, nIlem, nIneg, u2_ss, u2_nn, u2_kk]
        rw [e1]
        have hFF : Kp (fun k => k ≠ 41 ∧ ¬ (60 + 5 * m < k ∧ k ≤ 60 + 5 * m + 4)) I (u2 J 41 m (nI 1)) := (hFJ.mn (fun k hk => hk.2)).up (fun hh => hh.1 rfl)
        refine h1 c1 hx _ ?_ (fun m' hm' => ?_) (hFF.mn (fun k hk => by omega))
        · exact hCC.upd (hEv.fr (fun k h1 h2 => hFF k (by omega))) hE (fun x hx h0 => ⟨by rw [hFF 43 (by omega)] at h0; exact h0, rfl⟩) (hFF.mn (fun k hk => by omega))
        · by_cases e : m' = m
          · subst e
            refine Or.inr ⟨((lf, gl), sn), up1_s _ _ _, u2_ss _ _ _ _, hJ.fr (fun k h1 h2 => by funext i; exact u2_nn _ _ _ _ (by omega))⟩
          · rw [up1_n _ _ e, u2_kk _ _ _ _ e, hFJ 41 (by omega)]
            rcases hK m' hm' with k | ⟨e', k1, k2, k3⟩
            · exact Or.inl k
            · exact Or.inr ⟨e', k1, k2, k3.fr (fun k h1 h2 => hFF k (by omega))⟩
  · refine E0_of rfl rfl (Nat.le_of_ble_eq_true rfl) (mark_out ?_ (h3 (fun w => hx w.1)))
    by_cases hn : x < 0
    · exact Or.inl hn
    · exact Or.inr (fun hh => hx ⟨hn, hh⟩)
