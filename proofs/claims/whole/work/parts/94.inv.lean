/-- all that stands in the program's cells between two calls -/
def GC (a : Ce) (lc : List (Nat × Nat)) (lf : Nat → Nat) (gl : Nat → List Nat) (sn : Nat → Nat) (us : List Es) (mk : Mk) (tp : List Nat) (I : Ints) (L : Lngs) (R : Rfs) : Prop := (∃ c s, CC a lc lf gl sn c I L R ∧ isCel s ∧ s ≠ c ∧ R 0 3 = some s) ∧ TpC tp I ∧ PaC us (lf, gl) I ∧ MkC mk I ∧ SeC a lc gl I ∧ RoC a lc lf I
/-- all that stands in the model's cells between two calls -/
def GM (a : Ce) (lc : List (Nat × Nat)) (lf : Nat → Nat) (gl : Nat → List Nat) (sn : Nat → Nat) (us : List Es) (mk : Mk) (tp : List Nat) (I : Ints) (L : Lngs) : Prop := MA a lc lf gl sn us mk I ∧ WdM L ∧ FcM I ∧ TpM tp I
abbrev Lo (k : Nat) : Prop := k < 92
abbrev Hi (k : Nat) : Prop := 92 ≤ k
theorem CC.lo {a : Ce} {lc : List (Nat × Nat)} {lf : Nat → Nat} {gl : Nat → List Nat} {sn : Nat → Nat} {c : Nat} {I J : Ints} {L K : Lngs} {R : Rfs} (h : CC a lc lf gl sn c I L R) (hI : Kp Lo I J) (hL : Kp Lo L K) : CC a lc lf gl sn c J K R := by
  obtain ⟨hc, hR, hWc, hWe, hCl, hEv, hRt⟩ := h
  have hc' : c = 2 ∨ c = 14 := hc
  have h4 := hWc.2.2.2.2.1
  refine ⟨hc, hR, hWc, hWe, hCl.fr (fun k h1 h2 => hI k (show k < 92 by omega)) (hL c (show c < 92 by omega)), hEv.fr (fun k h1 h2 => hI k (show k < 92 by omega)), fun g hg h0 => ?_⟩
  rw [hI 43 (by decide)] at h0
  exact (hRt g hg h0).fr (hI _ (show 80 + 2 * g < 92 by omega)) (hI _ (show 80 + 2 * g + 1 < 92 by omega)) (hL _ (show 80 + 2 * g < 92 by omega))
theorem SeC.cg {a : Ce} {lc : List (Nat × Nat)} {gl : Nat → List Nat} {I J : Ints} (h : SeC a lc gl I) (e : J 56 = I 56) : SeC a lc gl J := by
  unfold SeC BsC
  rw [e]
  exact h
theorem RoC.cg {a : Ce} {lc : List (Nat × Nat)} {lf : Nat → Nat} {I J : Ints} (h : RoC a lc lf I) (e : J 48 = I 48) (e2 : J 49 = I 49) : RoC a lc lf J := by
  rcases h with h | ⟨g, ce, h1, h2, h3, h4, h5, h6⟩
  · exact Or.inl (by rw [e]; exact h)
  · exact Or.inr ⟨g, ce, h1, h2, by rw [e]; exact h3, by rw [e]; exact h4, by rw [e]; exact h5, fun r hr => ⟨(h6 r hr).1, (h6 r hr).2.congr (fun j => by rw [e2])⟩⟩
theorem TpC.cg {tp : List Nat} {I J : Ints} (h : TpC tp I) (e : J 0 = I 0) (e2 : J 1 = I 1) : TpC tp J := ⟨by rw [e]; exact h.1, h.2.congr (fun j => by rw [e2])⟩
theorem PaC.cg {us : List Es} {cur : Es} {I J : Ints} (h : PaC us cur I) (e : J 38 = I 38) (e2 : J 39 = I 39) : PaC us cur J := ⟨by rw [e]; exact h.1, h.2.1, PaR.congr us cur h.2.2 (fun i _ => by rw [e2])⟩
theorem MkC.cg {mk : Mk} {I J : Ints} (h : MkC mk I) (e : J 41 = I 41) (e2 : ∀ k, 60 ≤ k → k ≤ 79 → J k = I k) : MkC mk J := by
  intro m hm
  rcases h m hm with ⟨h1, h2⟩ | ⟨x, h1, h2, h3⟩
  · exact Or.inl ⟨h1, by rw [e]; exact h2⟩
  · exact Or.inr ⟨x, h1, by rw [e]; exact h2, h3.fr (fun k a b => e2 k (by omega) (by omega))⟩
theorem GC.lo {a : Ce} {lc : List (Nat × Nat)} {lf : Nat → Nat} {gl : Nat → List Nat} {sn : Nat → Nat} {us : List Es} {mk : Mk} {tp : List Nat} {I J : Ints} {L K : Lngs} {R : Rfs} (h : GC a lc lf gl sn us mk tp I L R) (hI : Kp Lo I J) (hL : Kp Lo L K) : GC a lc lf gl sn us mk tp J K R := by
  obtain ⟨⟨c, s, h1, h2, h3, h4⟩, h5, h6, h7, h8, h9⟩ := h
  exact ⟨⟨c, s, h1.lo hI hL, h2, h3, h4⟩, h5.cg (hI 0 (by decide)) (hI 1 (by decide)), h6.cg (hI 38 (by decide)) (hI 39 (by decide)), h7.cg (hI 41 (by decide)) (fun k a b => hI k (show k < 92 by omega)), h8.cg (hI 56 (by decide)), h9.cg (hI 48 (by decide)) (hI 49 (by decide))⟩
/-- a class's call that leaves tape, past and marks -/
theorem GC.kp {a : Ce} {lc : List (Nat × Nat)} {lf : Nat → Nat} {gl : Nat → List Nat} {sn : Nat → Nat} {us : List Es} {mk : Mk} {tp : List Nat} {I J : Ints} {L K : Lngs} {R T : Rfs} {c s : Nat} {sn' : Nat → Nat} (h : GC a lc lf gl sn us mk tp I L R) (hC : CC a lc lf gl sn' c J K T) (hs : isCel s) (hsc : s ≠ c) (h3 : T 0 3 = some s) (hF : Kp (fun k => k ≤ 1 ∨ k = 38 ∨ k = 39 ∨ k = 41 ∨ (60 ≤ k ∧ k ≤ 79)) I J) (hS : SeC a lc gl J) (hR : RoC a lc lf J) : GC a lc lf gl sn' us mk tp J K T := by
  obtain ⟨-, h5, h6, h7, -, -⟩ := h
  exact ⟨⟨c, s, hC, hs, hsc, h3⟩, h5.cg (hF 0 (by simp)) (hF 1 (by simp)), h6.cg (hF 38 (by simp)) (hF 39 (by simp)), h7.cg (hF 41 (by simp)) (fun k a b => hF k (by omega)), hS, hR⟩
theorem Fr.lo {As : List Nat} {Fs : List (Nat × Nat)} {I J : Ints} (h : Fr As Fs I J) (ha : (As.all fun x => decide (92 ≤ x)) = true) (hf : (Fs.all fun x => decide (92 ≤ x.1)) = true) : Kp Lo I J := by
  intro k hk
  have hk : k < 92 := hk
  funext i
  refine h k i ?_ ?_
  · cases hc : As.contains k with
    | false => rfl
    | true =>
      have := of_decide_eq_true (List.all_eq_true.mp ha _ (List.contains_iff_mem.mp hc))
      omega
  · cases hc : Fs.contains (k, i) with
    | false => rfl
    | true =>
      have := of_decide_eq_true (List.all_eq_true.mp hf _ (List.contains_iff_mem.mp hc))
      omega
theorem MA.cg {a : Ce} {lc : List (Nat × Nat)} {lf : Nat → Nat} {gl : Nat → List Nat} {sn : Nat → Nat} {us : List Es} {mk : Mk} {I J : Ints} (h : MA a lc lf gl sn us mk I) (h22 : J 92 22 = I 92 22) (h98 : J 98 = I 98) (h99 : J 99 = I 99) (h100 : J 100 = I 100) (h106 : J 106 = I 106) (h107 : J 107 = I 107) : MA a lc lf gl sn us mk J := by
  obtain ⟨⟨m1, m2, m3, m4, m5, m6⟩, k1, k2, ⟨u1, u2', u3⟩, k4⟩ := h
  refine ⟨⟨m1, m2, fun k hk h6 => by rw [h98]; exact m3 k hk h6, ?_, m5.congr (fun i => by rw [h106]), m6.congr (fun i => by rw [h106])⟩, k1, k2, ⟨h22.trans u1, u2', ?_⟩, ?_⟩
  · rcases m4 with ⟨e, h⟩ | ⟨e, ho, hl, h, hc⟩
    · exact Or.inl ⟨e, by rw [h98]; exact h⟩
    · exact Or.inr ⟨e, ho, hl, by rw [h98]; exact h, cdA.fr (fun i => by rw [h99]) (fun i => by rw [h100]) lc 0 hc⟩
  · exact UnM.cp us k1 u3 (fun i _ _ => by rw [h106])
  · exact MkM.cp k2 k4 (fun i => by rw [h107]) (fun i _ _ => by rw [h106])
theorem GM.hi {a : Ce} {lc : List (Nat × Nat)} {lf : Nat → Nat} {gl : Nat → List Nat} {sn : Nat → Nat} {us : List Es} {mk : Mk} {tp : List Nat} {I J : Ints} {L K : Lngs} (h : GM a lc lf gl sn us mk tp I L) (hI : Kp Hi I J) (hL : K 97 = L 97) : GM a lc lf gl sn us mk tp J K := by
  obtain ⟨h1, h2, h3, h4⟩ := h
  refine ⟨h1.cg (by rw [hI 92 (by decide)]) (hI 98 (by decide)) (hI 99 (by decide)) (hI 100 (by decide)) (hI 106 (by decide)) (hI 107 (by decide)), fun w hw => by rw [hL]; exact h2 w hw, ?_, ?_, ?_⟩
  · unfold FcM
    rw [hI 103 (by decide)]
    exact h3
  · rw [hI 92 (by decide)]; exact h4.1
  · exact h4.2.congr (fun j => by rw [hI 93 (by decide)])
/-- a model's query -/
theorem GM.q {a : Ce} {lc : List (Nat × Nat)} {lf : Nat → Nat} {gl : Nat → List Nat} {sn : Nat → Nat} {us : List Es} {mk : Mk} {tp : List Nat} {I J : Ints} {L K : Lngs} (h : GM a lc lf gl sn us mk tp I L) (hF : Fr AQ FQ I J) (hL : ∀ i, K 97 i = L 97 i) : GM a lc lf gl sn us mk tp J K := by
  obtain ⟨h1, h2, h3, h4⟩ := h
  refine ⟨h1.fq hF, fun w hw => by rw [hL]; exact h2 w hw, ?_, ?_, ?_⟩
  · unfold FcM
    rw [hF.ar 103 rfl rfl, hF.ar 103 rfl rfl, hF.ar 103 rfl rfl, hF.ar 103 rfl rfl]
    exact h3
  · rw [hF 92 2 rfl rfl]; exact h4.1
  · exact h4.2.congr (fun j => hF.ar 93 rfl rfl j)
/-- a model's act -/
theorem GM.a {a : Ce} {lc : List (Nat × Nat)} {lf : Nat → Nat} {gl : Nat → List Nat} {sn : Nat → Nat} {us us' : List Es} {mk mk' : Mk} {tp : List Nat} {I J : Ints} {L : Lngs} {lf' : Nat → Nat} {gl' : Nat → List Nat} {sn' : Nat → Nat} (h : GM a lc lf gl sn us mk tp I L) (hM : MA a lc lf' gl' sn' us' mk' J) (hF : Fr AA FA I J) : GM a lc lf' gl' sn' us' mk' tp J L := by
  obtain ⟨h1, h2, h3, h4⟩ := h
  refine ⟨hM, h2, ?_, ?_, ?_⟩
  · unfold FcM
    rw [hF.ar 103 rfl rfl, hF.ar 103 rfl rfl, hF.ar 103 rfl rfl, hF.ar 103 rfl rfl]
    exact h3
  · rw [hF 92 2 rfl rfl]; exact h4.1
  · exact h4.2.congr (fun j => hF.ar 93 rfl rfl j)
theorem fq_lo {I J : Ints} (h : Fr AQ FQ I J) : Kp Lo I J := h.lo (by decide) (by decide)
theorem fa_lo {I J : Ints} (h : Fr AA FA I J) : Kp Lo I J := h.lo (by decide) (by decide)
theorem lq_lo {L K : Lngs} (h : LQ L K) : Kp Lo L K := fun k (hk : k < 92) => funext fun i => h k i (by omega)
