/-! among others -/
theorem ahd_or {a : Ce} {cl oth : Nat → Bool} {p f : Nat} (hf : 1 ≤ f) (h : (ahd a cl p f) / 4 ≠ p / 4 → oth ((ahd a cl p f) / 4) = false) : ahd a (fun x => cl x || oth x) p f = ahd a cl p f := by
  unfold ahd at h ⊢
  by_cases k0 : p % 4 = 0
  · rw [if_pos k0] at h ⊢
    rw [if_pos k0]
    by_cases c : p / 4 % 8 < (a 0).val ∧ p / 32 + f < (a 1).val ∧ cl (p / 4 + 8 * f) = false
    · rw [if_pos c] at h ⊢
      have := h (by omega)
      rw [show (p + 32 * f) / 4 = p / 4 + 8 * f by omega] at this
      rw [if_pos ⟨c.1, c.2.1, by simp [c.2.2, this]⟩]
    · rw [if_neg c, if_neg (fun w => c ⟨w.1, w.2.1, by have := w.2.2; simp at this; exact this.1⟩)]
  rw [if_neg k0] at h ⊢
  rw [if_neg k0]
  by_cases k1 : p % 4 = 1
  · rw [if_pos k1] at h ⊢
    rw [if_pos k1]
    by_cases c : p / 4 % 8 + f < (a 0).val ∧ p / 32 < (a 1).val ∧ cl (p / 4 + f) = false
    · rw [if_pos c] at h ⊢
      have := h (by omega)
      rw [show (p + 4 * f) / 4 = p / 4 + f by omega] at this
      rw [if_pos ⟨c.1, c.2.1, by simp [c.2.2, this]⟩]
    · rw [if_neg c, if_neg (fun w => c ⟨w.1, w.2.1, by have := w.2.2; simp at this; exact this.1⟩)]
  rw [if_neg k1] at h ⊢
  rw [if_neg k1]
  by_cases k2 : p % 4 = 2
  · rw [if_pos k2] at h ⊢
    rw [if_pos k2]
    by_cases c : f ≤ p / 32 ∧ p / 4 % 8 < (a 0).val ∧ p / 32 - f < (a 1).val ∧ cl (p / 4 - 8 * f) = false
    · rw [if_pos c] at h ⊢
      have := h (by omega)
      rw [show (p - 32 * f) / 4 = p / 4 - 8 * f by omega] at this
      rw [if_pos ⟨c.1, c.2.1, c.2.2.1, by simp [c.2.2.2, this]⟩]
    · rw [if_neg c, if_neg (fun w => c ⟨w.1, w.2.1, w.2.2.1, by have := w.2.2.2; simp at this; exact this.1⟩)]
  · rw [if_neg k2] at h ⊢
    rw [if_neg k2]
    by_cases c : f ≤ p / 4 % 8 ∧ p / 4 % 8 - f < (a 0).val ∧ p / 32 < (a 1).val ∧ cl (p / 4 - f) = false
    · rw [if_pos c] at h ⊢
      have := h (by omega)
      rw [show (p - 4 * f) / 4 = p / 4 - f by omega] at this
      rw [if_pos ⟨c.1, c.2.1, c.2.2.1, by simp [c.2.2.2, this]⟩]
    · rw [if_neg c, if_neg (fun w => c ⟨w.1, w.2.1, w.2.2.1, by have := w.2.2.2; simp at this; exact this.1⟩)]
theorem aft_or {a : Ce} {cl oth : Nat → Bool} {kd p s : Nat} (h : (aft a cl kd p s) / 4 ≠ p / 4 → oth ((aft a cl kd p s) / 4) = false) : aft a (fun x => cl x || oth x) kd p s = aft a cl kd p s := by
  unfold aft at h ⊢
  by_cases k0 : s = 4 ∨ kd = 1
  · rw [if_pos k0, if_pos k0]
  rw [if_neg k0] at h ⊢
  rw [if_neg k0]
  by_cases k1 : s = 2 ∨ s = 3
  · rw [if_pos k1, if_pos k1]
  rw [if_neg k1] at h ⊢
  rw [if_neg k1]
  refine ahd_or ?_ h
  split <;> omega
theorem wk_or {a : Ce} {oth : Nat → Bool} {kd : Nat} (ha0 : (a 0).val ≤ 8) (ha1 : (a 1).val ≤ 8) : ∀ (l : List Nat) (p : Nat), p < 256 → (∀ x, x < 64 → (oth x && ent a kd l p x) = false) → wk a (fun x => clP a x || oth x) kd l p = wk a (clP a) kd l p
  | [], _, _, _ => rfl
  | s :: l, p, hp, h => by
    have hp' := aft_lt (cl := clP a) (kd := kd) (s := s) ha0 ha1 hp
    have e : aft a (fun x => clP a x || oth x) kd p s = aft a (clP a) kd p s := by
      refine aft_or (fun hne => ?_)
      have := h _ (by omega : aft a (clP a) kd p s / 4 < 64)
      simp only [ent, hne, ne_eq, not_false_eq_true, decide_true, Bool.and_true, Bool.true_or] at this
      exact this
    show wk a _ kd l (aft a _ kd p s) = wk a _ kd l (aft a _ kd p s)
    rw [e]
    refine wk_or ha0 ha1 l _ hp' (fun x hx => ?_)
    have := h x hx
    simp only [ent, Bool.and_or_distrib_left, Bool.or_eq_false_iff] at this
    exact this.2
theorem endAmong_lp {d : Nat} {sx : Sx} {I : Ints} {L : Lngs} {R : Rfs} {q : Q3} {a : Ce} {lc : List (Nat × Nat)} {c r : Nat} (hc : isCel c) (hr : isRou r) (hC : CelC a lc c I L) (hW : WFc a) {kd : Nat} (hkd : kd ≤ 4) {l : List Nat} (hln : l.length ≤ 576) (hk5 : I r 5 = nI kd) (hl1 : I r 1 = nI l.length) (hA : ALo I (r + 1) 0 l) {m : Int64} {cl : Nat → Bool} (hm : ∀ x, x < 64 → bL m x = cl x) :
    ∀ (l2 l1 : List Nat) (p : Nat), l = l1 ++ l2 → (∀ x ∈ l2, x ≤ 4) → p < 256 → q (some (.int (nI (wk a cl kd l2 p / 4)))) I L R →
      Y mX7_endAmong (d + 3) sx 35 [(0, .ref r), (1, .ref c), (4, .int (nI p)), (5, .long m), (7, .int (nI l1.length))] [] I L R q := by
  have w0 := hW.1.2
  have w1 := hW.2.1.2
  intro l2
  induction l2 with
  | nil =>
    intro l1 p e h4 hp h
    rw [List.append_nil] at e
    rw [e] at hl1 hln
    refine RX7_endAmong_35 hr hc ⟨fun c1 => ?_, fun c1 => ⟨?_, ?_⟩⟩
    · (try simp (disch := omega) only [nlit, natrem, nIrm, nIam, nIam',  nI_add, pk_mul, nIsub, nIrem, nIdiv, nIand1, nIand3, nIand7, nIand31, nIshr, nIle, nIlt, nIeq, nIc, vpI, nIm1, m1nI, m1lt, nIlm, m1le, nIlem, nIneg, u2_ss, u2_nn, u2_kk, hl1, Nat.reduceMod, Nat.reducePow] at c1); (try simp (disch := omega) only [nlit, natrem, nIrm, nIam, nIam',  nI_add, pk_mul, nIsub, nIrem, nIdiv, nIand1, nIand3, nIand7, nIand31, nIshr, nIle, nIlt, nIeq, nIc, vpI, nIm1, m1nI, m1lt, nIlm, m1le, nIlem, nIneg, u2_ss, u2_nn, u2_kk, hl1, Nat.reduceMod, Nat.reducePow])
      exact h
    · (try simp (disch := omega) only [nlit, natrem, nIrm, nIam, nIam',  nI_add, pk_mul, nIsub, nIrem, nIdiv, nIand1, nIand3, nIand7, nIand31, nIshr, nIle, nIlt, nIeq, nIc, vpI, nIm1, m1nI, m1lt, nIlm, m1le, nIlem, nIneg, u2_ss, u2_nn, u2_kk, hl1, Nat.reduceMod, Nat.reducePow] at c1) <;> (try simp (disch := omega) only [nlit, natrem, nIrm, nIam, nIam',  nI_add, pk_mul, nIsub, nIrem, nIdiv, nIand1, nIand3, nIand7, nIand31, nIshr, nIle, nIlt, nIeq, nIc, vpI, nIm1, m1nI, m1lt, nIlm, m1le, nIlem, nIneg, u2_ss, u2_nn, u2_kk, hl1, Nat.reduceMod, Nat.reducePow]) <;> (first | omega | trivial)
    · (try simp (disch := omega) only [nlit, natrem, nIrm, nIam, nIam',  nI_add, pk_mul, nIsub, nIrem, nIdiv, nIand1, nIand3, nIand7, nIand31, nIshr, nIle, nIlt, nIeq, nIc, vpI, nIm1, m1nI, m1lt, nIlm, m1le, nIlem, nIneg, u2_ss, u2_nn, u2_kk, hl1, Nat.reduceMod, Nat.reducePow] at c1) <;> (first | omega | exact absurd rfl c1 | exact absurd trivial c1)
  | cons s l2 ih =>
    intro l1 p e h4 hp h
    have hle : l.length = l1.length + (l2.length + 1) := by rw [e, List.length_append, List.length_cons]
    have e5 := hl1
    rw [hle] at e5
    have e8 : I (r + 1) l1.length = nI s := by
      have := hA l1.length (by omega)
      rw [Nat.zero_add] at this
      rw [this, e, getD_r (Nat.le_refl _), Nat.sub_self]
      rfl
    have hs := h4 s (List.mem_cons_self ..)
    refine RX7_endAmong_35 hr hc ⟨fun c1 => ?_, fun c1 => ⟨?_, ?_⟩⟩
    · (try simp (disch := omega) only [nlit, natrem, nIrm, nIam, nIam',  nI_add, pk_mul, nIsub, nIrem, nIdiv, nIand1, nIand3, nIand7, nIand31, nIshr, nIle, nIlt, nIeq, nIc, vpI, nIm1, m1nI, m1lt, nIlm, m1le, nIlem, nIneg, u2_ss, u2_nn, u2_kk, e5, e8, hk5] at c1); (try simp (disch := omega) only [nlit, natrem, nIrm, nIam, nIam',  nI_add, pk_mul, nIsub, nIrem, nIdiv, nIand1, nIand3, nIand7, nIand31, nIshr, nIle, nIlt, nIeq, nIc, vpI, nIm1, m1nI, m1lt, nIlm, m1le, nIlem, nIneg, u2_ss, u2_nn, u2_kk, e5, e8, hk5])
      omega
    · (try simp (disch := omega) only [nlit, natrem, nIrm, nIam, nIam',  nI_add, pk_mul, nIsub, nIrem, nIdiv, nIand1, nIand3, nIand7, nIand31, nIshr, nIle, nIlt, nIeq, nIc, vpI, nIm1, m1nI, m1lt, nIlm, m1le, nIlem, nIneg, u2_ss, u2_nn, u2_kk, e5, e8, hk5] at c1) <;> (try simp (disch := omega) only [nlit, natrem, nIrm, nIam, nIam',  nI_add, pk_mul, nIsub, nIrem, nIdiv, nIand1, nIand3, nIand7, nIand31, nIshr, nIle, nIlt, nIeq, nIc, vpI, nIm1, m1nI, m1lt, nIlm, m1le, nIlem, nIneg, u2_ss, u2_nn, u2_kk, e5, e8, hk5]) <;> (first | omega | trivial)
    · (try simp (disch := omega) only [nlit, natrem, nIrm, nIam, nIam',  nI_add, pk_mul, nIsub, nIrem, nIdiv, nIand1, nIand3, nIand7, nIand31, nIshr, nIle, nIlt, nIeq, nIc, vpI, nIm1, m1nI, m1lt, nIlm, m1le, nIlem, nIneg, u2_ss, u2_nn, u2_kk, e5, e8, hk5] at c1); (try simp (disch := omega) only [nlit, natrem, nIrm, nIam, nIam',  nI_add, pk_mul, nIsub, nIrem, nIdiv, nIand1, nIand3, nIand7, nIand31, nIshr, nIle, nIlt, nIeq, nIc, vpI, nIm1, m1nI, m1lt, nIlm, m1le, nIlem, nIneg, u2_ss, u2_nn, u2_kk, e5, e8, hk5])
      refine after_ok hc hC.1.1 hC.1.2.1 w0 w1 hm hp hs hkd (RX7_endAmong_63 hr hc ?_)
      rw [show nI l1.length + 1 = nI (l1 ++ [s]).length by rw [List.length_append]; exact nI_add _ _]
      exact ih (l1 ++ [s]) _ (by rw [e]; simp) (fun x hx => h4 x (List.mem_cons_of_mem _ hx)) (aft_lt w0 w1 hp) h
theorem endAmong_ok {d : Nat} {sx : Sx} {I : Ints} {L : Lngs} {R : Rfs} {q : Q3} {a : Ce} {lc : List (Nat × Nat)} {c r : Nat} (hc : isCel c) (hr : isRou r) (hC : CelC a lc c I L) (hW : WFc a) {g : Nat} (hg : g < (a 4).val) {ws : List Nat} (hw : wsOk a ws) (hR : Rou a lc g ws r I L) {m : Int64} {oth : Nat → Bool} (hm : ∀ x, x < 64 → bL m x = oth x)
    (h : q (some (.int (nI (wk a (fun x => clP a x || oth x) (gK a g).val (rt a lc g ws) (hom a g) / 4)))) I L R) : E0 mX7_endAmong (d + 3) sx [.ref r, .ref c, .long m] I L R q := by
  obtain ⟨r1, r2, r3, r4, r5, r6, r7⟩ := hR
  have w0 := hW.1.2
  have w1 := hW.2.1.2
  have hh := hom_lt hW hg
  have hk4 := (hW.2.2.2.2.2.2.2.2.2.1 g hg).1
  refine EX7_endAmong hr hc ⟨fun c1 => ?_, fun c1 => ?_⟩
  · rw [r7]
    refine endAmong_lp hc hr hC hW hk4 (rt_len hW hw) r6 r1 r3 (cl := fun x => clP a x || oth x) (fun x hx => ?_) (rt a lc g ws) [] (hom a g) rfl (rt_le hW hw) hh h
    rw [bL_or, hC.2.1 x hx, hm x hx]
  · have := bL_none.mp c1
    rw [wk_or w0 w1 _ _ hh (fun x hx => by have := this x hx; rw [hm x hx, r5 x hx] at this; exact this)] at h
    simp (disch := omega) only [nlit, natrem, nIrm, nIam, nIam',  nI_add, pk_mul, nIsub, nIrem, nIdiv, nIand1, nIand3, nIand7, nIand31, nIshr, nIle, nIlt, nIeq, nIc, vpI, nIm1, m1nI, m1lt, nIlm, m1le, nIlem, nIneg, u2_ss, u2_nn, u2_kk, r4, Nat.reduceMod, Nat.reducePow]
    have hlt := wk_lt (cl := clP a) (kd := (gK a g).val) w0 w1 (rt a lc g ws) _ hh
    simp (disch := omega) only [nlit, natrem, nIrm, nIam, nIam',  nI_add, pk_mul, nIsub, nIrem, nIdiv, nIand1, nIand3, nIand7, nIand31, nIshr, nIle, nIlt, nIeq, nIc, vpI, nIm1, m1nI, m1lt, nIlm, m1le, nIlem, nIneg, u2_ss, u2_nn, u2_kk, r4, Nat.reduceMod, Nat.reducePow]
    exact h
/-- the dance begins the steps -/
abbrev bgn (a : Ce) (dn : Nat) (l : List Nat) : Prop := (dL a dn).val ≤ l.length ∧ ∀ s, s < (dL a dn).val → l.getD s 0 = (dS a dn s).val
theorem beginsWith_ok {d : Nat} {sx : Sx} {I : Ints} {L : Lngs} {R : Rfs} {q : Q3} {a : Ce} {lc : List (Nat × Nat)} {c r : Nat} (hc : isCel c) (hr : isRou r) (hC : CelC a lc c I L) (hW : WFc a) {dn : Nat} (hd : dn < (a 2).val) {l : List Nat} (hln : l.length ≤ 576) (h4 : ∀ x ∈ l, x ≤ 4) (hl1 : I r 1 = nI l.length) (hA : ALo I (r + 1) 0 l)
    (ht : bgn a dn l → q (some (.int 1)) I L R) (hf : ¬ bgn a dn l → q (some (.int 0)) I L R) : E0 mX7_beginsWith (d + 1) sx [.ref r, .ref c, .int (nI dn)] I L R q := by
  have w2 := hW.2.2.1
  have hd8 := hW.2.2.2.2.2.2.2.1 dn hd
  have eL := (hC.2.2.1 dn hd).1
  have hlp : (dL a dn).val ≤ l.length → ∀ n s : Nat, n = (dL a dn).val - s → s ≤ (dL a dn).val → (∀ j, j < s → l.getD j 0 = (dS a dn j).val) → Y mX7_beginsWith (d + 1) sx 20 [(0, .ref r), (1, .ref c), (2, .int (nI dn)), (3, .int (nI (dL a dn).val)), (4, .int (nI s))] [] I L R q := by
    intro hle n
    induction n with
    | zero =>
      intro s hn hs hj
      refine RX7_beginsWith_20 hr hc ⟨fun c1 => ?_, fun c1 => ⟨?_, ⟨?_, ⟨fun c2 => ?_, fun c2 => ?_⟩⟩⟩⟩
      · (try simp (disch := omega) only [nlit, natrem, nIrm, nIam, nIam',  nI_add, pk_mul, nIsub, nIrem, nIdiv, nIand1, nIand3, nIand7, nIand31, nIshr, nIle, nIlt, nIeq, nIc, vpI, nIm1, m1nI, m1lt, nIlm, m1le, nIlem, nIneg, u2_ss, u2_nn, u2_kk] at c1); (try simp (disch := omega) only [nlit, natrem, nIrm, nIam, nIam',  nI_add, pk_mul, nIsub, nIrem, nIdiv, nIand1, nIand3, nIand7, nIand31, nIshr, nIle, nIlt, nIeq, nIc, vpI, nIm1, m1nI, m1lt, nIlm, m1le, nIlem, nIneg, u2_ss, u2_nn, u2_kk])
        exact ht ⟨hle, fun j hjl => hj j (by omega)⟩
      · (try simp (disch := omega) only [nlit, natrem, nIrm, nIam, nIam',  nI_add, pk_mul, nIsub, nIrem, nIdiv, nIand1, nIand3, nIand7, nIand31, nIshr, nIle, nIlt, nIeq, nIc, vpI, nIm1, m1nI, m1lt, nIlm, m1le, nIlem, nIneg, u2_ss, u2_nn, u2_kk] at c1) <;> (try simp (disch := omega) only [nlit, natrem, nIrm, nIam, nIam',  nI_add, pk_mul, nIsub, nIrem, nIdiv, nIand1, nIand3, nIand7, nIand31, nIshr, nIle, nIlt, nIeq, nIc, vpI, nIm1, m1nI, m1lt, nIlm, m1le, nIlem, nIneg, u2_ss, u2_nn, u2_kk]) <;> (first | omega | trivial)
      · (try simp (disch := omega) only [nlit, natrem, nIrm, nIam, nIam',  nI_add, pk_mul, nIsub, nIrem, nIdiv, nIand1, nIand3, nIand7, nIand31, nIshr, nIle, nIlt, nIeq, nIc, vpI, nIm1, m1nI, m1lt, nIlm, m1le, nIlem, nIneg, u2_ss, u2_nn, u2_kk] at c1) <;> (try simp (disch := omega) only [nlit, natrem, nIrm, nIam, nIam',  nI_add, pk_mul, nIsub, nIrem, nIdiv, nIand1, nIand3, nIand7, nIand31, nIshr, nIle, nIlt, nIeq, nIc, vpI, nIm1, m1nI, m1lt, nIlm, m1le, nIlem, nIneg, u2_ss, u2_nn, u2_kk]) <;> (first | omega | trivial)
      · (try simp (disch := omega) only [nlit, natrem, nIrm, nIam, nIam',  nI_add, pk_mul, nIsub, nIrem, nIdiv, nIand1, nIand3, nIand7, nIand31, nIshr, nIle, nIlt, nIeq, nIc, vpI, nIm1, m1nI, m1lt, nIlm, m1le, nIlem, nIneg, u2_ss, u2_nn, u2_kk] at c1 c2) <;> (first | omega | exact absurd rfl c1 | exact absurd trivial c1)
      · (try simp (disch := omega) only [nlit, natrem, nIrm, nIam, nIam',  nI_add, pk_mul, nIsub, nIrem, nIdiv, nIand1, nIand3, nIand7, nIand31, nIshr, nIle, nIlt, nIeq, nIc, vpI, nIm1, m1nI, m1lt, nIlm, m1le, nIlem, nIneg, u2_ss, u2_nn, u2_kk] at c1 c2) <;> (first | omega | exact absurd rfl c1 | exact absurd trivial c1)
    | succ n ih =>
      intro s hn hs hj
      have e1 := hA s (by omega)
      rw [Nat.zero_add] at e1
      have e2 := (hC.2.2.1 dn hd).2 s (by omega)
      have hx : l.getD s 0 ≤ 4 := by
        rw [List.getD_eq_getElem?_getD, List.getElem?_eq_getElem (by omega)]
        exact h4 _ (List.getElem_mem _)
      refine RX7_beginsWith_20 hr hc ⟨fun c1 => ?_, fun c1 => ⟨?_, ⟨?_, ⟨fun c2 => ?_, fun c2 => ?_⟩⟩⟩⟩
      · (try simp (disch := omega) only [nlit, natrem, nIrm, nIam, nIam',  nI_add, pk_mul, nIsub, nIrem, nIdiv, nIand1, nIand3, nIand7, nIand31, nIshr, nIle, nIlt, nIeq, nIc, vpI, nIm1, m1nI, m1lt, nIlm, m1le, nIlem, nIneg, u2_ss, u2_nn, u2_kk, e1, e2] at c1); (try simp (disch := omega) only [nlit, natrem, nIrm, nIam, nIam',  nI_add, pk_mul, nIsub, nIrem, nIdiv, nIand1, nIand3, nIand7, nIand31, nIshr, nIle, nIlt, nIeq, nIc, vpI, nIm1, m1nI, m1lt, nIlm, m1le, nIlem, nIneg, u2_ss, u2_nn, u2_kk, e1, e2])
        omega
      · (try simp (disch := omega) only [nlit, natrem, nIrm, nIam, nIam',  nI_add, pk_mul, nIsub, nIrem, nIdiv, nIand1, nIand3, nIand7, nIand31, nIshr, nIle, nIlt, nIeq, nIc, vpI, nIm1, m1nI, m1lt, nIlm, m1le, nIlem, nIneg, u2_ss, u2_nn, u2_kk, e1, e2] at c1) <;> (try simp (disch := omega) only [nlit, natrem, nIrm, nIam, nIam',  nI_add, pk_mul, nIsub, nIrem, nIdiv, nIand1, nIand3, nIand7, nIand31, nIshr, nIle, nIlt, nIeq, nIc, vpI, nIm1, m1nI, m1lt, nIlm, m1le, nIlem, nIneg, u2_ss, u2_nn, u2_kk, e1, e2]) <;> (first | omega | trivial)
      · (try simp (disch := omega) only [nlit, natrem, nIrm, nIam, nIam',  nI_add, pk_mul, nIsub, nIrem, nIdiv, nIand1, nIand3, nIand7, nIand31, nIshr, nIle, nIlt, nIeq, nIc, vpI, nIm1, m1nI, m1lt, nIlm, m1le, nIlem, nIneg, u2_ss, u2_nn, u2_kk, e1, e2] at c1) <;> (try simp (disch := omega) only [nlit, natrem, nIrm, nIam, nIam',  nI_add, pk_mul, nIsub, nIrem, nIdiv, nIand1, nIand3, nIand7, nIand31, nIshr, nIle, nIlt, nIeq, nIc, vpI, nIm1, m1nI, m1lt, nIlm, m1le, nIlem, nIneg, u2_ss, u2_nn, u2_kk, e1, e2]) <;> (first | omega | trivial)
      · (try simp (disch := omega) only [nlit, natrem, nIrm, nIam, nIam',  nI_add, pk_mul, nIsub, nIrem, nIdiv, nIand1, nIand3, nIand7, nIand31, nIshr, nIle, nIlt, nIeq, nIc, vpI, nIm1, m1nI, m1lt, nIlm, m1le, nIlem, nIneg, u2_ss, u2_nn, u2_kk, e1, e2] at c1 c2); (try simp (disch := omega) only [nlit, natrem, nIrm, nIam, nIam',  nI_add, pk_mul, nIsub, nIrem, nIdiv, nIand1, nIand3, nIand7, nIand31, nIshr, nIle, nIlt, nIeq, nIc, vpI, nIm1, m1nI, m1lt, nIlm, m1le, nIlem, nIneg, u2_ss, u2_nn, u2_kk, e1, e2])
        refine ih (s + 1) (by omega) (by omega) (fun j hjs => ?_)
        by_cases e : j = s
        · rw [e]; exact c2
        · exact hj j (by omega)
      · (try simp (disch := omega) only [nlit, natrem, nIrm, nIam, nIam',  nI_add, pk_mul, nIsub, nIrem, nIdiv, nIand1, nIand3, nIand7, nIand31, nIshr, nIle, nIlt, nIeq, nIc, vpI, nIm1, m1nI, m1lt, nIlm, m1le, nIlem, nIneg, u2_ss, u2_nn, u2_kk, e1, e2] at c1 c2); (try simp (disch := omega) only [nlit, natrem, nIrm, nIam, nIam',  nI_add, pk_mul, nIsub, nIrem, nIdiv, nIand1, nIand3, nIand7, nIand31, nIshr, nIle, nIlt, nIeq, nIc, vpI, nIm1, m1nI, m1lt, nIlm, m1le, nIlem, nIneg, u2_ss, u2_nn, u2_kk, e1, e2])
        exact hf (fun w => c2 (w.2 s (by omega)))
  refine EX7_beginsWith hr hc ⟨?_, ⟨fun c1 => ?_, fun c1 => ?_⟩⟩
  · (try simp (disch := omega) only [nlit, natrem, nIrm, nIam, nIam',  nI_add, pk_mul, nIsub, nIrem, nIdiv, nIand1, nIand3, nIand7, nIand31, nIshr, nIle, nIlt, nIeq, nIc, vpI, nIm1, m1nI, m1lt, nIlm, m1le, nIlem, nIneg, u2_ss, u2_nn, u2_kk, eL, hl1]) <;> (first | omega | trivial)
  · (try simp (disch := omega) only [nlit, natrem, nIrm, nIam, nIam',  nI_add, pk_mul, nIsub, nIrem, nIdiv, nIand1, nIand3, nIand7, nIand31, nIshr, nIle, nIlt, nIeq, nIc, vpI, nIm1, m1nI, m1lt, nIlm, m1le, nIlem, nIneg, u2_ss, u2_nn, u2_kk, eL, hl1] at c1); (try simp (disch := omega) only [nlit, natrem, nIrm, nIam, nIam',  nI_add, pk_mul, nIsub, nIrem, nIdiv, nIand1, nIand3, nIand7, nIand31, nIshr, nIle, nIlt, nIeq, nIc, vpI, nIm1, m1nI, m1lt, nIlm, m1le, nIlem, nIneg, u2_ss, u2_nn, u2_kk, eL, hl1])
    exact hlp c1 _ 0 rfl (Nat.zero_le _) (fun j hj => absurd hj (Nat.not_lt_zero _))
  · (try simp (disch := omega) only [nlit, natrem, nIrm, nIam, nIam',  nI_add, pk_mul, nIsub, nIrem, nIdiv, nIand1, nIand3, nIand7, nIand31, nIshr, nIle, nIlt, nIeq, nIc, vpI, nIm1, m1nI, m1lt, nIlm, m1le, nIlem, nIneg, u2_ss, u2_nn, u2_kk, eL, hl1] at c1); (try simp (disch := omega) only [nlit, natrem, nIrm, nIam, nIam',  nI_add, pk_mul, nIsub, nIrem, nIdiv, nIand1, nIand3, nIand7, nIand31, nIshr, nIle, nIlt, nIeq, nIc, vpI, nIm1, m1nI, m1lt, nIlm, m1le, nIlem, nIneg, u2_ss, u2_nn, u2_kk, eL, hl1])
    exact hf (fun w => c1 w.1)
