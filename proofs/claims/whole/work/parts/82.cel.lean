/-! a cellar grows -/
theorem wCong {a b : Ce} {w : Nat} (hM : wM b w = wM a w) (h : ∀ k, k < (wM a w).val → wD b w k = wD a w k ∧ wT b w k = wT a w k ∧ dL b (wD a w k).val = dL a (wD a w k).val ∧ (1 ≤ (dL a (wD a w k).val).val ∧ (dL a (wD a w k).val).val ≤ 8) ∧ ∀ s, s < 8 → dS b (wD a w k).val s = dS a (wD a w k).val s) : wL b w = wL a w ∧ ∀ i, wS b w i = wS a w i := by
  have hP : ∀ k, k < (wM a w).val → wP b w k = wP a w k := fun k hk => by
    obtain ⟨h1, h2, h3, -⟩ := h k hk
    unfold wP
    rw [h1, h2, h3]
  have hl : ∀ k, k ≤ (wM a w).val → wl b w k = wl a w k := by
    intro k
    induction k with
    | zero => intro _; rfl
    | succ k ih =>
      intro hk
      show wl b w k + wP b w k = wl a w k + wP a w k
      rw [ih (by omega), hP k (by omega)]
  have hs : ∀ n k l, n + k = (wM a w).val → wsr b w n k l = wsr a w n k l := by
    intro n
    induction n with
    | zero => intro k l _; rfl
    | succ n ih =>
      intro k l hk
      obtain ⟨h1, h2, h3, h4, h5⟩ := h k (by omega)
      unfold wsr
      rw [hP k (by omega)]
      split
      · rw [h1, h3, h5]
        have : l % (dL a (wD a w k).val).val < (dL a (wD a w k).val).val := Nat.mod_lt _ (by omega)
        omega
      · exact ih (k + 1) _ (by omega)
  refine ⟨?_, fun i => ?_⟩
  · unfold wL
    rw [hM]
    exact hl _ (Nat.le_refl _)
  · unfold wS
    rw [hM]
    exact hs _ 0 i rfl
theorem CelC.grow {a b : Ce} {lc lc' : Cd} {c : Nat} {I J : Ints} {L K : Lngs} (hC : CelC a lc c I L) (hW : WFc a)
    (hh : J c 0 = nI (b 0).val ∧ J c 1 = nI (b 1).val ∧ J c 3 = nI (b 5).val ∧ J c 4 = nI (b 2).val ∧ J c 7 = nI (b 3).val ∧ J c 11 = nI (b 4).val) (hp : ∀ k, k < 64 → bL (K c 2) k = clP b k)
    (hd : ∀ d, d < (a 2).val → (dL b d = dL a d ∧ ∀ s, s < 8 → dS b d s = dS a d s) ∧ J (c + 1) d = I (c + 1) d ∧ ∀ s, s < 8 → J (c + 2) (d * 8 + s) = I (c + 2) (d * 8 + s)) (hd' : ∀ d, (a 2).val ≤ d → d < (b 2).val → J (c + 1) d = nI (dL b d).val ∧ ∀ s, s < (dL b d).val → J (c + 2) (d * 8 + s) = nI (dS b d s).val)
    (hw : ∀ w, w < (a 3).val → (wG b w = wG a w ∧ wM b w = wM a w ∧ ∀ k, k < 3 → wD b w k = wD a w k ∧ wT b w k = wT a w k) ∧ J (c + 3) w = I (c + 3) w ∧ J (c + 4) w = I (c + 4) w ∧ ∀ i, i < 96 → J (c + 5) (w * 96 + i) = I (c + 5) (w * 96 + i)) (hw' : ∀ w, (a 3).val ≤ w → w < (b 3).val → J (c + 3) w = nI (wG b w).val ∧ J (c + 4) w = nI (wL b w) ∧ ∀ i, i < wL b w → J (c + 5) (w * 96 + i) = nI (wS b w i))
    (hg : ∀ g, g < (a 4).val → (gK b g = gK a g ∧ gC b g = gC a g ∧ gW b g = gW a g ∧ gA b g = gA a g) ∧ J (c + 6) g = I (c + 6) g ∧ J (c + 7) g = I (c + 7) g ∧ J (c + 8) g = I (c + 8) g) (hg' : ∀ g, (a 4).val ≤ g → g < (b 4).val → J (c + 6) g = nI (gK b g).val ∧ J (c + 7) g = nI (hom b g) ∧ J (c + 8) g = nI (gA b g).val)
    (hl : J (c + 9) 1 = nI lc'.length ∧ cdC J (c + 10) 0 lc' ∧ lawOk lc') : CelC b lc' c J K := by
  obtain ⟨k1, k2, k3, k4, k5, k6⟩ := hC
  refine ⟨hh, hp, fun d hdb => ?_, fun w hwb => ?_, fun g hgb => ?_, hl⟩
  · by_cases e : d < (a 2).val
    · obtain ⟨⟨e1, e2⟩, e3, e4⟩ := hd d e
      have h8 := (hW.2.2.2.2.2.2.2.1 d e).2.1
      rw [e1, e3]
      refine ⟨(k3 d e).1, fun s hs => ?_⟩
      rw [e4 s (by omega), e2 s (by omega)]
      exact (k3 d e).2 s hs
    · exact hd' d (by omega) hdb
  · by_cases e : w < (a 3).val
    · obtain ⟨⟨e1, e2, e3⟩, e4, e5, e6⟩ := hw w e
      have hwf := hW.2.2.2.2.2.2.2.2.1 w e
      have hc := wCong (a := a) (b := b) (w := w) e2 (fun k hk => by
        have h3 := e3 k (by omega)
        have hdk := (hwf.2.2.2 k hk).1
        have hdd := hd _ hdk
        have hdw := hW.2.2.2.2.2.2.2.1 _ hdk
        exact ⟨h3.1, h3.2, hdd.1.1, ⟨hdw.1, hdw.2.1⟩, hdd.1.2⟩)
      have h96 := wL_le hW e
      rw [e1, e4, e5, hc.1]
      refine ⟨(k4 w e).1, (k4 w e).2.1, fun i hi => ?_⟩
      rw [e6 i (by omega), hc.2 i]
      exact (k4 w e).2.2 i hi
    · exact hw' w (by omega) hwb
  · by_cases e : g < (a 4).val
    · obtain ⟨⟨e1, e2, e3, e4⟩, e5, e6, e7⟩ := hg g e
      unfold hom
      rw [e1, e2, e3, e4, e5, e6, e7]
      exact k5 g e
    · exact hg' g (by omega) hgb
/-! the class's reader: what it asks of its tokens -/
def R26 (I J : Ints) : Prop := Kp (fun k => k ≠ 26) I J ∧ ∀ k, k ≠ 2 → k ≠ 10 → k ≠ 11 → J 26 k = I 26 k
theorem R26.rf {I : Ints} : R26 I I := ⟨Kp.rf, fun _ _ _ _ => rfl⟩
theorem R26.tr {I J K : Ints} (h : R26 I J) (h2 : R26 J K) : R26 I K := ⟨h.1.tr h2.1, fun k a b c => (h2.2 k a b c).trans (h.2 k a b c)⟩
theorem R26.u {I J : Ints} (h : R26 I J) {k : Nat} {v : Int32} (hk : k = 2 ∨ k = 10 ∨ k = 11) : R26 I (u2 J 26 k v) := ⟨h.1.up (by simp), fun j h2 h10 h11 => by rw [u2_kk _ _ _ _ (by omega)]; exact h.2 j h2 h10 h11⟩
def RB (ts : List Tk) (N : Nat) (I : Ints) (L : Lngs) : Prop := TkOk ts ∧ Ends ts N ∧ TkC ts I L
theorem RB.fr {ts : List Tk} {N : Nat} {I J : Ints} {L K : Lngs} (h : RB ts N I L) (h1 : J 27 = I 27) (h2 : J 28 = I 28) (h3 : J 29 = I 29) (h4 : K 30 = L 30) : RB ts N J K := ⟨h.1, h.2.1, h.2.2.fr h1 h2 h3 h4⟩
theorem RB.k {ts : List Tk} {N : Nat} {I J : Ints} {L : Lngs} (h : RB ts N I L) (hK : Kp (fun k => k ≠ 26) I J) : RB ts N J L := h.fr (hK 27 (by decide)) (hK 28 (by decide)) (hK 29 (by decide)) rfl
theorem sortR_ok {d : Nat} {sx : Sx} {I : Ints} {L : Lngs} {R : Rfs} {q : Q3} {ts : List Tk} {N i : Nat} (hB : RB ts N I L) (h2 : I 26 2 = nI i) (hi : i ≤ N) (h : q (some (.int (nI (sK ts i)))) I L R) : E0 mX5_sort (d + 1) sx [.ref 26] I L R q := by
  obtain ⟨hT, hE, hC⟩ := hB
  have hN := hE.1
  have hlen := hE.2.1
  have e3 := hC.1
  have e28 := (hC.get (i := i) (by omega)).1
  refine EX5_sort  ⟨fun c1 => ?_, fun c1 => ⟨?_, ?_⟩⟩
  · (try simp (disch := omega) only [nlit, natrem, nIrm, nIam, nIam',  nI_add, pk_mul, nIsub, nIrem, nIdiv, nIand1, nIand3, nIand7, nIand31, nIshr, nIle, nIlt, nIeq, nIc, vpI, nIm1, m1nI, m1lt, nIlm, m1le, nIlem, nIneg, u2_ss, u2_nn, u2_kk, nIm1n, m1nIn, m1ltn, nIlmn, m1len, nIlemn, e3, h2, e28] at c1) <;> (first | omega | exact absurd rfl c1 | exact absurd trivial c1)
  · (try simp (disch := omega) only [nlit, natrem, nIrm, nIam, nIam',  nI_add, pk_mul, nIsub, nIrem, nIdiv, nIand1, nIand3, nIand7, nIand31, nIshr, nIle, nIlt, nIeq, nIc, vpI, nIm1, m1nI, m1lt, nIlm, m1le, nIlem, nIneg, u2_ss, u2_nn, u2_kk, nIm1n, m1nIn, m1ltn, nIlmn, m1len, nIlemn, e3, h2, e28] at c1) <;> (try simp (disch := omega) only [nlit, natrem, nIrm, nIam, nIam',  nI_add, pk_mul, nIsub, nIrem, nIdiv, nIand1, nIand3, nIand7, nIand31, nIshr, nIle, nIlt, nIeq, nIc, vpI, nIm1, m1nI, m1lt, nIlm, m1le, nIlem, nIneg, u2_ss, u2_nn, u2_kk, nIm1n, m1nIn, m1ltn, nIlmn, m1len, nIlemn, e3, h2, e28]) <;> (first | omega | trivial)
  · (try simp (disch := omega) only [nlit, natrem, nIrm, nIam, nIam',  nI_add, pk_mul, nIsub, nIrem, nIdiv, nIand1, nIand3, nIand7, nIand31, nIshr, nIle, nIlt, nIeq, nIc, vpI, nIm1, m1nI, m1lt, nIlm, m1le, nIlem, nIneg, u2_ss, u2_nn, u2_kk, nIm1n, m1nIn, m1ltn, nIlmn, m1len, nIlemn, e3, h2, e28] at c1); (try simp (disch := omega) only [nlit, natrem, nIrm, nIam, nIam',  nI_add, pk_mul, nIsub, nIrem, nIdiv, nIand1, nIand3, nIand7, nIand31, nIshr, nIle, nIlt, nIeq, nIc, vpI, nIm1, m1nI, m1lt, nIlm, m1le, nIlem, nIneg, u2_ss, u2_nn, u2_kk, nIm1n, m1nIn, m1ltn, nIlmn, m1len, nIlemn, e3, h2, e28])
    exact h
theorem wrongR_ok {d : Nat} {sx : Sx} {I : Ints} {L : Lngs} {R : Rfs} {q : Q3} {ts : List Tk} {N i k : Nat} (hB : RB ts N I L) (h2 : I 26 2 = nI i) (hi : i ≤ N) (h : q (some (.int 0)) (u2 I 26 3 (nI (fK ts k i))) L R) : E0 mX5_wrong (d + 2) sx [.ref 26, .int (nI k)] I L R q := by
  obtain ⟨hT, hE, hC⟩ := hB
  have hN := hE.1
  have hlen := hE.2.1
  have e3 := hC.1
  have e29 := (hC.get (i := i) (by omega)).2.1
  refine EX5_wrong ?_
  rw [h2, e3, show nI ts.length - 1 = nI N by rw [show (1 : Int32) = nI 1 from rfl, nIsub (by omega)]; congr 1; omega]
  refine min_ok (by omega) (by omega) ?_
  rw [Nat.min_eq_left hi]
  refine RX5_wrong_16  ⟨fun c1 => ?_, fun c1 => ⟨?_, ?_⟩⟩
  · (try simp (disch := omega) only [nlit, natrem, nIrm, nIam, nIam',  nI_add, pk_mul, nIsub, nIrem, nIdiv, nIand1, nIand3, nIand7, nIand31, nIshr, nIle, nIlt, nIeq, nIc, vpI, nIm1, m1nI, m1lt, nIlm, m1le, nIlem, nIneg, u2_ss, u2_nn, u2_kk, nIm1n, m1nIn, m1ltn, nIlmn, m1len, nIlemn, e29] at c1) <;> (first | omega | exact absurd rfl c1 | exact absurd trivial c1)
  · (try simp (disch := omega) only [nlit, natrem, nIrm, nIam, nIam',  nI_add, pk_mul, nIsub, nIrem, nIdiv, nIand1, nIand3, nIand7, nIand31, nIshr, nIle, nIlt, nIeq, nIc, vpI, nIm1, m1nI, m1lt, nIlm, m1le, nIlem, nIneg, u2_ss, u2_nn, u2_kk, nIm1n, m1nIn, m1ltn, nIlmn, m1len, nIlemn, e29] at c1) <;> (try simp (disch := omega) only [nlit, natrem, nIrm, nIam, nIam',  nI_add, pk_mul, nIsub, nIrem, nIdiv, nIand1, nIand3, nIand7, nIand31, nIshr, nIle, nIlt, nIeq, nIc, vpI, nIm1, m1nI, m1lt, nIlm, m1le, nIlem, nIneg, u2_ss, u2_nn, u2_kk, nIm1n, m1nIn, m1ltn, nIlmn, m1len, nIlemn, e29]) <;> (first | omega | trivial)
  · (try simp (disch := omega) only [nlit, natrem, nIrm, nIam, nIam',  nI_add, pk_mul, nIsub, nIrem, nIdiv, nIand1, nIand3, nIand7, nIand31, nIshr, nIle, nIlt, nIeq, nIc, vpI, nIm1, m1nI, m1lt, nIlm, m1le, nIlem, nIneg, u2_ss, u2_nn, u2_kk, nIm1n, m1nIn, m1ltn, nIlmn, m1len, nIlemn, e29] at c1); (try simp (disch := omega) only [nlit, natrem, nIrm, nIam, nIam',  nI_add, pk_mul, nIsub, nIrem, nIdiv, nIand1, nIand3, nIand7, nIand31, nIshr, nIle, nIlt, nIeq, nIc, vpI, nIm1, m1nI, m1lt, nIlm, m1le, nIlem, nIneg, u2_ss, u2_nn, u2_kk, nIm1n, m1nIn, m1ltn, nIlmn, m1len, nIlemn, e29])
    exact h
abbrev flt (I J : Ints) (v : Nat) : Prop := J 26 3 = nI v ∧ Kp (fun k => k ≠ 26) I J
theorem wordR_ok {d : Nat} {sx : Sx} {I : Ints} {L : Lngs} {R : Rfs} {q : Q3} {ts : List Tk} {N i s : Nat} (hB : RB ts N I L) (h2 : I 26 2 = nI i) (hi : i ≤ N) (hs : s < 100) (ht : sK ts i = s → (∀ f, wrd ts s i f = f) → q (some (.int 1)) (u2 I 26 2 (nI (i + 1))) L R) (hf : ∀ v J, (∀ f, wrd ts s i f = .inl v) → flt I J v → q (some (.int 0)) J L R) : E0 mX5_word (d + 3) sx [.ref 26, .int (nI s)] I L R q := by
  have hlt := hB.1.lt i
  have hNN := hB.2.1.1
  refine EX5_word (sortR_ok hB h2 hi ?_)
  refine RX5_word_4 ⟨fun c => ?_, fun c => ?_⟩
  · rw [nIeq (by omega) (by omega)] at c
    rw [h2, show nI i + 1 = nI (i + 1) from nI_add i 1]
    exact ht c (fun f => if_pos c)
  · rw [nIeq (by omega) (by omega)] at c
    exact wrongR_ok (k := 1) hB h2 hi (RX5_word_13 ⟨Or.inl rfl, hf _ _ (fun f => if_neg c) ⟨u2_ss _ _ _ _, Kp.rf.up (by simp)⟩⟩)
theorem numberR_ok {d : Nat} {sx : Sx} {I : Ints} {L : Lngs} {R : Rfs} {q : Q3} {ts : List Tk} {N i lo hi : Nat} (hB : RB ts N I L) (h2 : I 26 2 = nI i) (hil : i ≤ N) (hlo : lo < 10000) (hhi : hi < 10000) (ht : sK ts i = 31 → lo ≤ vK ts i ∧ vK ts i ≤ hi → (∀ f, nmb ts lo hi i f = f (vK ts i)) → q (some (.int 1)) (u2 (u2 I 26 10 (nI (vK ts i))) 26 2 (nI (i + 1))) L R) (hf : ∀ v J, (∀ f, nmb ts lo hi i f = .inl v) → flt I J v → q (some (.int 0)) J L R) : E0 mX5_number (d + 3) sx [.ref 26, .int (nI lo), .int (nI hi)] I L R q := by
  have hlt := hB.1.lt i
  have hNN := hB.2.1.1
  have hlen := hB.2.1.2.1
  have hg := hB.2.2.get (i := i) (by omega)
  refine EX5_number (sortR_ok hB h2 hil ?_)
  refine RX5_number_4 ⟨fun c => ⟨?_, fun c2 => ?_, fun c2 => ⟨fun c3 => ?_, fun c3 => ?_⟩⟩, fun c => ?_⟩
  · rw [h2]; simp (disch := omega) only [nlit, natrem, nIrm, nIam, nIam',  nI_add, pk_mul, nIsub, nIrem, nIdiv, nIand1, nIand3, nIand7, nIand31, nIshr, nIle, nIlt, nIeq, nIc, vpI, nIm1, m1nI, m1lt, nIlm, m1le, nIlem, nIneg, u2_ss, u2_nn, u2_kk, nIm1n, m1nIn, m1ltn, nIlmn, m1len, nIlemn]; omega
  · simp (disch := omega) only [nlit, natrem, nIrm, nIam, nIam',  nI_add, pk_mul, nIsub, nIrem, nIdiv, nIand1, nIand3, nIand7, nIand31, nIshr, nIle, nIlt, nIeq, nIc, vpI, nIm1, m1nI, m1lt, nIlm, m1le, nIlem, nIneg, u2_ss, u2_nn, u2_kk, nIm1n, m1nIn, m1ltn, nIlmn, m1len, nIlemn] at c
    have hv := hB.1.v (by omega) c
    rw [h2, nIc (by omega), hg.2.2.2 c, lN_i] at c2 ⊢
    simp (disch := omega) only [nlit, natrem, nIrm, nIam, nIam',  nI_add, pk_mul, nIsub, nIrem, nIdiv, nIand1, nIand3, nIand7, nIand31, nIshr, nIle, nIlt, nIeq, nIc, vpI, nIm1, m1nI, m1lt, nIlm, m1le, nIlem, nIneg, u2_ss, u2_nn, u2_kk, nIm1n, m1nIn, m1ltn, nIlmn, m1len, nIlemn] at c2
    refine wrongR_ok (k := 4) (hB.k (Kp.rf.up (by simp))) (by rw [u2_kk _ _ _ _ (by decide)]; exact h2) hil (RX5_number_53 ⟨Or.inl rfl, hf _ _ (fun f => ?_) ⟨u2_ss _ _ _ _, (Kp.rf.up (by simp)).up (by simp)⟩⟩)
    unfold nmb
    rw [if_pos c, if_pos (Or.inl c2)]
  · simp (disch := omega) only [nlit, natrem, nIrm, nIam, nIam',  nI_add, pk_mul, nIsub, nIrem, nIdiv, nIand1, nIand3, nIand7, nIand31, nIshr, nIle, nIlt, nIeq, nIc, vpI, nIm1, m1nI, m1lt, nIlm, m1le, nIlem, nIneg, u2_ss, u2_nn, u2_kk, nIm1n, m1nIn, m1ltn, nIlmn, m1len, nIlemn] at c
    have hv := hB.1.v (by omega) c
    rw [h2, nIc (by omega), hg.2.2.2 c, lN_i] at c2 c3 ⊢
    simp (disch := omega) only [nlit, natrem, nIrm, nIam, nIam',  nI_add, pk_mul, nIsub, nIrem, nIdiv, nIand1, nIand3, nIand7, nIand31, nIshr, nIle, nIlt, nIeq, nIc, vpI, nIm1, m1nI, m1lt, nIlm, m1le, nIlem, nIneg, u2_ss, u2_nn, u2_kk, nIm1n, m1nIn, m1ltn, nIlmn, m1len, nIlemn] at c2 c3
    rw [show nI i + 1 = nI (i + 1) from nI_add i 1]
    refine ht c ⟨by omega, c3⟩ (fun f => ?_)
    unfold nmb
    rw [if_pos c, if_neg (by omega)]
  · simp (disch := omega) only [nlit, natrem, nIrm, nIam, nIam',  nI_add, pk_mul, nIsub, nIrem, nIdiv, nIand1, nIand3, nIand7, nIand31, nIshr, nIle, nIlt, nIeq, nIc, vpI, nIm1, m1nI, m1lt, nIlm, m1le, nIlem, nIneg, u2_ss, u2_nn, u2_kk, nIm1n, m1nIn, m1ltn, nIlmn, m1len, nIlemn] at c
    have hv := hB.1.v (by omega) c
    rw [h2, nIc (by omega), hg.2.2.2 c, lN_i] at c2 c3 ⊢
    simp (disch := omega) only [nlit, natrem, nIrm, nIam, nIam',  nI_add, pk_mul, nIsub, nIrem, nIdiv, nIand1, nIand3, nIand7, nIand31, nIshr, nIle, nIlt, nIeq, nIc, vpI, nIm1, m1nI, m1lt, nIlm, m1le, nIlem, nIneg, u2_ss, u2_nn, u2_kk, nIm1n, m1nIn, m1ltn, nIlmn, m1len, nIlemn] at c2 c3
    refine wrongR_ok (k := 4) (hB.k (Kp.rf.up (by simp))) (by rw [u2_kk _ _ _ _ (by decide)]; exact h2) hil (RX5_number_53 ⟨Or.inl rfl, hf _ _ (fun f => ?_) ⟨u2_ss _ _ _ _, (Kp.rf.up (by simp)).up (by simp)⟩⟩)
    unfold nmb
    rw [if_pos c, if_pos (Or.inr (by omega))]
  · simp (disch := omega) only [nlit, natrem, nIrm, nIam, nIam',  nI_add, pk_mul, nIsub, nIrem, nIdiv, nIand1, nIand3, nIand7, nIand31, nIshr, nIle, nIlt, nIeq, nIc, vpI, nIm1, m1nI, m1lt, nIlm, m1le, nIlem, nIneg, u2_ss, u2_nn, u2_kk, nIm1n, m1nIn, m1ltn, nIlmn, m1len, nIlemn] at c
    refine wrongR_ok (k := 1) hB h2 hil (RX5_number_14 ⟨Or.inl rfl, hf _ _ (fun f => ?_) ⟨u2_ss _ _ _ _, Kp.rf.up (by simp)⟩⟩)
    unfold nmb
    rw [if_neg c]
theorem flt.tr {I J K : Ints} {v : Nat} (h : Kp (fun k => k ≠ 26) I J) (h2 : flt J K v) : flt I K v := ⟨h2.1, h.tr h2.2⟩
theorem placeR_ok {d : Nat} {sx : Sx} {I : Ints} {L : Lngs} {R : Rfs} {q : Q3} {ts : List Tk} {N i c : Nat} {a : Ce} {m : Int64} {tk : Nat → Bool} (hB : RB ts N I L) (hc : isCel c) (hR : R 26 1 = some c) (h0 : I c 0 = nI (a 0).val) (h1 : I c 1 = nI (a 1).val) (w0 : 2 ≤ (a 0).val ∧ (a 0).val ≤ 8) (w1 : 2 ≤ (a 1).val ∧ (a 1).val ≤ 8) (hm : ∀ x, x < 64 → bL m x = tk x) (h2 : I 26 2 = nI i) (hil : i ≤ N)
    (ht : ∀ x J, x < 64 → tk x = false → (∀ f, plc ts a tk i f = f x) → i + 2 ≤ N → J 26 2 = nI (i + 2) → J 26 11 = nI x → R26 I J → q (some (.int 1)) J L R) (hf : ∀ v J, (∀ f, plc ts a tk i f = .inl v) → flt I J v → q (some (.int 0)) J L R) : E0 mX5_place (d + 4) sx [.ref 26, .long m] I L R q := by
  have hNN := hB.2.1.1
  have hc' : c = 2 ∨ c = 14 := hc
  refine EX5_place hc hR ?_
  rw [h0, show nI (a 0).val - 1 = nI ((a 0).val - 1) by rw [show (1 : Int32) = nI 1 from rfl, nIsub (by omega)]]
  refine numberR_ok (lo := 0) hB h2 hil (by decide) (by omega) (fun s1 v1 e1 => ?_) (fun v J e1 hJ => RX5_place_14 hc hR ⟨fun c => absurd rfl c, fun _ => hf v J (fun f => by unfold plc; exact e1 _) hJ⟩)
  refine RX5_place_14 hc hR ⟨fun _ => ?_, fun c => absurd c (by decide)⟩
  have hi1 := lt_N hB.2.1 hil (by omega)
  have hK1 : Kp (fun k => k ≠ 26) I (u2 (u2 I 26 10 (nI (vK ts i))) 26 2 (nI (i + 1))) := (Kp.rf.up (by simp)).up (by simp)
  rw [show u2 (u2 I 26 10 (nI (vK ts i))) 26 2 (nI (i + 1)) c 1 = nI (a 1).val by rw [u2_nn _ _ _ _ (by omega), u2_nn _ _ _ _ (by omega)]; exact h1, show nI (a 1).val - 1 = nI ((a 1).val - 1) by rw [show (1 : Int32) = nI 1 from rfl, nIsub (by omega)], show u2 (u2 I 26 10 (nI (vK ts i))) 26 2 (nI (i + 1)) 26 10 = nI (vK ts i) by rw [u2_kk _ _ _ _ (by decide), u2_ss]]
  refine numberR_ok (lo := 0) (i := i + 1) (hB.k hK1) (u2_ss _ _ _ _) (by omega) (by decide) (by omega) (fun s2 v2 e2 => ?_) (fun v J e2 hJ => RX5_place_38 ⟨fun c => absurd rfl c, fun _ => hf v J (fun f => by unfold plc; rw [e1]; exact e2 _) (flt.tr hK1 hJ)⟩)
  have hi2 := lt_N hB.2.1 (show i + 1 ≤ N by omega) (by omega)
  have hx : 8 * vK ts (i + 1) + vK ts i < 64 := by omega
  have e10 : u2 (u2 (u2 (u2 I 26 10 (nI (vK ts i))) 26 2 (nI (i + 1))) 26 10 (nI (vK ts (i + 1)))) 26 2 (nI (i + 1 + 1)) 26 10 * 8 + nI (vK ts i) = nI (8 * vK ts (i + 1) + vK ts i) := by
    rw [u2_kk _ _ _ _ (by decide), u2_ss, show (8 : Int32) = nI 8 from rfl, pk_mul, nI_add, Nat.mul_comm]
  have e2x : u2 (u2 (u2 (u2 I 26 10 (nI (vK ts i))) 26 2 (nI (i + 1))) 26 10 (nI (vK ts (i + 1)))) 26 2 (nI (i + 1 + 1)) 26 2 = nI (i + 2) := u2_ss _ _ _ _
  refine RX5_place_38 ⟨fun _ => ⟨fun c2 => ?_, fun c2 => ?_⟩, fun c => absurd c (by decide)⟩
  · rw [e10] at c2 ⊢
    have ek : tk (8 * vK ts (i + 1) + vK ts i) = false := by rw [← hm _ hx]; exact (bL_test hx).mp c2
    refine ht _ _ hx ek (fun f => ?_) (by omega) ?_ (u2_ss _ _ _ _) (((((R26.rf.u (by omega)).u (by omega)).u (by omega)).u (by omega)).u (by omega))
    · unfold plc
      rw [e1, e2, if_neg (by rw [ek]; decide)]
    · rw [u2_kk _ _ _ _ (by decide), u2_ss]
  · rw [e10] at c2 ⊢
    have ek : tk (8 * vK ts (i + 1) + vK ts i) = true := by
      rw [← hm _ hx]
      cases hh : bL m (8 * vK ts (i + 1) + vK ts i) with
      | true => rfl
      | false => exact absurd ((bL_test hx).mpr hh) c2
    rw [e2x, show nI (i + 2) - 1 = nI (i + 1) by rw [show (1 : Int32) = nI 1 from rfl, nIsub (by omega)]; rfl]
    have hK2 : Kp (fun k => k ≠ 26) I (u2 (u2 (u2 (u2 (u2 (u2 I 26 10 (nI (vK ts i))) 26 2 (nI (i + 1))) 26 10 (nI (vK ts (i + 1)))) 26 2 (nI (i + 1 + 1))) 26 11 (nI (8 * vK ts (i + 1) + vK ts i))) 26 2 (nI (i + 1))) := ((((hK1.up (by simp)).up (by simp)).up (by simp)).up (by simp))
    refine wrongR_ok (k := 3) (i := i + 1) (hB.k hK2) (u2_ss _ _ _ _) (by omega) (RX5_place_84 ⟨Or.inl rfl, hf _ _ (fun f => ?_) ⟨u2_ss _ _ _ _, hK2.up (by simp)⟩⟩)
    unfold plc
    rw [e1, e2, if_pos ek]
def NmC (nm : Nm) (I : Ints) (L : Lngs) : Prop := I 26 5 = nI nm.length ∧ ∀ k, k < nm.length → L 31 k = lN (pk 256 0 (nm.getD k ([], 0)).1)
theorem fnd_drop {w : List Nat} : ∀ (nm : Nm) (k : Nat), k < nm.length → fnd (nm.drop k) w = if (nm.getD k ([], 0)).1 = w then some (nm.getD k ([], 0)).2 else fnd (nm.drop (k + 1)) w
  | [], k, h => absurd h (Nat.not_lt_zero _)
  | e :: l, 0, _ => rfl
  | e :: l, k + 1, h => fnd_drop l k (by simpa using h)
theorem isNameC_ok {d : Nat} {sx : Sx} {I : Ints} {L : Lngs} {R : Rfs} {q : Q3} {s : Nat} (hs : s < 100) (ht : isN s → q (some (.int 1)) I L R) (hf : ¬ isN s → q (some (.int 0)) I L R) : E0 mX10_isName (d + 1) sx [.int (nI s)] I L R q := by
  refine EX10_isName  ⟨fun c1 => ?_, fun c1 => ⟨fun c2 => ?_, fun c2 => ⟨fun c3 => ?_, fun c3 => ?_⟩⟩⟩
  · (try simp (disch := omega) only [nlit, natrem, nIrm, nIam, nIam',  nI_add, pk_mul, nIsub, nIrem, nIdiv, nIand1, nIand3, nIand7, nIand31, nIshr, nIle, nIlt, nIeq, nIc, vpI, nIm1, m1nI, m1lt, nIlm, m1le, nIlem, nIneg, u2_ss, u2_nn, u2_kk, nIm1n, m1nIn, m1ltn, nIlmn, m1len, nIlemn] at c1); (try simp (disch := omega) only [nlit, natrem, nIrm, nIam, nIam',  nI_add, pk_mul, nIsub, nIrem, nIdiv, nIand1, nIand3, nIand7, nIand31, nIshr, nIle, nIlt, nIeq, nIc, vpI, nIm1, m1nI, m1lt, nIlm, m1le, nIlem, nIneg, u2_ss, u2_nn, u2_kk, nIm1n, m1nIn, m1ltn, nIlmn, m1len, nIlemn])
    exact ht (by unfold isN; omega)
  · (try simp (disch := omega) only [nlit, natrem, nIrm, nIam, nIam',  nI_add, pk_mul, nIsub, nIrem, nIdiv, nIand1, nIand3, nIand7, nIand31, nIshr, nIle, nIlt, nIeq, nIc, vpI, nIm1, m1nI, m1lt, nIlm, m1le, nIlem, nIneg, u2_ss, u2_nn, u2_kk, nIm1n, m1nIn, m1ltn, nIlmn, m1len, nIlemn] at c1 c2); (try simp (disch := omega) only [nlit, natrem, nIrm, nIam, nIam',  nI_add, pk_mul, nIsub, nIrem, nIdiv, nIand1, nIand3, nIand7, nIand31, nIshr, nIle, nIlt, nIeq, nIc, vpI, nIm1, m1nI, m1lt, nIlm, m1le, nIlem, nIneg, u2_ss, u2_nn, u2_kk, nIm1n, m1nIn, m1ltn, nIlmn, m1len, nIlemn])
    exact hf (by unfold isN; omega)
  · (try simp (disch := omega) only [nlit, natrem, nIrm, nIam, nIam',  nI_add, pk_mul, nIsub, nIrem, nIdiv, nIand1, nIand3, nIand7, nIand31, nIshr, nIle, nIlt, nIeq, nIc, vpI, nIm1, m1nI, m1lt, nIlm, m1le, nIlem, nIneg, u2_ss, u2_nn, u2_kk, nIm1n, m1nIn, m1ltn, nIlmn, m1len, nIlemn] at c1 c2 c3); (try simp (disch := omega) only [nlit, natrem, nIrm, nIam, nIam',  nI_add, pk_mul, nIsub, nIrem, nIdiv, nIand1, nIand3, nIand7, nIand31, nIshr, nIle, nIlt, nIeq, nIc, vpI, nIm1, m1nI, m1lt, nIlm, m1le, nIlem, nIneg, u2_ss, u2_nn, u2_kk, nIm1n, m1nIn, m1ltn, nIlmn, m1len, nIlemn])
    exact hf (by unfold isN; omega)
  · (try simp (disch := omega) only [nlit, natrem, nIrm, nIam, nIam',  nI_add, pk_mul, nIsub, nIrem, nIdiv, nIand1, nIand3, nIand7, nIand31, nIshr, nIle, nIlt, nIeq, nIc, vpI, nIm1, m1nI, m1lt, nIlm, m1le, nIlem, nIneg, u2_ss, u2_nn, u2_kk, nIm1n, m1nIn, m1ltn, nIlmn, m1len, nIlemn] at c1 c2 c3); (try simp (disch := omega) only [nlit, natrem, nIrm, nIam, nIam',  nI_add, pk_mul, nIsub, nIrem, nIdiv, nIand1, nIand3, nIand7, nIand31, nIshr, nIle, nIlt, nIeq, nIc, vpI, nIm1, m1nI, m1lt, nIlm, m1le, nIlem, nIneg, u2_ss, u2_nn, u2_kk, nIm1n, m1nIn, m1ltn, nIlmn, m1len, nIlemn])
    exact ht (by unfold isN; omega)
theorem newName_ok {d : Nat} {sx : Sx} {I : Ints} {L : Lngs} {R : Rfs} {q : Q3} {ts : List Tk} {N i tag : Nat} {nm : Nm} (hB : RB ts N I L) (hNm : NmC nm I L) (hw : ∀ k, k < nm.length → wOk (nm.getD k ([], 0)).1) (hl : nm.length < 18) (h2 : I 26 2 = nI i) (hil : i ≤ N)
    (ht : isN (sK ts i) → i + 1 ≤ N → (∀ f, newN ts nm tag i f = f (nm ++ [(wK ts i, tag)])) → ∀ J K, NmC (nm ++ [(wK ts i, tag)]) J K → K 31 nm.length = lN (pk 256 0 (wK ts i)) → J = u2 (u2 I 26 5 (nI (nm.length + 1))) 26 2 (nI (i + 1)) → Kp (fun k => k ≠ 31) L K → q (some (.int 1)) J K R)
    (hf : ∀ v J, (∀ f, newN ts nm tag i f = .inl v) → flt I J v → q (some (.int 0)) J L R) : E0 mX5_newName (d + 3) sx [.ref 26] I L R q := by
  have hNN := hB.2.1.1
  have hlen := hB.2.1.2.1
  have hlt := hB.1.lt i
  have hg := hB.2.2.get (i := i) (by omega)
  refine EX5_newName (sortR_ok hB h2 hil (RX5_newName_4 (isNameC_ok (by omega) (fun hn => ?_) (fun hn => ?_))))
  · have hi1 := lt_N hB.2.1 hil (isN_ne hn).1
    have hwk := wK_ok hB.1 (i := i) (by omega) (isN_ne hn).2
    refine RX5_newName_7 ⟨fun _ => ⟨?_, ?_⟩, fun c => absurd c (by decide)⟩
    · rw [h2]; simp (disch := omega) only [nlit, natrem, nIrm, nIam, nIam',  nI_add, pk_mul, nIsub, nIrem, nIdiv, nIand1, nIand3, nIand7, nIand31, nIshr, nIle, nIlt, nIeq, nIc, vpI, nIm1, m1nI, m1lt, nIlm, m1le, nIlem, nIneg, u2_ss, u2_nn, u2_kk, nIm1n, m1nIn, m1ltn, nIlmn, m1len, nIlemn]; omega
    · rw [h2, nIc (by omega), hg.2.2.1 (isN_ne hn).2]
      have hlp : ∀ n k : Nat, n = nm.length - k → k ≤ nm.length → fnd nm (wK ts i) = fnd (nm.drop k) (wK ts i) → Y mX5_newName (d + 3) sx 31 [(0, .ref 26), (1, .long (lN (pk 256 0 (wK ts i)))), (3, .int (nI k))] [] I L R q := by
        intro n
        induction n with
        | zero =>
          intro k hn' hk e
          have ek : k = nm.length := by omega
          subst ek
          have e0 : fnd nm (wK ts i) = none := by rw [e, List.drop_length]; rfl
          have e5 := hNm.1
          refine RX5_newName_31  ⟨fun c1 => ⟨fun c2 => ⟨?_, ?_⟩, fun c2 => ?_⟩, fun c1 => ⟨?_, ⟨fun c2 => ?_, fun c2 => ?_⟩⟩⟩
          · (try simp (disch := omega) only [nlit, natrem, nIrm, nIam, nIam',  nI_add, pk_mul, nIsub, nIrem, nIdiv, nIand1, nIand3, nIand7, nIand31, nIshr, nIle, nIlt, nIeq, nIc, vpI, nIm1, m1nI, m1lt, nIlm, m1le, nIlem, nIneg, u2_ss, u2_nn, u2_kk, nIm1n, m1nIn, m1ltn, nIlmn, m1len, nIlemn, e5, h2] at c1 c2) <;> (try simp (disch := omega) only [nlit, natrem, nIrm, nIam, nIam',  nI_add, pk_mul, nIsub, nIrem, nIdiv, nIand1, nIand3, nIand7, nIand31, nIshr, nIle, nIlt, nIeq, nIc, vpI, nIm1, m1nI, m1lt, nIlm, m1le, nIlem, nIneg, u2_ss, u2_nn, u2_kk, nIm1n, m1nIn, m1ltn, nIlmn, m1len, nIlemn, e5, h2]) <;> (first | omega | trivial)
          · (try simp (disch := omega) only [nlit, natrem, nIrm, nIam, nIam',  nI_add, pk_mul, nIsub, nIrem, nIdiv, nIand1, nIand3, nIand7, nIand31, nIshr, nIle, nIlt, nIeq, nIc, vpI, nIm1, m1nI, m1lt, nIlm, m1le, nIlem, nIneg, u2_ss, u2_nn, u2_kk, nIm1n, m1nIn, m1ltn, nIlmn, m1len, nIlemn, e5, h2] at c1 c2); (try simp (disch := omega) only [nlit, natrem, nIrm, nIam, nIam',  nI_add, pk_mul, nIsub, nIrem, nIdiv, nIand1, nIand3, nIand7, nIand31, nIshr, nIle, nIlt, nIeq, nIc, vpI, nIm1, m1nI, m1lt, nIlm, m1le, nIlem, nIneg, u2_ss, u2_nn, u2_kk, nIm1n, m1nIn, m1ltn, nIlmn, m1len, nIlemn, e5, h2])
            refine ht hn (by omega) (fun f => ?_) _ _ ⟨?_, fun k hk => ?_⟩ (u2_ss _ _ _ _) rfl (Kp.rf.up (by simp))
            · unfold newN
              rw [if_pos hn, if_pos e0]
            · rw [u2_kk _ _ _ _ (by decide), u2_ss, List.length_append]; rfl
            · rw [List.length_append, List.length_singleton] at hk
              by_cases e : k = nm.length
              · subst e
                rw [u2_ss]
                simp
              · rw [u2_kk _ _ _ _ e, List.getD_eq_getElem?_getD, List.getElem?_append_left (by omega), ← List.getD_eq_getElem?_getD]
                exact hNm.2 k (by omega)
          · (try simp (disch := omega) only [nlit, natrem, nIrm, nIam, nIam',  nI_add, pk_mul, nIsub, nIrem, nIdiv, nIand1, nIand3, nIand7, nIand31, nIshr, nIle, nIlt, nIeq, nIc, vpI, nIm1, m1nI, m1lt, nIlm, m1le, nIlem, nIneg, u2_ss, u2_nn, u2_kk, nIm1n, m1nIn, m1ltn, nIlmn, m1len, nIlemn, e5, h2] at c1 c2) <;> (first | omega | exact absurd rfl c1 | exact absurd trivial c1 | exact absurd rfl c2 | exact absurd trivial c2)
          · (try simp (disch := omega) only [nlit, natrem, nIrm, nIam, nIam',  nI_add, pk_mul, nIsub, nIrem, nIdiv, nIand1, nIand3, nIand7, nIand31, nIshr, nIle, nIlt, nIeq, nIc, vpI, nIm1, m1nI, m1lt, nIlm, m1le, nIlem, nIneg, u2_ss, u2_nn, u2_kk, nIm1n, m1nIn, m1ltn, nIlmn, m1len, nIlemn, e5, h2] at c1) <;> (try simp (disch := omega) only [nlit, natrem, nIrm, nIam, nIam',  nI_add, pk_mul, nIsub, nIrem, nIdiv, nIand1, nIand3, nIand7, nIand31, nIshr, nIle, nIlt, nIeq, nIc, vpI, nIm1, m1nI, m1lt, nIlm, m1le, nIlem, nIneg, u2_ss, u2_nn, u2_kk, nIm1n, m1nIn, m1ltn, nIlmn, m1len, nIlemn, e5, h2]) <;> (first | omega | trivial)
          · (try simp (disch := omega) only [nlit, natrem, nIrm, nIam, nIam',  nI_add, pk_mul, nIsub, nIrem, nIdiv, nIand1, nIand3, nIand7, nIand31, nIshr, nIle, nIlt, nIeq, nIc, vpI, nIm1, m1nI, m1lt, nIlm, m1le, nIlem, nIneg, u2_ss, u2_nn, u2_kk, nIm1n, m1nIn, m1ltn, nIlmn, m1len, nIlemn, e5, h2] at c1 c2) <;> (first | omega | exact absurd rfl c1 | exact absurd trivial c1 | exact absurd rfl c2 | exact absurd trivial c2)
          · (try simp (disch := omega) only [nlit, natrem, nIrm, nIam, nIam',  nI_add, pk_mul, nIsub, nIrem, nIdiv, nIand1, nIand3, nIand7, nIand31, nIshr, nIle, nIlt, nIeq, nIc, vpI, nIm1, m1nI, m1lt, nIlm, m1le, nIlem, nIneg, u2_ss, u2_nn, u2_kk, nIm1n, m1nIn, m1ltn, nIlmn, m1len, nIlemn, e5, h2] at c1 c2) <;> (first | omega | exact absurd rfl c1 | exact absurd trivial c1 | exact absurd rfl c2 | exact absurd trivial c2)
        | succ n ih =>
          intro k hn' hk e
          have e5 := hNm.1
          have e31 := hNm.2 k (by omega)
          have hq := pw_eq (b := 256) (s := 0) (by decide) (by decide) (by decide) (hw k (by omega)) hwk
          have hdr := fnd_drop (w := wK ts i) nm k (by omega)
          refine RX5_newName_31 ⟨fun c => ?_, fun c => ⟨?_, fun c2 => ?_, fun c2 => ?_⟩⟩
          · exfalso; rw [e5] at c; simp (disch := omega) only [nlit, natrem, nIrm, nIam, nIam',  nI_add, pk_mul, nIsub, nIrem, nIdiv, nIand1, nIand3, nIand7, nIand31, nIshr, nIle, nIlt, nIeq, nIc, vpI, nIm1, m1nI, m1lt, nIlm, m1le, nIlem, nIneg, u2_ss, u2_nn, u2_kk, nIm1n, m1nIn, m1ltn, nIlmn, m1len, nIlemn] at c; omega
          · simp (disch := omega) only [nlit, natrem, nIrm, nIam, nIam',  nI_add, pk_mul, nIsub, nIrem, nIdiv, nIand1, nIand3, nIand7, nIand31, nIshr, nIle, nIlt, nIeq, nIc, vpI, nIm1, m1nI, m1lt, nIlm, m1le, nIlem, nIneg, u2_ss, u2_nn, u2_kk, nIm1n, m1nIn, m1ltn, nIlmn, m1len, nIlemn]; omega
          · rw [nIc (by omega), e31, lg_cmp_eq] at c2
            rw [show nI k + 1 = nI (k + 1) from nI_add k 1]
            refine ih (k + 1) (by omega) (by omega) ?_
            rw [e, hdr, if_neg (fun hh => c2 (hq.mpr hh))]
          · rw [nIc (by omega), e31, lg_cmp_eq] at c2
            refine wrongR_ok (k := 3) hB h2 hil (RX5_newName_55 ⟨Or.inl rfl, hf _ _ (fun f => ?_) ⟨u2_ss _ _ _ _, Kp.rf.up (by simp)⟩⟩)
            unfold newN
            rw [if_pos hn, if_neg]
            rw [e, hdr, if_pos (hq.mp c2)]
            exact fun hh => nomatch hh
      exact hlp _ 0 rfl (Nat.zero_le _) rfl
  · refine RX5_newName_7 ⟨fun c => absurd rfl c, fun _ => ?_⟩
    refine wrongR_ok (k := 1) hB h2 hil (RX5_newName_15 ⟨Or.inl rfl, hf _ _ (fun f => ?_) ⟨u2_ss _ _ _ _, Kp.rf.up (by simp)⟩⟩)
    unfold newN
    rw [if_neg hn]
