/-! read and dance -/
def rdS (a : Ce) (sn : Nat → Nat) (n : Nat) (wv : Int32) : Ss := scR (fun m => hitL a sn (dgs n m)) wv 0 (0, none) (5 ^ n)
abbrev in15 (x : Int32) : Prop := ¬ x < 1 ∧ ¬ (5 : Int32) < x
def spRead (a : Ce) (sn : Nat → Nat) (x : Int32) : Int32 := if in15 x ∧ cntS sn 6 ≠ 0 then nI (rdS a sn x.toNatClampNeg (-1)).1 else -1
def spDance (a : Ce) (sn : Nat → Nat) (x i : Int32) : Int32 := if in15 x ∧ ¬ i < 0 ∧ cntS sn 6 ≠ 0 then wrV (rdS a sn x.toNatClampNeg i).2 else -1
theorem in15_of {x : Int32} (h : in15 x) : ∃ n, 1 ≤ n ∧ n ≤ 5 ∧ x = nI n := by
  have h0 : ¬ x < 0 := fun hh => h.1 (Int32.lt_trans hh (by decide))
  obtain ⟨h3, h4⟩ := i32_nn h0
  obtain ⟨h1, h2⟩ := h
  rw [h4, show (1 : Int32) = nI 1 from rfl, nIlt h3 (by decide)] at h1
  rw [h4, show (5 : Int32) = nI 5 from rfl, nIlt (by decide) h3] at h2
  exact ⟨_, by omega, by omega, h4⟩
theorem pow5_le {n : Nat} (h : n ≤ 5) : 5 ^ n ≤ 3125 := Nat.le_trans (Nat.pow_le_pow_right (by decide) h) (by decide)
theorem scR_m1 {p : Nat → Prop} [DecidablePred p] {lo : Nat} {s : Ss} (h : s.2 = none) (hs : s.1 < 10000) : ∀ n, n < 10000 → (scR p (-1) lo s n).2 = none
  | 0, _ => h
  | n + 1, hn => by
    have ih := scR_m1 (p := p) (lo := lo) h hs n (by omega)
    have hle := scR_le (p := p) (wv := -1) (lo := lo) (s := s) n
    show (sc1 p (-1) (scR p (-1) lo s n) (lo + n)).2 = none
    generalize scR p (-1) lo s n = t at *
    unfold sc1
    rw [ih]
    simp only
    split
    · simp only
      rw [if_neg (m1_ne (by omega))]
    · exact ih
theorem seekR_ok {d : Nat} {sx : Sx} {I : Ints} {L : Lngs} {R : Rfs} {q : Q3} {a : Ce} {lc : List (Nat × Nat)} {lf : Nat → Nat} {gl : Nat → List Nat} {sn : Nat → Nat} {c n : Nat} {wv : Int32} (hC : CC a lc lf gl sn c I L R) (hn1 : 1 ≤ n) (hn : n ≤ 5)
    (h : ∀ J T, CSQ a lc lf gl sn c I J L L R T → J 58 0 = nI (rdS a sn n wv).1 → J 58 1 = wrV (rdS a sn n wv).2 → q none J L T) : E0 mX6_seek (d + n + 5) sx [.ref 58, .ref c, .ref 37, .int (nI n), .int wv] I L R q := by
  have hCC := hC
  obtain ⟨hc, hR, hW, hE, hCl, hEv, hRt⟩ := hC
  have w4 := hW.2.2.2.2.1
  have hc' : c = 2 ∨ c = 14 := hc
  refine EX6_seek hc (show S0[37]? = some (Sum.inr (.int, 6)) from rfl) ?_
  refine min_ok (b := 5) (by omega) (by decide) ?_
  rw [Nat.min_eq_left hn]
  have hF0 : Kp (fun k => k ≠ 58 ∧ k ≠ 59) I (u2 (u2 (u2 (u2 I 58 3 (nI n)) 58 2 wv) 58 1 (-1)) 58 0 0) := (((Kp.rf.up (by simp)).up (by simp)).up (by simp)).up (by simp)
  have e11 : (u2 (u2 (u2 (u2 I 58 3 (nI n)) 58 2 wv) 58 1 (-1)) 58 0 0) c 11 = nI (a 4).val := by rw [hF0 c ⟨by omega, by omega⟩]; exact hCl.1.2.2.2.2.2
  refine RX6_seek_16 hc ?_
  rw [e11, nIc (by omega)]
  refine ⟨i32_ltz (by omega), by omega, by omega, ?_⟩
  have hF1 : Kp (fun k => k ≠ 58 ∧ k ≠ 59) I (cp2 (u2 (u2 (u2 (u2 I 58 3 (nI n)) 58 2 wv) 58 1 (-1)) 58 0 0) (c + 7) 0 59 0 (a 4).val) := hF0.tr (fun k hk => cp2_n hk.2)
  refine tryFrom_ok (lf := lf) (gl := gl) (sn := sn) (wv := wv) (n := n) hc hW hE (by rw [u2_kk _ _ _ _ (by decide), u2_ss]) (by rw [u2_ss]) (I0 := I) hCl (fun g hg => hEv.2.2 g hg) hn n d 0 0 (0, none) _ _ (by omega) (by decide) (by have := pow5_le hn; omega) rfl ⟨?_, ?_, ?_, ?_⟩ (fun g hg => ?_) hF1 (fun J hJ _ hFJ => RX6_seek_58 ?_)
  · rw [cp2_n (by decide), u2_ss]; rfl
  · rw [cp2_n (by decide), u2_kk _ _ _ _ (by decide), u2_ss]; rfl
  · rw [cp2_n (by decide), u2_kk _ _ _ _ (by decide), u2_kk _ _ _ _ (by decide), u2_ss]
  · rw [cp2_n (by decide), u2_kk _ _ _ _ (by decide), u2_kk _ _ _ _ (by decide), u2_kk _ _ _ _ (by decide), u2_ss]
  · rw [Nat.zero_mul, Nat.zero_add, cp2_in (Nat.zero_le _) (by omega), Nat.zero_add, Nat.sub_zero, hF0 (c + 7) ⟨by omega, by omega⟩]
    exact (hCl.2.2.2.2.1 g hg).2.1
  · rw [Nat.zero_mul] at hJ
    refine h J _ ⟨⟨hc, ?_, hW, hE, hCl.fr (fun k h1 h2 => hFJ k ⟨by omega, by omega⟩) rfl, hEv.fr (fun k h1 h2 => hFJ k ⟨by omega, by omega⟩), fun g hg h0 => ?_⟩, hFJ.mn (fun k hk => ⟨by unfold SP at hk; omega, by unfold SP at hk; omega⟩), Kp.rf, (Kp.rf.up (by simp)).up (by simp)⟩ hJ.1 hJ.2.1
    · rw [u2_nn _ _ _ _ (by decide), u2_nn _ _ _ _ (by decide)]; exact hR
    · rw [hFJ 43 (by decide)] at h0
      exact (hRt g hg h0).fr (hFJ _ ⟨by omega, by omega⟩) (hFJ _ ⟨by omega, by omega⟩) rfl
theorem CSQ.rf {a : Ce} {lc : List (Nat × Nat)} {lf : Nat → Nat} {gl : Nat → List Nat} {sn : Nat → Nat} {c : Nat} {I : Ints} {L : Lngs} {R : Rfs} (h : CC a lc lf gl sn c I L R) : CSQ a lc lf gl sn c I I L L R R := (CQ.rf h).cs
theorem c_read {d : Nat} {sx : Sx} {I : Ints} {L : Lngs} {R : Rfs} {q : Q3} {a : Ce} {lc : List (Nat × Nat)} {lf : Nat → Nat} {gl : Nat → List Nat} {sn : Nat → Nat} {c : Nat} (hC : CC a lc lf gl sn c I L R) {x : Int32} (h : ∀ J T, CSQ a lc lf gl sn c I J L L R T → q (some (.int (spRead a sn x))) J L T) : E0 mX11_read (d + 11) sx [.ref 0, .int x] I L R q := by
  have hCC := hC
  obtain ⟨hc, hR, hW, hE, hCl, hEv, hRt⟩ := hC
  have h0 := h I R (CSQ.rf hCC)
  have hno : ¬ (in15 x ∧ cntS sn 6 ≠ 0) → q (some (.int (-1))) I L R := by
    intro hn
    have e : spRead a sn x = -1 := by unfold spRead; rw [if_neg hn]
    rw [e] at h0
    exact h0
  refine EX11_read ⟨fun c1 => hno (fun w => w.1.1 c1), fun c1 => ⟨fun c2 => hno (fun w => w.1.2 c2), fun c2 => ?_⟩⟩
  refine seenGuests_ok hEv hE.2.2.1 ?_
  have hcn := cntS_le sn 6
  obtain ⟨n, hn1, hn5, e⟩ := in15_of ⟨c1, c2⟩
  refine RX11_read_17 hc hR ⟨fun c3 => ?_, fun c3 => hno (fun w => w.2 ?_)⟩
  · rw [show (0 : Int32) = nI 0 from rfl, nIeq (by omega) (by decide)] at c3
    have e1 : spRead a sn x = nI (rdS a sn n (-1)).1 := by unfold spRead; rw [if_pos ⟨⟨c1, c2⟩, c3⟩, e, nIc (by omega)]
    rw [e1] at h
    rw [e]
    have hs := seekR_ok (d := d + (5 - n)) (sx := sx) (n := n) (wv := -1) (q := fun r J K T => Y mX11_read (d + 11) sx 42 [(0, .ref 0)] (r.toList ++ []) J K T q) hCC hn1 hn5 (fun J T hJ j0 j1 => RX11_read_42 (by rw [j0]; exact h J T hJ))
    rw [show d + (5 - n) + n + 5 = d + 10 by omega] at hs
    exact hs
  · rw [show (0 : Int32) = nI 0 from rfl, nIeq (by omega) (by decide)] at c3
    exact c3
theorem c_dance {d : Nat} {sx : Sx} {I : Ints} {L : Lngs} {R : Rfs} {q : Q3} {a : Ce} {lc : List (Nat × Nat)} {lf : Nat → Nat} {gl : Nat → List Nat} {sn : Nat → Nat} {c : Nat} (hC : CC a lc lf gl sn c I L R) {x i : Int32} (h : ∀ J T, CSQ a lc lf gl sn c I J L L R T → q (some (.int (spDance a sn x i))) J L T) : E0 mX11_dance (d + 11) sx [.ref 0, .int x, .int i] I L R q := by
  have hCC := hC
  obtain ⟨hc, hR, hW, hE, hCl, hEv, hRt⟩ := hC
  have h0 := h I R (CSQ.rf hCC)
  have hno : ¬ (in15 x ∧ ¬ i < 0 ∧ cntS sn 6 ≠ 0) → q (some (.int (-1))) I L R := by
    intro hn
    have e : spDance a sn x i = -1 := by unfold spDance; rw [if_neg hn]
    rw [e] at h0
    exact h0
  refine EX11_dance ⟨fun c1 => hno (fun w => w.1.1 c1), fun c1 => ⟨fun c2 => hno (fun w => w.1.2 c2), fun c2 => ⟨fun c9 => hno (fun w => w.2.1 c9), fun c9 => ?_⟩⟩⟩
  refine seenGuests_ok hEv hE.2.2.1 ?_
  have hcn := cntS_le sn 6
  obtain ⟨n, hn1, hn5, e⟩ := in15_of ⟨c1, c2⟩
  refine RX11_dance_21 hc hR ⟨fun c3 => ?_, fun c3 => hno (fun w => w.2.2 ?_)⟩
  · rw [show (0 : Int32) = nI 0 from rfl, nIeq (by omega) (by decide)] at c3
    have e1 : spDance a sn x i = wrV (rdS a sn n i).2 := by unfold spDance; rw [if_pos ⟨⟨c1, c2⟩, c9, c3⟩, e, nIc (by omega)]
    rw [e1] at h
    rw [e]
    have hs := seekR_ok (d := d + (5 - n)) (sx := sx) (n := n) (wv := i) (q := fun r J K T => Y mX11_dance (d + 11) sx 46 [(0, .ref 0)] (r.toList ++ []) J K T q) hCC hn1 hn5 (fun J T hJ j0 j1 => RX11_dance_46 (by rw [j1]; exact h J T hJ))
    rw [show d + (5 - n) + n + 5 = d + 10 by omega] at hs
    exact hs
  · rw [show (0 : Int32) = nI 0 from rfl, nIeq (by omega) (by decide)] at c3
    exact c3
/-! the model's -/
theorem dgs_get : ∀ n m i, i < n → (dgs n m).getD i 0 = m / 5 ^ (n - 1 - i) % 5
  | 0, _, _, h => absurd h (Nat.not_lt_zero _)
  | n + 1, m, i, h => by
    show (dgs n (m / 5) ++ [m % 5]).getD i 0 = _
    by_cases e : i = n
    · rw [e, getD_r (by rw [dgs_len]; omega), dgs_len, Nat.sub_self]
      rw [show n + 1 - 1 - n = 0 by omega, Nat.pow_zero, Nat.div_one]
      rfl
    · rw [getD_l (by rw [dgs_len]; omega), dgs_get n (m / 5) i (by omega), Nat.div_div_eq_div_mul]
      rw [show n + 1 - 1 - i = (n - 1 - i) + 1 by omega, Nat.pow_succ, Nat.mul_comm]
theorem wk_w {a : Ce} {cl : Nat → Bool} : ∀ (l : List Nat) (p : Nat), wk a cl 1 l p = p
  | [], _ => rfl
  | s :: l, p => by
    show wk a cl 1 l (aft a cl 1 p s) = p
    rw [show aft a cl 1 p s = p by unfold aft; rw [if_pos (Or.inr rfl)]]
    exact wk_w l p
theorem isRead_ok {d : Nat} {sx : Sx} {I : Ints} {L : Lngs} {R : Rfs} {q : Q3} {a : Ce} {lc : List (Nat × Nat)} {lf : Nat → Nat} {gl : Nat → List Nat} {sn : Nat → Nat} {n m : Nat} (hn1 : 1 ≤ n) (hn : n ≤ 5) (hm : m < 5 ^ n) (hM : MC a lc lf gl sn I)
    (ht : hitL a sn (dgs n m) → ∀ J, Fr AQ FQ I J → q (some (.int 1)) J L R) (hf : ¬ hitL a sn (dgs n m) → ∀ J, Fr AQ FQ I J → q (some (.int 0)) J L R) : E0 mX12_isRead (d + 6) sx [.ref 92, .int (nI n), .int (nI m)] I L R q := by
  obtain ⟨hW, hE, hM, hl, hEv, hS⟩ := hM
  have w4 := hW.2.2.2.2.1
  have hm5 : m < 3125 := Nat.lt_of_lt_of_le hm (pow5_le hn)
  have hlp : ∀ k g f : Nat, ∀ J, k = (a 4).val - g → g ≤ (a 4).val → Fr AQ FQ I J → ALo J 108 0 (dgs n m) → (f = 1 ∧ ∀ x, x < g → sn x = 0 ∨ wk a (clP a) (gK a x).val (dgs n m) (hom a x) / 4 + 1 = sn x) ∨ (f = 0 ∧ ¬ hitL a sn (dgs n m)) → Y mX12_isRead (d + 6) sx 38 [(0, .ref 92), (1, .int (nI n)), (4, .int (nI f)), (5, .int (nI g))] [] J L R q := by
    intro k
    induction k with
    | zero =>
      intro g f J hk hg hF hA hi
      have hMJ := hM.fr hF rfl rfl
      refine RX12_isRead_38 (guests_ok hMJ ?_)
      refine RX12_isRead_44 ⟨fun cc => ⟨?_, ?_⟩, fun cc => ?_⟩
      · rcases hi with ⟨rfl, _⟩ | ⟨rfl, _⟩ <;> decide
      · rcases hi with ⟨rfl, h1⟩ | ⟨rfl, h1⟩
        · exact ht (fun x hx => h1 x (by omega)) J hF
        · exact hf h1 J hF
      · exfalso
        simp (disch := omega) only [nlit, natrem, nIrm, nIam, nIam',  nI_add, pk_mul, nIsub, nIrem, nIdiv, nIand1, nIand3, nIand7, nIand31, nIshr, nIle, nIlt, nIeq, nIc, vpI, nIm1, m1nI, m1lt, nIlm, m1le, nIlem, nIneg, u2_ss, u2_nn, u2_kk, nIm1n, m1nIn, m1ltn, nIlmn, m1len, nIlemn] at cc
        omega
    | succ k ih =>
      intro g f J hk hg hF hA hi
      have hMJ := hM.fr hF rfl rfl
      have e48 : J 106 (48 + g) = snV (sn g) := by
        have := hS g (by omega)
        rw [Nat.zero_add] at this
        rw [hF.ar 106 rfl rfl]
        exact this
      have hs64 := hE.2.2.1 g (by omega)
      have hlt := wk_lt (cl := clP a) (kd := (gK a g).val) hW.1.2 hW.2.1.2 (dgs n m) _ (hom_lt hW (g := g) (by omega))
      refine RX12_isRead_38 (guests_ok hMJ ?_)
      rcases hi with ⟨rfl, h1⟩ | ⟨rfl, h1⟩
      · have hnx : (sn g = 0 ∨ wk a (clP a) (gK a g).val (dgs n m) (hom a g) / 4 + 1 = sn g) → ∀ x, x < g + 1 → sn x = 0 ∨ wk a (clP a) (gK a x).val (dgs n m) (hom a x) / 4 + 1 = sn x := by
          intro hh x hx
          by_cases e : x = g
          · rw [e]; exact hh
          · exact h1 x (by omega)
        by_cases h0 : sn g = 0
        · have e49 : J 106 (48 + g) = -nI 1 := by rw [e48, snV_0 h0]; rfl
          have e6 : (-nI 1 < nI 0) = True := eq_true (by decide)
          refine RX12_isRead_44  ⟨fun c1 => ⟨?_, ?_⟩, fun c1 => ⟨fun c2 => ⟨?_, ?_⟩, fun c2 => ⟨?_, ⟨fun c3 => ?_, fun c3 => ?_⟩⟩⟩⟩
          · (try simp (disch := omega) only [nlit, natrem, nIrm, nIam, nIam',  nI_add, pk_mul, nIsub, nIrem, nIdiv, nIand1, nIand3, nIand7, nIand31, nIshr, nIle, nIlt, nIeq, nIc, vpI, nIm1, m1nI, m1lt, nIlm, m1le, nIlem, nIneg, u2_ss, u2_nn, u2_kk, nIm1n, m1nIn, m1ltn, nIlmn, m1len, nIlemn, e49, e6] at c1) <;> (try simp (disch := omega) only [nlit, natrem, nIrm, nIam, nIam',  nI_add, pk_mul, nIsub, nIrem, nIdiv, nIand1, nIand3, nIand7, nIand31, nIshr, nIle, nIlt, nIeq, nIc, vpI, nIm1, m1nI, m1lt, nIlm, m1le, nIlem, nIneg, u2_ss, u2_nn, u2_kk, nIm1n, m1nIn, m1ltn, nIlmn, m1len, nIlemn, e49, e6]) <;> (first | omega | trivial | decide)
          · (try simp (disch := omega) only [nlit, natrem, nIrm, nIam, nIam',  nI_add, pk_mul, nIsub, nIrem, nIdiv, nIand1, nIand3, nIand7, nIand31, nIshr, nIle, nIlt, nIeq, nIc, vpI, nIm1, m1nI, m1lt, nIlm, m1le, nIlem, nIneg, u2_ss, u2_nn, u2_kk, nIm1n, m1nIn, m1ltn, nIlmn, m1len, nIlemn, e49, e6] at c1); (try simp (disch := omega) only [nlit, natrem, nIrm, nIam, nIam',  nI_add, pk_mul, nIsub, nIrem, nIdiv, nIand1, nIand3, nIand7, nIand31, nIshr, nIle, nIlt, nIeq, nIc, vpI, nIm1, m1nI, m1lt, nIlm, m1le, nIlem, nIneg, u2_ss, u2_nn, u2_kk, nIm1n, m1nIn, m1ltn, nIlmn, m1len, nIlemn, e49, e6])
            omega
          · (try simp (disch := omega) only [nlit, natrem, nIrm, nIam, nIam',  nI_add, pk_mul, nIsub, nIrem, nIdiv, nIand1, nIand3, nIand7, nIand31, nIshr, nIle, nIlt, nIeq, nIc, vpI, nIm1, m1nI, m1lt, nIlm, m1le, nIlem, nIneg, u2_ss, u2_nn, u2_kk, nIm1n, m1nIn, m1ltn, nIlmn, m1len, nIlemn, e49, e6] at c1 c2) <;> (try simp (disch := omega) only [nlit, natrem, nIrm, nIam, nIam',  nI_add, pk_mul, nIsub, nIrem, nIdiv, nIand1, nIand3, nIand7, nIand31, nIshr, nIle, nIlt, nIeq, nIc, vpI, nIm1, m1nI, m1lt, nIlm, m1le, nIlem, nIneg, u2_ss, u2_nn, u2_kk, nIm1n, m1nIn, m1ltn, nIlmn, m1len, nIlemn, e49, e6]) <;> (first | omega | trivial | decide)
          · (try simp (disch := omega) only [nlit, natrem, nIrm, nIam, nIam',  nI_add, pk_mul, nIsub, nIrem, nIdiv, nIand1, nIand3, nIand7, nIand31, nIshr, nIle, nIlt, nIeq, nIc, vpI, nIm1, m1nI, m1lt, nIlm, m1le, nIlem, nIneg, u2_ss, u2_nn, u2_kk, nIm1n, m1nIn, m1ltn, nIlmn, m1len, nIlemn, e49, e6] at c1 c2) <;> (first | omega | exact absurd rfl c1 | exact absurd trivial c1 | exact absurd rfl c2 | exact absurd trivial c2)
          · (try simp (disch := omega) only [nlit, natrem, nIrm, nIam, nIam',  nI_add, pk_mul, nIsub, nIrem, nIdiv, nIand1, nIand3, nIand7, nIand31, nIshr, nIle, nIlt, nIeq, nIc, vpI, nIm1, m1nI, m1lt, nIlm, m1le, nIlem, nIneg, u2_ss, u2_nn, u2_kk, nIm1n, m1nIn, m1ltn, nIlmn, m1len, nIlemn, e49, e6] at c1 c2) <;> (try simp (disch := omega) only [nlit, natrem, nIrm, nIam, nIam',  nI_add, pk_mul, nIsub, nIrem, nIdiv, nIand1, nIand3, nIand7, nIand31, nIshr, nIle, nIlt, nIeq, nIc, vpI, nIm1, m1nI, m1lt, nIlm, m1le, nIlem, nIneg, u2_ss, u2_nn, u2_kk, nIm1n, m1nIn, m1ltn, nIlmn, m1len, nIlemn, e49, e6]) <;> (first | omega | trivial | decide)
          · (try simp (disch := omega) only [nlit, natrem, nIrm, nIam, nIam',  nI_add, pk_mul, nIsub, nIrem, nIdiv, nIand1, nIand3, nIand7, nIand31, nIshr, nIle, nIlt, nIeq, nIc, vpI, nIm1, m1nI, m1lt, nIlm, m1le, nIlem, nIneg, u2_ss, u2_nn, u2_kk, nIm1n, m1nIn, m1ltn, nIlmn, m1len, nIlemn, e49, e6] at c1 c2 c3); (try simp (disch := omega) only [nlit, natrem, nIrm, nIam, nIam',  nI_add, pk_mul, nIsub, nIrem, nIdiv, nIand1, nIand3, nIand7, nIand31, nIshr, nIle, nIlt, nIeq, nIc, vpI, nIm1, m1nI, m1lt, nIlm, m1le, nIlem, nIneg, u2_ss, u2_nn, u2_kk, nIm1n, m1nIn, m1ltn, nIlmn, m1len, nIlemn, e49, e6])
            exact ih (g + 1) 1 J (by omega) (by omega) hF hA (Or.inl ⟨rfl, hnx (Or.inl h0)⟩)
          · (try simp (disch := omega) only [nlit, natrem, nIrm, nIam, nIam',  nI_add, pk_mul, nIsub, nIrem, nIdiv, nIand1, nIand3, nIand7, nIand31, nIshr, nIle, nIlt, nIeq, nIc, vpI, nIm1, m1nI, m1lt, nIlm, m1le, nIlem, nIneg, u2_ss, u2_nn, u2_kk, nIm1n, m1nIn, m1ltn, nIlmn, m1len, nIlemn, e49, e6] at c1 c2 c3) <;> (first | omega | exact absurd rfl c1 | exact absurd trivial c1 | exact absurd rfl c2 | exact absurd trivial c2 | exact absurd rfl c3 | exact absurd trivial c3)
        · rw [snV_1 h0] at e48
          refine RX12_isRead_44  ⟨fun c1 => ⟨?_, ?_⟩, fun c1 => ⟨fun c2 => ⟨?_, ?_⟩, fun c2 => ⟨?_, ⟨fun c3 => ?_, fun c3 => ?_⟩⟩⟩⟩
          · (try simp (disch := omega) only [nlit, natrem, nIrm, nIam, nIam',  nI_add, pk_mul, nIsub, nIrem, nIdiv, nIand1, nIand3, nIand7, nIand31, nIshr, nIle, nIlt, nIeq, nIc, vpI, nIm1, m1nI, m1lt, nIlm, m1le, nIlem, nIneg, u2_ss, u2_nn, u2_kk, nIm1n, m1nIn, m1ltn, nIlmn, m1len, nIlemn, e48] at c1) <;> (try simp (disch := omega) only [nlit, natrem, nIrm, nIam, nIam',  nI_add, pk_mul, nIsub, nIrem, nIdiv, nIand1, nIand3, nIand7, nIand31, nIshr, nIle, nIlt, nIeq, nIc, vpI, nIm1, m1nI, m1lt, nIlm, m1le, nIlem, nIneg, u2_ss, u2_nn, u2_kk, nIm1n, m1nIn, m1ltn, nIlmn, m1len, nIlemn, e48]) <;> (first | omega | trivial | decide)
          · (try simp (disch := omega) only [nlit, natrem, nIrm, nIam, nIam',  nI_add, pk_mul, nIsub, nIrem, nIdiv, nIand1, nIand3, nIand7, nIand31, nIshr, nIle, nIlt, nIeq, nIc, vpI, nIm1, m1nI, m1lt, nIlm, m1le, nIlem, nIneg, u2_ss, u2_nn, u2_kk, nIm1n, m1nIn, m1ltn, nIlmn, m1len, nIlemn, e48] at c1); (try simp (disch := omega) only [nlit, natrem, nIrm, nIam, nIam',  nI_add, pk_mul, nIsub, nIrem, nIdiv, nIand1, nIand3, nIand7, nIand31, nIshr, nIle, nIlt, nIeq, nIc, vpI, nIm1, m1nI, m1lt, nIlm, m1le, nIlem, nIneg, u2_ss, u2_nn, u2_kk, nIm1n, m1nIn, m1ltn, nIlmn, m1len, nIlemn, e48])
            omega
          · (try simp (disch := omega) only [nlit, natrem, nIrm, nIam, nIam',  nI_add, pk_mul, nIsub, nIrem, nIdiv, nIand1, nIand3, nIand7, nIand31, nIshr, nIle, nIlt, nIeq, nIc, vpI, nIm1, m1nI, m1lt, nIlm, m1le, nIlem, nIneg, u2_ss, u2_nn, u2_kk, nIm1n, m1nIn, m1ltn, nIlmn, m1len, nIlemn, e48] at c1 c2) <;> (try simp (disch := omega) only [nlit, natrem, nIrm, nIam, nIam',  nI_add, pk_mul, nIsub, nIrem, nIdiv, nIand1, nIand3, nIand7, nIand31, nIshr, nIle, nIlt, nIeq, nIc, vpI, nIm1, m1nI, m1lt, nIlm, m1le, nIlem, nIneg, u2_ss, u2_nn, u2_kk, nIm1n, m1nIn, m1ltn, nIlmn, m1len, nIlemn, e48]) <;> (first | omega | trivial | decide)
          · (try simp (disch := omega) only [nlit, natrem, nIrm, nIam, nIam',  nI_add, pk_mul, nIsub, nIrem, nIdiv, nIand1, nIand3, nIand7, nIand31, nIshr, nIle, nIlt, nIeq, nIc, vpI, nIm1, m1nI, m1lt, nIlm, m1le, nIlem, nIneg, u2_ss, u2_nn, u2_kk, nIm1n, m1nIn, m1ltn, nIlmn, m1len, nIlemn, e48] at c1 c2) <;> (first | omega | exact absurd rfl c1 | exact absurd trivial c1 | exact absurd rfl c2 | exact absurd trivial c2)
          · (try simp (disch := omega) only [nlit, natrem, nIrm, nIam, nIam',  nI_add, pk_mul, nIsub, nIrem, nIdiv, nIand1, nIand3, nIand7, nIand31, nIshr, nIle, nIlt, nIeq, nIc, vpI, nIm1, m1nI, m1lt, nIlm, m1le, nIlem, nIneg, u2_ss, u2_nn, u2_kk, nIm1n, m1nIn, m1ltn, nIlmn, m1len, nIlemn, e48] at c1 c2) <;> (try simp (disch := omega) only [nlit, natrem, nIrm, nIam, nIam',  nI_add, pk_mul, nIsub, nIrem, nIdiv, nIand1, nIand3, nIand7, nIand31, nIshr, nIle, nIlt, nIeq, nIc, vpI, nIm1, m1nI, m1lt, nIlm, m1le, nIlem, nIneg, u2_ss, u2_nn, u2_kk, nIm1n, m1nIn, m1ltn, nIlmn, m1len, nIlemn, e48]) <;> (first | omega | trivial | decide)
          · (try simp (disch := omega) only [nlit, natrem, nIrm, nIam, nIam',  nI_add, pk_mul, nIsub, nIrem, nIdiv, nIand1, nIand3, nIand7, nIand31, nIshr, nIle, nIlt, nIeq, nIc, vpI, nIm1, m1nI, m1lt, nIlm, m1le, nIlem, nIneg, u2_ss, u2_nn, u2_kk, nIm1n, m1nIn, m1ltn, nIlmn, m1len, nIlemn, e48] at c1 c2 c3) <;> (first | omega | exact absurd rfl c1 | exact absurd trivial c1 | exact absurd rfl c2 | exact absurd trivial c2 | exact absurd rfl c3 | exact absurd trivial c3)
          · (try simp (disch := omega) only [nlit, natrem, nIrm, nIam, nIam',  nI_add, pk_mul, nIsub, nIrem, nIdiv, nIand1, nIand3, nIand7, nIand31, nIshr, nIle, nIlt, nIeq, nIc, vpI, nIm1, m1nI, m1lt, nIlm, m1le, nIlem, nIneg, u2_ss, u2_nn, u2_kk, nIm1n, m1nIn, m1ltn, nIlmn, m1len, nIlemn, e48] at c1 c2 c3); (try simp (disch := omega) only [nlit, natrem, nIrm, nIam, nIam',  nI_add, pk_mul, nIsub, nIrem, nIdiv, nIand1, nIand3, nIand7, nIand31, nIshr, nIle, nIlt, nIeq, nIc, vpI, nIm1, m1nI, m1lt, nIlm, m1le, nIlem, nIneg, u2_ss, u2_nn, u2_kk, nIm1n, m1nIn, m1ltn, nIlmn, m1len, nIlemn, e48])
            refine guestK_ok hMJ (by omega) ?_
            have tail : ∀ l M, Fr AQ FQ J M → M 92 25 = nI l.length → l.length ≤ 600 → ALo M 108 0 l → ALo M 108 0 (dgs n m) → (l ≠ [] → (gK a g).val ≠ 1) → (∀ x ∈ l, x ≤ 4) → wk a (clP a) (gK a g).val l (hom a g) = wk a (clP a) (gK a g).val (dgs n m) (hom a g) → E0 mX12_walks (d + 5) sx [.ref 92, .int (nI g), .int 1] M L R (fun r J' K' T' => Y mX12_isRead (d + 6) sx 92 [(0, .ref 92), (1, .int (nI n)), (5, .int (nI g))] (r.toList ++ []) J' K' T' q) := by
              intro l M hM1 hM2 hl6 hM3 hM3' hM4 hM5 hM6
              have hFM := hF.tr hM1
              refine walks_ok (al := 1) (cl := clP a) (hM.fr hFM rfl rfl) hW (by omega) (by decide) clP_M hl6 hM2 hM3 hM4 hM5 (fun N hN1 hN2 => RX12_isRead_92 ?_)
              rw [hM6] at hN1
              have hFN : Fr AQ FQ I N := hFM.tr (hN2.mn rfl rfl)
              have e48N : N 106 (48 + g) = nI (sn g - 1) := by rw [hN2.ar 106 rfl rfl, hM1.ar 106 rfl rfl]; exact e48
              have hAN : ALo N 108 0 (dgs n m) := hM3'.congr (hN2.ar 108 rfl rfl)
              refine cellNow_ok hN1 ?_
              refine RX12_isRead_96  ⟨?_, ⟨fun c1 => ?_, fun c1 => ?_⟩⟩
              · (try simp (disch := omega) only [nlit, natrem, nIrm, nIam, nIam',  nI_add, pk_mul, nIsub, nIrem, nIdiv, nIand1, nIand3, nIand7, nIand31, nIshr, nIle, nIlt, nIeq, nIc, vpI, nIm1, m1nI, m1lt, nIlm, m1le, nIlem, nIneg, u2_ss, u2_nn, u2_kk, nIm1n, m1nIn, m1ltn, nIlmn, m1len, nIlemn, e48N]) <;> (first | omega | trivial)
              · (try simp (disch := omega) only [nlit, natrem, nIrm, nIam, nIam',  nI_add, pk_mul, nIsub, nIrem, nIdiv, nIand1, nIand3, nIand7, nIand31, nIshr, nIle, nIlt, nIeq, nIc, vpI, nIm1, m1nI, m1lt, nIlm, m1le, nIlem, nIneg, u2_ss, u2_nn, u2_kk, nIm1n, m1nIn, m1ltn, nIlmn, m1len, nIlemn, e48N] at c1); (try simp (disch := omega) only [nlit, natrem, nIrm, nIam, nIam',  nI_add, pk_mul, nIsub, nIrem, nIdiv, nIand1, nIand3, nIand7, nIand31, nIshr, nIle, nIlt, nIeq, nIc, vpI, nIm1, m1nI, m1lt, nIlm, m1le, nIlem, nIneg, u2_ss, u2_nn, u2_kk, nIm1n, m1nIn, m1ltn, nIlmn, m1len, nIlemn, e48N])
                refine ih (g + 1) 0 N (by omega) (by omega) hFN hAN (Or.inr ⟨rfl, fun w => ?_⟩)
                rcases w g (by omega) with w | w
                · exact h0 w
                · omega
              · (try simp (disch := omega) only [nlit, natrem, nIrm, nIam, nIam',  nI_add, pk_mul, nIsub, nIrem, nIdiv, nIand1, nIand3, nIand7, nIand31, nIshr, nIle, nIlt, nIeq, nIc, vpI, nIm1, m1nI, m1lt, nIlm, m1le, nIlem, nIneg, u2_ss, u2_nn, u2_kk, nIm1n, m1nIn, m1ltn, nIlmn, m1len, nIlemn, e48N] at c1); (try simp (disch := omega) only [nlit, natrem, nIrm, nIam, nIam',  nI_add, pk_mul, nIsub, nIrem, nIdiv, nIand1, nIand3, nIand7, nIand31, nIshr, nIle, nIlt, nIeq, nIc, vpI, nIm1, m1nI, m1lt, nIlm, m1le, nIlem, nIneg, u2_ss, u2_nn, u2_kk, nIm1n, m1nIn, m1ltn, nIlmn, m1len, nIlemn, e48N])
                exact ih (g + 1) 1 N (by omega) (by omega) hFN hAN (Or.inl ⟨rfl, hnx (Or.inr (by omega))⟩)
            have hAl : ∀ v, ALo (u2 J 92 25 v) 108 0 (dgs n m) := fun v => hA.congr (fun j => u2_nn _ _ _ _ (by decide))
            refine RX12_isRead_73  ⟨fun c1 => ?_, fun c1 => ?_⟩
            · (try simp (disch := omega) only [nlit, natrem, nIrm, nIam, nIam',  nI_add, pk_mul, nIsub, nIrem, nIdiv, nIand1, nIand3, nIand7, nIand31, nIshr, nIle, nIlt, nIeq, nIc, vpI, nIm1, m1nI, m1lt, nIlm, m1le, nIlem, nIneg, u2_ss, u2_nn, u2_kk, nIm1n, m1nIn, m1ltn, nIlmn, m1len, nIlemn] at c1); (try simp (disch := omega) only [nlit, natrem, nIrm, nIam, nIam',  nI_add, pk_mul, nIsub, nIrem, nIdiv, nIand1, nIand3, nIand7, nIand31, nIshr, nIle, nIlt, nIeq, nIc, vpI, nIm1, m1nI, m1lt, nIlm, m1le, nIlem, nIneg, u2_ss, u2_nn, u2_kk, nIm1n, m1nIn, m1ltn, nIlmn, m1len, nIlemn])
              exact tail (dgs n m) _ (Fr.rf.uf rfl) (by rw [u2_ss, dgs_len]) (by rw [dgs_len]; omega) (hAl _) (hAl _) (fun _ => c1) (dgs_le n m) rfl
            · (try simp (disch := omega) only [nlit, natrem, nIrm, nIam, nIam',  nI_add, pk_mul, nIsub, nIrem, nIdiv, nIand1, nIand3, nIand7, nIand31, nIshr, nIle, nIlt, nIeq, nIc, vpI, nIm1, m1nI, m1lt, nIlm, m1le, nIlem, nIneg, u2_ss, u2_nn, u2_kk, nIm1n, m1nIn, m1ltn, nIlmn, m1len, nIlemn] at c1); (try simp (disch := omega) only [nlit, natrem, nIrm, nIam, nIam',  nI_add, pk_mul, nIsub, nIrem, nIdiv, nIand1, nIand3, nIand7, nIand31, nIshr, nIle, nIlt, nIeq, nIc, vpI, nIm1, m1nI, m1lt, nIlm, m1le, nIlem, nIneg, u2_ss, u2_nn, u2_kk, nIm1n, m1nIn, m1ltn, nIlmn, m1len, nIlemn])
              exact tail [] _ (Fr.rf.uf rfl) (by rw [u2_ss]; rfl) (by decide) ALo.nil (hAl _) (fun w => absurd rfl w) (fun x hx => absurd hx List.not_mem_nil) (by rw [c1, wk_w, wk_w])
      · refine RX12_isRead_44 ⟨fun cc => ?_, fun cc => ⟨fun c2 => ⟨Or.inl rfl, hf h1 J hF⟩, fun c2 => absurd rfl c2⟩⟩
        exfalso
        simp (disch := omega) only [nlit, natrem, nIrm, nIam, nIam',  nI_add, pk_mul, nIsub, nIrem, nIdiv, nIand1, nIand3, nIand7, nIand31, nIshr, nIle, nIlt, nIeq, nIc, vpI, nIm1, m1nI, m1lt, nIlm, m1le, nIlem, nIneg, u2_ss, u2_nn, u2_kk, nIm1n, m1nIn, m1ltn, nIlmn, m1len, nIlemn] at cc
        omega
  have hdl : ∀ j : Nat, ∀ J, j < n → Fr [108] [] I J → (∀ i, j < i → i < n → J 108 i = nI ((dgs n m).getD i 0)) → Y mX12_isRead (d + 6) sx 7 [(0, .ref 92), (1, .int (nI n)), (3, .int (nI (m / 5 ^ (n - 1 - j)))), (4, .int (nI j))] [] J L R q := by
    intro j
    induction j with
    | zero =>
      intro J hj hF hi
      have hb : m / 5 ^ (n - 1 - 0) ≤ m := Nat.div_le_self _ _
      have ed := dgs_get n m 0 hj
      refine RX12_isRead_7 ⟨fun cc => absurd cc (by decide), fun cc => ⟨?_, ?_⟩⟩
      · simp (disch := omega) only [nlit, natrem, nIrm, nIam, nIam',  nI_add, pk_mul, nIsub, nIrem, nIdiv, nIand1, nIand3, nIand7, nIand31, nIshr, nIle, nIlt, nIeq, nIc, vpI, nIm1, m1nI, m1lt, nIlm, m1le, nIlem, nIneg, u2_ss, u2_nn, u2_kk, nIm1n, m1nIn, m1ltn, nIlmn, m1len, nIlemn]; omega
      · refine RX12_isRead_7 ⟨fun _ => ?_, fun cc => absurd (by decide) cc⟩
        rw [show nI (m / 5 ^ (n - 1 - 0)) - nI (m / 5 ^ (n - 1 - 0)) / 5 * 5 = nI (m / 5 ^ (n - 1 - 0) % 5) from nIrem (d := 5) (by omega) (by decide) (by decide), nIc (by decide), ← ed]
        refine hlp _ 0 1 _ rfl (Nat.zero_le _) ((hF.mn rfl rfl : Fr AQ FQ I J).ua rfl) (fun i hin => ?_) (Or.inl ⟨rfl, fun x hx => absurd hx (Nat.not_lt_zero _)⟩)
        rw [dgs_len] at hin
        rw [Nat.zero_add]
        by_cases e : i = 0
        · rw [e, u2_ss]
        · rw [u2_kk _ _ _ _ e]; exact hi i (by omega) hin
    | succ j ih =>
      intro J hj hF hi
      have hb : m / 5 ^ (n - 1 - (j + 1)) ≤ m := Nat.div_le_self _ _
      have ed := dgs_get n m (j + 1) hj
      refine RX12_isRead_7 ⟨fun cc => absurd cc (i32_ltz (by omega)), fun cc => ⟨?_, ?_⟩⟩
      · simp (disch := omega) only [nlit, natrem, nIrm, nIam, nIam',  nI_add, pk_mul, nIsub, nIrem, nIdiv, nIand1, nIand3, nIand7, nIand31, nIshr, nIle, nIlt, nIeq, nIc, vpI, nIm1, m1nI, m1lt, nIlm, m1le, nIlem, nIneg, u2_ss, u2_nn, u2_kk, nIm1n, m1nIn, m1ltn, nIlmn, m1len, nIlemn]; omega
      · rw [show nI (m / 5 ^ (n - 1 - (j + 1))) - nI (m / 5 ^ (n - 1 - (j + 1))) / 5 * 5 = nI (m / 5 ^ (n - 1 - (j + 1)) % 5) from nIrem (d := 5) (by omega) (by decide) (by decide), nIc (by omega), ← ed]
        rw [show nI (m / 5 ^ (n - 1 - (j + 1))) / 5 = nI (m / 5 ^ (n - 1 - (j + 1)) / 5) from nIdiv (d := 5) (by omega) (by decide) (by decide), nIam (by omega), Nat.add_sub_cancel]
        have e1 : m / 5 ^ (n - 1 - (j + 1)) / 5 = m / 5 ^ (n - 1 - j) := by
          rw [Nat.div_div_eq_div_mul, ← Nat.pow_succ]
          congr 2
          omega
        rw [e1]
        refine ih _ (by omega) (hF.ua rfl) (fun i h1 h2 => ?_)
        by_cases e : i = j + 1
        · rw [e, u2_ss]
        · rw [u2_kk _ _ _ _ e]; exact hi i (by omega) h2
  refine EX12_isRead ?_
  rw [show nI n - 1 = nI (n - 1) from nIsub (b := 1) hn1]
  have := hdl (n - 1) I (by omega) Fr.rf (fun i h1 h2 => absurd h1 (by omega))
  rw [Nat.sub_self, Nat.pow_zero, Nat.div_one] at this
  exact this
theorem reads_ok {d : Nat} {sx : Sx} {I : Ints} {L : Lngs} {R : Rfs} {q : Q3} {a : Ce} {lc : List (Nat × Nat)} {lf : Nat → Nat} {gl : Nat → List Nat} {sn : Nat → Nat} {n : Nat} {wv : Int32} (hn1 : 1 ≤ n) (hn : n ≤ 5) (hM : MC a lc lf gl sn I)
    (h : ∀ J, Fr AQ FQ I J → q (some (.int (match (rdS a sn n wv).2 with | some w => nI w | none => if 0 ≤ wv then -1 else nI (rdS a sn n wv).1))) J L R) : E0 mX12_reads (d + 7) sx [.ref 92, .int (nI n), .int wv] I L R q := by
  have hp5 := pow5_le hn
  have hlp : ∀ k g : Nat, ∀ J, k = 5 ^ n - g → g ≤ 5 ^ n → Fr AQ FQ I J → (scR (fun m => hitL a sn (dgs n m)) wv 0 (0, none) g).2 = none → Y mX12_reads (d + 7) sx 27 [(0, .ref 92), (1, .int (nI n)), (2, .int wv), (3, .int (nI (5 ^ n))), (4, .int (nI (scR (fun m => hitL a sn (dgs n m)) wv 0 (0, none) g).1)), (5, .int (nI g))] [] J L R q := by
    intro k
    induction k with
    | zero =>
      intro g J hk hg hF hno
      have e : g = 5 ^ n := by omega
      have h := h J hF
      unfold rdS at h
      rw [e] at hno ⊢
      rw [hno] at h
      refine RX12_reads_27 ⟨fun cc => ⟨fun c2 => ?_, fun c2 => ?_⟩, fun cc => absurd (Int32.le_refl _) cc⟩
      · simp only [if_pos c2] at h; exact h
      · simp only [if_neg c2] at h; exact h
    | succ k ih =>
      intro g J hk hg hF hno
      have hcnt := scR_le (p := fun m => hitL a sn (dgs n m)) (wv := wv) (lo := 0) (s := (0, none)) g
      have hstep : scR (fun m => hitL a sn (dgs n m)) wv 0 (0, none) (g + 1) = if hitL a sn (dgs n g) then ((scR (fun m => hitL a sn (dgs n m)) wv 0 (0, none) g).1 + 1, if nI (scR (fun m => hitL a sn (dgs n m)) wv 0 (0, none) g).1 = wv then some g else none) else scR (fun m => hitL a sn (dgs n m)) wv 0 (0, none) g := by
        show sc1 _ wv _ (0 + g) = _
        unfold sc1
        rw [hno]
        simp only [Nat.zero_add]
      have hnx := ih (g + 1)
      have hall := scR_add (p := fun m => hitL a sn (dgs n m)) (wv := wv) (lo := 0) (s := (0, none)) (g + 1) (5 ^ n - (g + 1))
      rw [show g + 1 + (5 ^ n - (g + 1)) = 5 ^ n by omega] at hall
      rw [hstep] at hnx hall
      refine RX12_reads_27 ⟨fun cc => ?_, fun cc => ?_⟩
      · exfalso
        rw [nIle (by omega) (by omega)] at cc
        omega
      · refine isRead_ok hn1 hn (by omega) (hM.fr hF) (fun ht K hK => ?_) (fun hf K hK => ?_)
        · rw [if_pos ht] at hnx hall
          refine RX12_reads_40 ⟨fun w => absurd w (by decide), fun _ => ⟨fun c2 => ?_, fun c2 => ?_⟩⟩
          · rw [if_neg c2] at hnx
            rw [show nI (scR (fun m => hitL a sn (dgs n m)) wv 0 (0, none) g).1 + 1 = nI ((scR (fun m => hitL a sn (dgs n m)) wv 0 (0, none) g).1 + 1) from nI_add _ 1, show nI g + 1 = nI (g + 1) from nI_add g 1]
            exact hnx K (by omega) (by omega) (hF.tr hK) rfl
          · rw [if_pos c2] at hall
            have hall := hall.trans (scR_done (by simp) _)
            have h := h K (hF.tr hK)
            unfold rdS at h
            rw [hall] at h
            exact h
        · rw [if_neg hf] at hnx
          refine RX12_reads_40 ⟨fun _ => ?_, fun w => absurd rfl w⟩
          rw [show nI g + 1 = nI (g + 1) from nI_add g 1]
          exact hnx K (by omega) (by omega) (hF.tr hK) hno
  have hal : ∀ k g : Nat, k = n - g → g ≤ n → Y mX12_reads (d + 7) sx 5 [(0, .ref 92), (1, .int (nI n)), (2, .int wv), (3, .int (nI (5 ^ g))), (4, .int (nI g))] [] I L R q := by
    intro k
    induction k with
    | zero =>
      intro g hk hg
      have e : g = n := by omega
      subst e
      refine RX12_reads_5  ⟨fun c1 => ?_, fun c1 => ?_⟩
      · (try simp (disch := omega) only [nlit, natrem, nIrm, nIam, nIam',  nI_add, pk_mul, nIsub, nIrem, nIdiv, nIand1, nIand3, nIand7, nIand31, nIshr, nIle, nIlt, nIeq, nIc, vpI, nIm1, m1nI, m1lt, nIlm, m1le, nIlem, nIneg, u2_ss, u2_nn, u2_kk, nIm1n, m1nIn, m1ltn, nIlmn, m1len, nIlemn] at c1); (try simp (disch := omega) only [nlit, natrem, nIrm, nIam, nIam',  nI_add, pk_mul, nIsub, nIrem, nIdiv, nIand1, nIand3, nIand7, nIand31, nIshr, nIle, nIlt, nIeq, nIc, vpI, nIm1, m1nI, m1lt, nIlm, m1le, nIlem, nIneg, u2_ss, u2_nn, u2_kk, nIm1n, m1nIn, m1ltn, nIlmn, m1len, nIlemn])
        exact hlp _ 0 I rfl (Nat.zero_le _) Fr.rf rfl
      · (try simp (disch := omega) only [nlit, natrem, nIrm, nIam, nIam',  nI_add, pk_mul, nIsub, nIrem, nIdiv, nIand1, nIand3, nIand7, nIand31, nIshr, nIle, nIlt, nIeq, nIc, vpI, nIm1, m1nI, m1lt, nIlm, m1le, nIlem, nIneg, u2_ss, u2_nn, u2_kk, nIm1n, m1nIn, m1ltn, nIlmn, m1len, nIlemn] at c1) <;> (first | omega | exact absurd rfl c1 | exact absurd trivial c1)
    | succ k ih =>
      intro g hk hg
      refine RX12_reads_5  ⟨fun c1 => ?_, fun c1 => ?_⟩
      · (try simp (disch := omega) only [nlit, natrem, nIrm, nIam, nIam',  nI_add, pk_mul, nIsub, nIrem, nIdiv, nIand1, nIand3, nIand7, nIand31, nIshr, nIle, nIlt, nIeq, nIc, vpI, nIm1, m1nI, m1lt, nIlm, m1le, nIlem, nIneg, u2_ss, u2_nn, u2_kk, nIm1n, m1nIn, m1ltn, nIlmn, m1len, nIlemn] at c1); (try simp (disch := omega) only [nlit, natrem, nIrm, nIam, nIam',  nI_add, pk_mul, nIsub, nIrem, nIdiv, nIand1, nIand3, nIand7, nIand31, nIshr, nIle, nIlt, nIeq, nIc, vpI, nIm1, m1nI, m1lt, nIlm, m1le, nIlem, nIneg, u2_ss, u2_nn, u2_kk, nIm1n, m1nIn, m1ltn, nIlmn, m1len, nIlemn])
        omega
      · (try simp (disch := omega) only [nlit, natrem, nIrm, nIam, nIam',  nI_add, pk_mul, nIsub, nIrem, nIdiv, nIand1, nIand3, nIand7, nIand31, nIshr, nIle, nIlt, nIeq, nIc, vpI, nIm1, m1nI, m1lt, nIlm, m1le, nIlem, nIneg, u2_ss, u2_nn, u2_kk, nIm1n, m1nIn, m1ltn, nIlmn, m1len, nIlemn] at c1); (try simp (disch := omega) only [nlit, natrem, nIrm, nIam, nIam',  nI_add, pk_mul, nIsub, nIrem, nIdiv, nIand1, nIand3, nIand7, nIand31, nIshr, nIle, nIlt, nIeq, nIc, vpI, nIm1, m1nI, m1lt, nIlm, m1le, nIlem, nIneg, u2_ss, u2_nn, u2_kk, nIm1n, m1nIn, m1ltn, nIlmn, m1len, nIlemn])
        have := ih (g + 1) (by omega) (by omega)
        rw [Nat.pow_succ] at this
        exact this
  exact EX12_reads (hal _ 0 rfl (Nat.zero_le _))
theorem within15_ok {d : Nat} {sx : Sx} {I : Ints} {L : Lngs} {R : Rfs} {q : Q3} {v : Int32} (ht : in15 v → q (some (.int 1)) I L R) (hf : ¬ in15 v → q (some (.int 0)) I L R) : E0 mX12_within (d + 1) sx [.int v, .int 1, .int 5] I L R q :=
  EX12_within ⟨fun c1 => hf (fun w => w.1 c1), fun c1 => ⟨fun c2 => hf (fun w => w.2 c2), fun c2 => ht ⟨c1, c2⟩⟩⟩
theorem m_read {d : Nat} {sx : Sx} {I : Ints} {L : Lngs} {R : Rfs} {q : Q3} {a : Ce} {lc : List (Nat × Nat)} {lf : Nat → Nat} {gl : Nat → List Nat} {sn : Nat → Nat} (hM : MC a lc lf gl sn I) {x : Int32} (h : ∀ J, Fr AQ FQ I J → q (some (.int (spRead a sn x))) J L R) : E0 mX12_read (d + 8) sx [.ref 92, .int x] I L R q := by
  refine EX12_read ?_
  have hF0 : Fr AQ FQ I (u2 I 92 0 0) := fq0
  have hM := hM.fr hF0
  have h : ∀ J, Fr AQ FQ (u2 I 92 0 0) J → q (some (.int (spRead a sn x))) J L R := fun J hJ => h J (hF0.tr hJ)
  clear hF0
  generalize u2 I 92 0 0 = I at *
  have h0 := h I Fr.rf
  have hW := hM.1
  have hE := hM.2.1
  have w4 := hW.2.2.2.2.1
  have e9 := cntS_cut (sn := sn) (k := (a 4).val) (fun w hw h3 => (hE.2.2.2.2 w hw h3).1) (6 - (a 4).val) (by omega)
  rw [show (a 4).val + (6 - (a 4).val) = 6 by omega] at e9
  have hcn := cntS_le sn 6
  have hno : ¬ (in15 x ∧ cntS sn 6 ≠ 0) → q (some (.int (-1))) I L R := by
    intro hn
    have e : spRead a sn x = -1 := by unfold spRead; rw [if_neg hn]
    rw [e] at h0
    exact h0
  refine within15_ok (fun hx => RX12_read_11 ⟨fun w => absurd w (by decide), fun _ => ?_⟩) (fun hx => RX12_read_11 ⟨fun _ => hno (fun w => hx w.1), fun w => absurd rfl w⟩)
  refine seen_ok hM ?_
  rw [← e9]
  obtain ⟨n, hn1, hn5, e⟩ := in15_of hx
  refine RX12_read_18 ⟨fun c3 => hno (fun w => w.2 ?_), fun c3 => ?_⟩
  · rw [show (0 : Int32) = nI 0 from rfl, nIle (by omega) (by decide)] at c3
    omega
  · rw [show (0 : Int32) = nI 0 from rfl, nIle (by omega) (by decide)] at c3
    have e1 : spRead a sn x = nI (rdS a sn n (-1)).1 := by unfold spRead; rw [if_pos ⟨hx, by omega⟩, e, nIc (by omega)]
    rw [e1] at h
    rw [e]
    refine reads_ok hn1 hn5 hM (fun J hJ => RX12_read_27 ?_)
    have e2 : (rdS a sn n (-1)).2 = none := scR_m1 rfl (by decide) _ (by have := pow5_le hn5; omega)
    rw [e2]
    simp only
    rw [if_neg (by decide)]
    exact h J hJ
theorem m_dance {d : Nat} {sx : Sx} {I : Ints} {L : Lngs} {R : Rfs} {q : Q3} {a : Ce} {lc : List (Nat × Nat)} {lf : Nat → Nat} {gl : Nat → List Nat} {sn : Nat → Nat} (hM : MC a lc lf gl sn I) {x i : Int32} (h : ∀ J, Fr AQ FQ I J → q (some (.int (spDance a sn x i))) J L R) : E0 mX12_dance (d + 8) sx [.ref 92, .int x, .int i] I L R q := by
  refine EX12_dance ?_
  have hF0 : Fr AQ FQ I (u2 I 92 0 0) := fq0
  have hM := hM.fr hF0
  have h : ∀ J, Fr AQ FQ (u2 I 92 0 0) J → q (some (.int (spDance a sn x i))) J L R := fun J hJ => h J (hF0.tr hJ)
  clear hF0
  generalize u2 I 92 0 0 = I at *
  have h0 := h I Fr.rf
  have hW := hM.1
  have hE := hM.2.1
  have w4 := hW.2.2.2.2.1
  have e9 := cntS_cut (sn := sn) (k := (a 4).val) (fun w hw h3 => (hE.2.2.2.2 w hw h3).1) (6 - (a 4).val) (by omega)
  rw [show (a 4).val + (6 - (a 4).val) = 6 by omega] at e9
  have hcn := cntS_le sn 6
  have hno : ¬ (in15 x ∧ ¬ i < 0 ∧ cntS sn 6 ≠ 0) → q (some (.int (-1))) I L R := by
    intro hn
    have e : spDance a sn x i = -1 := by unfold spDance; rw [if_neg hn]
    rw [e] at h0
    exact h0
  refine within15_ok (fun hx => RX12_dance_11 ⟨fun w => absurd w (by decide), fun _ => ?_⟩) (fun hx => RX12_dance_11 ⟨fun _ => hno (fun w => hx w.1), fun w => absurd rfl w⟩)
  refine seen_ok hM ?_
  rw [← e9]
  obtain ⟨n, hn1, hn5, e⟩ := in15_of hx
  refine RX12_dance_18 ⟨fun c3 => hno (fun w => w.2.2 ?_), fun c3 => ⟨fun c4 => hno (fun w => w.2.1 c4), fun c4 => ?_⟩⟩
  · rw [show (0 : Int32) = nI 0 from rfl, nIle (by omega) (by decide)] at c3
    omega
  · rw [show (0 : Int32) = nI 0 from rfl, nIle (by omega) (by decide)] at c3
    have e1 : spDance a sn x i = wrV (rdS a sn n i).2 := by unfold spDance; rw [if_pos ⟨hx, c4, by omega⟩, e, nIc (by omega)]
    rw [e1] at h
    rw [e]
    refine reads_ok hn1 hn5 hM (fun J hJ => RX12_dance_31 ?_)
    have h := h J hJ
    match (rdS a sn n i).2, h with
    | some w, h => exact h
    | none, h =>
      simp only
      rw [if_pos (Int32.not_lt.mp c4)]
      exact h
