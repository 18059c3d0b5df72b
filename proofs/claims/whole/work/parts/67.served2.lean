/-! served and row -/
theorem z_m1 {z : Int32} (h : z < 0) (h1 : -1 ≤ z) : z = -1 := by
  have a1 : z.toInt < 0 := Int32.lt_iff_toInt_lt.mp h
  have a2 : -1 ≤ z.toInt := Int32.le_iff_toInt_le.mp h1
  apply Int32.toInt_inj.mp
  show z.toInt = -1
  omega
abbrev okPo (a : Ce) (g x y w : Int32) : Prop := inR g (a 4).val ∧ (inR x (a 0).val ∧ inR y (a 1).val) ∧ inR w 4
def poN (x y w : Int32) : Nat := (y.toNatClampNeg * 8 + x.toNatClampNeg) * 4 + w.toNatClampNeg
def spServed (a : Ce) (lc : List (Nat × Nat)) (g x y w : Int32) : Int32 := if okPo a g x y w then nI (svS a lc g.toNatClampNeg (poN x y w) (-1) 4).1 else -1
def rowA (a : Ce) (f : Option Nat) (z : Int32) : Int32 := match f with
  | none => -1
  | some m => if z = -1 then nI (m / 1000) else if nI (m / 1000) ≤ z then -1 else nI ((rwd (max 1 (a 3).val) (m / 1000) (m % 1000)).getD z.toNatClampNeg 0)
def spRow (a : Ce) (lc : List (Nat × Nat)) (g x y w i z : Int32) : Int32 := if okPo a g x y w ∧ ¬ i < 0 ∧ -1 ≤ z then rowA a (svS a lc g.toNatClampNeg (poN x y w) i 4).2 z else -1
theorem svS_m1 {a : Ce} (hW : WFc a) {lc : List (Nat × Nat)} {g po : Nat} : ∀ n, n ≤ 4 → (svS a lc g po (-1) n).2 = none
  | 0, _ => rfl
  | n + 1, hn => by
    have h1 := svS_m1 hW (lc := lc) (g := g) (po := po) n (by omega)
    have h2 := svS_le hW (lc := lc) (g := g) (po := po) (wv := -1) n (by omega)
    have h3 := powW hW (n := n) (by omega)
    exact scR_m1 h1 (by omega) _ (by omega)
theorem isPose_ok {d : Nat} {sx : Sx} {I : Ints} {L : Lngs} {R : Rfs} {q : Q3} {a : Ce} {lc : List (Nat × Nat)} {lf : Nat → Nat} {gl : Nat → List Nat} {sn : Nat → Nat} {c : Nat} (hC : CC a lc lf gl sn c I L R) {g x y w : Int32} (ht : ∀ n m k v, n < (a 4).val → m < (a 0).val → k < (a 1).val → v < 4 → g = nI n → x = nI m → y = nI k → w = nI v → q (some (.int 1)) I L R) (hf : ¬ okPo a g x y w → q (some (.int 0)) I L R) : E0 mX11_isPose (d + 2) sx [.ref 0, .int g, .int x, .int y, .int w] I L R q := by
  obtain ⟨hc, hR, hW, hE, hCl, hEv, hRt⟩ := hC
  refine EX11_isPose hc hR (isGuestC_ok hc hCl (fun n hn e => ?_) (fun hn => RX11_isPose_8 hc hR ⟨fun _ => hf (fun w => hn w.1), fun w => absurd rfl w⟩))
  refine RX11_isPose_8 hc hR ⟨fun w => absurd w (by decide), fun _ => ?_⟩
  refine isCellV hc hCl.1.1 hCl.1.2.1 (fun m k hm hk e1 e2 => ?_) (fun hno => RX11_isPose_20 ⟨fun _ => hf (fun w => hno w.2.1), fun w => absurd rfl w⟩)
  refine RX11_isPose_20 ⟨fun w => absurd w (by decide), fun _ => ⟨fun c2 => hf (fun w => w.2.2.1 c2), fun c2 => ⟨fun c3 => hf (fun w => ?_), fun c3 => ?_⟩⟩⟩
  · obtain ⟨v, hv, e⟩ := inR_of (by decide) w.2.2.1 w.2.2.2
    rw [e, show (3 : Int32) = nI 3 from rfl, nIlt (by decide) (by omega)] at c3
    omega
  · obtain ⟨h3, h4⟩ := i32_nn c2
    rw [h4, show (3 : Int32) = nI 3 from rfl, nIlt (by decide) h3] at c3
    exact ht n m k _ hn hm hk (by omega) e e1 e2 h4
theorem okPo_nI {a : Ce} {n m k v : Nat} (hn : n < (a 4).val) (hm : m < (a 0).val) (hk : k < (a 1).val) (hv : v < 4) : okPo a (nI n) (nI m) (nI k) (nI v) :=
  ⟨(inR_nI (by omega) (by omega)).mpr hn, ⟨(inR_nI (by omega) (by omega)).mpr hm, (inR_nI (by omega) (by omega)).mpr hk⟩, (inR_nI (by omega) (by decide)).mpr hv⟩
theorem poN_nI {m k v : Nat} (hm : m < 128) (hk : k < 128) (hv : v < 4) : poN (nI m) (nI k) (nI v) = (k * 8 + m) * 4 + v := by
  unfold poN
  rw [nIc (by omega), nIc (by omega), nIc (by omega)]
/-- behind a question of rows -/
def CRq (a : Ce) (lc : List (Nat × Nat)) (lf : Nat → Nat) (gl : Nat → List Nat) (sn : Nat → Nat) (c : Nat) (I J : Ints) (L : Lngs) (R T : Rfs) : Prop := CC a lc lf gl sn c J L T ∧ RwF c I J ∧ Kp (fun k => k ≠ 48) R T
theorem CC.rwf {a : Ce} {lc : List (Nat × Nat)} {lf : Nat → Nat} {gl : Nat → List Nat} {sn : Nat → Nat} {c : Nat} {I J : Ints} {L : Lngs} {R T : Rfs} (h : CC a lc lf gl sn c I L R) (hF : RwF c I J) (hT : Kp (fun k => k ≠ 48) R T) : CC a lc lf gl sn c J L T := by
  obtain ⟨hc, hR, hW, hE, hCl, hEv, hRt⟩ := h
  have hc' : c = 2 ∨ c = 14 := hc
  refine ⟨hc, by rw [hT 0 (by decide)]; exact hR, hW, hE, hF.cel hc hCl, hEv.fr (fun k h1 h2 => hF k ⟨by omega, by omega⟩), fun g hg h0 => ?_⟩
  rw [hF 43 ⟨by omega, by omega⟩] at h0
  exact (hRt g hg h0).fr (hF _ ⟨by omega, by omega⟩) (hF _ ⟨by omega, by omega⟩) rfl
theorem c_served {d : Nat} {sx : Sx} {I : Ints} {L : Lngs} {R : Rfs} {q : Q3} {a : Ce} {lc : List (Nat × Nat)} {lf : Nat → Nat} {gl : Nat → List Nat} {sn : Nat → Nat} {c : Nat} (hC : CC a lc lf gl sn c I L R) {g x y w : Int32} (h0 : ¬ okPo a g x y w → q (some (.int (-1))) I L R) (h : okPo a g x y w → ∀ J T, CRq a lc lf gl sn c I J L R T → J 48 3 = nI 0 → q (some (.int (spServed a lc g x y w))) J L T) : E0 mX11_served (d + 6) sx [.ref 0, .int g, .int x, .int y, .int w] I L R q := by
  have hCC := hC
  obtain ⟨hc, hR, hW, hE, hCl, hEv, hRt⟩ := hC
  have w0 := hW.1.2
  have w1 := hW.2.1.2
  refine EX11_served (isPose_ok hCC (fun n m k v hn hm hk hv e1 e2 e3 e4 => ?_) (fun hno => RX11_served_9 hc hR ⟨fun w => absurd rfl w, fun _ => h0 hno⟩))
  subst e1; subst e2; subst e3; subst e4
  have hok := okPo_nI hn hm hk hv
  have h := h hok
  unfold spServed at h
  rw [if_pos hok, poN_nI (by omega) (by omega) hv, nIc (by omega)] at h
  refine RX11_served_9 hc hR ⟨fun _ => ?_, fun w => absurd w (by decide)⟩
  rw [show (nI k * 8 + nI m) * 4 + nI v = nI ((k * 8 + m) * 4 + v) by rw [show (8 : Int32) = nI 8 from rfl, pk_mul, nI_add, show (4 : Int32) = nI 4 from rfl, pk_mul, nI_add]]
  refine seekW_ok hc hW hn hCl (by omega) (fun m' hs => ?_) (fun hs J T hF hT j3 j2 => RX11_served_38 ?_)
  · rw [svS_m1 hW 4 (Nat.le_refl _)] at hs
    cases hs
  · rw [j2]
    exact h J T ⟨hCC.rwf hF hT, hF, hT⟩ j3
theorem c_row {d : Nat} {sx : Sx} {I : Ints} {L : Lngs} {R : Rfs} {q : Q3} {a : Ce} {lc : List (Nat × Nat)} {lf : Nat → Nat} {gl : Nat → List Nat} {sn : Nat → Nat} {c : Nat} (hC : CC a lc lf gl sn c I L R) {g x y w i z : Int32} (h0 : ¬ (okPo a g x y w ∧ ¬ i < 0 ∧ -1 ≤ z) → q (some (.int (-1))) I L R) (h : okPo a g x y w ∧ ¬ i < 0 ∧ -1 ≤ z → ∀ J T, CRq a lc lf gl sn c I J L R T → J 48 3 = nI 0 → q (some (.int (spRow a lc g x y w i z))) J L T) : E0 mX11_row (d + 6) sx [.ref 0, .int g, .int x, .int y, .int w, .int i, .int z] I L R q := by
  have hCC := hC
  obtain ⟨hc, hR, hW, hE, hCl, hEv, hRt⟩ := hC
  have w0 := hW.1.2
  have w1 := hW.2.1.2
  refine EX11_row (isPose_ok hCC (fun n m k v hn hm hk hv e1 e2 e3 e4 => ?_) (fun hno => RX11_row_9 hc hR ⟨fun _ => h0 (fun w => hno w.1), fun w => absurd rfl w⟩))
  subst e1; subst e2; subst e3; subst e4
  have hok := okPo_nI hn hm hk hv
  refine RX11_row_9 hc hR ⟨fun w => absurd w (by decide), fun _ => ⟨fun c2 => h0 (fun w => w.2.1 c2), fun c2 => ⟨fun c3 => ?_, fun c3 => h0 (fun w => c3 w.2.2)⟩⟩⟩
  have h := h ⟨hok, c2, c3⟩
  unfold spRow at h
  rw [if_pos ⟨hok, c2, c3⟩, poN_nI (by omega) (by omega) hv, nIc (by omega)] at h
  rw [show (nI k * 8 + nI m) * 4 + nI v = nI ((k * 8 + m) * 4 + v) by rw [show (8 : Int32) = nI 8 from rfl, pk_mul, nI_add, show (4 : Int32) = nI 4 from rfl, pk_mul, nI_add]]
  refine seekW_ok hc hW hn hCl (by omega) (fun m' hs hm4 J T hF hT j3 j1 hm3 hA => ?_) (fun hs J T hF hT j3 j2 => ?_)
  · have h := h J T ⟨hCC.rwf hF hT, hF, hT⟩ j3
    rw [hs] at h
    unfold rowA at h
    simp only at h
    refine RX11_row_50 ⟨fun _ => ⟨fun c5 => ⟨fun c6 => ?_, fun c6 => ⟨?_, ?_⟩⟩, fun c5 => ?_⟩, fun w => absurd w (by decide)⟩
    · rw [j1] at c6
      rw [if_neg c5, if_pos c6] at h
      exact h
    · rw [j1] at c6
      have hz0 : ¬ z < 0 := fun hz => c5 (z_m1 hz c3)
      obtain ⟨h3, h4⟩ := i32_nn hz0
      rw [h4, nIle (by omega) h3] at c6
      rw [h4]
      simp (disch := omega) only [nlit, natrem, nIrm, nIam, nIam',  nI_add, pk_mul, nIsub, nIrem, nIdiv, nIand1, nIand3, nIand7, nIand31, nIshr, nIle, nIlt, nIeq, nIc, vpI, nIm1, m1nI, m1lt, nIlm, m1le, nIlem, nIneg, u2_ss, u2_nn, u2_kk, nIm1n, m1nIn, m1ltn, nIlmn, m1len, nIlemn]
      omega
    · rw [j1] at c6
      have c6' := c6
      have hz0 : ¬ z < 0 := fun hz => c5 (z_m1 hz c3)
      obtain ⟨h3, h4⟩ := i32_nn hz0
      rw [h4, nIle (by omega) h3] at c6
      have hg9 := hA z.toNatClampNeg (by rw [rwd_len]; omega)
      rw [Nat.zero_add] at hg9
      rw [if_neg c5, if_neg c6'] at h
      rw [hg9]
      exact h
    · rw [if_pos c5] at h
      rw [j1]
      exact h
  · have h := h J T ⟨hCC.rwf hF hT, hF, hT⟩ j3
    rw [hs] at h
    exact RX11_row_50 ⟨fun w => absurd rfl w, fun _ => h⟩
/-! the model's -/
def sm1 (p : Nat → Prop) [DecidablePred p] (wv : Int32) (s : Ss) (n : Nat) : Ss := if p n then (s.1 + 1, if nI s.1 = wv then some n else s.2) else s
def smR (p : Nat → Prop) [DecidablePred p] (wv : Int32) (lo : Nat) (s : Ss) : Nat → Ss
  | 0 => s
  | n + 1 => sm1 p wv (smR p wv lo s n) (lo + n)
theorem smR_add {p : Nat → Prop} [DecidablePred p] {wv : Int32} {lo : Nat} {s : Ss} (m : Nat) : ∀ n, smR p wv lo s (m + n) = smR p wv (lo + m) (smR p wv lo s m) n
  | 0 => rfl
  | n + 1 => by
    show sm1 p wv (smR p wv lo s (m + n)) (lo + (m + n)) = sm1 p wv (smR p wv (lo + m) (smR p wv lo s m) n) (lo + m + n)
    rw [smR_add m n, Nat.add_assoc]
theorem smR_le {p : Nat → Prop} [DecidablePred p] {wv : Int32} {lo : Nat} {s : Ss} : ∀ n, (smR p wv lo s n).1 ≤ s.1 + n
  | 0 => Nat.le_refl _
  | n + 1 => by
    have := smR_le (p := p) (wv := wv) (lo := lo) (s := s) n
    show (sm1 p wv (smR p wv lo s n) (lo + n)).1 ≤ _
    generalize smR p wv lo s n = t at *
    unfold sm1
    split
    · show t.1 + 1 ≤ _; omega
    · omega
def Rl (wv : Int32) (m r : Ss) : Prop := m.2 = r.2 ∧ (r.2 = none → m.1 = r.1) ∧ (r.2 ≠ none → ∃ k, wv = nI k ∧ k < m.1)
theorem Rl.step {p : Nat → Prop} [DecidablePred p] {wv : Int32} {m r : Ss} (h : Rl wv m r) (hm : m.1 < 100000) (n : Nat) : Rl wv (sm1 p wv m n) (sc1 p wv r n) := by
  obtain ⟨h1, h2, h3⟩ := h
  unfold sm1 sc1
  match hr : r.2 with
  | none =>
    have e := h2 hr
    by_cases hp : p n
    · rw [if_pos hp]
      simp only [if_pos hp]
      rw [h1, hr, e]
      by_cases hw : nI r.1 = wv
      · rw [if_pos hw]
        exact ⟨rfl, fun x => by simp at x, fun _ => ⟨r.1, hw.symm, Nat.lt_succ_self _⟩⟩
      · rw [if_neg hw]
        exact ⟨rfl, fun _ => rfl, fun x => absurd rfl x⟩
    · rw [if_neg hp]
      simp only [if_neg hp]
      exact ⟨h1, h2, h3⟩
  | some v =>
    obtain ⟨k, hk, hlt⟩ := h3 (by rw [hr]; simp)
    simp only
    by_cases hp : p n
    · rw [if_pos hp]
      have hne : ¬ nI m.1 = wv := by
        rw [hk, nIeq (by omega) (by omega)]
        omega
      rw [if_neg hne]
      exact ⟨h1, fun x => (by rw [hr] at x; cases x), fun _ => ⟨k, hk, Nat.lt_succ_of_lt hlt⟩⟩
    · rw [if_neg hp]
      exact ⟨h1, h2, h3⟩
theorem Rl.scan {p : Nat → Prop} [DecidablePred p] {wv : Int32} {m r : Ss} (h : Rl wv m r) {lo : Nat} : ∀ n, m.1 + n < 100000 → Rl wv (smR p wv lo m n) (scR p wv lo r n)
  | 0, _ => h
  | n + 1, hn => (Rl.scan h n (by omega)).step (by have := smR_le (p := p) (wv := wv) (lo := lo) (s := m) n; omega) (lo + n)
