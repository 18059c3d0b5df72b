/-! the plain questions -/
theorem notIn {v : Int32} {n : Nat} (hn : n < 2147483648) (h : ¬ inR v n) : ∀ k, k < n → (v = nI k) = False := fun k hk => eq_false (fun e => h (by rw [e]; exact (inR_nI (by omega) hn).mpr hk))
theorem isGuestC_ok {d : Nat} {sx : Sx} {I : Ints} {L : Lngs} {R : Rfs} {q : Q3} {a : Ce} {lc : List (Nat × Nat)} {c : Nat} (hc : isCel c) (hC : CelC a lc c I L) {v : Int32} (ht : ∀ n, n < (a 4).val → v = nI n → q (some (.int 1)) I L R) (hf : ¬ inR v (a 4).val → q (some (.int 0)) I L R) : E0 mX0_isGuest (d + 1) sx [.ref c, .int v] I L R q := by
  refine EX0_isGuest hc ⟨fun c1 => hf (fun w => w.1 c1), fun c1 => ⟨fun c2 => hf (fun w => ?_), fun c2 => ?_⟩⟩
  · rw [hC.1.2.2.2.2.2] at c2
    exact i32_nlt c2 w.2
  · rw [hC.1.2.2.2.2.2] at c2
    obtain ⟨n, h1, h2⟩ := inR_of (by omega) c1 (i32_nle c2)
    exact ht n h1 h2
theorem isWineC_ok {d : Nat} {sx : Sx} {I : Ints} {L : Lngs} {R : Rfs} {q : Q3} {a : Ce} {lc : List (Nat × Nat)} {c : Nat} (hc : isCel c) (hC : CelC a lc c I L) {v : Int32} (ht : ∀ n, n < (a 3).val → v = nI n → q (some (.int 1)) I L R) (hf : ¬ inR v (a 3).val → q (some (.int 0)) I L R) : E0 mX0_isWine (d + 1) sx [.ref c, .int v] I L R q := by
  refine EX0_isWine hc ⟨fun c1 => hf (fun w => w.1 c1), fun c1 => ⟨fun c2 => hf (fun w => ?_), fun c2 => ?_⟩⟩
  · rw [hC.1.2.2.2.2.1] at c2
    exact i32_nlt c2 w.2
  · rw [hC.1.2.2.2.2.1] at c2
    obtain ⟨n, h1, h2⟩ := inR_of (by omega) c1 (i32_nle c2)
    exact ht n h1 h2
theorem isDanceC_ok {d : Nat} {sx : Sx} {I : Ints} {L : Lngs} {R : Rfs} {q : Q3} {a : Ce} {lc : List (Nat × Nat)} {c : Nat} (hc : isCel c) (hC : CelC a lc c I L) {v : Int32} (ht : ∀ n, n < (a 2).val → v = nI n → q (some (.int 1)) I L R) (hf : ¬ inR v (a 2).val → q (some (.int 0)) I L R) : E0 mX0_isDance (d + 1) sx [.ref c, .int v] I L R q := by
  refine EX0_isDance hc ⟨fun c1 => hf (fun w => w.1 c1), fun c1 => ⟨fun c2 => hf (fun w => ?_), fun c2 => ?_⟩⟩
  · rw [hC.1.2.2.2.1] at c2
    exact i32_nlt c2 w.2
  · rw [hC.1.2.2.2.1] at c2
    obtain ⟨n, h1, h2⟩ := inR_of (by omega) c1 (i32_nle c2)
    exact ht n h1 h2
theorem isGuestM_ok {d : Nat} {sx : Sx} {I : Ints} {L : Lngs} {R : Rfs} {q : Q3} {a : Ce} (hM : CelM a I) {v : Int32} (ht : ∀ n, n < (a 4).val → v = nI n → q (some (.int 1)) I L R) (hf : ¬ inR v (a 4).val → q (some (.int 0)) I L R) : E0 mX12_isGuest (d + 2) sx [.ref 92, .int v] I L R q := by
  refine EX12_isGuest ⟨fun c1 => hf (fun w => w.1 c1), fun c1 => guests_ok hM (RX12_isGuest_9 ⟨fun c2 => hf (fun w => i32_nlt c2 w.2), fun c2 => ?_⟩)⟩
  obtain ⟨n, h1, h2⟩ := inR_of (by omega) c1 (i32_nle c2)
  exact ht n h1 h2
theorem isWineM_ok {d : Nat} {sx : Sx} {I : Ints} {L : Lngs} {R : Rfs} {q : Q3} {a : Ce} (hM : CelM a I) {v : Int32} (ht : ∀ n, n < (a 3).val → v = nI n → q (some (.int 1)) I L R) (hf : ¬ inR v (a 3).val → q (some (.int 0)) I L R) : E0 mX12_isWine (d + 2) sx [.ref 92, .int v] I L R q := by
  refine EX12_isWine ⟨fun c1 => hf (fun w => w.1 c1), fun c1 => wines_ok hM (RX12_isWine_9 ⟨fun c2 => hf (fun w => i32_nlt c2 w.2), fun c2 => ?_⟩)⟩
  obtain ⟨n, h1, h2⟩ := inR_of (by omega) c1 (i32_nle c2)
  exact ht n h1 h2
theorem within_ok {d : Nat} {sx : Sx} {I : Ints} {L : Lngs} {R : Rfs} {q : Q3} {v : Int32} {n : Nat} (hn : n < 2147483647) (ht : ∀ m, m < n + 1 → v = nI m → q (some (.int 1)) I L R) (hf : ¬ inR v (n + 1) → q (some (.int 0)) I L R) : E0 mX12_within (d + 1) sx [.int v, .int 0, .int (nI n)] I L R q := by
  refine EX12_within ⟨fun c1 => hf (fun w => w.1 c1), fun c1 => ⟨fun c2 => hf (fun w => ?_), fun c2 => ?_⟩⟩
  · obtain ⟨m, h1, h2⟩ := inR_of (by omega) w.1 w.2
    rw [h2, nIlt (by omega) (by omega)] at c2
    omega
  · obtain ⟨h3, h4⟩ := i32_nn c1
    rw [h4, nIlt (by omega) h3] at c2
    exact ht _ (by omega) h4
/-- the model's core -/
def MC (a : Ce) (lc : List (Nat × Nat)) (lf : Nat → Nat) (gl : Nat → List Nat) (sn : Nat → Nat) (I : Ints) : Prop := WFc a ∧ WFe a lf gl sn ∧ CelM a I ∧ LawM lc I ∧ EvL 0 lf gl I ∧ EvS 0 sn I
abbrev AQ : List Nat := [104, 105, 108, 109, 110, 111, 112, 113, 114, 115]
abbrev FQ : List (Nat × Nat) := [(92, 0), (92, 25), (92, 26), (92, 28), (92, 29), (92, 30), (92, 37), (92, 39), (92, 40), (92, 41), (92, 42)]
theorem MC.fr {a : Ce} {lc : List (Nat × Nat)} {lf : Nat → Nat} {gl : Nat → List Nat} {sn : Nat → Nat} {I J : Ints} (h : MC a lc lf gl sn I) (hF : Fr AQ FQ I J) : MC a lc lf gl sn J :=
  ⟨h.1, h.2.1, h.2.2.1.fr hF rfl rfl, h.2.2.2.1.fr hF rfl rfl rfl rfl, h.2.2.2.2.1.congr (hF.ar 106 rfl rfl), h.2.2.2.2.2.congr (hF.ar 106 rfl rfl)⟩
theorem fq0 {I : Ints} {v : Int32} : Fr AQ FQ I (u2 I 92 0 v) := Fr.rf.uf rfl
def spStep (a : Ce) (w i : Int32) : Int32 := if inR w (a 3).val ∧ inR i (wL a w.toNatClampNeg) then nI (wS a w.toNatClampNeg i.toNatClampNeg) else -1
theorem c_step {d : Nat} {sx : Sx} {I : Ints} {L : Lngs} {R : Rfs} {q : Q3} {a : Ce} {lc : List (Nat × Nat)} {lf : Nat → Nat} {gl : Nat → List Nat} {sn : Nat → Nat} {c : Nat} (hC : CC a lc lf gl sn c I L R) {w i : Int32} (h : q (some (.int (spStep a w i))) I L R) : E0 mX11_step (d + 2) sx [.ref 0, .int w, .int i] I L R q := by
  obtain ⟨hc, hR, hW, hE, hCl, hEv, hRt⟩ := hC
  have w3 := hW.2.2.2.1
  refine EX11_step hc hR (isWineC_ok hc hCl (fun n hn e => ?_) (fun hn => ?_))
  · subst e
    have hL := wL_le hW hn
    have eL := (hCl.2.2.2.1 n hn).2.1
    by_cases hi : i < 0
    · have e : spStep a (nI n) i = -1 := by unfold spStep; rw [if_neg (fun w => w.2.1 hi)]
      rw [e] at h
      exact RX11_step_8 hc hR ⟨fun _ => h, fun _ => ⟨fun _ => h, fun w => absurd hi w⟩⟩
    · obtain ⟨h3, h4⟩ := i32_nn hi
      generalize i.toNatClampNeg = m at h3 h4
      subst h4
      have eS : m < wL a n → I (c + 5) (n * 96 + m) = nI (wS a n m) := (hCl.2.2.2.1 n hn).2.2 m
      refine RX11_step_8 hc hR ⟨fun c1 => ?_, fun c1 => ⟨fun c2 => ?_, fun c2 => ⟨?_, ⟨fun c3 => ⟨?_, ?_⟩, fun c3 => ?_⟩⟩⟩⟩
      · (try simp (disch := omega) only [nlit, natrem, nIrm, nIam, nIam',  nI_add, pk_mul, nIsub, nIrem, nIdiv, nIand1, nIand3, nIand7, nIand31, nIshr, nIle, nIlt, nIeq, nIc, vpI, nIm1, m1nI, m1lt, nIlm, m1le, nIlem, nIneg, u2_ss, u2_nn, u2_kk, eL] at c1) <;> (first | omega | exact absurd rfl c1 | exact absurd trivial c1)
      · (try simp (disch := omega) only [nlit, natrem, nIrm, nIam, nIam',  nI_add, pk_mul, nIsub, nIrem, nIdiv, nIand1, nIand3, nIand7, nIand31, nIshr, nIle, nIlt, nIeq, nIc, vpI, nIm1, m1nI, m1lt, nIlm, m1le, nIlem, nIneg, u2_ss, u2_nn, u2_kk, eL] at c1 c2) <;> (first | omega | exact absurd rfl c1 | exact absurd trivial c1)
      · (try simp (disch := omega) only [nlit, natrem, nIrm, nIam, nIam',  nI_add, pk_mul, nIsub, nIrem, nIdiv, nIand1, nIand3, nIand7, nIand31, nIshr, nIle, nIlt, nIeq, nIc, vpI, nIm1, m1nI, m1lt, nIlm, m1le, nIlem, nIneg, u2_ss, u2_nn, u2_kk, eL] at c1 c2) <;> (try simp (disch := omega) only [nlit, natrem, nIrm, nIam, nIam',  nI_add, pk_mul, nIsub, nIrem, nIdiv, nIand1, nIand3, nIand7, nIand31, nIshr, nIle, nIlt, nIeq, nIc, vpI, nIm1, m1nI, m1lt, nIlm, m1le, nIlem, nIneg, u2_ss, u2_nn, u2_kk, eL]) <;> (first | omega | trivial)
      · (try simp (disch := omega) only [nlit, natrem, nIrm, nIam, nIam',  nI_add, pk_mul, nIsub, nIrem, nIdiv, nIand1, nIand3, nIand7, nIand31, nIshr, nIle, nIlt, nIeq, nIc, vpI, nIm1, m1nI, m1lt, nIlm, m1le, nIlem, nIneg, u2_ss, u2_nn, u2_kk, eL] at c1 c2 c3) <;> (try simp (disch := omega) only [nlit, natrem, nIrm, nIam, nIam',  nI_add, pk_mul, nIsub, nIrem, nIdiv, nIand1, nIand3, nIand7, nIand31, nIshr, nIle, nIlt, nIeq, nIc, vpI, nIm1, m1nI, m1lt, nIlm, m1le, nIlem, nIneg, u2_ss, u2_nn, u2_kk, eL]) <;> (first | omega | trivial)
      · (try simp (disch := omega) only [nlit, natrem, nIrm, nIam, nIam',  nI_add, pk_mul, nIsub, nIrem, nIdiv, nIand1, nIand3, nIand7, nIand31, nIshr, nIle, nIlt, nIeq, nIc, vpI, nIm1, m1nI, m1lt, nIlm, m1le, nIlem, nIneg, u2_ss, u2_nn, u2_kk, eL] at c1 c2 c3); (try simp (disch := omega) only [nlit, natrem, nIrm, nIam, nIam',  nI_add, pk_mul, nIsub, nIrem, nIdiv, nIand1, nIand3, nIand7, nIand31, nIshr, nIle, nIlt, nIeq, nIc, vpI, nIm1, m1nI, m1lt, nIlm, m1le, nIlem, nIneg, u2_ss, u2_nn, u2_kk, eL])
        rw [eS c3]
        have e : spStep a (nI n) (nI m) = nI (wS a n m) := by unfold spStep; rw [nIc (by omega), nIc (by omega), if_pos ⟨(inR_nI (by omega) (by omega)).mpr hn, (inR_nI (by omega) (by omega)).mpr c3⟩]
        rw [e] at h
        exact h
      · (try simp (disch := omega) only [nlit, natrem, nIrm, nIam, nIam',  nI_add, pk_mul, nIsub, nIrem, nIdiv, nIand1, nIand3, nIand7, nIand31, nIshr, nIle, nIlt, nIeq, nIc, vpI, nIm1, m1nI, m1lt, nIlm, m1le, nIlem, nIneg, u2_ss, u2_nn, u2_kk, eL] at c1 c2 c3); (try simp (disch := omega) only [nlit, natrem, nIrm, nIam, nIam',  nI_add, pk_mul, nIsub, nIrem, nIdiv, nIand1, nIand3, nIand7, nIand31, nIshr, nIle, nIlt, nIeq, nIc, vpI, nIm1, m1nI, m1lt, nIlm, m1le, nIlem, nIneg, u2_ss, u2_nn, u2_kk, eL])
        have e : spStep a (nI n) (nI m) = -1 := by unfold spStep; rw [nIc (by omega), if_neg (fun w => c3 ((inR_nI (by omega) (by omega)).mp w.2))]
        rw [e] at h
        exact h
  · have e : spStep a w i = -1 := by unfold spStep; rw [if_neg (fun w => hn w.1)]
    rw [e] at h
    exact RX11_step_8 hc hR ⟨fun _ => h, fun w => absurd rfl w⟩
theorem m_step {d : Nat} {sx : Sx} {I : Ints} {L : Lngs} {R : Rfs} {q : Q3} {a : Ce} {lc : List (Nat × Nat)} {lf : Nat → Nat} {gl : Nat → List Nat} {sn : Nat → Nat} (hM : MC a lc lf gl sn I) {w i : Int32} (h : ∀ J, Fr AQ FQ I J → q (some (.int (spStep a w i))) J L R) : E0 mX12_step (d + 3) sx [.ref 92, .int w, .int i] I L R q := by
  refine EX12_step ?_
  have h := h _ (fq0 (v := 0))
  obtain ⟨hW, hE, hM, hl, hEv, hS⟩ := hM.fr (fq0 (v := 0))
  have w3 := hW.2.2.2.1
  generalize u2 I 92 0 0 = I at *
  refine isWineM_ok hM (fun n hn e => ?_) (fun hn => ?_)
  · subst e
    have hL := wL_le hW hn
    by_cases hi : i < 0
    · have e : spStep a (nI n) i = -1 := by unfold spStep; rw [if_neg (fun w => w.2.1 hi)]
      rw [e] at h
      exact RX12_step_10 ⟨fun _ => h, fun _ => ⟨fun _ => h, fun w => absurd hi w⟩⟩
    · obtain ⟨h3, h4⟩ := i32_nn hi
      generalize i.toNatClampNeg = m at h3 h4
      subst h4
      refine RX12_step_10  ⟨fun c1 => ?_, fun c1 => ⟨fun c2 => ?_, fun c2 => ?_⟩⟩
      · (try simp (disch := omega) only [nlit, natrem, nIrm, nIam, nIam',  nI_add, pk_mul, nIsub, nIrem, nIdiv, nIand1, nIand3, nIand7, nIand31, nIshr, nIle, nIlt, nIeq, nIc, vpI, nIm1, m1nI, m1lt, nIlm, m1le, nIlem, nIneg, u2_ss, u2_nn, u2_kk] at c1) <;> (first | omega | exact absurd rfl c1 | exact absurd trivial c1)
      · (try simp (disch := omega) only [nlit, natrem, nIrm, nIam, nIam',  nI_add, pk_mul, nIsub, nIrem, nIdiv, nIand1, nIand3, nIand7, nIand31, nIshr, nIle, nIlt, nIeq, nIc, vpI, nIm1, m1nI, m1lt, nIlm, m1le, nIlem, nIneg, u2_ss, u2_nn, u2_kk] at c1 c2) <;> (first | omega | exact absurd rfl c1 | exact absurd trivial c1)
      · (try simp (disch := omega) only [nlit, natrem, nIrm, nIam, nIam',  nI_add, pk_mul, nIsub, nIrem, nIdiv, nIand1, nIand3, nIand7, nIand31, nIshr, nIle, nIlt, nIeq, nIc, vpI, nIm1, m1nI, m1lt, nIlm, m1le, nIlem, nIneg, u2_ss, u2_nn, u2_kk] at c1 c2); (try simp (disch := omega) only [nlit, natrem, nIrm, nIam, nIam',  nI_add, pk_mul, nIsub, nIrem, nIdiv, nIand1, nIand3, nIand7, nIand31, nIshr, nIle, nIlt, nIeq, nIc, vpI, nIm1, m1nI, m1lt, nIlm, m1le, nIlem, nIneg, u2_ss, u2_nn, u2_kk])
        refine lengthOf_ok hM hW hn ?_
        refine RX12_step_23  ⟨fun c1 => ?_, fun c1 => ?_⟩
        · (try simp (disch := omega) only [nlit, natrem, nIrm, nIam, nIam',  nI_add, pk_mul, nIsub, nIrem, nIdiv, nIand1, nIand3, nIand7, nIand31, nIshr, nIle, nIlt, nIeq, nIc, vpI, nIm1, m1nI, m1lt, nIlm, m1le, nIlem, nIneg, u2_ss, u2_nn, u2_kk] at c1); (try simp (disch := omega) only [nlit, natrem, nIrm, nIam, nIam',  nI_add, pk_mul, nIsub, nIrem, nIdiv, nIand1, nIand3, nIand7, nIand31, nIshr, nIle, nIlt, nIeq, nIc, vpI, nIm1, m1nI, m1lt, nIlm, m1le, nIlem, nIneg, u2_ss, u2_nn, u2_kk])
          have e : spStep a (nI n) (nI m) = -1 := by unfold spStep; rw [nIc (by omega), if_neg (fun w => by have := (inR_nI (by omega) (by omega)).mp w.2; omega)]
          rw [e] at h
          exact h
        · (try simp (disch := omega) only [nlit, natrem, nIrm, nIam, nIam',  nI_add, pk_mul, nIsub, nIrem, nIdiv, nIand1, nIand3, nIand7, nIand31, nIshr, nIle, nIlt, nIeq, nIc, vpI, nIm1, m1nI, m1lt, nIlm, m1le, nIlem, nIneg, u2_ss, u2_nn, u2_kk] at c1); (try simp (disch := omega) only [nlit, natrem, nIrm, nIam, nIam',  nI_add, pk_mul, nIsub, nIrem, nIdiv, nIand1, nIand3, nIand7, nIand31, nIshr, nIle, nIlt, nIeq, nIc, vpI, nIm1, m1nI, m1lt, nIlm, m1le, nIlem, nIneg, u2_ss, u2_nn, u2_kk])
          have e : spStep a (nI n) (nI m) = nI (wS a n m) := by unfold spStep; rw [nIc (by omega), nIc (by omega), if_pos ⟨(inR_nI (by omega) (by omega)).mpr hn, (inR_nI (by omega) (by omega)).mpr (by omega)⟩]
          rw [e] at h
          exact stepOf_ok hM hW hn (by omega) (RX12_step_32 h)
  · have e : spStep a w i = -1 := by unfold spStep; rw [if_neg (fun w => hn w.1)]
    rw [e] at h
    exact RX12_step_10 ⟨fun _ => h, fun w => absurd rfl w⟩
