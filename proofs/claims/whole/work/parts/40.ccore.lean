/-! numbers that a call is given -/
abbrev inR (v : Int32) (n : Nat) : Prop := ¬ v < 0 ∧ v < nI n
theorem i32_nn {v : Int32} (h : ¬ v < 0) : v.toNatClampNeg < 2147483648 ∧ v = nI v.toNatClampNeg := by
  have h1 : 0 ≤ v.toInt := by
    refine Int.not_lt.mp (fun hh => h (Int32.lt_iff_toInt_lt.mpr ?_))
    exact hh
  have h2 := Int32.toInt_lt v
  have h3 : (v.toNatClampNeg : Int) = v.toInt := by
    unfold Int32.toNatClampNeg
    omega
  refine ⟨by omega, ?_⟩
  apply Int32.toInt_inj.mp
  show v.toInt = (Int32.ofNat v.toNatClampNeg).toInt
  rw [Int32.toInt_ofNat_of_lt (by omega)]
  omega
theorem inR_of {v : Int32} {n : Nat} (hn : n < 2147483648) (h1 : ¬ v < 0) (h2 : v < nI n) : ∃ g, g < n ∧ v = nI g := by
  obtain ⟨h3, h4⟩ := i32_nn h1
  refine ⟨_, ?_, h4⟩
  rw [h4, nIlt h3 hn] at h2
  exact h2
theorem i32_ltz {n : Nat} (h : n < 2147483648) : ¬ nI n < 0 := by
  rw [show (0 : Int32) = nI 0 from rfl, nIlt h (by decide)]
  exact Nat.not_lt_zero _
theorem inR_nI {g n : Nat} (hg : g < 2147483648) (hn : n < 2147483648) : inR (nI g) n ↔ g < n := by
  unfold inR
  rw [nIlt hg hn]
  exact ⟨fun h => h.2, fun h => ⟨i32_ltz hg, h⟩⟩
theorem i32_nle {a b : Int32} (h : ¬ a ≤ b) : b < a := by
  rcases Int32.le_total a b with h1 | h1
  · exact absurd h1 h
  · exact Int32.lt_of_le_of_ne h1 (fun e => h (e ▸ Int32.le_refl _))
theorem i32_nlt {a b : Int32} (h : a ≤ b) : ¬ b < a := Int32.not_lt.mpr h
/-! the evening, as the class has it -/
def EvC (e : Nat) (lf : Nat → Nat) (gl : Nat → List Nat) (sn : Nat → Nat) (I : Ints) : Prop := (∀ w, w < 6 → I (e + 1) w = nI (lf w)) ∧ (∀ g, g < 6 → I (e + 2) g = nI (gl g).length ∧ ALo I (e + 3) (g * 6) (gl g)) ∧ ∀ g, g < 6 → I (e + 4) g = snV (sn g)
theorem EvC.fr {e : Nat} {lf : Nat → Nat} {gl : Nat → List Nat} {sn : Nat → Nat} {I J : Ints} (h : EvC e lf gl sn I) (hF : ∀ k, e < k → k ≤ e + 4 → J k = I k) : EvC e lf gl sn J := by
  refine ⟨?_, fun g hg => ⟨?_, ?_⟩, ?_⟩
  · rw [hF _ (by omega) (by omega)]; exact h.1
  · rw [hF _ (by omega) (by omega)]; exact (h.2.1 g hg).1
  · exact (h.2.1 g hg).2.congr (fun j => by rw [hF _ (by omega) (by omega)])
  · rw [hF _ (by omega) (by omega)]; exact h.2.2
def WFe (a : Ce) (lf : Nat → Nat) (gl : Nat → List Nat) (sn : Nat → Nat) : Prop := (∀ w, w < 6 → lf w ≤ 99) ∧ (∀ g, g < 6 → wsOk a (gl g)) ∧ (∀ g, g < 6 → sn g ≤ 64) ∧ (∀ w, w < 6 → (a 3).val ≤ w → lf w = 0) ∧ (∀ g, g < 6 → (a 4).val ≤ g → sn g = 0 ∧ gl g = [])
def RtC (a : Ce) (lc : List (Nat × Nat)) (gl : Nat → List Nat) (I : Ints) (L : Lngs) : Prop := ∀ g, g < (a 4).val → I 43 g = nI 0 → Rou a lc g (gl g) (80 + 2 * g) I L
def CC (a : Ce) (lc : List (Nat × Nat)) (lf : Nat → Nat) (gl : Nat → List Nat) (sn : Nat → Nat) (c : Nat) (I : Ints) (L : Lngs) (R : Rfs) : Prop := isCel c ∧ R 0 2 = some c ∧ WFc a ∧ WFe a lf gl sn ∧ CelC a lc c I L ∧ EvC 33 lf gl sn I ∧ RtC a lc gl I L
theorem Rou.fr {a : Ce} {lc : List (Nat × Nat)} {g : Nat} {ws : List Nat} {r : Nat} {I J : Ints} {L K : Lngs} (h : Rou a lc g ws r I L) (h1 : J r = I r) (h2 : J (r + 1) = I (r + 1)) (h3 : K r = L r) : Rou a lc g ws r J K := by
  obtain ⟨k1, k2, k3, k4, k5, k6, k7⟩ := h
  refine ⟨?_, ?_, k3.congr (fun j => by rw [h2]), ?_, ?_, ?_, ?_⟩
  · rw [h1]; exact k1
  · rw [h1]; exact k2
  · rw [h1]; exact k4
  · rw [h3]; exact k5
  · rw [h1]; exact k6
  · rw [h1]; exact k7
theorem isRou_g {g : Nat} (h : g < 6) : isRou (80 + 2 * g) ∧ sr0 42 g = some (80 + 2 * g) := by
  have : g = 0 ∨ g = 1 ∨ g = 2 ∨ g = 3 ∨ g = 4 ∨ g = 5 := by omega
  rcases this with rfl | rfl | rfl | rfl | rfl | rfl <;> exact ⟨by unfold isRou; decide, rfl⟩
def RP (c k : Nat) : Prop := k ≠ c + 11 ∧ k ≠ 43 ∧ ¬ (80 ≤ k ∧ k ≤ 91)
def LRP (k : Nat) : Prop := ¬ (80 ≤ k ∧ k ≤ 91)
theorem routineOf_ok {d : Nat} {sx : Sx} {I : Ints} {L : Lngs} {R : Rfs} {q : Q3} {a : Ce} {lc : List (Nat × Nat)} {lf : Nat → Nat} {gl : Nat → List Nat} {sn : Nat → Nat} {c : Nat} (hC : CC a lc lf gl sn c I L R) {g : Nat} (hg : g < (a 4).val)
    (h : ∀ J K, CC a lc lf gl sn c J K R → Rou a lc g (gl g) (80 + 2 * g) J K → J 43 g = nI 0 → (∀ x, I 43 x = nI 0 → J 43 x = nI 0) → Kp (RP c) I J → Kp LRP L K → q (some (.ref (80 + 2 * g))) J K R) : E0 mX11_routineOf (d + 6) sx [.ref 0, .int (nI g)] I L R q := by
  have hCC := hC
  obtain ⟨hc, hR, hW, hE, hCl, hEv, hRt⟩ := hC
  have hc' : c = 2 ∨ c = 14 := hc
  have w4 := hW.2.2.2.2.1
  obtain ⟨hr, hsr⟩ := isRou_g (g := g) (by omega)
  have hsr' : sr0 42 (nI g).toNatClampNeg = some (80 + 2 * g) := by rw [nIc (by omega)]; exact hsr
  have ws := hE.2.1 g (by omega)
  have h6 := ws.1
  have e35 := (hEv.2.1 g (by omega)).1
  refine EX11_routineOf hr hsr' hc hR ⟨?_, ?_, fun c1 => ?_, fun c1 => ⟨?_, ?_⟩⟩
  · simp (disch := omega) only [nlit, natrem, nIrm, nIam, nIam',  nI_add, pk_mul, nIsub, nIrem, nIdiv, nIand1, nIand3, nIand7, nIand31, nIshr, nIle, nIlt, nIeq, nIc, vpI, nIm1, m1nI, m1lt, nIlm, m1le, nIlem, nIneg, u2_ss, u2_nn, u2_kk]; omega
  · simp (disch := omega) only [nlit, natrem, nIrm, nIam, nIam',  nI_add, pk_mul, nIsub, nIrem, nIdiv, nIand1, nIand3, nIand7, nIand31, nIshr, nIle, nIlt, nIeq, nIc, vpI, nIm1, m1nI, m1lt, nIlm, m1le, nIlem, nIneg, u2_ss, u2_nn, u2_kk]; omega
  · simp (disch := omega) only [nlit, natrem, nIrm, nIam, nIam',  nI_add, pk_mul, nIsub, nIrem, nIdiv, nIand1, nIand3, nIand7, nIand31, nIshr, nIle, nIlt, nIeq, nIc, vpI, nIm1, m1nI, m1lt, nIlm, m1le, nIlem, nIneg, u2_ss, u2_nn, u2_kk] at c1
    exact h I L hCC (hRt g hg c1) c1 (fun _ hx => hx) Kp.rf Kp.rf
  · simp (disch := omega) only [nlit, natrem, nIrm, nIam, nIam',  nI_add, pk_mul, nIsub, nIrem, nIdiv, nIand1, nIand3, nIand7, nIand31, nIshr, nIle, nIlt, nIeq, nIc, vpI, nIm1, m1nI, m1lt, nIlm, m1le, nIlem, nIneg, u2_ss, u2_nn, u2_kk]; omega
  · simp (disch := omega) only [nlit, natrem, nIrm, nIam, nIam',  nI_add, pk_mul, nIsub, nIrem, nIdiv, nIand1, nIand3, nIand7, nIand31, nIshr, nIle, nIlt, nIeq, nIc, vpI, nIm1, m1nI, m1lt, nIlm, m1le, nIlem, nIneg, u2_ss, u2_nn, u2_kk]
    rw [show I 35 g = nI (gl g).length from e35]
    refine make_ok hc hr hCl hW hg ws (nb := 36) rfl (Or.inl rfl) (by omega) (Nat.le_refl _) (hEv.2.1 g (by omega)).2 (fun J K hRo hJ hK => ?_)
    refine RX11_routineOf_45 hr ⟨?_, ?_⟩
    · simp (disch := omega) only [nlit, natrem, nIrm, nIam, nIam',  nI_add, pk_mul, nIsub, nIrem, nIdiv, nIand1, nIand3, nIand7, nIand31, nIshr, nIle, nIlt, nIeq, nIc, vpI, nIm1, m1nI, m1lt, nIlm, m1le, nIlem, nIneg, u2_ss, u2_nn, u2_kk]; omega
    · simp (disch := omega) only [nlit, natrem, nIrm, nIam, nIam',  nI_add, pk_mul, nIsub, nIrem, nIdiv, nIand1, nIand3, nIand7, nIand31, nIshr, nIle, nIlt, nIeq, nIc, vpI, nIm1, m1nI, m1lt, nIlm, m1le, nIlem, nIneg, u2_ss, u2_nn, u2_kk]
      have e0 : vp_nar .boolean (nI 0) = nI 0 := by decide
      rw [e0]
      have hJ2 : Kp (RP c) I (u2 J 43 g (nI 0)) := (hJ.mn (fun k hk => ⟨fun e => hk.2.2 ⟨by omega, by omega⟩, fun e => hk.2.2 ⟨by omega, by omega⟩, hk.1⟩)).up (fun hh => hh.2.1 rfl)
      have hK2 : Kp LRP L K := hK.mn (fun k hk e => hk ⟨by omega, by omega⟩)
      have hRo2 : Rou a lc g (gl g) (80 + 2 * g) (u2 J 43 g (nI 0)) K := hRo.fr (by funext i; exact u2_nn _ _ _ _ (by omega)) (by funext i; exact u2_nn _ _ _ _ (by omega)) rfl
      have hst : ∀ x, I 43 x = nI 0 → u2 J 43 g (nI 0) 43 x = nI 0 := by
        intro x hx
        by_cases e : x = g
        · rw [e, u2_ss]
        · rw [u2_kk _ _ _ _ e, hJ 43 ⟨by omega, by omega, by omega⟩]; exact hx
      refine h _ _ ⟨hc, hR, hW, hE, hCl.fr (fun k h1 h2 => hJ2 k ⟨by omega, by omega, by omega⟩) (hK2 c (by unfold LRP; omega)), hEv.fr (fun k h1 h2 => hJ2 k ⟨by omega, by omega, by omega⟩), ?_⟩ hRo2 (by rw [u2_ss]) hst hJ2 hK2
      intro x hx hx0
      by_cases e : x = g
      · rw [e]; exact hRo2
      · rw [u2_kk _ _ _ _ e, hJ 43 ⟨by omega, by omega, by omega⟩] at hx0
        refine (hRt x hx hx0).fr ?_ ?_ ?_
        · funext i; rw [u2_nn _ _ _ _ (by omega), hJ _ ⟨by omega, by omega, by omega⟩]
        · funext i; rw [u2_nn _ _ _ _ (by omega), hJ _ ⟨by omega, by omega, by omega⟩]
        · exact hK _ (by omega)
theorem readyRoutines_lp {d : Nat} {sx : Sx} {R : Rfs} {q : Q3} {a : Ce} {lc : List (Nat × Nat)} {lf : Nat → Nat} {gl : Nat → List Nat} {sn : Nat → Nat} {c : Nat} {I0 : Ints} {L0 : Lngs}
    (h : ∀ J K, CC a lc lf gl sn c J K R → (∀ g, g < (a 4).val → J 43 g = nI 0) → Kp (RP c) I0 J → Kp LRP L0 K → q none J K R) :
    ∀ n g : Nat, ∀ J K, n = (a 4).val - g → g ≤ (a 4).val → CC a lc lf gl sn c J K R → (∀ x, x < g → J 43 x = nI 0) → Kp (RP c) I0 J → Kp LRP L0 K → Y mX11_readyRoutines (d + 7) sx 2 [(0, .ref 0), (1, .int (nI g))] [] J K R q := by
  intro n
  induction n with
  | zero =>
    intro g J K hn hg hC hx hJ hK
    have hCC := hC
    obtain ⟨hc, hR, hW, hE, hCl, hEv, hRt⟩ := hC
    have e11 := hCl.1.2.2.2.2.2
    refine RX11_readyRoutines_2 hc hR ⟨fun c1 => ?_, fun c1 => ?_⟩
    · (try simp (disch := omega) only [nlit, natrem, nIrm, nIam, nIam',  nI_add, pk_mul, nIsub, nIrem, nIdiv, nIand1, nIand3, nIand7, nIand31, nIshr, nIle, nIlt, nIeq, nIc, vpI, nIm1, m1nI, m1lt, nIlm, m1le, nIlem, nIneg, u2_ss, u2_nn, u2_kk, e11] at c1); (try simp (disch := omega) only [nlit, natrem, nIrm, nIam, nIam',  nI_add, pk_mul, nIsub, nIrem, nIdiv, nIand1, nIand3, nIand7, nIand31, nIshr, nIle, nIlt, nIeq, nIc, vpI, nIm1, m1nI, m1lt, nIlm, m1le, nIlem, nIneg, u2_ss, u2_nn, u2_kk, e11])
      exact h J K hCC (fun x hxx => hx x (by omega)) hJ hK
    · (try simp (disch := omega) only [nlit, natrem, nIrm, nIam, nIam',  nI_add, pk_mul, nIsub, nIrem, nIdiv, nIand1, nIand3, nIand7, nIand31, nIshr, nIle, nIlt, nIeq, nIc, vpI, nIm1, m1nI, m1lt, nIlm, m1le, nIlem, nIneg, u2_ss, u2_nn, u2_kk, e11] at c1) <;> (first | omega | exact absurd rfl c1 | exact absurd trivial c1)
  | succ n ih =>
    intro g J K hn hg hC hx hJ hK
    have hCC := hC
    obtain ⟨hc, hR, hW, hE, hCl, hEv, hRt⟩ := hC
    have w4 := hW.2.2.2.2.1
    have e11 := hCl.1.2.2.2.2.2
    refine RX11_readyRoutines_2 hc hR ⟨fun c1 => ?_, fun c1 => ?_⟩
    · (try simp (disch := omega) only [nlit, natrem, nIrm, nIam, nIam',  nI_add, pk_mul, nIsub, nIrem, nIdiv, nIand1, nIand3, nIand7, nIand31, nIshr, nIle, nIlt, nIeq, nIc, vpI, nIm1, m1nI, m1lt, nIlm, m1le, nIlem, nIneg, u2_ss, u2_nn, u2_kk, e11] at c1); (try simp (disch := omega) only [nlit, natrem, nIrm, nIam, nIam',  nI_add, pk_mul, nIsub, nIrem, nIdiv, nIand1, nIand3, nIand7, nIand31, nIshr, nIle, nIlt, nIeq, nIc, vpI, nIm1, m1nI, m1lt, nIlm, m1le, nIlem, nIneg, u2_ss, u2_nn, u2_kk, e11])
      omega
    · (try simp (disch := omega) only [nlit, natrem, nIrm, nIam, nIam',  nI_add, pk_mul, nIsub, nIrem, nIdiv, nIand1, nIand3, nIand7, nIand31, nIshr, nIle, nIlt, nIeq, nIc, vpI, nIm1, m1nI, m1lt, nIlm, m1le, nIlem, nIneg, u2_ss, u2_nn, u2_kk, e11] at c1); (try simp (disch := omega) only [nlit, natrem, nIrm, nIam, nIam',  nI_add, pk_mul, nIsub, nIrem, nIdiv, nIand1, nIand3, nIand7, nIand31, nIshr, nIle, nIlt, nIeq, nIc, vpI, nIm1, m1nI, m1lt, nIlm, m1le, nIlem, nIneg, u2_ss, u2_nn, u2_kk, e11])
      refine routineOf_ok hCC (by omega) (fun J' K' h1 h2 h3 h4 h5 h6 => ?_)
      refine RX11_readyRoutines_18 (isRou_g (by omega)).1 ?_
      rw [show nI g + 1 = nI (g + 1) from nI_add g 1]
      refine ih (g + 1) J' K' (by omega) (by omega) h1 (fun x hxx => ?_) (hJ.tr h5) (hK.tr h6)
      by_cases e : x = g
      · rw [e]; exact h3
      · exact h4 x (hx x (by omega))
theorem readyRoutines_ok {d : Nat} {sx : Sx} {I : Ints} {L : Lngs} {R : Rfs} {q : Q3} {a : Ce} {lc : List (Nat × Nat)} {lf : Nat → Nat} {gl : Nat → List Nat} {sn : Nat → Nat} {c : Nat} (hC : CC a lc lf gl sn c I L R)
    (h : ∀ J K, CC a lc lf gl sn c J K R → (∀ g, g < (a 4).val → J 43 g = nI 0) → Kp (RP c) I J → Kp LRP L K → q none J K R) : E0 mX11_readyRoutines (d + 7) sx [.ref 0] I L R q :=
  EX11_readyRoutines (readyRoutines_lp h _ 0 I L rfl (Nat.zero_le _) hC (fun x hx => absurd hx (Nat.not_lt_zero _)) Kp.rf Kp.rf)
