/-! a ball -/
def nxt (s : Int64) : Int64 := ((s * 1103515245) + 12345) - ((s * 1103515245) + 12345) / 2147483648 * 2147483648
def drw (s : Int64) : Int32 := Int64.toInt32 ((s / 65536) - (s / 65536) / 8 * 8)
abbrev Bs : Type := Int64 × (Nat → Nat)
def othB (a : Ce) (ps : Nat → Nat) (g x : Nat) : Bool := (List.range (a 4).val).any (fun h => decide (h ≠ g ∧ ps h / 4 = x))
theorem othB_iff {a : Ce} {ps : Nat → Nat} {g x : Nat} : othB a ps g x = true ↔ ∃ h, h < (a 4).val ∧ h ≠ g ∧ ps h / 4 = x := by
  unfold othB
  rw [List.any_eq_true]
  constructor
  · rintro ⟨h, h1, h2⟩
    exact ⟨h, List.mem_range.mp h1, (decide_eq_true_eq.mp h2).1, (decide_eq_true_eq.mp h2).2⟩
  · rintro ⟨h, h1, h2, h3⟩
    exact ⟨h, List.mem_range.mpr h1, decide_eq_true_eq.mpr ⟨h2, h3⟩⟩
def clB (a : Ce) (ps : Nat → Nat) (g x : Nat) : Bool := clP a x || othB a ps g x
def b1 (a : Ce) (rs : Nat → List Nat) (hic b : Nat) (s : Bs) (g : Nat) : Bs := if b < (rs g).length then (nxt s.1, up1 s.2 g (aft a (clB a s.2 g) (gK a g).val (s.2 g) (if nI hic ≤ drw (nxt s.1) then (rs g).getD b 0 else 4))) else s
def bG (a : Ce) (rs : Nat → List Nat) (hic b : Nat) (s : Bs) : Nat → Bs
  | 0 => s
  | g + 1 => b1 a rs hic b (bG a rs hic b s g) g
def bB (a : Ce) (rs : Nat → List Nat) (hic : Nat) (s : Bs) : Nat → Bs
  | 0 => s
  | b + 1 => bG a rs hic b (bB a rs hic s b) (a 4).val
def mxL (rs : Nat → List Nat) : Nat → Nat
  | 0 => 0
  | g + 1 => max (mxL rs g) (rs g).length
theorem mxL_le {rs : Nat → List Nat} {n : Nat} (h : ∀ g, g < n → (rs g).length ≤ 576) : ∀ g, g ≤ n → mxL rs g ≤ 576
  | 0, _ => Nat.zero_le _
  | g + 1, hg => by have := mxL_le h g (by omega); have := h g (by omega); show max _ _ ≤ _; omega
def psOk (a : Ce) (ps : Nat → Nat) : Prop := ∀ g, g < (a 4).val → ps g < 256
theorem b1_ok {a : Ce} (hW : WFc a) {rs : Nat → List Nat} {hic b : Nat} {s : Bs} (h : psOk a s.2) (g : Nat) (hg : g < (a 4).val) : psOk a (b1 a rs hic b s g).2 := by
  unfold b1
  split
  · intro x hx
    show up1 s.2 g _ x < 256
    by_cases e : x = g
    · rw [e, up1_s]; exact aft_lt hW.1.2 hW.2.1.2 (h g hg)
    · rw [up1_n _ _ e]; exact h x hx
  · exact h
theorem bG_ok {a : Ce} (hW : WFc a) {rs : Nat → List Nat} {hic b : Nat} {s : Bs} (h : psOk a s.2) : ∀ g, g ≤ (a 4).val → psOk a (bG a rs hic b s g).2
  | 0, _ => h
  | g + 1, hg => b1_ok hW (bG_ok hW h g (by omega)) g hg
theorem bB_ok {a : Ce} (hW : WFc a) {rs : Nat → List Nat} {hic : Nat} {s : Bs} (h : psOk a s.2) : ∀ b, psOk a (bB a rs hic s b).2
  | 0 => h
  | b + 1 => bG_ok hW (bB_ok hW h b) _ (Nat.le_refl _)
theorem max_ok {d : Nat} {sx : Sx} {I : Ints} {L : Lngs} {R : Rfs} {q : Q3} {a b : Nat} (ha : a < 2147483648) (hb : b < 2147483648) (h : q (some (.int (nI (max a b)))) I L R) : E0 mJ9_max_7cf53 (d + 1) sx [.int (nI a), .int (nI b)] I L R q := by
  refine EJ9_max_7cf53  ⟨fun c1 => ?_, fun c1 => ?_⟩
  · (try simp (disch := omega) only [nlit, natrem, nIrm, nIam, nIam',  nI_add, pk_mul, nIsub, nIrem, nIdiv, nIand1, nIand3, nIand7, nIand31, nIshr, nIle, nIlt, nIeq, nIc, vpI, nIm1, m1nI, m1lt, nIlm, m1le, nIlem, nIneg, u2_ss, u2_nn, u2_kk, nIm1n, m1nIn, m1ltn, nIlmn, m1len, nIlemn] at c1); (try simp (disch := omega) only [nlit, natrem, nIrm, nIam, nIam',  nI_add, pk_mul, nIsub, nIrem, nIdiv, nIand1, nIand3, nIand7, nIand31, nIshr, nIle, nIlt, nIeq, nIc, vpI, nIm1, m1nI, m1lt, nIlm, m1le, nIlem, nIneg, u2_ss, u2_nn, u2_kk, nIm1n, m1nIn, m1ltn, nIlmn, m1len, nIlemn])
    rw [Nat.max_eq_right (by omega)] at h; exact h
  · (try simp (disch := omega) only [nlit, natrem, nIrm, nIam, nIam',  nI_add, pk_mul, nIsub, nIrem, nIdiv, nIand1, nIand3, nIand7, nIand31, nIshr, nIle, nIlt, nIeq, nIc, vpI, nIm1, m1nI, m1lt, nIlm, m1le, nIlem, nIneg, u2_ss, u2_nn, u2_kk, nIm1n, m1nIn, m1ltn, nIlmn, m1len, nIlemn] at c1); (try simp (disch := omega) only [nlit, natrem, nIrm, nIam, nIam',  nI_add, pk_mul, nIsub, nIrem, nIdiv, nIand1, nIand3, nIand7, nIand31, nIshr, nIle, nIlt, nIeq, nIc, vpI, nIm1, m1nI, m1lt, nIlm, m1le, nIlem, nIneg, u2_ss, u2_nn, u2_kk, nIm1n, m1nIn, m1ltn, nIlmn, m1len, nIlemn])
    rw [Nat.max_eq_left (by omega)] at h; exact h
theorem hold15_x {d : Nat} {sx : Sx} {I : Ints} {L : Lngs} {R : Rfs} {q : Q3} {v1 : Nat} {v3 v5 : Int32} (hv1 : isCel v1) (hle : (I v1 11) ≤ v5) (h : Y mX2_hold (d + 1) sx 65 [(0, .ref 54), (1, .ref v1), (2, .ref 42), (3, .int v3), (5, .int 0)] [] I L R q) : Y mX2_hold (d + 1) sx 15 [(0, .ref 54), (1, .ref v1), (2, .ref 42), (3, .int v3), (5, .int v5)] [] I L R q :=
  (X_blk lvX2_hold isX2_hold_15_50 cdX2_hold_15_50 (And.intro (shCel_0 hv1) (And.intro (fun _ => (show Y mX2_hold (d + 1) sx 62 [(0, .ref 54), (1, .ref v1), (2, .ref 42), (3, .int v3)] [] I L R q from X_blk lvX2_hold isX2_hold_62_63 cdX2_hold_62_63 (And.intro (by decide) h))) (fun z1 => absurd hle z1))))
theorem hold77_x {d : Nat} {sx : Sx} {I : Ints} {L : Lngs} {R : Rfs} {q : Q3} {v1 : Nat} {v3 v5 v6 : Int32} (hv1 : isCel v1) (hle : (I v1 11) ≤ v6) (h : Y mX2_hold (d + 1) sx 65 [(0, .ref 54), (1, .ref v1), (2, .ref 42), (3, .int v3), (5, .int (v5 + 1))] [] I L R q) : Y mX2_hold (d + 1) sx 77 [(0, .ref 54), (1, .ref v1), (2, .ref 42), (3, .int v3), (5, .int v5), (6, .int v6)] [] I L R q :=
  (X_blk lvX2_hold isX2_hold_77_99 cdX2_hold_77_99 (And.intro (shCel_0 hv1) (And.intro (fun _ => (show Y mX2_hold (d + 1) sx 174 [(0, .ref 54), (1, .ref v1), (2, .ref 42), (3, .int v3), (5, .int v5)] [] I L R q from X_blk lvX2_hold isX2_hold_174_177 cdX2_hold_174_177 (And.intro (by decide) h))) (fun z1 => absurd hle z1))))
theorem others_ok {d : Nat} {sx : Sx} {I : Ints} {L : Lngs} {R : Rfs} {q : Q3} {a : Ce} {ps : Nat → Nat} {g : Nat} (h6 : (a 4).val ≤ 6) (hg : g < (a 4).val) (hps : psOk a ps) (hp : ∀ x, x < (a 4).val → I 55 x = nI (ps x))
    (h : ∀ m, (∀ x, x < 64 → bL m x = othB a ps g x) → q (some (.long m)) I L R) : E0 mX2_others (d + 1) sx [.ref 54, .int (nI g), .int (nI (a 4).val)] I L R q := by
  have hlp : ∀ n k : Nat, ∀ m, n = (a 4).val - k → k ≤ (a 4).val → (∀ x, x < 64 → bL m x = (List.range k).any (fun h => decide (h ≠ g ∧ ps h / 4 = x))) → Y mX2_others (d + 1) sx 5 [(0, .ref 54), (1, .int (nI g)), (2, .int (nI (a 4).val)), (3, .long m), (5, .int (nI k))] [] I L R q := by
    intro n
    induction n with
    | zero =>
      intro k m hn hk hm
      have e : k = (a 4).val := by omega
      refine RX2_others_5  ⟨fun c1 => ?_, fun c1 => ⟨fun c2 => ?_, fun c2 => ⟨?_, ?_⟩⟩⟩
      · (try simp (disch := omega) only [nlit, natrem, nIrm, nIam, nIam',  nI_add, pk_mul, nIsub, nIrem, nIdiv, nIand1, nIand3, nIand7, nIand31, nIshr, nIle, nIlt, nIeq, nIc, vpI, nIm1, m1nI, m1lt, nIlm, m1le, nIlem, nIneg, u2_ss, u2_nn, u2_kk, nIm1n, m1nIn, m1ltn, nIlmn, m1len, nIlemn] at c1); (try simp (disch := omega) only [nlit, natrem, nIrm, nIam, nIam',  nI_add, pk_mul, nIsub, nIrem, nIdiv, nIand1, nIand3, nIand7, nIand31, nIshr, nIle, nIlt, nIeq, nIc, vpI, nIm1, m1nI, m1lt, nIlm, m1le, nIlem, nIneg, u2_ss, u2_nn, u2_kk, nIm1n, m1nIn, m1ltn, nIlmn, m1len, nIlemn])
        exact h m (fun x hx => by rw [hm x hx, e]; rfl)
      · (try simp (disch := omega) only [nlit, natrem, nIrm, nIam, nIam',  nI_add, pk_mul, nIsub, nIrem, nIdiv, nIand1, nIand3, nIand7, nIand31, nIshr, nIle, nIlt, nIeq, nIc, vpI, nIm1, m1nI, m1lt, nIlm, m1le, nIlem, nIneg, u2_ss, u2_nn, u2_kk, nIm1n, m1nIn, m1ltn, nIlmn, m1len, nIlemn] at c1 c2) <;> (first | omega | exact absurd rfl c1 | exact absurd trivial c1 | exact absurd rfl c2 | exact absurd trivial c2)
      · (try simp (disch := omega) only [nlit, natrem, nIrm, nIam, nIam',  nI_add, pk_mul, nIsub, nIrem, nIdiv, nIand1, nIand3, nIand7, nIand31, nIshr, nIle, nIlt, nIeq, nIc, vpI, nIm1, m1nI, m1lt, nIlm, m1le, nIlem, nIneg, u2_ss, u2_nn, u2_kk, nIm1n, m1nIn, m1ltn, nIlmn, m1len, nIlemn] at c1 c2) <;> (try simp (disch := omega) only [nlit, natrem, nIrm, nIam, nIam',  nI_add, pk_mul, nIsub, nIrem, nIdiv, nIand1, nIand3, nIand7, nIand31, nIshr, nIle, nIlt, nIeq, nIc, vpI, nIm1, m1nI, m1lt, nIlm, m1le, nIlem, nIneg, u2_ss, u2_nn, u2_kk, nIm1n, m1nIn, m1ltn, nIlmn, m1len, nIlemn]) <;> (first | omega | trivial)
      · (try simp (disch := omega) only [nlit, natrem, nIrm, nIam, nIam',  nI_add, pk_mul, nIsub, nIrem, nIdiv, nIand1, nIand3, nIand7, nIand31, nIshr, nIle, nIlt, nIeq, nIc, vpI, nIm1, m1nI, m1lt, nIlm, m1le, nIlem, nIneg, u2_ss, u2_nn, u2_kk, nIm1n, m1nIn, m1ltn, nIlmn, m1len, nIlemn] at c1 c2) <;> (first | omega | exact absurd rfl c1 | exact absurd trivial c1 | exact absurd rfl c2 | exact absurd trivial c2)
    | succ n ih =>
      intro k m hn hk hm
      have e5 := hp k (by omega)
      have hpk := hps k (by omega)
      refine RX2_others_5  ⟨fun c1 => ?_, fun c1 => ⟨fun c2 => ?_, fun c2 => ⟨?_, ?_⟩⟩⟩
      · (try simp (disch := omega) only [nlit, natrem, nIrm, nIam, nIam',  nI_add, pk_mul, nIsub, nIrem, nIdiv, nIand1, nIand3, nIand7, nIand31, nIshr, nIle, nIlt, nIeq, nIc, vpI, nIm1, m1nI, m1lt, nIlm, m1le, nIlem, nIneg, u2_ss, u2_nn, u2_kk, nIm1n, m1nIn, m1ltn, nIlmn, m1len, nIlemn, e5, Nat.reduceMod, Nat.reducePow] at c1); (try simp (disch := omega) only [nlit, natrem, nIrm, nIam, nIam',  nI_add, pk_mul, nIsub, nIrem, nIdiv, nIand1, nIand3, nIand7, nIand31, nIshr, nIle, nIlt, nIeq, nIc, vpI, nIm1, m1nI, m1lt, nIlm, m1le, nIlem, nIneg, u2_ss, u2_nn, u2_kk, nIm1n, m1nIn, m1ltn, nIlmn, m1len, nIlemn, e5, Nat.reduceMod, Nat.reducePow])
        omega
      · (try simp (disch := omega) only [nlit, natrem, nIrm, nIam, nIam',  nI_add, pk_mul, nIsub, nIrem, nIdiv, nIand1, nIand3, nIand7, nIand31, nIshr, nIle, nIlt, nIeq, nIc, vpI, nIm1, m1nI, m1lt, nIlm, m1le, nIlem, nIneg, u2_ss, u2_nn, u2_kk, nIm1n, m1nIn, m1ltn, nIlmn, m1len, nIlemn, e5, Nat.reduceMod, Nat.reducePow] at c1 c2); (try simp (disch := omega) only [nlit, natrem, nIrm, nIam, nIam',  nI_add, pk_mul, nIsub, nIrem, nIdiv, nIand1, nIand3, nIand7, nIand31, nIshr, nIle, nIlt, nIeq, nIc, vpI, nIm1, m1nI, m1lt, nIlm, m1le, nIlem, nIneg, u2_ss, u2_nn, u2_kk, nIm1n, m1nIn, m1ltn, nIlmn, m1len, nIlemn, e5, Nat.reduceMod, Nat.reducePow])
        refine ih (k + 1) m (by omega) (by omega) (fun x hx => ?_)
        rw [hm x hx, List.range_succ, List.any_append]
        simp [c2]
      · (try simp (disch := omega) only [nlit, natrem, nIrm, nIam, nIam',  nI_add, pk_mul, nIsub, nIrem, nIdiv, nIand1, nIand3, nIand7, nIand31, nIshr, nIle, nIlt, nIeq, nIc, vpI, nIm1, m1nI, m1lt, nIlm, m1le, nIlem, nIneg, u2_ss, u2_nn, u2_kk, nIm1n, m1nIn, m1ltn, nIlmn, m1len, nIlemn, e5, Nat.reduceMod, Nat.reducePow] at c1 c2) <;> (try simp (disch := omega) only [nlit, natrem, nIrm, nIam, nIam',  nI_add, pk_mul, nIsub, nIrem, nIdiv, nIand1, nIand3, nIand7, nIand31, nIshr, nIle, nIlt, nIeq, nIc, vpI, nIm1, m1nI, m1lt, nIlm, m1le, nIlem, nIneg, u2_ss, u2_nn, u2_kk, nIm1n, m1nIn, m1ltn, nIlmn, m1len, nIlemn, e5, Nat.reduceMod, Nat.reducePow]) <;> (first | omega | trivial)
      · (try simp (disch := omega) only [nlit, natrem, nIrm, nIam, nIam',  nI_add, pk_mul, nIsub, nIrem, nIdiv, nIand1, nIand3, nIand7, nIand31, nIshr, nIle, nIlt, nIeq, nIc, vpI, nIm1, m1nI, m1lt, nIlm, m1le, nIlem, nIneg, u2_ss, u2_nn, u2_kk, nIm1n, m1nIn, m1ltn, nIlmn, m1len, nIlemn, e5, Nat.reduceMod, Nat.reducePow] at c1 c2); (try simp (disch := omega) only [nlit, natrem, nIrm, nIam, nIam',  nI_add, pk_mul, nIsub, nIrem, nIdiv, nIand1, nIand3, nIand7, nIand31, nIshr, nIle, nIlt, nIeq, nIc, vpI, nIm1, m1nI, m1lt, nIlm, m1le, nIlem, nIneg, u2_ss, u2_nn, u2_kk, nIm1n, m1nIn, m1ltn, nIlmn, m1len, nIlemn, e5, Nat.reduceMod, Nat.reducePow])
        refine ih (k + 1) _ (by omega) (by omega) (fun x hx => ?_)
        rw [bL_or, hm x hx, bL_one (by omega) hx, List.range_succ, List.any_append]
        simp only [List.any_cons, List.any_nil, Bool.or_false, c2, ne_eq, not_false_eq_true, true_and]
        congr 1
        exact decide_eq_decide.mpr eq_comm
  exact EX2_others (hlp _ 0 0 rfl (Nat.zero_le _) (fun x hx => by rw [bL_0]; rfl))
def BInv (a : Ce) (s : Bs) (bt : Nat) (I0 J : Ints) (L0 K : Lngs) : Prop := Kp (fun k => k ≠ 54 ∧ k ≠ 55) I0 J ∧ Kp (fun k => k ≠ 54) L0 K ∧ J 54 1 = nI bt ∧ K 54 2 = s.1 ∧ ∀ g, g < (a 4).val → J 55 g = nI (s.2 g)
theorem hold_ok {d : Nat} {sx : Sx} {I : Ints} {L : Lngs} {R : Rfs} {q : Q3} {a : Ce} {lc : List (Nat × Nat)} {lf : Nat → Nat} {gl : Nat → List Nat} {sn : Nat → Nat} {c hic : Nat} {v4 : Int32} (hh8 : hic ≤ 8) (hC : CC a lc lf gl sn c I L R) (hfr : ∀ g, g < (a 4).val → I 43 g = nI 0)
    (h : ∀ J K, BInv a (bB a (fun g => rt a lc g (gl g)) hic (v4.toInt64, hom a) (mxL (fun g => rt a lc g (gl g)) (a 4).val)) (mxL (fun g => rt a lc g (gl g)) (a 4).val) I J L K → q none J K R) : E0 mX2_hold (d + 4) sx [.ref 54, .ref c, .ref 42, .int (nI hic), .int v4] I L R q := by
  obtain ⟨hc, hR, hW, hE, hCl, hEv, hRt⟩ := hC
  have hc' : c = 2 ∨ c = 14 := hc
  have w4 := hW.2.2.2.2.1
  have w0 := hW.1.2
  have w1 := hW.2.1.2
  have hlen : ∀ g, g < (a 4).val → ((fun g => rt a lc g (gl g)) g).length ≤ 576 := fun g hg => rt_len hW (hE.2.1 g (by omega))
  have hle4 : ∀ g, g < (a 4).val → ∀ x ∈ (fun g => rt a lc g (gl g)) g, x ≤ 4 := fun g hg => rt_le hW (hE.2.1 g (by omega))
  have hrou : ∀ g, g < (a 4).val → ∀ J K, Kp (fun k => k ≠ 54 ∧ k ≠ 55) I J → Kp (fun k => k ≠ 54) L K → J (80 + 2 * g) 1 = nI ((fun g => rt a lc g (gl g)) g).length ∧ ALo J (80 + 2 * g + 1) 0 ((fun g => rt a lc g (gl g)) g) := by
    intro g hg J K hJ hK
    have := (hRt g hg (hfr g hg)).fr (J := J) (K := K) (hJ _ ⟨by omega, by omega⟩) (hJ _ ⟨by omega, by omega⟩) (hK _ (by omega))
    exact ⟨this.1, this.2.2.1⟩
  have hcel : ∀ J K, Kp (fun k => k ≠ 54 ∧ k ≠ 55) I J → Kp (fun k => k ≠ 54) L K → CelC a lc c J K := fun J K hJ hK => hCl.fr (fun k h1 h2 => hJ k ⟨by omega, by omega⟩) (hK c (by omega))
  clear hRt hCl hEv
  generalize (fun g => rt a lc g (gl g)) = rs at *
  have hmx := mxL_le hlen _ (Nat.le_refl _)
  have hhom : psOk a (hom a) := fun g hg => hom_lt hW hg
  have hin : ∀ n b : Nat, ∀ J K, n = mxL rs (a 4).val - b → b ≤ mxL rs (a 4).val → BInv a (bB a rs hic (v4.toInt64, hom a) b) (mxL rs (a 4).val) I J L K → Y mX2_hold (d + 4) sx 65 [(0, .ref 54), (1, .ref c), (2, .ref 42), (3, .int (nI hic)), (5, .int (nI b))] [] J K R q := by
    intro n
    induction n with
    | zero =>
      intro b J K hn hb hB
      have e : b = mxL rs (a 4).val := by omega
      have eb := hB.2.2.1
      refine RX2_hold_65 hc ⟨fun c1 => ?_, fun c1 => ?_⟩
      · (try simp (disch := omega) only [nlit, natrem, nIrm, nIam, nIam',  nI_add, pk_mul, nIsub, nIrem, nIdiv, nIand1, nIand3, nIand7, nIand31, nIshr, nIle, nIlt, nIeq, nIc, vpI, nIm1, m1nI, m1lt, nIlm, m1le, nIlem, nIneg, u2_ss, u2_nn, u2_kk, nIm1n, m1nIn, m1ltn, nIlmn, m1len, nIlemn, eb] at c1); (try simp (disch := omega) only [nlit, natrem, nIrm, nIam, nIam',  nI_add, pk_mul, nIsub, nIrem, nIdiv, nIand1, nIand3, nIand7, nIand31, nIshr, nIle, nIlt, nIeq, nIc, vpI, nIm1, m1nI, m1lt, nIlm, m1le, nIlem, nIneg, u2_ss, u2_nn, u2_kk, nIm1n, m1nIn, m1ltn, nIlmn, m1len, nIlemn, eb])
        rw [e] at hB
        exact h J K hB
      · (try simp (disch := omega) only [nlit, natrem, nIrm, nIam, nIam',  nI_add, pk_mul, nIsub, nIrem, nIdiv, nIand1, nIand3, nIand7, nIand31, nIshr, nIle, nIlt, nIeq, nIc, vpI, nIm1, m1nI, m1lt, nIlm, m1le, nIlem, nIneg, u2_ss, u2_nn, u2_kk, nIm1n, m1nIn, m1ltn, nIlmn, m1len, nIlemn, eb] at c1) <;> (first | omega | exact absurd rfl c1 | exact absurd trivial c1)
    | succ n ih =>
      intro b J K hn hb hB
      have eb := hB.2.2.1
      have hpb := bB_ok hW (rs := rs) (hic := hic) (s := (v4.toInt64, hom a)) hhom b
      have hg : ∀ m g : Nat, ∀ J K, m = (a 4).val - g → g ≤ (a 4).val → BInv a (bG a rs hic b (bB a rs hic (v4.toInt64, hom a) b) g) (mxL rs (a 4).val) I J L K → Y mX2_hold (d + 4) sx 77 [(0, .ref 54), (1, .ref c), (2, .ref 42), (3, .int (nI hic)), (5, .int (nI b)), (6, .int (nI g))] [] J K R q := by
        intro m
        induction m with
        | zero =>
          intro g J K hm hg hB
          have e : g = (a 4).val := by omega
          have e11 := (hcel J K hB.1 hB.2.1).1.2.2.2.2.2
          refine hold77_x hc (by rw [e11, e]; exact Int32.le_refl _) ?_
          rw [show nI b + 1 = nI (b + 1) from nI_add b 1]
          rw [e] at hB
          exact ih (b + 1) J K (by omega) (by omega) hB
        | succ m ihg =>
          intro g J K hm hg hB
          have hCJ := hcel J K hB.1 hB.2.1
          have e11 := hCJ.1.2.2.2.2.2
          obtain ⟨hro, hsr⟩ := isRou_g (g := g) (by omega)
          have hsr' : sr0 42 (nI g).toNatClampNeg = some (80 + 2 * g) := by rw [nIc (by omega)]; exact hsr
          obtain ⟨r1, r2⟩ := hrou g (by omega) J K hB.1 hB.2.1
          have hl := hlen g (by omega)
          have hps := bG_ok hW (rs := rs) (hic := hic) (b := b) hpb g hg
          have hcon := ihg (g + 1)
          have eB : bG a rs hic b (bB a rs hic (v4.toInt64, hom a) b) (g + 1) = b1 a rs hic b (bG a rs hic b (bB a rs hic (v4.toInt64, hom a) b) g) g := rfl
          rw [eB] at hcon
          generalize bG a rs hic b (bB a rs hic (v4.toInt64, hom a) b) g = s at *
          refine RX2_hold_77 hc hro hsr' ⟨fun c1 => ?_, fun c1 => ⟨?_, ⟨fun c2 => ?_, fun c2 => ?_⟩⟩⟩
          · (try simp (disch := omega) only [nlit, natrem, nIrm, nIam, nIam',  nI_add, pk_mul, nIsub, nIrem, nIdiv, nIand1, nIand3, nIand7, nIand31, nIshr, nIle, nIlt, nIeq, nIc, vpI, nIm1, m1nI, m1lt, nIlm, m1le, nIlem, nIneg, u2_ss, u2_nn, u2_kk, nIm1n, m1nIn, m1ltn, nIlmn, m1len, nIlemn, e11, r1] at c1); (try simp (disch := omega) only [nlit, natrem, nIrm, nIam, nIam',  nI_add, pk_mul, nIsub, nIrem, nIdiv, nIand1, nIand3, nIand7, nIand31, nIshr, nIle, nIlt, nIeq, nIc, vpI, nIm1, m1nI, m1lt, nIlm, m1le, nIlem, nIneg, u2_ss, u2_nn, u2_kk, nIm1n, m1nIn, m1ltn, nIlmn, m1len, nIlemn, e11, r1])
            omega
          · (try simp (disch := omega) only [nlit, natrem, nIrm, nIam, nIam',  nI_add, pk_mul, nIsub, nIrem, nIdiv, nIand1, nIand3, nIand7, nIand31, nIshr, nIle, nIlt, nIeq, nIc, vpI, nIm1, m1nI, m1lt, nIlm, m1le, nIlem, nIneg, u2_ss, u2_nn, u2_kk, nIm1n, m1nIn, m1ltn, nIlmn, m1len, nIlemn, e11, r1] at c1) <;> (try simp (disch := omega) only [nlit, natrem, nIrm, nIam, nIam',  nI_add, pk_mul, nIsub, nIrem, nIdiv, nIand1, nIand3, nIand7, nIand31, nIshr, nIle, nIlt, nIeq, nIc, vpI, nIm1, m1nI, m1lt, nIlm, m1le, nIlem, nIneg, u2_ss, u2_nn, u2_kk, nIm1n, m1nIn, m1ltn, nIlmn, m1len, nIlemn, e11, r1]) <;> (first | omega | trivial)
          · (try simp (disch := omega) only [nlit, natrem, nIrm, nIam, nIam',  nI_add, pk_mul, nIsub, nIrem, nIdiv, nIand1, nIand3, nIand7, nIand31, nIshr, nIle, nIlt, nIeq, nIc, vpI, nIm1, m1nI, m1lt, nIlm, m1le, nIlem, nIneg, u2_ss, u2_nn, u2_kk, nIm1n, m1nIn, m1ltn, nIlmn, m1len, nIlemn, e11, r1] at c1 c2); (try simp (disch := omega) only [nlit, natrem, nIrm, nIam, nIam',  nI_add, pk_mul, nIsub, nIrem, nIdiv, nIand1, nIand3, nIand7, nIand31, nIshr, nIle, nIlt, nIeq, nIc, vpI, nIm1, m1nI, m1lt, nIlm, m1le, nIlem, nIneg, u2_ss, u2_nn, u2_kk, nIm1n, m1nIn, m1ltn, nIlmn, m1len, nIlemn, e11, r1])
            have es : b1 a rs hic b s g = s := by unfold b1; rw [if_neg (by omega)]
            rw [es] at hcon
            exact hcon J K (by omega) (by omega) hB
          · (try simp (disch := omega) only [nlit, natrem, nIrm, nIam, nIam',  nI_add, pk_mul, nIsub, nIrem, nIdiv, nIand1, nIand3, nIand7, nIand31, nIshr, nIle, nIlt, nIeq, nIc, vpI, nIm1, m1nI, m1lt, nIlm, m1le, nIlem, nIneg, u2_ss, u2_nn, u2_kk, nIm1n, m1nIn, m1ltn, nIlmn, m1len, nIlemn, e11, r1] at c1 c2); (try simp (disch := omega) only [nlit, natrem, nIrm, nIam, nIam',  nI_add, pk_mul, nIsub, nIrem, nIdiv, nIand1, nIand3, nIand7, nIand31, nIshr, nIle, nIlt, nIeq, nIc, vpI, nIm1, m1nI, m1lt, nIlm, m1le, nIlem, nIneg, u2_ss, u2_nn, u2_kk, nIm1n, m1nIn, m1ltn, nIlmn, m1len, nIlemn, e11, r1])
            have e8 := r2 b (by omega)
            rw [Nat.zero_add] at e8
            obtain ⟨i1, i2, i3, i4, i5⟩ := hB
            have hk4 := (hW.2.2.2.2.2.2.2.2.2.1 g (by omega)).1
            have eK := (hCJ.2.2.2.2.1 g (by omega)).1
            have hx : (rs g).getD b 0 ≤ 4 := by
              rw [List.getD_eq_getElem?_getD, List.getElem?_eq_getElem (by omega)]
              exact hle4 g (by omega) _ (List.getElem_mem _)
            have hgo : ∀ st, st ≤ 4 → st = (if nI hic ≤ drw (nxt s.1) then (rs g).getD b 0 else 4) → E0 mX2_others (d + 3) sx [.ref 54, .int (nI g), .int (nI (a 4).val)] J (u2 K 54 2 (nxt s.1)) R (fun r J' K' T' => Y mX2_hold (d + 4) sx 136 [(0, .ref 54), (1, .ref c), (2, .ref 42), (3, .int (nI hic)), (5, .int (nI b)), (6, .int (nI g)), (7, .int (nI st))] (r.toList ++ [.long ((u2 K 54 2 (nxt s.1)) c 2)]) J' K' T' q) := by
              intro st hst est
              have es : b1 a rs hic b s g = (nxt s.1, up1 s.2 g (aft a (clB a s.2 g) (gK a g).val (s.2 g) st)) := by unfold b1; rw [if_pos (by omega), est]
              rw [es] at hcon
              have hK2 : Kp (fun k => k ≠ 54) L (u2 K 54 2 (nxt s.1)) := i2.up (by simp)
              have hCK := hcel J _ i1 hK2
              refine others_ok w4 (by omega) hps i5 (fun mm hmm => ?_)
              have e5 := i5 g (by omega)
              refine RX2_hold_136 hc ⟨?_, ⟨?_, ?_⟩⟩
              · (try simp (disch := omega) only [nlit, natrem, nIrm, nIam, nIam',  nI_add, pk_mul, nIsub, nIrem, nIdiv, nIand1, nIand3, nIand7, nIand31, nIshr, nIle, nIlt, nIeq, nIc, vpI, nIm1, m1nI, m1lt, nIlm, m1le, nIlem, nIneg, u2_ss, u2_nn, u2_kk, nIm1n, m1nIn, m1ltn, nIlmn, m1len, nIlemn, e5, eK]) <;> (first | omega | trivial)
              · (try simp (disch := omega) only [nlit, natrem, nIrm, nIam, nIam',  nI_add, pk_mul, nIsub, nIrem, nIdiv, nIand1, nIand3, nIand7, nIand31, nIshr, nIle, nIlt, nIeq, nIc, vpI, nIm1, m1nI, m1lt, nIlm, m1le, nIlem, nIneg, u2_ss, u2_nn, u2_kk, nIm1n, m1nIn, m1ltn, nIlmn, m1len, nIlemn, e5, eK]) <;> (first | omega | trivial)
              · (try simp (disch := omega) only [nlit, natrem, nIrm, nIam, nIam',  nI_add, pk_mul, nIsub, nIrem, nIdiv, nIand1, nIand3, nIand7, nIand31, nIshr, nIle, nIlt, nIeq, nIc, vpI, nIm1, m1nI, m1lt, nIlm, m1le, nIlem, nIneg, u2_ss, u2_nn, u2_kk, nIm1n, m1nIn, m1ltn, nIlmn, m1len, nIlemn, e5, eK])
                refine after_ok (cl := clB a s.2 g) hc hCK.1.1 hCK.1.2.1 w0 w1 (fun x hx => ?_) (hps g (by omega)) hst hk4 ?_
                · rw [bL_or, hCJ.2.1 x hx, hmm x hx]; rfl
                · skip
                  refine RX2_hold_167 hc ⟨?_, ?_⟩
                  · (try simp (disch := omega) only [nlit, natrem, nIrm, nIam, nIam',  nI_add, pk_mul, nIsub, nIrem, nIdiv, nIand1, nIand3, nIand7, nIand31, nIshr, nIle, nIlt, nIeq, nIc, vpI, nIm1, m1nI, m1lt, nIlm, m1le, nIlem, nIneg, u2_ss, u2_nn, u2_kk, nIm1n, m1nIn, m1ltn, nIlmn, m1len, nIlemn]) <;> (first | omega | trivial)
                  · (try simp (disch := omega) only [nlit, natrem, nIrm, nIam, nIam',  nI_add, pk_mul, nIsub, nIrem, nIdiv, nIand1, nIand3, nIand7, nIand31, nIshr, nIle, nIlt, nIeq, nIc, vpI, nIm1, m1nI, m1lt, nIlm, m1le, nIlem, nIneg, u2_ss, u2_nn, u2_kk, nIm1n, m1nIn, m1ltn, nIlmn, m1len, nIlemn])
                    refine hcon _ _ (by omega) (by omega) ⟨i1.up (by simp), hK2, ?_, u2_ss _ _ _ _, fun x hx => ?_⟩
                    · rw [u2_nn _ _ _ _ (by decide)]; exact i3
                    · show _ = nI (up1 s.2 g _ x)
                      by_cases e : x = g
                      · rw [e, u2_ss, up1_s]
                      · rw [u2_kk _ _ _ _ e, up1_n _ _ e]; exact i5 x hx
            refine EX2_draw ?_
            have ed : ∀ T, T = K 54 2 → (Int64.toInt32 (((((T * 1103515245) + 12345) - ((T * 1103515245) + 12345) / 2147483648 * 2147483648) / 65536) - ((((T * 1103515245) + 12345) - ((T * 1103515245) + 12345) / 2147483648 * 2147483648) / 65536) / 8 * 8)) = drw (nxt s.1) := by
              intro T hT
              rw [hT, i4]
              rfl
            rw [ed _ rfl]
            have en : ((K 54 2 * 1103515245) + 12345) - ((K 54 2 * 1103515245) + 12345) / 2147483648 * 2147483648 = nxt s.1 := by rw [i4]; rfl
            rw [en]
            refine RX2_hold_102 hc hro hsr' ⟨fun cc => ⟨?_, ?_, ?_⟩, fun cc => ?_⟩
            · simp (disch := omega) only [nlit, natrem, nIrm, nIam, nIam',  nI_add, pk_mul, nIsub, nIrem, nIdiv, nIand1, nIand3, nIand7, nIand31, nIshr, nIle, nIlt, nIeq, nIc, vpI, nIm1, m1nI, m1lt, nIlm, m1le, nIlem, nIneg, u2_ss, u2_nn, u2_kk, nIm1n, m1nIn, m1ltn, nIlmn, m1len, nIlemn]; omega
            · simp (disch := omega) only [nlit, natrem, nIrm, nIam, nIam',  nI_add, pk_mul, nIsub, nIrem, nIdiv, nIand1, nIand3, nIand7, nIand31, nIshr, nIle, nIlt, nIeq, nIc, vpI, nIm1, m1nI, m1lt, nIlm, m1le, nIlem, nIneg, u2_ss, u2_nn, u2_kk, nIm1n, m1nIn, m1ltn, nIlmn, m1len, nIlemn]; omega
            · rw [e11, nIc (by omega), e8]
              exact hgo _ hx (by rw [if_pos cc])
            · rw [e11]
              exact hgo 4 (by decide) (by rw [if_neg cc])
      refine RX2_hold_65 hc ⟨fun c1 => ?_, fun c1 => ?_⟩
      · (try simp (disch := omega) only [nlit, natrem, nIrm, nIam, nIam',  nI_add, pk_mul, nIsub, nIrem, nIdiv, nIand1, nIand3, nIand7, nIand31, nIshr, nIle, nIlt, nIeq, nIc, vpI, nIm1, m1nI, m1lt, nIlm, m1le, nIlem, nIneg, u2_ss, u2_nn, u2_kk, nIm1n, m1nIn, m1ltn, nIlmn, m1len, nIlemn, eb] at c1); (try simp (disch := omega) only [nlit, natrem, nIrm, nIam, nIam',  nI_add, pk_mul, nIsub, nIrem, nIdiv, nIand1, nIand3, nIand7, nIand31, nIshr, nIle, nIlt, nIeq, nIc, vpI, nIm1, m1nI, m1lt, nIlm, m1le, nIlem, nIneg, u2_ss, u2_nn, u2_kk, nIm1n, m1nIn, m1ltn, nIlmn, m1len, nIlemn, eb])
        omega
      · (try simp (disch := omega) only [nlit, natrem, nIrm, nIam, nIam',  nI_add, pk_mul, nIsub, nIrem, nIdiv, nIand1, nIand3, nIand7, nIand31, nIshr, nIle, nIlt, nIeq, nIc, vpI, nIm1, m1nI, m1lt, nIlm, m1le, nIlem, nIneg, u2_ss, u2_nn, u2_kk, nIm1n, m1nIn, m1ltn, nIlmn, m1len, nIlemn, eb] at c1); (try simp (disch := omega) only [nlit, natrem, nIrm, nIam, nIam',  nI_add, pk_mul, nIsub, nIrem, nIdiv, nIand1, nIand3, nIand7, nIand31, nIshr, nIle, nIlt, nIeq, nIc, vpI, nIm1, m1nI, m1lt, nIlm, m1le, nIlem, nIneg, u2_ss, u2_nn, u2_kk, nIm1n, m1nIn, m1ltn, nIlmn, m1len, nIlemn, eb])
        exact hg _ 0 J K rfl (Nat.zero_le _) hB
  have hst : ∀ n g : Nat, ∀ J, n = (a 4).val - g → g ≤ (a 4).val → Kp (fun k => k ≠ 54 ∧ k ≠ 55) I J → J 54 1 = nI (mxL rs g) → (∀ x, x < g → J 55 x = nI (hom a x)) → Y mX2_hold (d + 4) sx 15 [(0, .ref 54), (1, .ref c), (2, .ref 42), (3, .int (nI hic)), (5, .int (nI g))] [] J (u2 L 54 2 v4.toInt64) R q := by
    intro n
    induction n with
    | zero =>
      intro g J hn hg hJ h1 h2
      have e : g = (a 4).val := by omega
      have hKL : Kp (fun k => k ≠ 54) L (u2 L 54 2 v4.toInt64) := Kp.rf.up (by simp)
      have e11 := (hcel J _ hJ hKL).1.2.2.2.2.2
      refine hold15_x hc (by rw [e11, e]; exact Int32.le_refl _) ?_
      rw [e] at h1
      exact hin _ 0 J _ rfl (Nat.zero_le _) ⟨hJ, hKL, h1, u2_ss _ _ _ _, fun x hx => h2 x (by omega)⟩
    | succ n ih =>
      intro g J hn hg hJ h1 h2
      have hKL : Kp (fun k => k ≠ 54) L (u2 L 54 2 v4.toInt64) := Kp.rf.up (by simp)
      have hCJ := hcel J _ hJ hKL
      have e11 := hCJ.1.2.2.2.2.2
      obtain ⟨hro, hsr⟩ := isRou_g (g := g) (by omega)
      have hsr' : sr0 42 (nI g).toNatClampNeg = some (80 + 2 * g) := by rw [nIc (by omega)]; exact hsr
      have r1 := (hrou g (by omega) J _ hJ hKL).1
      have eH := (hCJ.2.2.2.2.1 g (by omega)).2.1
      have hl := hlen g (by omega)
      have hm := mxL_le hlen g (by omega)
      refine RX2_hold_15 hc hro hsr' ⟨fun c1 => ?_, fun c1 => ⟨?_, ⟨?_, ⟨?_, ?_⟩⟩⟩⟩
      · (try simp (disch := omega) only [nlit, natrem, nIrm, nIam, nIam',  nI_add, pk_mul, nIsub, nIrem, nIdiv, nIand1, nIand3, nIand7, nIand31, nIshr, nIle, nIlt, nIeq, nIc, vpI, nIm1, m1nI, m1lt, nIlm, m1le, nIlem, nIneg, u2_ss, u2_nn, u2_kk, nIm1n, m1nIn, m1ltn, nIlmn, m1len, nIlemn, e11, r1, eH, h1] at c1); (try simp (disch := omega) only [nlit, natrem, nIrm, nIam, nIam',  nI_add, pk_mul, nIsub, nIrem, nIdiv, nIand1, nIand3, nIand7, nIand31, nIshr, nIle, nIlt, nIeq, nIc, vpI, nIm1, m1nI, m1lt, nIlm, m1le, nIlem, nIneg, u2_ss, u2_nn, u2_kk, nIm1n, m1nIn, m1ltn, nIlmn, m1len, nIlemn, e11, r1, eH, h1])
        omega
      · (try simp (disch := omega) only [nlit, natrem, nIrm, nIam, nIam',  nI_add, pk_mul, nIsub, nIrem, nIdiv, nIand1, nIand3, nIand7, nIand31, nIshr, nIle, nIlt, nIeq, nIc, vpI, nIm1, m1nI, m1lt, nIlm, m1le, nIlem, nIneg, u2_ss, u2_nn, u2_kk, nIm1n, m1nIn, m1ltn, nIlmn, m1len, nIlemn, e11, r1, eH, h1] at c1) <;> (try simp (disch := omega) only [nlit, natrem, nIrm, nIam, nIam',  nI_add, pk_mul, nIsub, nIrem, nIdiv, nIand1, nIand3, nIand7, nIand31, nIshr, nIle, nIlt, nIeq, nIc, vpI, nIm1, m1nI, m1lt, nIlm, m1le, nIlem, nIneg, u2_ss, u2_nn, u2_kk, nIm1n, m1nIn, m1ltn, nIlmn, m1len, nIlemn, e11, r1, eH, h1]) <;> (first | omega | trivial)
      · (try simp (disch := omega) only [nlit, natrem, nIrm, nIam, nIam',  nI_add, pk_mul, nIsub, nIrem, nIdiv, nIand1, nIand3, nIand7, nIand31, nIshr, nIle, nIlt, nIeq, nIc, vpI, nIm1, m1nI, m1lt, nIlm, m1le, nIlem, nIneg, u2_ss, u2_nn, u2_kk, nIm1n, m1nIn, m1ltn, nIlmn, m1len, nIlemn, e11, r1, eH, h1] at c1) <;> (try simp (disch := omega) only [nlit, natrem, nIrm, nIam, nIam',  nI_add, pk_mul, nIsub, nIrem, nIdiv, nIand1, nIand3, nIand7, nIand31, nIshr, nIle, nIlt, nIeq, nIc, vpI, nIm1, m1nI, m1lt, nIlm, m1le, nIlem, nIneg, u2_ss, u2_nn, u2_kk, nIm1n, m1nIn, m1ltn, nIlmn, m1len, nIlemn, e11, r1, eH, h1]) <;> (first | omega | trivial)
      · (try simp (disch := omega) only [nlit, natrem, nIrm, nIam, nIam',  nI_add, pk_mul, nIsub, nIrem, nIdiv, nIand1, nIand3, nIand7, nIand31, nIshr, nIle, nIlt, nIeq, nIc, vpI, nIm1, m1nI, m1lt, nIlm, m1le, nIlem, nIneg, u2_ss, u2_nn, u2_kk, nIm1n, m1nIn, m1ltn, nIlmn, m1len, nIlemn, e11, r1, eH, h1] at c1) <;> (try simp (disch := omega) only [nlit, natrem, nIrm, nIam, nIam',  nI_add, pk_mul, nIsub, nIrem, nIdiv, nIand1, nIand3, nIand7, nIand31, nIshr, nIle, nIlt, nIeq, nIc, vpI, nIm1, m1nI, m1lt, nIlm, m1le, nIlem, nIneg, u2_ss, u2_nn, u2_kk, nIm1n, m1nIn, m1ltn, nIlmn, m1len, nIlemn, e11, r1, eH, h1]) <;> (first | omega | trivial)
      · (try simp (disch := omega) only [nlit, natrem, nIrm, nIam, nIam',  nI_add, pk_mul, nIsub, nIrem, nIdiv, nIand1, nIand3, nIand7, nIand31, nIshr, nIle, nIlt, nIeq, nIc, vpI, nIm1, m1nI, m1lt, nIlm, m1le, nIlem, nIneg, u2_ss, u2_nn, u2_kk, nIm1n, m1nIn, m1ltn, nIlmn, m1len, nIlemn, e11, r1, eH, h1] at c1); (try simp (disch := omega) only [nlit, natrem, nIrm, nIam, nIam',  nI_add, pk_mul, nIsub, nIrem, nIdiv, nIand1, nIand3, nIand7, nIand31, nIshr, nIle, nIlt, nIeq, nIc, vpI, nIm1, m1nI, m1lt, nIlm, m1le, nIlem, nIneg, u2_ss, u2_nn, u2_kk, nIm1n, m1nIn, m1ltn, nIlmn, m1len, nIlemn, e11, r1, eH, h1])
        refine max_ok (by omega) (by omega) (RX2_hold_53 hc ?_)
        rw [show nI g + 1 = nI (g + 1) from nI_add g 1]
        refine ih (g + 1) _ (by omega) (by omega) ((hJ.up (by simp)).up (by simp)) (u2_ss _ _ _ _) (fun x hx => ?_)
        rw [u2_nn _ _ _ _ (by decide)]
        by_cases e : x = g
        · rw [e, u2_ss]
        · rw [u2_kk _ _ _ _ e]; exact h2 x (by omega)
  exact EX2_hold hc (hst _ 0 _ rfl (Nat.zero_le _) (Kp.rf.up (by simp)) (u2_ss _ _ _ _) (fun x hx => absurd hx (Nat.not_lt_zero _)))
def spBall (a : Ce) (lc : List (Nat × Nat)) (gl : Nat → List Nat) (x y z : Int32) : Int32 :=
  if inR x 9 ∧ inR y 10000 ∧ (z = -1 ∨ inR z (a 4).val) then (if z = -1 then nI (mxL (fun g => rt a lc g (gl g)) (a 4).val) else nI ((bB a (fun g => rt a lc g (gl g)) x.toNatClampNeg (y.toInt64, hom a) (mxL (fun g => rt a lc g (gl g)) (a 4).val)).2 z.toNatClampNeg / 4)) else -2
theorem c_ball {d : Nat} {sx : Sx} {I : Ints} {L : Lngs} {R : Rfs} {q : Q3} {a : Ce} {lc : List (Nat × Nat)} {lf : Nat → Nat} {gl : Nat → List Nat} {sn : Nat → Nat} {c : Nat} (hC : CC a lc lf gl sn c I L R) {x y z : Int32} (h : ∀ J K, CSQ a lc lf gl sn c I J L K R R → q (some (.int (spBall a lc gl x y z))) J K R) : E0 mX11_ball (d + 8) sx [.ref 0, .int x, .int y, .int z] I L R q := by
  have hCC := hC
  obtain ⟨hc, hR, hW, hE, hCl, hEv, hRt⟩ := hC
  have w4 := hW.2.2.2.2.1
  have h0 := h I L (CQ.rf hCC).cs
  have hno : ¬ (inR x 9 ∧ inR y 10000 ∧ (z = -1 ∨ inR z (a 4).val)) → q (some (.int (-2))) I L R := by
    intro hn
    have e : spBall a lc gl x y z = -2 := by unfold spBall; rw [if_neg hn]
    rw [e] at h0
    exact h0
  have hgo : inR x 9 ∧ inR y 10000 ∧ (z = -1 ∨ inR z (a 4).val) → E0 mX11_readyRoutines (d + 7) sx [.ref 0] I L R (fun r J K T => Y mX11_ball (d + 8) sx 47 [(0, .ref 0), (1, .int x), (2, .int y), (3, .int z)] (r.toList ++ []) J K T q) := by
    intro hy
    obtain ⟨hx1, hx2, hx3⟩ := hy
    obtain ⟨m, hm, e⟩ := inR_of (by decide) hx1.1 hx1.2
    subst e
    refine readyRoutines_ok hCC (fun J K j1 j2 j3 j4 => RX11_ball_47 hc hR ?_)
    refine hold_ok (by omega) j1 j2 (fun M N hB => ?_)
    have hS : CSQ a lc lf gl sn c I M L N R R := by
      have hc' : c = 2 ∨ c = 14 := hc
      obtain ⟨_, _, _, _, k5, k6, k7⟩ := j1
      refine ⟨⟨hc, hR, hW, hE, k5.fr (fun k h1 h2 => hB.1 k ⟨by omega, by omega⟩) (hB.2.1 c (by omega)), k6.fr (fun k h1 h2 => hB.1 k ⟨by omega, by omega⟩), fun g hg h0 => ?_⟩, ?_, ?_, Kp.rf⟩
      · rw [hB.1 43 (by decide)] at h0
        exact (k7 g hg h0).fr (hB.1 _ ⟨by omega, by omega⟩) (hB.1 _ ⟨by omega, by omega⟩) (hB.2.1 _ (by omega))
      · exact (j3.mn (fun k hk => ⟨hk.1, fun e => hk.2.1 (by omega), hk.2.2.2.2.2⟩)).tr (hB.1.mn (fun k hk => ⟨hk.2.2.1, hk.2.2.2.1⟩))
      · exact (j4.mn (fun k hk => hk.2.2)).tr (hB.2.1.mn (fun k hk => hk.2.1))
    have h := h M N hS
    unfold spBall at h
    rw [if_pos ⟨hx1, hx2, hx3⟩, nIc (by omega)] at h
    have eb := hB.2.2.1
    have hps := bB_ok hW (rs := fun g => rt a lc g (gl g)) (hic := m) (s := (y.toInt64, hom a)) (fun g hg => hom_lt hW hg) (mxL (fun g => rt a lc g (gl g)) (a 4).val)
    by_cases hz : z = -1
    · rw [if_pos hz] at h
      refine RX11_ball_64 ⟨fun w => absurd hz w, fun _ => ?_⟩
      rw [eb]
      exact h
    · rw [if_neg hz] at h
      have hz3 := hx3.resolve_left hz
      obtain ⟨g, hg, e⟩ := inR_of (by omega) hz3.1 hz3.2
      subst e
      rw [nIc (by omega)] at h
      have ep := hB.2.2.2.2 g hg
      have hp := hps g hg
      refine RX11_ball_64  ⟨fun c1 => ⟨?_, ?_⟩, fun c1 => ?_⟩
      · (try simp (disch := omega) only [nlit, natrem, nIrm, nIam, nIam',  nI_add, pk_mul, nIsub, nIrem, nIdiv, nIand1, nIand3, nIand7, nIand31, nIshr, nIle, nIlt, nIeq, nIc, vpI, nIm1, m1nI, m1lt, nIlm, m1le, nIlem, nIneg, u2_ss, u2_nn, u2_kk, nIm1n, m1nIn, m1ltn, nIlmn, m1len, nIlemn, ep, Nat.reduceMod, Nat.reducePow] at c1) <;> (try simp (disch := omega) only [nlit, natrem, nIrm, nIam, nIam',  nI_add, pk_mul, nIsub, nIrem, nIdiv, nIand1, nIand3, nIand7, nIand31, nIshr, nIle, nIlt, nIeq, nIc, vpI, nIm1, m1nI, m1lt, nIlm, m1le, nIlem, nIneg, u2_ss, u2_nn, u2_kk, nIm1n, m1nIn, m1ltn, nIlmn, m1len, nIlemn, ep, Nat.reduceMod, Nat.reducePow]) <;> (first | omega | trivial)
      · (try simp (disch := omega) only [nlit, natrem, nIrm, nIam, nIam',  nI_add, pk_mul, nIsub, nIrem, nIdiv, nIand1, nIand3, nIand7, nIand31, nIshr, nIle, nIlt, nIeq, nIc, vpI, nIm1, m1nI, m1lt, nIlm, m1le, nIlem, nIneg, u2_ss, u2_nn, u2_kk, nIm1n, m1nIn, m1ltn, nIlmn, m1len, nIlemn, ep, Nat.reduceMod, Nat.reducePow] at c1); (try simp (disch := omega) only [nlit, natrem, nIrm, nIam, nIam',  nI_add, pk_mul, nIsub, nIrem, nIdiv, nIand1, nIand3, nIand7, nIand31, nIshr, nIle, nIlt, nIeq, nIc, vpI, nIm1, m1nI, m1lt, nIlm, m1le, nIlem, nIneg, u2_ss, u2_nn, u2_kk, nIm1n, m1nIn, m1ltn, nIlmn, m1len, nIlemn, ep, Nat.reduceMod, Nat.reducePow])
        exact h
      · (try simp (disch := omega) only [nlit, natrem, nIrm, nIam, nIam',  nI_add, pk_mul, nIsub, nIrem, nIdiv, nIand1, nIand3, nIand7, nIand31, nIshr, nIle, nIlt, nIeq, nIc, vpI, nIm1, m1nI, m1lt, nIlm, m1le, nIlem, nIneg, u2_ss, u2_nn, u2_kk, nIm1n, m1nIn, m1ltn, nIlmn, m1len, nIlemn, ep, Nat.reduceMod, Nat.reducePow] at c1) <;> (first | omega | exact absurd rfl c1 | exact absurd trivial c1)
  have n9 : ∀ v : Int32, ¬ v < 0 → ¬ (8 : Int32) < v → inR v 9 := by
    intro v h1 h2
    obtain ⟨h3, h4⟩ := i32_nn h1
    rw [h4] at h2 ⊢
    rw [show (8 : Int32) = nI 8 from rfl, nIlt (by decide) h3] at h2
    exact (inR_nI h3 (by decide)).mpr (by omega)
  have n9' : ∀ v : Int32, (8 : Int32) < v → ¬ inR v 9 := by
    intro v h1 h2
    obtain ⟨m, hm, e⟩ := inR_of (by decide) h2.1 h2.2
    rw [e, show (8 : Int32) = nI 8 from rfl, nIlt (by decide) (by omega)] at h1
    omega
  have nt : ∀ v : Int32, ¬ v < 0 → v ≤ 9999 → inR v 10000 := by
    intro v h1 h2
    obtain ⟨h3, h4⟩ := i32_nn h1
    rw [h4] at h2 ⊢
    rw [show (9999 : Int32) = nI 9999 from rfl, nIle h3 (by decide)] at h2
    exact (inR_nI h3 (by decide)).mpr (by omega)
  have nt' : ∀ v : Int32, ¬ v ≤ 9999 → ¬ inR v 10000 := by
    intro v h1 h2
    obtain ⟨m, hm, e⟩ := inR_of (by decide) h2.1 h2.2
    rw [e, show (9999 : Int32) = nI 9999 from rfl, nIle (by omega) (by decide)] at h1
    omega
  refine EX11_ball hc hR ⟨fun c1 => hno (fun w => w.1.1 c1), fun c1 => ⟨fun c2 => hno (fun w => n9' _ c2 w.1), fun c2 => ⟨fun c3 => hno (fun w => w.2.1.1 c3), fun c3 => ⟨fun c4 => ⟨fun c5 => hgo ⟨n9 _ c1 c2, nt _ c3 c4, Or.inl c5⟩, fun c5 => ?_⟩, fun c4 => hno (fun w => nt' _ c4 w.2.1)⟩⟩⟩⟩
  refine isGuestC_ok hc hCl (fun g hg e => RX11_ball_37 ⟨fun _ => hgo ⟨n9 _ c1 c2, nt _ c3 c4, Or.inr (by rw [e]; exact (inR_nI (by omega) (by omega)).mpr hg)⟩, fun w => absurd w (by decide)⟩) (fun hn => RX11_ball_37 ⟨fun w => absurd rfl w, fun _ => hno (fun w => w.2.2.elim c5 hn)⟩)
