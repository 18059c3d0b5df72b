/-! guests sent one by one -/
def bt (b h : Nat) : Nat := b / 2 ^ h % 2
theorem bt_le (b h : Nat) : bt b h ≤ 1 := by unfold bt; omega
theorem bt_tb (b h : Nat) : bt b h = (b.testBit h).toNat := by
  unfold bt
  rw [Nat.testBit_eq_decide_div_mod_eq]
  by_cases e : b / 2 ^ h % 2 = 1
  · rw [e]; simp
  · rw [show b / 2 ^ h % 2 = 0 by omega]; simp
theorem bt_or {b g h : Nat} : bt (b ||| 2 ^ g) h = if h = g then 1 else bt b h := by
  rw [bt_tb, bt_tb, Nat.testBit_or, Nat.testBit_two_pow]
  by_cases e : h = g
  · subst e; simp
  · rw [if_neg e]
    simp [Ne.symm e]
theorem bt_zero (h : Nat) : bt 0 h = 0 := by unfold bt; rw [Nat.zero_div]
theorem or_lt6 {b g : Nat} (hb : b < 64) (hg : g < 6) : b ||| 2 ^ g < 64 := Nat.or_lt_two_pow (n := 6) hb (Nat.pow_lt_pow_right (by decide) hg)
theorem or_lt8 {b g : Nat} (hb : b < 256) (hg : g < 8) : b ||| 2 ^ g < 256 := Nat.or_lt_two_pow (n := 8) hb (Nat.pow_lt_pow_right (by decide) hg)
theorem bt_m {b h : Nat} (hh : h < 32) : b / 2 ^ (h % 32) % 2 = bt b h := by rw [Nat.mod_eq_of_lt hh]; rfl
theorem i_bt {b h : Nat} (hb : b < 2147483648) (hh : h < 32) : (nI b >>> nI (h % 32)) &&& nI 1 = nI (bt b h) := by
  rw [Nat.mod_eq_of_lt hh, nIshr hb hh, nIand1]
  rfl
theorem i_or {b h : Nat} (hh : h < 31) : nI b ||| (nI 1 <<< nI (h % 32)) = nI (b ||| 2 ^ h) := by
  rw [Nat.mod_eq_of_lt (by omega), nIshl (by omega) (by rw [Nat.one_mul]; exact Nat.pow_lt_pow_right (by decide) (by omega)), Nat.one_mul, nIor]
abbrev Gs : Type := (Nat → Nat) × Nat
def othG (a : Ce) (s : Gs) (g x : Nat) : Bool := (List.range (a 4).val).any (fun h => decide (h ≠ g ∧ bt s.2 h = 0 ∧ s.1 h = x))
theorem othG_iff {a : Ce} {s : Gs} {g x : Nat} : othG a s g x = true ↔ ∃ h, h < (a 4).val ∧ h ≠ g ∧ bt s.2 h = 0 ∧ s.1 h = x := by
  unfold othG
  rw [List.any_eq_true]
  constructor
  · rintro ⟨h, h1, h2⟩
    have := decide_eq_true_eq.mp h2
    exact ⟨h, List.mem_range.mp h1, this.1, this.2.1, this.2.2⟩
  · rintro ⟨h, h1, h2, h3, h4⟩
    exact ⟨h, List.mem_range.mpr h1, decide_eq_true_eq.mpr ⟨h2, h3, h4⟩⟩
def clG (a : Ce) (s : Gs) (g x : Nat) : Bool := clP a x || othG a s g x
def enG (a : Ce) (rs : Nat → List Nat) (s : Gs) (g : Nat) : Nat := wk a (clG a s g) (gK a g).val (rs g) (hom a g) / 4
def go1 (a : Ce) (rs : Nat → List Nat) (s : Gs) (g : Nat) : Gs := (up1 s.1 g (enG a rs s g), if enG a rs s g = (a 5).val then s.2 ||| 2 ^ g else s.2)
def s0G (a : Ce) : Gs := (fun g => hom a g / 4, 0)
def gsOk (a : Ce) (s : Gs) : Prop := (∀ g, g < (a 4).val → s.1 g < 64) ∧ s.2 < 64
theorem enG_lt {a : Ce} (hW : WFc a) {rs : Nat → List Nat} {s : Gs} {g : Nat} (hg : g < (a 4).val) : enG a rs s g < 64 := by
  have := wk_lt (cl := clG a s g) (kd := (gK a g).val) hW.1.2 hW.2.1.2 (rs g) _ (hom_lt hW hg)
  unfold enG
  omega
theorem go1_ok {a : Ce} (hW : WFc a) {rs : Nat → List Nat} {s : Gs} (h : gsOk a s) {g : Nat} (hg : g < (a 4).val) : gsOk a (go1 a rs s g) := by
  have w4 := hW.2.2.2.2.1
  refine ⟨fun x hx => ?_, ?_⟩
  · show up1 s.1 g _ x < 64
    by_cases e : x = g
    · rw [e, up1_s]; exact enG_lt hW hg
    · rw [up1_n _ _ e]; exact h.1 x hx
  · show (if _ then _ else _) < 64
    split
    · exact or_lt6 h.2 (by omega)
    · exact h.2
theorem s0G_ok {a : Ce} (hW : WFc a) : gsOk a (s0G a) := ⟨fun g hg => by have := hom_lt hW hg; show hom a g / 4 < 64; omega, show 0 < 64 by decide⟩
/-- the class's cells of a sending -/
def SnC (a : Ce) (s : Gs) (J : Ints) : Prop := (∀ g, g < (a 4).val → J 57 g = nI (s.1 g)) ∧ J 56 6 = nI s.2
def SRf (c : Nat) (R : Rfs) : Prop := R 56 3 = some c ∧ R 56 4 = some 42
def FrS (I J : Ints) : Prop := Kp (fun k => k ≠ 56 ∧ k ≠ 57) I J ∧ ∀ i, i ≠ 6 → J 56 i = I 56 i
theorem FrS.rf {I : Ints} : FrS I I := ⟨Kp.rf, fun _ _ => rfl⟩
theorem FrS.tr {I J K : Ints} (h : FrS I J) (h2 : FrS J K) : FrS I K := ⟨h.1.tr h2.1, fun i hi => (h2.2 i hi).trans (h.2 i hi)⟩
theorem FrS.u7 {I J : Ints} (h : FrS I J) {k : Nat} {v : Int32} : FrS I (u2 J 57 k v) := ⟨h.1.up (by simp), fun i hi => by rw [u2_nn _ _ _ _ (by decide)]; exact h.2 i hi⟩
theorem FrS.u6 {I J : Ints} (h : FrS I J) {v : Int32} : FrS I (u2 J 56 6 v) := ⟨h.1.up (by simp), fun i hi => by rw [u2_kk _ _ _ _ hi]; exact h.2 i hi⟩
def RsC (a : Ce) (lc : List (Nat × Nat)) (gl : Nat → List Nat) (I : Ints) (L : Lngs) : Prop := ∀ g, g < (a 4).val → Rou a lc g (gl g) (80 + 2 * g) I L
theorem RsC.frs {a : Ce} {lc : List (Nat × Nat)} {gl : Nat → List Nat} {I J : Ints} {L : Lngs} (h : RsC a lc gl I L) (hF : FrS I J) : RsC a lc gl J L := fun g hg => (h g hg).fr (hF.1 _ ⟨by omega, by omega⟩) (hF.1 _ ⟨by omega, by omega⟩) rfl
theorem CelC.frs {a : Ce} {lc : List (Nat × Nat)} {c : Nat} {I J : Ints} {L : Lngs} (hc : isCel c) (h : CelC a lc c I L) (hF : FrS I J) : CelC a lc c J L := by
  have hc' : c = 2 ∨ c = 14 := hc
  exact h.fr (fun k h1 h2 => hF.1 k ⟨by omega, by omega⟩) rfl
theorem go_ok {d : Nat} {sx : Sx} {I : Ints} {L : Lngs} {R : Rfs} {q : Q3} {a : Ce} {lc : List (Nat × Nat)} {lf : Nat → Nat} {gl : Nat → List Nat} {sn : Nat → Nat} {c : Nat} (hc : isCel c) (hW : WFc a) (hE : WFe a lf gl sn) (hCl : CelC a lc c I L) (hRs : RsC a lc gl I L) (hSR : SRf c R) {s : Gs} (hs : gsOk a s) (hS : SnC a s I) {g : Nat} (hg : g < (a 4).val)
    (h : ∀ J, SnC a (go1 a (fun x => rt a lc x (gl x)) s g) J → FrS I J → q none J L R) : E0 mX9_go (d + 4) sx [.ref 56, .int (nI g)] I L R q := by
  have hc' : c = 2 ∨ c = 14 := hc
  have w4 := hW.2.2.2.2.1
  have e11 := hCl.1.2.2.2.2.2
  have e3 := hCl.1.2.2.1
  obtain ⟨hro, hsr⟩ := isRou_g (g := g) (by omega)
  have hsr' : sr0 42 (nI g).toNatClampNeg = some (80 + 2 * g) := by rw [nIc (by omega)]; exact hsr
  have e6 := hS.2
  have hs2 := hs.2
  have hs42 := sh_42
  have hlp : ∀ n k : Nat, ∀ m, n = (a 4).val - k → k ≤ (a 4).val → (∀ x, x < 64 → bL m x = (List.range k).any (fun h => decide (h ≠ g ∧ bt s.2 h = 0 ∧ s.1 h = x))) → Y mX9_go (d + 4) sx 5 [(0, .ref 56), (1, .int (nI g)), (2, .long m), (4, .int (nI k))] [] I L R q := by
    intro n
    induction n with
    | zero =>
      intro k m hn hk hm
      have e : k = (a 4).val := by omega
      refine RX9_go_5 hc hSR.1 hs42 hSR.2 hro hsr' ⟨fun c1 => ⟨?_, ?_⟩, fun c1 => ⟨fun c2 => ?_, fun c2 => ⟨fun c3 => ?_, fun c3 => ⟨?_, ?_⟩⟩⟩⟩
      · (try simp (disch := omega) only [nlit, natrem, nIrm, nIam, nIam',  nI_add, pk_mul, nIsub, nIrem, nIdiv, nIand1, nIand3, nIand7, nIand31, nIshr, nIle, nIlt, nIeq, nIc, vpI, nIm1, m1nI, m1lt, nIlm, m1le, nIlem, nIneg, u2_ss, u2_nn, u2_kk, nIm1n, m1nIn, m1ltn, nIlmn, m1len, nIlemn, e11] at c1) <;> (try simp (disch := omega) only [nlit, natrem, nIrm, nIam, nIam',  nI_add, pk_mul, nIsub, nIrem, nIdiv, nIand1, nIand3, nIand7, nIand31, nIshr, nIle, nIlt, nIeq, nIc, vpI, nIm1, m1nI, m1lt, nIlm, m1le, nIlem, nIneg, u2_ss, u2_nn, u2_kk, nIm1n, m1nIn, m1ltn, nIlmn, m1len, nIlemn, e11]) <;> (first | omega | trivial)
      · (try simp (disch := omega) only [nlit, natrem, nIrm, nIam, nIam',  nI_add, pk_mul, nIsub, nIrem, nIdiv, nIand1, nIand3, nIand7, nIand31, nIshr, nIle, nIlt, nIeq, nIc, vpI, nIm1, m1nI, m1lt, nIlm, m1le, nIlem, nIneg, u2_ss, u2_nn, u2_kk, nIm1n, m1nIn, m1ltn, nIlmn, m1len, nIlemn, e11] at c1); (try simp (disch := omega) only [nlit, natrem, nIrm, nIam, nIam',  nI_add, pk_mul, nIsub, nIrem, nIdiv, nIand1, nIand3, nIand7, nIand31, nIshr, nIle, nIlt, nIeq, nIc, vpI, nIm1, m1nI, m1lt, nIlm, m1le, nIlem, nIneg, u2_ss, u2_nn, u2_kk, nIm1n, m1nIn, m1ltn, nIlmn, m1len, nIlemn, e11])
        refine endAmong_ok (oth := othG a s g) hc hro hCl hW hg (hE.2.1 g (by omega)) (hRs g hg) (fun x hx => by rw [hm x hx, e]; rfl) ?_
        have ee : wk a (fun x => clP a x || othG a s g x) (gK a g).val (rt a lc g (gl g)) (hom a g) / 4 = enG a (fun x => rt a lc x (gl x)) s g := rfl
        rw [ee]
        have hen := enG_lt hW (rs := fun x => rt a lc x (gl x)) (s := s) hg
        have ho := i_or (b := s.2) (h := g) (by omega)
        refine RX9_go_72 hc hSR.1 ⟨?_, ⟨?_, ⟨fun c1 => ?_, fun c1 => ?_⟩⟩⟩
        · (try simp (disch := omega) only [nlit, natrem, nIrm, nIam, nIam',  nI_add, pk_mul, nIsub, nIrem, nIdiv, nIand1, nIand3, nIand7, nIand31, nIshr, nIle, nIlt, nIeq, nIc, vpI, nIm1, m1nI, m1lt, nIlm, m1le, nIlem, nIneg, u2_ss, u2_nn, u2_kk, nIm1n, m1nIn, m1ltn, nIlmn, m1len, nIlemn, e3, e6, ho]) <;> (first | omega | trivial)
        · (try simp (disch := omega) only [nlit, natrem, nIrm, nIam, nIam',  nI_add, pk_mul, nIsub, nIrem, nIdiv, nIand1, nIand3, nIand7, nIand31, nIshr, nIle, nIlt, nIeq, nIc, vpI, nIm1, m1nI, m1lt, nIlm, m1le, nIlem, nIneg, u2_ss, u2_nn, u2_kk, nIm1n, m1nIn, m1ltn, nIlmn, m1len, nIlemn, e3, e6, ho]) <;> (first | omega | trivial)
        · (try simp (disch := omega) only [nlit, natrem, nIrm, nIam, nIam',  nI_add, pk_mul, nIsub, nIrem, nIdiv, nIand1, nIand3, nIand7, nIand31, nIshr, nIle, nIlt, nIeq, nIc, vpI, nIm1, m1nI, m1lt, nIlm, m1le, nIlem, nIneg, u2_ss, u2_nn, u2_kk, nIm1n, m1nIn, m1ltn, nIlmn, m1len, nIlemn, e3, e6, ho] at c1); (try simp (disch := omega) only [nlit, natrem, nIrm, nIam, nIam',  nI_add, pk_mul, nIsub, nIrem, nIdiv, nIand1, nIand3, nIand7, nIand31, nIshr, nIle, nIlt, nIeq, nIc, vpI, nIm1, m1nI, m1lt, nIlm, m1le, nIlem, nIneg, u2_ss, u2_nn, u2_kk, nIm1n, m1nIn, m1ltn, nIlmn, m1len, nIlemn, e3, e6, ho])
          refine h _ ⟨fun x hx => ?_, ?_⟩ FrS.rf.u7
          · show _ = nI (up1 s.1 g _ x)
            by_cases ex : x = g
            · rw [ex, u2_ss, up1_s]
            · rw [u2_kk _ _ _ _ ex, up1_n _ _ ex]; exact hS.1 x hx
          · show _ = nI (if _ then _ else _)
            rw [if_neg c1, u2_nn _ _ _ _ (by decide)]
            exact e6
        · (try simp (disch := omega) only [nlit, natrem, nIrm, nIam, nIam',  nI_add, pk_mul, nIsub, nIrem, nIdiv, nIand1, nIand3, nIand7, nIand31, nIshr, nIle, nIlt, nIeq, nIc, vpI, nIm1, m1nI, m1lt, nIlm, m1le, nIlem, nIneg, u2_ss, u2_nn, u2_kk, nIm1n, m1nIn, m1ltn, nIlmn, m1len, nIlemn, e3, e6, ho] at c1); (try simp (disch := omega) only [nlit, natrem, nIrm, nIam, nIam',  nI_add, pk_mul, nIsub, nIrem, nIdiv, nIand1, nIand3, nIand7, nIand31, nIshr, nIle, nIlt, nIeq, nIc, vpI, nIm1, m1nI, m1lt, nIlm, m1le, nIlem, nIneg, u2_ss, u2_nn, u2_kk, nIm1n, m1nIn, m1ltn, nIlmn, m1len, nIlemn, e3, e6, ho])
          refine h _ ⟨fun x hx => ?_, ?_⟩ FrS.rf.u7.u6
          · show _ = nI (up1 s.1 g _ x)
            rw [u2_nn _ _ _ _ (by decide)]
            by_cases ex : x = g
            · rw [ex, u2_ss, up1_s]
            · rw [u2_kk _ _ _ _ ex, up1_n _ _ ex]; exact hS.1 x hx
          · show _ = nI (if _ then _ else _)
            rw [if_pos c1, u2_ss]
      · (try simp (disch := omega) only [nlit, natrem, nIrm, nIam, nIam',  nI_add, pk_mul, nIsub, nIrem, nIdiv, nIand1, nIand3, nIand7, nIand31, nIshr, nIle, nIlt, nIeq, nIc, vpI, nIm1, m1nI, m1lt, nIlm, m1le, nIlem, nIneg, u2_ss, u2_nn, u2_kk, nIm1n, m1nIn, m1ltn, nIlmn, m1len, nIlemn, e11] at c1 c2) <;> (first | omega | exact absurd rfl c1 | exact absurd trivial c1 | exact absurd rfl c2 | exact absurd trivial c2)
      · (try simp (disch := omega) only [nlit, natrem, nIrm, nIam, nIam',  nI_add, pk_mul, nIsub, nIrem, nIdiv, nIand1, nIand3, nIand7, nIand31, nIshr, nIle, nIlt, nIeq, nIc, vpI, nIm1, m1nI, m1lt, nIlm, m1le, nIlem, nIneg, u2_ss, u2_nn, u2_kk, nIm1n, m1nIn, m1ltn, nIlmn, m1len, nIlemn, e11] at c1 c2 c3) <;> (first | omega | exact absurd rfl c1 | exact absurd trivial c1 | exact absurd rfl c2 | exact absurd trivial c2 | exact absurd rfl c3 | exact absurd trivial c3)
      · (try simp (disch := omega) only [nlit, natrem, nIrm, nIam, nIam',  nI_add, pk_mul, nIsub, nIrem, nIdiv, nIand1, nIand3, nIand7, nIand31, nIshr, nIle, nIlt, nIeq, nIc, vpI, nIm1, m1nI, m1lt, nIlm, m1le, nIlem, nIneg, u2_ss, u2_nn, u2_kk, nIm1n, m1nIn, m1ltn, nIlmn, m1len, nIlemn, e11] at c1 c2 c3) <;> (try simp (disch := omega) only [nlit, natrem, nIrm, nIam, nIam',  nI_add, pk_mul, nIsub, nIrem, nIdiv, nIand1, nIand3, nIand7, nIand31, nIshr, nIle, nIlt, nIeq, nIc, vpI, nIm1, m1nI, m1lt, nIlm, m1le, nIlem, nIneg, u2_ss, u2_nn, u2_kk, nIm1n, m1nIn, m1ltn, nIlmn, m1len, nIlemn, e11]) <;> (first | omega | trivial)
      · (try simp (disch := omega) only [nlit, natrem, nIrm, nIam, nIam',  nI_add, pk_mul, nIsub, nIrem, nIdiv, nIand1, nIand3, nIand7, nIand31, nIshr, nIle, nIlt, nIeq, nIc, vpI, nIm1, m1nI, m1lt, nIlm, m1le, nIlem, nIneg, u2_ss, u2_nn, u2_kk, nIm1n, m1nIn, m1ltn, nIlmn, m1len, nIlemn, e11] at c1 c2 c3) <;> (first | omega | exact absurd rfl c1 | exact absurd trivial c1 | exact absurd rfl c2 | exact absurd trivial c2 | exact absurd rfl c3 | exact absurd trivial c3)
    | succ n ih =>
      intro k m hn hk hm
      have hbl := bt_le s.2 k
      have e7 := hS.1 k (by omega)
      have h64 := hs.1 k (by omega)
      refine RX9_go_5 hc hSR.1 hs42 hSR.2 hro hsr' ⟨fun c1 => ⟨?_, ?_⟩, fun c1 => ⟨fun c2 => ?_, fun c2 => ⟨fun c3 => ?_, fun c3 => ⟨?_, ?_⟩⟩⟩⟩
      · (try simp (disch := omega) only [nlit, natrem, nIrm, nIam, nIam',  nI_add, pk_mul, nIsub, nIrem, nIdiv, nIand1, nIand3, nIand7, nIand31, nIshr, nIle, nIlt, nIeq, nIc, vpI, nIm1, m1nI, m1lt, nIlm, m1le, nIlem, nIneg, u2_ss, u2_nn, u2_kk, nIm1n, m1nIn, m1ltn, nIlmn, m1len, nIlemn, e11, e6, bt_m, e7] at c1) <;> (try simp (disch := omega) only [nlit, natrem, nIrm, nIam, nIam',  nI_add, pk_mul, nIsub, nIrem, nIdiv, nIand1, nIand3, nIand7, nIand31, nIshr, nIle, nIlt, nIeq, nIc, vpI, nIm1, m1nI, m1lt, nIlm, m1le, nIlem, nIneg, u2_ss, u2_nn, u2_kk, nIm1n, m1nIn, m1ltn, nIlmn, m1len, nIlemn, e11, e6, bt_m, e7]) <;> (first | omega | trivial)
      · (try simp (disch := omega) only [nlit, natrem, nIrm, nIam, nIam',  nI_add, pk_mul, nIsub, nIrem, nIdiv, nIand1, nIand3, nIand7, nIand31, nIshr, nIle, nIlt, nIeq, nIc, vpI, nIm1, m1nI, m1lt, nIlm, m1le, nIlem, nIneg, u2_ss, u2_nn, u2_kk, nIm1n, m1nIn, m1ltn, nIlmn, m1len, nIlemn, e11, e6, bt_m, e7] at c1); (try simp (disch := omega) only [nlit, natrem, nIrm, nIam, nIam',  nI_add, pk_mul, nIsub, nIrem, nIdiv, nIand1, nIand3, nIand7, nIand31, nIshr, nIle, nIlt, nIeq, nIc, vpI, nIm1, m1nI, m1lt, nIlm, m1le, nIlem, nIneg, u2_ss, u2_nn, u2_kk, nIm1n, m1nIn, m1ltn, nIlmn, m1len, nIlemn, e11, e6, bt_m, e7])
        omega
      · (try simp (disch := omega) only [nlit, natrem, nIrm, nIam, nIam',  nI_add, pk_mul, nIsub, nIrem, nIdiv, nIand1, nIand3, nIand7, nIand31, nIshr, nIle, nIlt, nIeq, nIc, vpI, nIm1, m1nI, m1lt, nIlm, m1le, nIlem, nIneg, u2_ss, u2_nn, u2_kk, nIm1n, m1nIn, m1ltn, nIlmn, m1len, nIlemn, e11, e6, bt_m, e7] at c1 c2); (try simp (disch := omega) only [nlit, natrem, nIrm, nIam, nIam',  nI_add, pk_mul, nIsub, nIrem, nIdiv, nIand1, nIand3, nIand7, nIand31, nIshr, nIle, nIlt, nIeq, nIc, vpI, nIm1, m1nI, m1lt, nIlm, m1le, nIlem, nIneg, u2_ss, u2_nn, u2_kk, nIm1n, m1nIn, m1ltn, nIlmn, m1len, nIlemn, e11, e6, bt_m, e7])
        refine ih (k + 1) m (by omega) (by omega) (fun x hx => ?_)
        rw [hm x hx, List.range_succ, List.any_append]
        simp [c2]
      · (try simp (disch := omega) only [nlit, natrem, nIrm, nIam, nIam',  nI_add, pk_mul, nIsub, nIrem, nIdiv, nIand1, nIand3, nIand7, nIand31, nIshr, nIle, nIlt, nIeq, nIc, vpI, nIm1, m1nI, m1lt, nIlm, m1le, nIlem, nIneg, u2_ss, u2_nn, u2_kk, nIm1n, m1nIn, m1ltn, nIlmn, m1len, nIlemn, e11, e6, bt_m, e7] at c1 c2 c3); (try simp (disch := omega) only [nlit, natrem, nIrm, nIam, nIam',  nI_add, pk_mul, nIsub, nIrem, nIdiv, nIand1, nIand3, nIand7, nIand31, nIshr, nIle, nIlt, nIeq, nIc, vpI, nIm1, m1nI, m1lt, nIlm, m1le, nIlem, nIneg, u2_ss, u2_nn, u2_kk, nIm1n, m1nIn, m1ltn, nIlmn, m1len, nIlemn, e11, e6, bt_m, e7])
        refine ih (k + 1) m (by omega) (by omega) (fun x hx => ?_)
        rw [hm x hx, List.range_succ, List.any_append]
        simp [c3]
      · (try simp (disch := omega) only [nlit, natrem, nIrm, nIam, nIam',  nI_add, pk_mul, nIsub, nIrem, nIdiv, nIand1, nIand3, nIand7, nIand31, nIshr, nIle, nIlt, nIeq, nIc, vpI, nIm1, m1nI, m1lt, nIlm, m1le, nIlem, nIneg, u2_ss, u2_nn, u2_kk, nIm1n, m1nIn, m1ltn, nIlmn, m1len, nIlemn, e11, e6, bt_m, e7] at c1 c2 c3) <;> (try simp (disch := omega) only [nlit, natrem, nIrm, nIam, nIam',  nI_add, pk_mul, nIsub, nIrem, nIdiv, nIand1, nIand3, nIand7, nIand31, nIshr, nIle, nIlt, nIeq, nIc, vpI, nIm1, m1nI, m1lt, nIlm, m1le, nIlem, nIneg, u2_ss, u2_nn, u2_kk, nIm1n, m1nIn, m1ltn, nIlmn, m1len, nIlemn, e11, e6, bt_m, e7]) <;> (first | omega | trivial)
      · (try simp (disch := omega) only [nlit, natrem, nIrm, nIam, nIam',  nI_add, pk_mul, nIsub, nIrem, nIdiv, nIand1, nIand3, nIand7, nIand31, nIshr, nIle, nIlt, nIeq, nIc, vpI, nIm1, m1nI, m1lt, nIlm, m1le, nIlem, nIneg, u2_ss, u2_nn, u2_kk, nIm1n, m1nIn, m1ltn, nIlmn, m1len, nIlemn, e11, e6, bt_m, e7] at c1 c2 c3); (try simp (disch := omega) only [nlit, natrem, nIrm, nIam, nIam',  nI_add, pk_mul, nIsub, nIrem, nIdiv, nIand1, nIand3, nIand7, nIand31, nIshr, nIle, nIlt, nIeq, nIc, vpI, nIm1, m1nI, m1lt, nIlm, m1le, nIlem, nIneg, u2_ss, u2_nn, u2_kk, nIm1n, m1nIn, m1ltn, nIlmn, m1len, nIlemn, e11, e6, bt_m, e7])
        refine ih (k + 1) _ (by omega) (by omega) (fun x hx => ?_)
        rw [bL_or, hm x hx, bL_one (by omega) hx, List.range_succ, List.any_append]
        simp only [List.any_cons, List.any_nil, Bool.or_false, c2, c3, ne_eq, not_false_eq_true, true_and]
        congr 1
        exact decide_eq_decide.mpr eq_comm
  exact EX9_go (hlp _ 0 0 rfl (Nat.zero_le _) (fun x hx => by rw [bL_0]; rfl))
