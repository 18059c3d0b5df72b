/-! the best order -/
def cntP (b : Nat) : Nat → Nat
  | 0 => 0
  | k + 1 => cntP b k + bt b k
def bcE (v0 : Int32) : Int32 := ((((((((v0 - (((Int32.toUInt32 v0 >>> (Int32.toUInt32 1 &&& Int32.toUInt32 31)).toInt32) &&& 1431655765)) &&& 858993459) + (((Int32.toUInt32 (v0 - (((Int32.toUInt32 v0 >>> (Int32.toUInt32 1 &&& Int32.toUInt32 31)).toInt32) &&& 1431655765)) >>> (Int32.toUInt32 2 &&& Int32.toUInt32 31)).toInt32) &&& 858993459)) + ((Int32.toUInt32 (((v0 - (((Int32.toUInt32 v0 >>> (Int32.toUInt32 1 &&& Int32.toUInt32 31)).toInt32) &&& 1431655765)) &&& 858993459) + (((Int32.toUInt32 (v0 - (((Int32.toUInt32 v0 >>> (Int32.toUInt32 1 &&& Int32.toUInt32 31)).toInt32) &&& 1431655765)) >>> (Int32.toUInt32 2 &&& Int32.toUInt32 31)).toInt32) &&& 858993459)) >>> (Int32.toUInt32 4 &&& Int32.toUInt32 31)).toInt32)) &&& 252645135) + ((Int32.toUInt32 (((((v0 - (((Int32.toUInt32 v0 >>> (Int32.toUInt32 1 &&& Int32.toUInt32 31)).toInt32) &&& 1431655765)) &&& 858993459) + (((Int32.toUInt32 (v0 - (((Int32.toUInt32 v0 >>> (Int32.toUInt32 1 &&& Int32.toUInt32 31)).toInt32) &&& 1431655765)) >>> (Int32.toUInt32 2 &&& Int32.toUInt32 31)).toInt32) &&& 858993459)) + ((Int32.toUInt32 (((v0 - (((Int32.toUInt32 v0 >>> (Int32.toUInt32 1 &&& Int32.toUInt32 31)).toInt32) &&& 1431655765)) &&& 858993459) + (((Int32.toUInt32 (v0 - (((Int32.toUInt32 v0 >>> (Int32.toUInt32 1 &&& Int32.toUInt32 31)).toInt32) &&& 1431655765)) >>> (Int32.toUInt32 2 &&& Int32.toUInt32 31)).toInt32) &&& 858993459)) >>> (Int32.toUInt32 4 &&& Int32.toUInt32 31)).toInt32)) &&& 252645135) >>> (Int32.toUInt32 8 &&& Int32.toUInt32 31)).toInt32)) + ((Int32.toUInt32 ((((((v0 - (((Int32.toUInt32 v0 >>> (Int32.toUInt32 1 &&& Int32.toUInt32 31)).toInt32) &&& 1431655765)) &&& 858993459) + (((Int32.toUInt32 (v0 - (((Int32.toUInt32 v0 >>> (Int32.toUInt32 1 &&& Int32.toUInt32 31)).toInt32) &&& 1431655765)) >>> (Int32.toUInt32 2 &&& Int32.toUInt32 31)).toInt32) &&& 858993459)) + ((Int32.toUInt32 (((v0 - (((Int32.toUInt32 v0 >>> (Int32.toUInt32 1 &&& Int32.toUInt32 31)).toInt32) &&& 1431655765)) &&& 858993459) + (((Int32.toUInt32 (v0 - (((Int32.toUInt32 v0 >>> (Int32.toUInt32 1 &&& Int32.toUInt32 31)).toInt32) &&& 1431655765)) >>> (Int32.toUInt32 2 &&& Int32.toUInt32 31)).toInt32) &&& 858993459)) >>> (Int32.toUInt32 4 &&& Int32.toUInt32 31)).toInt32)) &&& 252645135) + ((Int32.toUInt32 (((((v0 - (((Int32.toUInt32 v0 >>> (Int32.toUInt32 1 &&& Int32.toUInt32 31)).toInt32) &&& 1431655765)) &&& 858993459) + (((Int32.toUInt32 (v0 - (((Int32.toUInt32 v0 >>> (Int32.toUInt32 1 &&& Int32.toUInt32 31)).toInt32) &&& 1431655765)) >>> (Int32.toUInt32 2 &&& Int32.toUInt32 31)).toInt32) &&& 858993459)) + ((Int32.toUInt32 (((v0 - (((Int32.toUInt32 v0 >>> (Int32.toUInt32 1 &&& Int32.toUInt32 31)).toInt32) &&& 1431655765)) &&& 858993459) + (((Int32.toUInt32 (v0 - (((Int32.toUInt32 v0 >>> (Int32.toUInt32 1 &&& Int32.toUInt32 31)).toInt32) &&& 1431655765)) >>> (Int32.toUInt32 2 &&& Int32.toUInt32 31)).toInt32) &&& 858993459)) >>> (Int32.toUInt32 4 &&& Int32.toUInt32 31)).toInt32)) &&& 252645135) >>> (Int32.toUInt32 8 &&& Int32.toUInt32 31)).toInt32)) >>> (Int32.toUInt32 16 &&& Int32.toUInt32 31)).toInt32)) &&& 63)
theorem bcE_ok : ∀ b, b < 64 → bcE (nI b) = nI (cntP b 6) := by decide +kernel
theorem bitCount_ok {d : Nat} {sx : Sx} {I : Ints} {L : Lngs} {R : Rfs} {q : Q3} {b : Nat} (hb : b < 64) (h : q (some (.int (nI (cntP b 6)))) I L R) : E0 mJ6_bitCount_0f7a4 (d + 1) sx [.int (nI b)] I L R q := by
  refine EJ6_bitCount_0f7a4 ?_
  show q (some (.int (bcE (nI b)))) I L R
  rw [bcE_ok b hb]
  exact h
theorem cntP_le (b : Nat) : ∀ k, cntP b k ≤ k
  | 0 => Nat.le_refl 0
  | k + 1 => by have := cntP_le b k; have := bt_le b k; show cntP b k + bt b k ≤ _; omega
theorem cntP_or (b g : Nat) : ∀ k, cntP (b ||| 2 ^ g) k ≤ cntP b k + (if g < k then 1 else 0)
  | 0 => by show 0 ≤ _; omega
  | k + 1 => by
    have ih := cntP_or b g k
    have := bt_le b k
    show cntP (b ||| 2 ^ g) k + bt (b ||| 2 ^ g) k ≤ cntP b k + bt b k + _
    rw [bt_or]
    by_cases e : k = g
    · rw [if_pos e, if_pos (by omega)]
      rw [if_neg (by omega)] at ih
      omega
    · rw [if_neg e]
      by_cases e2 : g < k
      · rw [if_pos e2] at ih; rw [if_pos (by omega)]; omega
      · rw [if_neg e2] at ih; rw [if_neg (by omega)]; omega
abbrev Bst : Type := Nat × Nat
def trS (a : Ce) (rs : Nat → List Nat) : Nat → Nat → Nat → Nat → Gs → Bst → Bst
  | 0, _, _, o, s, t => if t.1 ≤ cntP s.2 6 then (cntP s.2 6 + 1, o) else t
  | rem + 1, k, b, o, s, t => (List.range (a 4).val).foldl (fun t g => if bt b g = 0 then trS a rs rem (k + 1) (b ||| 2 ^ g) (o + g * 8 ^ k) (go1 a rs s g) t else t) t
def trP (a : Ce) (rs : Nat → List Nat) (rem k b o : Nat) (s : Gs) (t : Bst) (n : Nat) : Bst := (List.range n).foldl (fun t g => if bt b g = 0 then trS a rs rem (k + 1) (b ||| 2 ^ g) (o + g * 8 ^ k) (go1 a rs s g) t else t) t
theorem trP_s {a : Ce} {rs : Nat → List Nat} {rem k b o : Nat} {s : Gs} {t : Bst} (n : Nat) : trP a rs rem k b o s t (n + 1) = if bt b n = 0 then trS a rs rem (k + 1) (b ||| 2 ^ n) (o + n * 8 ^ k) (go1 a rs s n) (trP a rs rem k b o s t n) else trP a rs rem k b o s t n := by
  unfold trP
  rw [List.range_succ, List.foldl_append]
  rfl
theorem go1_cnt {a : Ce} {rs : Nat → List Nat} {s : Gs} {g : Nat} : cntP (go1 a rs s g).2 6 ≤ cntP s.2 6 + 1 := by
  show cntP (if _ then _ else _) 6 ≤ _
  split
  · have := cntP_or s.2 g 6
    split at this <;> omega
  · omega
theorem trS_id {a : Ce} {rs : Nat → List Nat} : ∀ rem k b o s (t : Bst), cntP s.2 6 + rem < t.1 → trS a rs rem k b o s t = t
  | 0, k, b, o, s, t, h => by unfold trS; rw [if_neg (by omega)]
  | rem + 1, k, b, o, s, t, h => by
    have hp : ∀ n, trP a rs rem k b o s t n = t := by
      intro n
      induction n with
      | zero => rfl
      | succ n ih =>
        rw [trP_s, ih]
        split
        · have := go1_cnt (a := a) (rs := rs) (s := s) (g := n)
          exact trS_id rem _ _ _ _ t (by omega)
        · rfl
    exact hp (a 4).val
theorem trS_le {a : Ce} {rs : Nat → List Nat} : ∀ rem k b o s (t : Bst), t.1 ≤ 7 → (trS a rs rem k b o s t).1 ≤ 7
  | 0, k, b, o, s, t, h => by
    have := cntP_le s.2 6
    unfold trS
    split
    · show cntP s.2 6 + 1 ≤ 7; omega
    · exact h
  | rem + 1, k, b, o, s, t, h => by
    have hp : ∀ n, (trP a rs rem k b o s t n).1 ≤ 7 := by
      intro n
      induction n with
      | zero => exact h
      | succ n ih =>
        rw [trP_s]
        split
        · exact trS_le rem _ _ _ _ _ ih
        · exact ih
    exact hp (a 4).val
def bgV (t : Nat) : Int32 := if t = 0 then -1 else nI (t - 1)
def BsC (t : Bst) (J : Ints) : Prop := J 56 1 = bgV t.1 ∧ J 56 2 = nI t.2
def FrT (I J : Ints) : Prop := Kp (fun k => k ≠ 56 ∧ k ≠ 57) I J ∧ ∀ i, i ≠ 6 → i ≠ 1 → i ≠ 2 → J 56 i = I 56 i
theorem FrT.rf {I : Ints} : FrT I I := ⟨Kp.rf, fun _ _ _ _ => rfl⟩
theorem FrT.tr {I J K : Ints} (h : FrT I J) (h2 : FrT J K) : FrT I K := ⟨h.1.tr h2.1, fun i h6 h1 h3 => (h2.2 i h6 h1 h3).trans (h.2 i h6 h1 h3)⟩
theorem FrS.ft {I J : Ints} (h : FrS I J) : FrT I J := ⟨h.1, fun i h6 _ _ => h.2 i h6⟩
theorem FrS.bs {I J : Ints} (h : FrS I J) {t : Bst} (hb : BsC t I) : BsC t J := ⟨(h.2 1 (by decide)).trans hb.1, (h.2 2 (by decide)).trans hb.2⟩
theorem nI_orsh {o g k : Nat} (ho : o < 8 ^ k) (hg : g < 8) (hk : k < 6) : nI o ||| (nI g <<< nI (3 * k % 32)) = nI (o + g * 8 ^ k) := by
  have h8 := pow8_le (k := k) (by omega)
  have e : 2 ^ (3 * k) = 8 ^ k := by rw [Nat.pow_mul]
  have hb : g * 8 ^ k < 2 ^ 32 := Nat.lt_of_le_of_lt (Nat.mul_le_mul (show g ≤ 7 by omega) h8) (by decide)
  rw [Nat.mod_eq_of_lt (by omega), nIshl (by omega) (by rw [e]; exact hb), nIor, e]
  congr 1
  have := Nat.shiftLeft_add_eq_or_of_lt (a := g) (b := o) (i := 3 * k) (by rw [e]; exact ho)
  rw [Nat.shiftLeft_eq, e] at this
  rw [Nat.or_comm, ← this, Nat.add_comm]
theorem FrT.cel {a : Ce} {lc : List (Nat × Nat)} {c : Nat} {I J : Ints} {L : Lngs} (hF : FrT I J) (hc : isCel c) (h : CelC a lc c I L) : CelC a lc c J L := by
  have hc' : c = 2 ∨ c = 14 := hc
  exact h.fr (fun k h1 h2 => hF.1 k ⟨by omega, by omega⟩) rfl
theorem FrT.rs {a : Ce} {lc : List (Nat × Nat)} {gl : Nat → List Nat} {I J : Ints} {L : Lngs} (hF : FrT I J) (h : RsC a lc gl I L) : RsC a lc gl J L := fun g hg => (h g hg).fr (hF.1 _ ⟨by omega, by omega⟩) (hF.1 _ ⟨by omega, by omega⟩) rfl
theorem tryAll_ok {a : Ce} {lc : List (Nat × Nat)} {lf : Nat → Nat} {gl : Nat → List Nat} {sn : Nat → Nat} {c : Nat} {R : Rfs} {L : Lngs} {sx : Sx} (hc : isCel c) (hW : WFc a) (hE : WFe a lf gl sn) {I0 : Ints} (hCl : CelC a lc c I0 L) (hRs : RsC a lc gl I0 L) (hSR : SRf c R) :
    ∀ (rem d k b o : Nat) (s : Gs) (t : Bst) (I : Ints) (q : Q3), k + rem = (a 4).val → b < 64 → o < 8 ^ k → t.1 ≤ 7 → gsOk a s → (∀ g, g < (a 4).val → bt b g = 0 → s.1 g = hom a g / 4) → SnC a s I → BsC t I → FrT I0 I →
      (∀ J, SnC a s J → BsC (trS a (fun x => rt a lc x (gl x)) rem k b o s t) J → FrT I0 J → q none J L R) →
      E0 mX9_tryAll (d + rem + 6) sx [.ref 56, .int (nI k), .int (nI b), .int (nI o)] I L R q := by
  have w4 := hW.2.2.2.2.1
  have hc' : c = 2 ∨ c = 14 := hc
  intro rem
  induction rem with
  | zero =>
    intro d k b o s t I q hk hb ho ht7 hs hun hS hB hF h
    have hkn : k = (a 4).val := by omega
    have e6 := hS.2
    have e11 := (hF.cel hc hCl).1.2.2.2.2.2
    have hcn := cntP_le s.2 6
    have e1 := hB.1
    refine EX9_tryAll ?_
    rw [e6]
    refine bitCount_ok hs.2 ?_
    unfold trS at h
    unfold bgV at e1
    by_cases ht0 : t.1 = 0
    · rw [if_pos ht0] at e1
      have e1 : I 56 1 = -nI 1 := e1
      rw [if_pos (by omega)] at h
      refine RX9_tryAll_7 hc hSR.1 ⟨fun c1 => ?_, fun c1 => ⟨fun c2 => ?_, fun c2 => ?_⟩⟩
      · (try simp (disch := omega) only [nlit, natrem, nIrm, nIam, nIam',  nI_add, pk_mul, nIsub, nIrem, nIdiv, nIand1, nIand3, nIand7, nIand31, nIshr, nIle, nIlt, nIeq, nIc, vpI, nIm1, m1nI, m1lt, nIlm, m1le, nIlem, nIneg, u2_ss, u2_nn, u2_kk, nIm1n, m1nIn, m1ltn, nIlmn, m1len, nIlemn, e11, e1] at c1); (try simp (disch := omega) only [nlit, natrem, nIrm, nIam, nIam',  nI_add, pk_mul, nIsub, nIrem, nIdiv, nIand1, nIand3, nIand7, nIand31, nIshr, nIle, nIlt, nIeq, nIc, vpI, nIm1, m1nI, m1lt, nIlm, m1le, nIlem, nIneg, u2_ss, u2_nn, u2_kk, nIm1n, m1nIn, m1ltn, nIlmn, m1len, nIlemn, e11, e1])
        omega
      · (try simp (disch := omega) only [nlit, natrem, nIrm, nIam, nIam',  nI_add, pk_mul, nIsub, nIrem, nIdiv, nIand1, nIand3, nIand7, nIand31, nIshr, nIle, nIlt, nIeq, nIc, vpI, nIm1, m1nI, m1lt, nIlm, m1le, nIlem, nIneg, u2_ss, u2_nn, u2_kk, nIm1n, m1nIn, m1ltn, nIlmn, m1len, nIlemn, e11, e1] at c1 c2) <;> (first | omega | exact absurd rfl c1 | exact absurd trivial c1 | exact absurd rfl c2 | exact absurd trivial c2)
      · (try simp (disch := omega) only [nlit, natrem, nIrm, nIam, nIam',  nI_add, pk_mul, nIsub, nIrem, nIdiv, nIand1, nIand3, nIand7, nIand31, nIshr, nIle, nIlt, nIeq, nIc, vpI, nIm1, m1nI, m1lt, nIlm, m1le, nIlem, nIneg, u2_ss, u2_nn, u2_kk, nIm1n, m1nIn, m1ltn, nIlmn, m1len, nIlemn, e11, e1] at c1 c2); (try simp (disch := omega) only [nlit, natrem, nIrm, nIam, nIam',  nI_add, pk_mul, nIsub, nIrem, nIdiv, nIand1, nIand3, nIand7, nIand31, nIshr, nIle, nIlt, nIeq, nIc, vpI, nIm1, m1nI, m1lt, nIlm, m1le, nIlem, nIneg, u2_ss, u2_nn, u2_kk, nIm1n, m1nIn, m1ltn, nIlmn, m1len, nIlemn, e11, e1])
        refine h _ ⟨fun x hx => ?_, ?_⟩ ⟨?_, u2_ss _ _ _ _⟩ ⟨(hF.1.up (by simp)).up (by simp), fun i h6 h1 h2 => ?_⟩
        · rw [u2_nn _ _ _ _ (by decide), u2_nn _ _ _ _ (by decide)]; exact hS.1 x hx
        · rw [u2_kk _ _ _ _ (by decide), u2_kk _ _ _ _ (by decide)]; exact e6
        · rw [u2_kk _ _ _ _ (by decide), u2_ss]; unfold bgV; rw [if_neg (Nat.succ_ne_zero _)]; rfl
        · rw [u2_kk _ _ _ _ h2, u2_kk _ _ _ _ h1]; exact hF.2 i h6 h1 h2
    · rw [if_neg ht0] at e1
      refine RX9_tryAll_7 hc hSR.1 ⟨fun c1 => ?_, fun c1 => ⟨fun c2 => ?_, fun c2 => ?_⟩⟩
      · (try simp (disch := omega) only [nlit, natrem, nIrm, nIam, nIam',  nI_add, pk_mul, nIsub, nIrem, nIdiv, nIand1, nIand3, nIand7, nIand31, nIshr, nIle, nIlt, nIeq, nIc, vpI, nIm1, m1nI, m1lt, nIlm, m1le, nIlem, nIneg, u2_ss, u2_nn, u2_kk, nIm1n, m1nIn, m1ltn, nIlmn, m1len, nIlemn, e11, e1] at c1); (try simp (disch := omega) only [nlit, natrem, nIrm, nIam, nIam',  nI_add, pk_mul, nIsub, nIrem, nIdiv, nIand1, nIand3, nIand7, nIand31, nIshr, nIle, nIlt, nIeq, nIc, vpI, nIm1, m1nI, m1lt, nIlm, m1le, nIlem, nIneg, u2_ss, u2_nn, u2_kk, nIm1n, m1nIn, m1ltn, nIlmn, m1len, nIlemn, e11, e1])
        omega
      · (try simp (disch := omega) only [nlit, natrem, nIrm, nIam, nIam',  nI_add, pk_mul, nIsub, nIrem, nIdiv, nIand1, nIand3, nIand7, nIand31, nIshr, nIle, nIlt, nIeq, nIc, vpI, nIm1, m1nI, m1lt, nIlm, m1le, nIlem, nIneg, u2_ss, u2_nn, u2_kk, nIm1n, m1nIn, m1ltn, nIlmn, m1len, nIlemn, e11, e1] at c1 c2); (try simp (disch := omega) only [nlit, natrem, nIrm, nIam, nIam',  nI_add, pk_mul, nIsub, nIrem, nIdiv, nIand1, nIand3, nIand7, nIand31, nIshr, nIle, nIlt, nIeq, nIc, vpI, nIm1, m1nI, m1lt, nIlm, m1le, nIlem, nIneg, u2_ss, u2_nn, u2_kk, nIm1n, m1nIn, m1ltn, nIlmn, m1len, nIlemn, e11, e1])
        rw [if_neg (by omega)] at h
        exact h I hS hB hF
      · (try simp (disch := omega) only [nlit, natrem, nIrm, nIam, nIam',  nI_add, pk_mul, nIsub, nIrem, nIdiv, nIand1, nIand3, nIand7, nIand31, nIshr, nIle, nIlt, nIeq, nIc, vpI, nIm1, m1nI, m1lt, nIlm, m1le, nIlem, nIneg, u2_ss, u2_nn, u2_kk, nIm1n, m1nIn, m1ltn, nIlmn, m1len, nIlemn, e11, e1] at c1 c2); (try simp (disch := omega) only [nlit, natrem, nIrm, nIam, nIam',  nI_add, pk_mul, nIsub, nIrem, nIdiv, nIand1, nIand3, nIand7, nIand31, nIshr, nIle, nIlt, nIeq, nIc, vpI, nIm1, m1nI, m1lt, nIlm, m1le, nIlem, nIneg, u2_ss, u2_nn, u2_kk, nIm1n, m1nIn, m1ltn, nIlmn, m1len, nIlemn, e11, e1])
        rw [if_pos (by omega)] at h
        refine h _ ⟨fun x hx => ?_, ?_⟩ ⟨?_, u2_ss _ _ _ _⟩ ⟨(hF.1.up (by simp)).up (by simp), fun i h6 h1 h2 => ?_⟩
        · rw [u2_nn _ _ _ _ (by decide), u2_nn _ _ _ _ (by decide)]; exact hS.1 x hx
        · rw [u2_kk _ _ _ _ (by decide), u2_kk _ _ _ _ (by decide)]; exact e6
        · rw [u2_kk _ _ _ _ (by decide), u2_ss]; unfold bgV; rw [if_neg (Nat.succ_ne_zero _)]; rfl
        · rw [u2_kk _ _ _ _ h2, u2_kk _ _ _ _ h1]; exact hF.2 i h6 h1 h2
  | succ rem ih =>
    intro d k b o s t I q hk hb ho ht7 hs hun hS hB hF h
    rw [show d + (rem + 1) + 6 = (d + rem + 6) + 1 by omega]
    have e6 := hS.2
    have e11 := (hF.cel hc hCl).1.2.2.2.2.2
    have hcn := cntP_le s.2 6
    have h8 := pow8_le (k := k) (by omega)
    have h8' := pow8_le (k := k + 1) (by omega)
    refine EX9_tryAll ?_
    rw [e6]
    refine bitCount_ok hs.2 ?_
    have hlp : ∀ m g : Nat, ∀ J, m = (a 4).val - g → g ≤ (a 4).val → SnC a s J → BsC (trP a (fun x => rt a lc x (gl x)) rem k b o s t g) J → (trP a (fun x => rt a lc x (gl x)) rem k b o s t g).1 ≤ 7 → FrT I0 J → Y mX9_tryAll ((d + rem + 6) + 1) sx 44 [(0, .ref 56), (1, .int (nI k)), (2, .int (nI b)), (3, .int (nI o)), (4, .int (nI (cntP s.2 6))), (5, .int (nI g))] [] J L R q := by
      intro m
      induction m with
      | zero =>
        intro g J hm hg hSJ hBJ hle hFJ
        have eg : g = (a 4).val := by omega
        have e11 := (hFJ.cel hc hCl).1.2.2.2.2.2
        refine RX9_tryAll_44 hc hSR.1 ⟨fun c1 => ?_, fun c1 => ⟨fun c2 => ?_, fun c2 => ⟨fun c3 => ?_, fun c3 => ?_⟩⟩⟩
        · (try simp (disch := omega) only [nlit, natrem, nIrm, nIam, nIam',  nI_add, pk_mul, nIsub, nIrem, nIdiv, nIand1, nIand3, nIand7, nIand31, nIshr, nIle, nIlt, nIeq, nIc, vpI, nIm1, m1nI, m1lt, nIlm, m1le, nIlem, nIneg, u2_ss, u2_nn, u2_kk, nIm1n, m1nIn, m1ltn, nIlmn, m1len, nIlemn, e11] at c1); (try simp (disch := omega) only [nlit, natrem, nIrm, nIam, nIam',  nI_add, pk_mul, nIsub, nIrem, nIdiv, nIand1, nIand3, nIand7, nIand31, nIshr, nIle, nIlt, nIeq, nIc, vpI, nIm1, m1nI, m1lt, nIlm, m1le, nIlem, nIneg, u2_ss, u2_nn, u2_kk, nIm1n, m1nIn, m1ltn, nIlmn, m1len, nIlemn, e11])
          rw [eg] at hBJ
          exact h J hSJ hBJ hFJ
        · (try simp (disch := omega) only [nlit, natrem, nIrm, nIam, nIam',  nI_add, pk_mul, nIsub, nIrem, nIdiv, nIand1, nIand3, nIand7, nIand31, nIshr, nIle, nIlt, nIeq, nIc, vpI, nIm1, m1nI, m1lt, nIlm, m1le, nIlem, nIneg, u2_ss, u2_nn, u2_kk, nIm1n, m1nIn, m1ltn, nIlmn, m1len, nIlemn, e11] at c1 c2) <;> (first | omega | exact absurd rfl c1 | exact absurd trivial c1 | exact absurd rfl c2 | exact absurd trivial c2)
        · (try simp (disch := omega) only [nlit, natrem, nIrm, nIam, nIam',  nI_add, pk_mul, nIsub, nIrem, nIdiv, nIand1, nIand3, nIand7, nIand31, nIshr, nIle, nIlt, nIeq, nIc, vpI, nIm1, m1nI, m1lt, nIlm, m1le, nIlem, nIneg, u2_ss, u2_nn, u2_kk, nIm1n, m1nIn, m1ltn, nIlmn, m1len, nIlemn, e11] at c1 c2 c3) <;> (first | omega | exact absurd rfl c1 | exact absurd trivial c1 | exact absurd rfl c2 | exact absurd trivial c2 | exact absurd rfl c3 | exact absurd trivial c3)
        · (try simp (disch := omega) only [nlit, natrem, nIrm, nIam, nIam',  nI_add, pk_mul, nIsub, nIrem, nIdiv, nIand1, nIand3, nIand7, nIand31, nIshr, nIle, nIlt, nIeq, nIc, vpI, nIm1, m1nI, m1lt, nIlm, m1le, nIlem, nIneg, u2_ss, u2_nn, u2_kk, nIm1n, m1nIn, m1ltn, nIlmn, m1len, nIlemn, e11] at c1 c2 c3) <;> (first | omega | exact absurd rfl c1 | exact absurd trivial c1 | exact absurd rfl c2 | exact absurd trivial c2 | exact absurd rfl c3 | exact absurd trivial c3)
      | succ m ihm =>
        intro g J hm hg hSJ hBJ hle hFJ
        have hCJ := hFJ.cel hc hCl
        have e11 := hCJ.1.2.2.2.2.2
        have e6 := hSJ.2
        have e1 := hBJ.1
        have hbl := bt_le b g
        have hstep := trP_s (a := a) (rs := fun x => rt a lc x (gl x)) (rem := rem) (k := k) (b := b) (o := o) (s := s) (t := t) g
        have hnx := ihm (g + 1)
        generalize trP a (fun x => rt a lc x (gl x)) rem k b o s t g = u at *
        have hskip : trP a (fun x => rt a lc x (gl x)) rem k b o s t (g + 1) = u → Y mX9_tryAll ((d + rem + 6) + 1) sx 44 [(0, .ref 56), (1, .int (nI k)), (2, .int (nI b)), (3, .int (nI o)), (4, .int (nI (cntP s.2 6))), (5, .int (nI (g + 1)))] [] J L R q := by
          intro e
          rw [e] at hnx
          exact hnx J (by omega) (by omega) hSJ hBJ hle hFJ
        have hgo : bt b g = 0 → E0 mX9_go (d + rem + 6) sx [.ref 56, .int (nI g)] J L R (fun r J' K' T' => Y mX9_tryAll ((d + rem + 6) + 1) sx 96 [(0, .ref 56), (1, .int (nI k)), (2, .int (nI b)), (3, .int (nI o)), (4, .int (nI (cntP s.2 6))), (5, .int (nI g)), (6, .int (nI s.2))] (r.toList ++ []) J' K' T' q) := by
          intro hb0
          rw [if_pos hb0] at hstep
          refine go_ok (lf := lf) (sn := sn) hc hW hE hCJ (hFJ.rs hRs) hSR hs hSJ (by omega) (fun K hK hFK => RX9_tryAll_96 ?_)
          have hFK' := hFJ.tr hFK.ft
          have hio := i_or (b := b) (h := g) (by omega)
          have hos := nI_orsh (o := o) (g := g) (k := k) ho (by omega) (by omega)
          have ho' : o + g * 8 ^ k < 8 ^ (k + 1) := by
            have h1 : (g + 1) * 8 ^ k ≤ 8 * 8 ^ k := Nat.mul_le_mul_right _ (by omega)
            rw [Nat.succ_mul] at h1
            have e8 : 8 ^ (k + 1) = 8 * 8 ^ k := by rw [Nat.pow_succ, Nat.mul_comm]
            rw [e8]
            omega
          rw [show nI k + 1 = nI (k + 1) from nI_add k 1, show nI b ||| ((1 : Int32) <<< (nI g &&& 31)) = nI (b ||| 2 ^ g) by rw [show nI g &&& 31 = nI (g % 32) from nIand31 _]; exact hio, show nI o ||| (nI g <<< ((3 * nI k) &&& 31)) = nI (o + g * 8 ^ k) by rw [show (3 : Int32) * nI k = nI (3 * k) from pk_mul 3 k, show nI (3 * k) &&& 31 = nI (3 * k % 32) from nIand31 _]; exact hos]
          refine ih d (k + 1) (b ||| 2 ^ g) (o + g * 8 ^ k) _ u K _ (by omega) (or_lt6 hb (by omega)) ho' hle (go1_ok hW hs (by omega)) (fun x hx hx0 => ?_) hK (hFK.bs hBJ) hFK' (fun N hN1 hN2 hN3 => ?_)
          · rw [bt_or] at hx0
            by_cases e : x = g
            · rw [if_pos e] at hx0; omega
            · rw [if_neg e] at hx0
              show up1 s.1 g _ x = _
              rw [up1_n _ _ e]
              exact hun x hx hx0
          · have hCN := hN3.cel hc hCl
            have eH := (hCN.2.2.2.2.1 g (by omega)).2.1
            have hh := hom_lt hW (g := g) (by omega)
            have hung := hun g (by omega) hb0
            refine RX9_tryAll_117 hc hSR.1 ⟨?_, ⟨?_, ?_⟩⟩
            · (try simp (disch := omega) only [nlit, natrem, nIrm, nIam, nIam',  nI_add, pk_mul, nIsub, nIrem, nIdiv, nIand1, nIand3, nIand7, nIand31, nIshr, nIle, nIlt, nIeq, nIc, vpI, nIm1, m1nI, m1lt, nIlm, m1le, nIlem, nIneg, u2_ss, u2_nn, u2_kk, nIm1n, m1nIn, m1ltn, nIlmn, m1len, nIlemn, eH, Nat.reduceMod, Nat.reducePow]) <;> (first | omega | trivial)
            · (try simp (disch := omega) only [nlit, natrem, nIrm, nIam, nIam',  nI_add, pk_mul, nIsub, nIrem, nIdiv, nIand1, nIand3, nIand7, nIand31, nIshr, nIle, nIlt, nIeq, nIc, vpI, nIm1, m1nI, m1lt, nIlm, m1le, nIlem, nIneg, u2_ss, u2_nn, u2_kk, nIm1n, m1nIn, m1ltn, nIlmn, m1len, nIlemn, eH, Nat.reduceMod, Nat.reducePow]) <;> (first | omega | trivial)
            · (try simp (disch := omega) only [nlit, natrem, nIrm, nIam, nIam',  nI_add, pk_mul, nIsub, nIrem, nIdiv, nIand1, nIand3, nIand7, nIand31, nIshr, nIle, nIlt, nIeq, nIc, vpI, nIm1, m1nI, m1lt, nIlm, m1le, nIlem, nIneg, u2_ss, u2_nn, u2_kk, nIm1n, m1nIn, m1ltn, nIlmn, m1len, nIlemn, eH, Nat.reduceMod, Nat.reducePow])
              rw [hstep] at hnx
              refine hnx _ (by omega) (by omega) ⟨fun x hx => ?_, ?_⟩ ⟨?_, ?_⟩ (trS_le _ _ _ _ _ _ hle) ⟨(hN3.1.up (by simp)).up (by simp), fun i h6 h1 h2 => ?_⟩
              · by_cases e : x = g
                · rw [e, u2_ss, hung]
                · rw [u2_kk _ _ _ _ e, u2_nn _ _ _ _ (by decide), hN1.1 x hx]
                  show nI (up1 s.1 g _ x) = _
                  rw [up1_n _ _ e]
              · rw [u2_nn _ _ _ _ (by decide), u2_ss]
              · rw [u2_nn _ _ _ _ (by decide), u2_kk _ _ _ _ (by decide)]; exact hN2.1
              · rw [u2_nn _ _ _ _ (by decide), u2_kk _ _ _ _ (by decide)]; exact hN2.2
              · rw [u2_nn _ _ _ _ (by decide), u2_kk _ _ _ _ h6]; exact hN3.2 i h6 h1 h2
        unfold bgV at e1
        by_cases hu0 : u.1 = 0
        · rw [if_pos hu0] at e1
          have e1 : J 56 1 = -nI 1 := e1
          refine RX9_tryAll_44 hc hSR.1 ⟨fun c1 => ?_, fun c1 => ⟨fun c2 => ?_, fun c2 => ⟨fun c3 => ?_, fun c3 => ?_⟩⟩⟩
          · (try simp (disch := omega) only [nlit, natrem, nIrm, nIam, nIam',  nI_add, pk_mul, nIsub, nIrem, nIdiv, nIand1, nIand3, nIand7, nIand31, nIshr, nIle, nIlt, nIeq, nIc, vpI, nIm1, m1nI, m1lt, nIlm, m1le, nIlem, nIneg, u2_ss, u2_nn, u2_kk, nIm1n, m1nIn, m1ltn, nIlmn, m1len, nIlemn, e11, e1, bt_m, e6] at c1); (try simp (disch := omega) only [nlit, natrem, nIrm, nIam, nIam',  nI_add, pk_mul, nIsub, nIrem, nIdiv, nIand1, nIand3, nIand7, nIand31, nIshr, nIle, nIlt, nIeq, nIc, vpI, nIm1, m1nI, m1lt, nIlm, m1le, nIlem, nIneg, u2_ss, u2_nn, u2_kk, nIm1n, m1nIn, m1ltn, nIlmn, m1len, nIlemn, e11, e1, bt_m, e6])
            omega
          · (try simp (disch := omega) only [nlit, natrem, nIrm, nIam, nIam',  nI_add, pk_mul, nIsub, nIrem, nIdiv, nIand1, nIand3, nIand7, nIand31, nIshr, nIle, nIlt, nIeq, nIc, vpI, nIm1, m1nI, m1lt, nIlm, m1le, nIlem, nIneg, u2_ss, u2_nn, u2_kk, nIm1n, m1nIn, m1ltn, nIlmn, m1len, nIlemn, e11, e1, bt_m, e6] at c1 c2); (try simp (disch := omega) only [nlit, natrem, nIrm, nIam, nIam',  nI_add, pk_mul, nIsub, nIrem, nIdiv, nIand1, nIand3, nIand7, nIand31, nIshr, nIle, nIlt, nIeq, nIc, vpI, nIm1, m1nI, m1lt, nIlm, m1le, nIlem, nIneg, u2_ss, u2_nn, u2_kk, nIm1n, m1nIn, m1ltn, nIlmn, m1len, nIlemn, e11, e1, bt_m, e6])
            exact hskip (by rw [hstep, if_neg c2])
          · (try simp (disch := omega) only [nlit, natrem, nIrm, nIam, nIam',  nI_add, pk_mul, nIsub, nIrem, nIdiv, nIand1, nIand3, nIand7, nIand31, nIshr, nIle, nIlt, nIeq, nIc, vpI, nIm1, m1nI, m1lt, nIlm, m1le, nIlem, nIneg, u2_ss, u2_nn, u2_kk, nIm1n, m1nIn, m1ltn, nIlmn, m1len, nIlemn, e11, e1, bt_m, e6] at c1 c2 c3) <;> (first | omega | exact absurd rfl c1 | exact absurd trivial c1 | exact absurd rfl c2 | exact absurd trivial c2 | exact absurd rfl c3 | exact absurd trivial c3)
          · (try simp (disch := omega) only [nlit, natrem, nIrm, nIam, nIam',  nI_add, pk_mul, nIsub, nIrem, nIdiv, nIand1, nIand3, nIand7, nIand31, nIshr, nIle, nIlt, nIeq, nIc, vpI, nIm1, m1nI, m1lt, nIlm, m1le, nIlem, nIneg, u2_ss, u2_nn, u2_kk, nIm1n, m1nIn, m1ltn, nIlmn, m1len, nIlemn, e11, e1, bt_m, e6] at c1 c2 c3); (try simp (disch := omega) only [nlit, natrem, nIrm, nIam, nIam',  nI_add, pk_mul, nIsub, nIrem, nIdiv, nIand1, nIand3, nIand7, nIand31, nIshr, nIle, nIlt, nIeq, nIc, vpI, nIm1, m1nI, m1lt, nIlm, m1le, nIlem, nIneg, u2_ss, u2_nn, u2_kk, nIm1n, m1nIn, m1ltn, nIlmn, m1len, nIlemn, e11, e1, bt_m, e6])
            exact hgo c2
        · rw [if_neg hu0] at e1
          refine RX9_tryAll_44 hc hSR.1 ⟨fun c1 => ?_, fun c1 => ⟨fun c2 => ?_, fun c2 => ⟨fun c3 => ?_, fun c3 => ?_⟩⟩⟩
          · (try simp (disch := omega) only [nlit, natrem, nIrm, nIam, nIam',  nI_add, pk_mul, nIsub, nIrem, nIdiv, nIand1, nIand3, nIand7, nIand31, nIshr, nIle, nIlt, nIeq, nIc, vpI, nIm1, m1nI, m1lt, nIlm, m1le, nIlem, nIneg, u2_ss, u2_nn, u2_kk, nIm1n, m1nIn, m1ltn, nIlmn, m1len, nIlemn, e11, e1, bt_m, e6] at c1); (try simp (disch := omega) only [nlit, natrem, nIrm, nIam, nIam',  nI_add, pk_mul, nIsub, nIrem, nIdiv, nIand1, nIand3, nIand7, nIand31, nIshr, nIle, nIlt, nIeq, nIc, vpI, nIm1, m1nI, m1lt, nIlm, m1le, nIlem, nIneg, u2_ss, u2_nn, u2_kk, nIm1n, m1nIn, m1ltn, nIlmn, m1len, nIlemn, e11, e1, bt_m, e6])
            omega
          · (try simp (disch := omega) only [nlit, natrem, nIrm, nIam, nIam',  nI_add, pk_mul, nIsub, nIrem, nIdiv, nIand1, nIand3, nIand7, nIand31, nIshr, nIle, nIlt, nIeq, nIc, vpI, nIm1, m1nI, m1lt, nIlm, m1le, nIlem, nIneg, u2_ss, u2_nn, u2_kk, nIm1n, m1nIn, m1ltn, nIlmn, m1len, nIlemn, e11, e1, bt_m, e6] at c1 c2); (try simp (disch := omega) only [nlit, natrem, nIrm, nIam, nIam',  nI_add, pk_mul, nIsub, nIrem, nIdiv, nIand1, nIand3, nIand7, nIand31, nIshr, nIle, nIlt, nIeq, nIc, vpI, nIm1, m1nI, m1lt, nIlm, m1le, nIlem, nIneg, u2_ss, u2_nn, u2_kk, nIm1n, m1nIn, m1ltn, nIlmn, m1len, nIlemn, e11, e1, bt_m, e6])
            exact hskip (by rw [hstep, if_neg c2])
          · (try simp (disch := omega) only [nlit, natrem, nIrm, nIam, nIam',  nI_add, pk_mul, nIsub, nIrem, nIdiv, nIand1, nIand3, nIand7, nIand31, nIshr, nIle, nIlt, nIeq, nIc, vpI, nIm1, m1nI, m1lt, nIlm, m1le, nIlem, nIneg, u2_ss, u2_nn, u2_kk, nIm1n, m1nIn, m1ltn, nIlmn, m1len, nIlemn, e11, e1, bt_m, e6] at c1 c2 c3); (try simp (disch := omega) only [nlit, natrem, nIrm, nIam, nIam',  nI_add, pk_mul, nIsub, nIrem, nIdiv, nIand1, nIand3, nIand7, nIand31, nIshr, nIle, nIlt, nIeq, nIc, vpI, nIm1, m1nI, m1lt, nIlm, m1le, nIlem, nIneg, u2_ss, u2_nn, u2_kk, nIm1n, m1nIn, m1ltn, nIlmn, m1len, nIlemn, e11, e1, bt_m, e6])
            refine hskip ?_
            rw [hstep, if_pos c2]
            refine trS_id _ _ _ _ _ _ ?_
            have := go1_cnt (a := a) (rs := fun x => rt a lc x (gl x)) (s := s) (g := g)
            omega
          · (try simp (disch := omega) only [nlit, natrem, nIrm, nIam, nIam',  nI_add, pk_mul, nIsub, nIrem, nIdiv, nIand1, nIand3, nIand7, nIand31, nIshr, nIle, nIlt, nIeq, nIc, vpI, nIm1, m1nI, m1lt, nIlm, m1le, nIlem, nIneg, u2_ss, u2_nn, u2_kk, nIm1n, m1nIn, m1ltn, nIlmn, m1len, nIlemn, e11, e1, bt_m, e6] at c1 c2 c3); (try simp (disch := omega) only [nlit, natrem, nIrm, nIam, nIam',  nI_add, pk_mul, nIsub, nIrem, nIdiv, nIand1, nIand3, nIand7, nIand31, nIshr, nIle, nIlt, nIeq, nIc, vpI, nIm1, m1nI, m1lt, nIlm, m1le, nIlem, nIneg, u2_ss, u2_nn, u2_kk, nIm1n, m1nIn, m1ltn, nIlmn, m1len, nIlemn, e11, e1, bt_m, e6])
            exact hgo c2
    refine RX9_tryAll_7 hc hSR.1 ⟨fun c1 => ?_, fun c1 => ⟨fun c2 => ?_, fun c2 => ?_⟩⟩
    · (try simp (disch := omega) only [nlit, natrem, nIrm, nIam, nIam',  nI_add, pk_mul, nIsub, nIrem, nIdiv, nIand1, nIand3, nIand7, nIand31, nIshr, nIle, nIlt, nIeq, nIc, vpI, nIm1, m1nI, m1lt, nIlm, m1le, nIlem, nIneg, u2_ss, u2_nn, u2_kk, nIm1n, m1nIn, m1ltn, nIlmn, m1len, nIlemn, e11] at c1); (try simp (disch := omega) only [nlit, natrem, nIrm, nIam, nIam',  nI_add, pk_mul, nIsub, nIrem, nIdiv, nIand1, nIand3, nIand7, nIand31, nIshr, nIle, nIlt, nIeq, nIc, vpI, nIm1, m1nI, m1lt, nIlm, m1le, nIlem, nIneg, u2_ss, u2_nn, u2_kk, nIm1n, m1nIn, m1ltn, nIlmn, m1len, nIlemn, e11])
      exact hlp _ 0 I rfl (Nat.zero_le _) hS hB ht7 hF
    · (try simp (disch := omega) only [nlit, natrem, nIrm, nIam, nIam',  nI_add, pk_mul, nIsub, nIrem, nIdiv, nIand1, nIand3, nIand7, nIand31, nIshr, nIle, nIlt, nIeq, nIc, vpI, nIm1, m1nI, m1lt, nIlm, m1le, nIlem, nIneg, u2_ss, u2_nn, u2_kk, nIm1n, m1nIn, m1ltn, nIlmn, m1len, nIlemn, e11] at c1 c2); (try simp (disch := omega) only [nlit, natrem, nIrm, nIam, nIam',  nI_add, pk_mul, nIsub, nIrem, nIdiv, nIand1, nIand3, nIand7, nIand31, nIshr, nIle, nIlt, nIeq, nIc, vpI, nIm1, m1nI, m1lt, nIlm, m1le, nIlem, nIneg, u2_ss, u2_nn, u2_kk, nIm1n, m1nIn, m1ltn, nIlmn, m1len, nIlemn, e11])
      omega
    · (try simp (disch := omega) only [nlit, natrem, nIrm, nIam, nIam',  nI_add, pk_mul, nIsub, nIrem, nIdiv, nIand1, nIand3, nIand7, nIand31, nIshr, nIle, nIlt, nIeq, nIc, vpI, nIm1, m1nI, m1lt, nIlm, m1le, nIlem, nIneg, u2_ss, u2_nn, u2_kk, nIm1n, m1nIn, m1ltn, nIlmn, m1len, nIlemn, e11] at c1 c2); (try simp (disch := omega) only [nlit, natrem, nIrm, nIam, nIam',  nI_add, pk_mul, nIsub, nIrem, nIdiv, nIand1, nIand3, nIand7, nIand31, nIshr, nIle, nIlt, nIeq, nIc, vpI, nIm1, m1nI, m1lt, nIlm, m1le, nIlem, nIneg, u2_ss, u2_nn, u2_kk, nIm1n, m1nIn, m1ltn, nIlmn, m1len, nIlemn, e11])
      omega
