/-! orders -/
def oS (n : Nat) : Nat → Nat → Nat → Prop
  | 0, r, _ => r = 0
  | k + 1, r, b => r % 8 < n ∧ bt b (r % 8) = 0 ∧ oS n k (r / 8) (b ||| 2 ^ (r % 8))
def spO (n : Nat) (v : Int32) : Prop := ¬ v < 0 ∧ oS n n v.toNatClampNeg 0
theorem oS_lt {n : Nat} : ∀ k r b, oS n k r b → r < 8 ^ k
  | 0, r, b, h => by have : r = 0 := h; subst this; decide
  | k + 1, r, b, h => by
    have := oS_lt k _ _ h.2.2
    rw [Nat.pow_succ]
    omega
theorem oS_dig {n : Nat} : ∀ k r b, oS n k r b → ∀ j, j < k → r / 8 ^ j % 8 < n ∧ bt b (r / 8 ^ j % 8) = 0
  | 0, _, _, _, j, hj => absurd hj (Nat.not_lt_zero _)
  | k + 1, r, b, h, 0, _ => by rw [Nat.pow_zero, Nat.div_one]; exact ⟨h.1, h.2.1⟩
  | k + 1, r, b, h, j + 1, hj => by
    have := oS_dig k _ _ h.2.2 j (by omega)
    rw [Nat.div_div_eq_div_mul, Nat.mul_comm, ← Nat.pow_succ] at this
    refine ⟨this.1, ?_⟩
    have h2 := this.2
    rw [bt_or] at h2
    split at h2
    · omega
    · exact h2
theorem oS_ne {n : Nat} : ∀ k r b, oS n k r b → ∀ i j, i < j → j < k → r / 8 ^ i % 8 ≠ r / 8 ^ j % 8
  | 0, _, _, _, _, j, _, hj => absurd hj (Nat.not_lt_zero _)
  | k + 1, r, b, h, 0, j + 1, _, hj => by
    have := (oS_dig k _ _ h.2.2 j (by omega)).2
    rw [Nat.div_div_eq_div_mul, Nat.mul_comm, ← Nat.pow_succ, bt_or] at this
    rw [Nat.pow_zero, Nat.div_one]
    intro e
    rw [if_pos e.symm] at this
    omega
  | k + 1, r, b, h, i + 1, j + 1, hij, hj => by
    have := oS_ne k _ _ h.2.2 i j (by omega) (by omega)
    rw [Nat.div_div_eq_div_mul, Nat.div_div_eq_div_mul, Nat.mul_comm, ← Nat.pow_succ, Nat.mul_comm, ← Nat.pow_succ] at this
    exact this
theorem pow8_le {k : Nat} (h : k ≤ 6) : 8 ^ k ≤ 262144 := Nat.le_trans (Nat.pow_le_pow_right (by decide) h) (by decide)
theorem u32_sh {m : Nat} (hm : m < 4294967296) : ((nI m).toUInt32 >>> (Int32.toUInt32 3 &&& Int32.toUInt32 31)).toInt32 = nI (m / 8) := by
  apply Int32.toBitVec_inj.mp
  show (BitVec.ofNat 32 m) >>> (3 : Nat) = BitVec.ofNat 32 (m / 8)
  apply BitVec.eq_of_toNat_eq
  rw [BitVec.toNat_ushiftRight, BitVec.toNat_ofNat, BitVec.toNat_ofNat, Nat.shiftRight_eq_div_pow, Nat.mod_eq_of_lt hm, Nat.mod_eq_of_lt (by omega)]
theorem nI_z {r : Nat} (hr : r < 4294967296) : nI r = 0 ↔ r = 0 := by
  constructor
  · intro h
    have := congrArg (fun x => x.toBitVec.toNat) h
    have e : (nI r).toBitVec.toNat = r := by show (BitVec.ofNat 32 r).toNat = r; rw [BitVec.toNat_ofNat, Nat.mod_eq_of_lt hr]
    simp only [e] at this
    exact this
  · intro h; rw [h]; rfl
theorem isOrderC_ok {d : Nat} {sx : Sx} {I : Ints} {L : Lngs} {R : Rfs} {q : Q3} {n : Nat} (hn : n ≤ 6) {v : Int32} (ht : spO n v → q (some (.int 1)) I L R) (hf : ¬ spO n v → q (some (.int 0)) I L R) : E0 mX9_isOrder (d + 1) sx [.int v, .int (nI n)] I L R q := by
  have hlp : ∀ k j r b : Nat, ∀ (T F : Prop), k = n - j → j ≤ n → r < 4294967296 → b < 256 → ((oS n k r b → T) ∧ (¬ oS n k r b → F)) → (T → q (some (.int 1)) I L R) → (F → q (some (.int 0)) I L R) → Y mX9_isOrder (d + 1) sx 7 [(1, .int (nI n)), (2, .int (nI r)), (3, .int (nI b)), (4, .int (nI j))] [] I L R q := by
    intro k
    induction k with
    | zero =>
      intro j r b T F hk hj hr hb hTF hT hF
      refine RX9_isOrder_7 ⟨fun _ => ⟨fun c2 => hF (hTF.2 (fun w => c2 ((nI_z hr).mpr w))), fun c2 => hT (hTF.1 ((nI_z hr).mp c2))⟩, fun cc => ?_⟩
      exfalso
      rw [nIle (by omega) (by omega)] at cc
      omega
    | succ k ih =>
      intro j r b T F hk hj hr hb hTF hT hF
      have h8 : r % 8 < 8 := Nat.mod_lt _ (by decide)
      have hbl := bt_le b (r % 8)
      refine RX9_isOrder_7 ⟨fun cc => ?_, fun _ => ?_⟩
      · exfalso
        rw [nIle (by omega) (by omega)] at cc
        omega
      rw [show nI r &&& 7 = nI (r % 8) from nIand7 r]
      refine ⟨fun c2 => ?_, fun c2 => ⟨fun c3 => ?_, fun c3 => ?_⟩⟩
      · rw [nIle (by omega) (by omega)] at c2
        exact hF (hTF.2 (fun w => by have := w.1; omega))
      · rw [nIle (by omega) (by omega)] at c2
        rw [show nI (r % 8) &&& 31 = nI (r % 8 % 32) from nIand31 _] at c3 ⊢
        rw [show (nI b >>> nI (r % 8 % 32)) &&& 1 = nI (bt b (r % 8)) from i_bt (by omega) (by omega), show (0 : Int32) = nI 0 from rfl, nIeq (by omega) (by decide)] at c3
        rw [u32_sh hr, show nI b ||| ((1 : Int32) <<< nI (r % 8 % 32)) = nI (b ||| 2 ^ (r % 8)) from i_or (by omega), show nI j + 1 = nI (j + 1) from nI_add j 1]
        exact ih (j + 1) (r / 8) (b ||| 2 ^ (r % 8)) T F (by omega) (by omega) (by omega) (or_lt8 hb h8) ⟨fun w => hTF.1 ⟨by omega, c3, w⟩, fun w => hTF.2 (fun z => w z.2.2)⟩ hT hF
      · rw [show nI (r % 8) &&& 31 = nI (r % 8 % 32) from nIand31 _, show (nI b >>> nI (r % 8 % 32)) &&& 1 = nI (bt b (r % 8)) from i_bt (by omega) (by omega), show (0 : Int32) = nI 0 from rfl, nIeq (by omega) (by decide)] at c3
        exact hF (hTF.2 (fun w => c3 w.2.1))
  refine EX9_isOrder ?_
  by_cases hv : v < 0
  · obtain ⟨m, hm, e⟩ := wb_of32 v
    have hbig : 2147483648 ≤ m := by
      refine Nat.le_of_not_lt (fun hlt => ?_)
      rw [e] at hv
      exact i32_ltz hlt hv
    rw [e]
    refine hlp n 0 m 0 False True rfl (Nat.zero_le _) hm (by decide) ⟨fun w => ?_, fun _ => trivial⟩ (fun w => w.elim) (fun _ => hf (fun w => w.1 hv))
    have := oS_lt n m 0 w
    have := pow8_le hn
    omega
  · obtain ⟨h3, h4⟩ := i32_nn hv
    have := hlp n 0 v.toNatClampNeg 0 (oS n n v.toNatClampNeg 0) (¬ oS n n v.toNatClampNeg 0) rfl (Nat.zero_le _) (by omega) (by decide) ⟨id, id⟩ (fun w => ht ⟨hv, w⟩) (fun w => hf (fun z => w z.2))
    rw [← h4] at this
    exact this
/-! the class sends -/
def sP (a : Ce) (rs : Nat → List Nat) (m : Nat) : Nat → Gs
  | 0 => s0G a
  | k + 1 => go1 a rs (sP a rs m k) (m / 8 ^ k % 8)
theorem sP_ok {a : Ce} (hW : WFc a) {rs : Nat → List Nat} {m : Nat} (hd : ∀ j, j < (a 4).val → m / 8 ^ j % 8 < (a 4).val) : ∀ k, k ≤ (a 4).val → gsOk a (sP a rs m k)
  | 0, _ => s0G_ok hW
  | k + 1, hk => go1_ok hW (sP_ok hW hd k (by omega)) (hd k hk)
theorem beginS_ok {d : Nat} {sx : Sx} {I : Ints} {L : Lngs} {R : Rfs} {q : Q3} {a : Ce} {lc : List (Nat × Nat)} {c : Nat} (hc : isCel c) (hW : WFc a) (hCl : CelC a lc c I L)
    (h : ∀ J, SnC a (s0G a) J → FrS I J → q none J L (u2 (u2 R 56 3 (some c)) 56 4 (some 42))) : E0 mX9_begin (d + 1) sx [.ref 56, .ref c, .ref 42] I L R q := by
  have hc' : c = 2 ∨ c = 14 := hc
  have w4 := hW.2.2.2.2.1
  have hlp : ∀ n g : Nat, ∀ J, n = (a 4).val - g → g ≤ (a 4).val → FrS I J → J 56 6 = nI 0 → (∀ x, x < g → J 57 x = nI (hom a x / 4)) → Y mX9_begin (d + 1) sx 17 [(0, .ref 56), (1, .ref c), (3, .int (nI g))] [] J L (u2 (u2 R 56 3 (some c)) 56 4 (some 42)) q := by
    intro n
    induction n with
    | zero =>
      intro g J hn hg hF h6 h7
      have e11 := (hCl.frs hc hF).1.2.2.2.2.2
      refine RX9_begin_17 hc ⟨fun c1 => ?_, fun c1 => ⟨?_, ⟨?_, ?_⟩⟩⟩
      · (try simp (disch := omega) only [nlit, natrem, nIrm, nIam, nIam',  nI_add, pk_mul, nIsub, nIrem, nIdiv, nIand1, nIand3, nIand7, nIand31, nIshr, nIle, nIlt, nIeq, nIc, vpI, nIm1, m1nI, m1lt, nIlm, m1le, nIlem, nIneg, u2_ss, u2_nn, u2_kk, nIm1n, m1nIn, m1ltn, nIlmn, m1len, nIlemn, e11] at c1); (try simp (disch := omega) only [nlit, natrem, nIrm, nIam, nIam',  nI_add, pk_mul, nIsub, nIrem, nIdiv, nIand1, nIand3, nIand7, nIand31, nIshr, nIle, nIlt, nIeq, nIc, vpI, nIm1, m1nI, m1lt, nIlm, m1le, nIlem, nIneg, u2_ss, u2_nn, u2_kk, nIm1n, m1nIn, m1ltn, nIlmn, m1len, nIlemn, e11])
        exact h J ⟨fun x hx => h7 x (by omega), h6⟩ hF
      · (try simp (disch := omega) only [nlit, natrem, nIrm, nIam, nIam',  nI_add, pk_mul, nIsub, nIrem, nIdiv, nIand1, nIand3, nIand7, nIand31, nIshr, nIle, nIlt, nIeq, nIc, vpI, nIm1, m1nI, m1lt, nIlm, m1le, nIlem, nIneg, u2_ss, u2_nn, u2_kk, nIm1n, m1nIn, m1ltn, nIlmn, m1len, nIlemn, e11] at c1) <;> (try simp (disch := omega) only [nlit, natrem, nIrm, nIam, nIam',  nI_add, pk_mul, nIsub, nIrem, nIdiv, nIand1, nIand3, nIand7, nIand31, nIshr, nIle, nIlt, nIeq, nIc, vpI, nIm1, m1nI, m1lt, nIlm, m1le, nIlem, nIneg, u2_ss, u2_nn, u2_kk, nIm1n, m1nIn, m1ltn, nIlmn, m1len, nIlemn, e11]) <;> (first | omega | trivial)
      · (try simp (disch := omega) only [nlit, natrem, nIrm, nIam, nIam',  nI_add, pk_mul, nIsub, nIrem, nIdiv, nIand1, nIand3, nIand7, nIand31, nIshr, nIle, nIlt, nIeq, nIc, vpI, nIm1, m1nI, m1lt, nIlm, m1le, nIlem, nIneg, u2_ss, u2_nn, u2_kk, nIm1n, m1nIn, m1ltn, nIlmn, m1len, nIlemn, e11] at c1) <;> (try simp (disch := omega) only [nlit, natrem, nIrm, nIam, nIam',  nI_add, pk_mul, nIsub, nIrem, nIdiv, nIand1, nIand3, nIand7, nIand31, nIshr, nIle, nIlt, nIeq, nIc, vpI, nIm1, m1nI, m1lt, nIlm, m1le, nIlem, nIneg, u2_ss, u2_nn, u2_kk, nIm1n, m1nIn, m1ltn, nIlmn, m1len, nIlemn, e11]) <;> (first | omega | trivial)
      · (try simp (disch := omega) only [nlit, natrem, nIrm, nIam, nIam',  nI_add, pk_mul, nIsub, nIrem, nIdiv, nIand1, nIand3, nIand7, nIand31, nIshr, nIle, nIlt, nIeq, nIc, vpI, nIm1, m1nI, m1lt, nIlm, m1le, nIlem, nIneg, u2_ss, u2_nn, u2_kk, nIm1n, m1nIn, m1ltn, nIlmn, m1len, nIlemn, e11] at c1) <;> (first | omega | exact absurd rfl c1 | exact absurd trivial c1)
    | succ n ih =>
      intro g J hn hg hF h6 h7
      have hCJ := hCl.frs hc hF
      have e11 := hCJ.1.2.2.2.2.2
      have eH := (hCJ.2.2.2.2.1 g (by omega)).2.1
      have hh := hom_lt hW (g := g) (by omega)
      refine RX9_begin_17 hc ⟨fun c1 => ?_, fun c1 => ⟨?_, ⟨?_, ?_⟩⟩⟩
      · (try simp (disch := omega) only [nlit, natrem, nIrm, nIam, nIam',  nI_add, pk_mul, nIsub, nIrem, nIdiv, nIand1, nIand3, nIand7, nIand31, nIshr, nIle, nIlt, nIeq, nIc, vpI, nIm1, m1nI, m1lt, nIlm, m1le, nIlem, nIneg, u2_ss, u2_nn, u2_kk, nIm1n, m1nIn, m1ltn, nIlmn, m1len, nIlemn, e11, eH, Nat.reduceMod, Nat.reducePow] at c1); (try simp (disch := omega) only [nlit, natrem, nIrm, nIam, nIam',  nI_add, pk_mul, nIsub, nIrem, nIdiv, nIand1, nIand3, nIand7, nIand31, nIshr, nIle, nIlt, nIeq, nIc, vpI, nIm1, m1nI, m1lt, nIlm, m1le, nIlem, nIneg, u2_ss, u2_nn, u2_kk, nIm1n, m1nIn, m1ltn, nIlmn, m1len, nIlemn, e11, eH, Nat.reduceMod, Nat.reducePow])
        omega
      · (try simp (disch := omega) only [nlit, natrem, nIrm, nIam, nIam',  nI_add, pk_mul, nIsub, nIrem, nIdiv, nIand1, nIand3, nIand7, nIand31, nIshr, nIle, nIlt, nIeq, nIc, vpI, nIm1, m1nI, m1lt, nIlm, m1le, nIlem, nIneg, u2_ss, u2_nn, u2_kk, nIm1n, m1nIn, m1ltn, nIlmn, m1len, nIlemn, e11, eH, Nat.reduceMod, Nat.reducePow] at c1) <;> (try simp (disch := omega) only [nlit, natrem, nIrm, nIam, nIam',  nI_add, pk_mul, nIsub, nIrem, nIdiv, nIand1, nIand3, nIand7, nIand31, nIshr, nIle, nIlt, nIeq, nIc, vpI, nIm1, m1nI, m1lt, nIlm, m1le, nIlem, nIneg, u2_ss, u2_nn, u2_kk, nIm1n, m1nIn, m1ltn, nIlmn, m1len, nIlemn, e11, eH, Nat.reduceMod, Nat.reducePow]) <;> (first | omega | trivial)
      · (try simp (disch := omega) only [nlit, natrem, nIrm, nIam, nIam',  nI_add, pk_mul, nIsub, nIrem, nIdiv, nIand1, nIand3, nIand7, nIand31, nIshr, nIle, nIlt, nIeq, nIc, vpI, nIm1, m1nI, m1lt, nIlm, m1le, nIlem, nIneg, u2_ss, u2_nn, u2_kk, nIm1n, m1nIn, m1ltn, nIlmn, m1len, nIlemn, e11, eH, Nat.reduceMod, Nat.reducePow] at c1) <;> (try simp (disch := omega) only [nlit, natrem, nIrm, nIam, nIam',  nI_add, pk_mul, nIsub, nIrem, nIdiv, nIand1, nIand3, nIand7, nIand31, nIshr, nIle, nIlt, nIeq, nIc, vpI, nIm1, m1nI, m1lt, nIlm, m1le, nIlem, nIneg, u2_ss, u2_nn, u2_kk, nIm1n, m1nIn, m1ltn, nIlmn, m1len, nIlemn, e11, eH, Nat.reduceMod, Nat.reducePow]) <;> (first | omega | trivial)
      · (try simp (disch := omega) only [nlit, natrem, nIrm, nIam, nIam',  nI_add, pk_mul, nIsub, nIrem, nIdiv, nIand1, nIand3, nIand7, nIand31, nIshr, nIle, nIlt, nIeq, nIc, vpI, nIm1, m1nI, m1lt, nIlm, m1le, nIlem, nIneg, u2_ss, u2_nn, u2_kk, nIm1n, m1nIn, m1ltn, nIlmn, m1len, nIlemn, e11, eH, Nat.reduceMod, Nat.reducePow] at c1); (try simp (disch := omega) only [nlit, natrem, nIrm, nIam, nIam',  nI_add, pk_mul, nIsub, nIrem, nIdiv, nIand1, nIand3, nIand7, nIand31, nIshr, nIle, nIlt, nIeq, nIc, vpI, nIm1, m1nI, m1lt, nIlm, m1le, nIlem, nIneg, u2_ss, u2_nn, u2_kk, nIm1n, m1nIn, m1ltn, nIlmn, m1len, nIlemn, e11, eH, Nat.reduceMod, Nat.reducePow])
        refine ih (g + 1) _ (by omega) (by omega) hF.u7 (by rw [u2_nn _ _ _ _ (by decide)]; exact h6) (fun x hx => ?_)
        by_cases e : x = g
        · rw [e, u2_ss]
        · rw [u2_kk _ _ _ _ e]; exact h7 x (by omega)
  exact EX9_begin hc (hlp _ 0 _ rfl (Nat.zero_le _) FrS.rf.u6 (u2_ss _ _ _ _) (fun x hx => absurd hx (Nat.not_lt_zero _)))
theorem pow38 {k : Nat} (h : k < 6) : 2 ^ (3 * k % 32) = 8 ^ k := by
  rw [Nat.mod_eq_of_lt (by omega), Nat.pow_mul]
theorem goneBy_ok {d : Nat} {sx : Sx} {I : Ints} {L : Lngs} {R : Rfs} {q : Q3} {a : Ce} {lc : List (Nat × Nat)} {lf : Nat → Nat} {gl : Nat → List Nat} {sn : Nat → Nat} {c m : Nat} (hc : isCel c) (hW : WFc a) (hE : WFe a lf gl sn) (hCl : CelC a lc c I L) (hRs : RsC a lc gl I L) (hm : m < 2147483648) (hO : oS (a 4).val (a 4).val m 0)
    (h : ∀ J T, FrS I J → Kp (fun k => k ≠ 56) R T → q (some (.int (nI (sP a (fun x => rt a lc x (gl x)) m (a 4).val).2))) J L T) : E0 mX9_goneBy (d + 5) sx [.ref 56, .ref c, .ref 42, .int (nI m)] I L R q := by
  have w4 := hW.2.2.2.2.1
  have hdg := fun j hj => (oS_dig _ _ _ hO j hj).1
  refine EX9_goneBy hc (beginS_ok (lc := lc) hc hW hCl (fun J hJ hF => RX9_goneBy_6 hc ?_))
  have hSR : SRf c (u2 (u2 R 56 3 (some c)) 56 4 (some 42)) := ⟨by rw [u2_kk _ _ _ _ (by decide), u2_ss], by rw [u2_ss]⟩
  have hT : Kp (fun k => k ≠ 56) R (u2 (u2 R 56 3 (some c)) 56 4 (some 42)) := (Kp.rf.up (by simp)).up (by simp)
  generalize u2 (u2 R 56 3 (some c)) 56 4 (some 42) = T at *
  have hlp : ∀ n k : Nat, ∀ J, n = (a 4).val - k → k ≤ (a 4).val → FrS I J → SnC a (sP a (fun x => rt a lc x (gl x)) m k) J → Y mX9_goneBy (d + 5) sx 9 [(0, .ref 56), (1, .ref c), (3, .int (nI m)), (4, .int (nI k))] [] J L T q := by
    intro n
    induction n with
    | zero =>
      intro k J hn hk hF hS
      have e : k = (a 4).val := by omega
      have e11 := (hCl.frs hc hF).1.2.2.2.2.2
      have e6 := hS.2
      refine RX9_goneBy_9 hc ⟨fun c1 => ?_, fun c1 => ⟨fun c2 => ?_, fun c2 => ?_⟩⟩
      · (try simp (disch := omega) only [nlit, natrem, nIrm, nIam, nIam',  nI_add, pk_mul, nIsub, nIrem, nIdiv, nIand1, nIand3, nIand7, nIand31, nIshr, nIle, nIlt, nIeq, nIc, vpI, nIm1, m1nI, m1lt, nIlm, m1le, nIlem, nIneg, u2_ss, u2_nn, u2_kk, nIm1n, m1nIn, m1ltn, nIlmn, m1len, nIlemn, e11, e6] at c1); (try simp (disch := omega) only [nlit, natrem, nIrm, nIam, nIam',  nI_add, pk_mul, nIsub, nIrem, nIdiv, nIand1, nIand3, nIand7, nIand31, nIshr, nIle, nIlt, nIeq, nIc, vpI, nIm1, m1nI, m1lt, nIlm, m1le, nIlem, nIneg, u2_ss, u2_nn, u2_kk, nIm1n, m1nIn, m1ltn, nIlmn, m1len, nIlemn, e11, e6])
        rw [e]
        exact h J T hF hT
      · (try simp (disch := omega) only [nlit, natrem, nIrm, nIam, nIam',  nI_add, pk_mul, nIsub, nIrem, nIdiv, nIand1, nIand3, nIand7, nIand31, nIshr, nIle, nIlt, nIeq, nIc, vpI, nIm1, m1nI, m1lt, nIlm, m1le, nIlem, nIneg, u2_ss, u2_nn, u2_kk, nIm1n, m1nIn, m1ltn, nIlmn, m1len, nIlemn, e11, e6] at c1 c2) <;> (first | omega | exact absurd rfl c1 | exact absurd trivial c1 | exact absurd rfl c2 | exact absurd trivial c2)
      · (try simp (disch := omega) only [nlit, natrem, nIrm, nIam, nIam',  nI_add, pk_mul, nIsub, nIrem, nIdiv, nIand1, nIand3, nIand7, nIand31, nIshr, nIle, nIlt, nIeq, nIc, vpI, nIm1, m1nI, m1lt, nIlm, m1le, nIlem, nIneg, u2_ss, u2_nn, u2_kk, nIm1n, m1nIn, m1ltn, nIlmn, m1len, nIlemn, e11, e6] at c1 c2) <;> (first | omega | exact absurd rfl c1 | exact absurd trivial c1 | exact absurd rfl c2 | exact absurd trivial c2)
    | succ n ih =>
      intro k J hn hk hF hS
      have hCJ := hCl.frs hc hF
      have e11 := hCJ.1.2.2.2.2.2
      have hp := pow38 (k := k) (by omega)
      have hd := hdg k (by omega)
      refine RX9_goneBy_9 hc ⟨fun c1 => ?_, fun c1 => ⟨fun c2 => ?_, fun c2 => ?_⟩⟩
      · (try simp (disch := omega) only [nlit, natrem, nIrm, nIam, nIam',  nI_add, pk_mul, nIsub, nIrem, nIdiv, nIand1, nIand3, nIand7, nIand31, nIshr, nIle, nIlt, nIeq, nIc, vpI, nIm1, m1nI, m1lt, nIlm, m1le, nIlem, nIneg, u2_ss, u2_nn, u2_kk, nIm1n, m1nIn, m1ltn, nIlmn, m1len, nIlemn, e11, hp] at c1); (try simp (disch := omega) only [nlit, natrem, nIrm, nIam, nIam',  nI_add, pk_mul, nIsub, nIrem, nIdiv, nIand1, nIand3, nIand7, nIand31, nIshr, nIle, nIlt, nIeq, nIc, vpI, nIm1, m1nI, m1lt, nIlm, m1le, nIlem, nIneg, u2_ss, u2_nn, u2_kk, nIm1n, m1nIn, m1ltn, nIlmn, m1len, nIlemn, e11, hp])
        omega
      · (try simp (disch := omega) only [nlit, natrem, nIrm, nIam, nIam',  nI_add, pk_mul, nIsub, nIrem, nIdiv, nIand1, nIand3, nIand7, nIand31, nIshr, nIle, nIlt, nIeq, nIc, vpI, nIm1, m1nI, m1lt, nIlm, m1le, nIlem, nIneg, u2_ss, u2_nn, u2_kk, nIm1n, m1nIn, m1ltn, nIlmn, m1len, nIlemn, e11, hp] at c1 c2); (try simp (disch := omega) only [nlit, natrem, nIrm, nIam, nIam',  nI_add, pk_mul, nIsub, nIrem, nIdiv, nIand1, nIand3, nIand7, nIand31, nIshr, nIle, nIlt, nIeq, nIc, vpI, nIm1, m1nI, m1lt, nIlm, m1le, nIlem, nIneg, u2_ss, u2_nn, u2_kk, nIm1n, m1nIn, m1ltn, nIlmn, m1len, nIlemn, e11, hp])
        omega
      · (try simp (disch := omega) only [nlit, natrem, nIrm, nIam, nIam',  nI_add, pk_mul, nIsub, nIrem, nIdiv, nIand1, nIand3, nIand7, nIand31, nIshr, nIle, nIlt, nIeq, nIc, vpI, nIm1, m1nI, m1lt, nIlm, m1le, nIlem, nIneg, u2_ss, u2_nn, u2_kk, nIm1n, m1nIn, m1ltn, nIlmn, m1len, nIlemn, e11, hp] at c1 c2); (try simp (disch := omega) only [nlit, natrem, nIrm, nIam, nIam',  nI_add, pk_mul, nIsub, nIrem, nIdiv, nIand1, nIand3, nIand7, nIand31, nIshr, nIle, nIlt, nIeq, nIc, vpI, nIm1, m1nI, m1lt, nIlm, m1le, nIlem, nIneg, u2_ss, u2_nn, u2_kk, nIm1n, m1nIn, m1ltn, nIlmn, m1len, nIlemn, e11, hp])
        refine go_ok (lf := lf) (sn := sn) hc hW hE hCJ (hRs.frs hF) hSR (sP_ok hW hdg k (by omega)) hS hd (fun K hK hFK => RX9_goneBy_44 hc ?_)
        rw [show nI k + 1 = nI (k + 1) from nI_add k 1]
        exact ih (k + 1) K (by omega) (by omega) (hF.tr hFK) hK
  exact hlp _ 0 J rfl (Nat.zero_le _) hF hJ
