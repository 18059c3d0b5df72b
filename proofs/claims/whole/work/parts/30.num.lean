/-! numbers: a normal form nI n -/
theorem nlit (n : Nat) : (OfNat.ofNat n : Int32) = nI (OfNat.ofNat n) := rfl
theorem u2_nn {α : Type} (f : Nat → Nat → α) {o a : Nat} (k b : Nat) (v : α) (h : a ≠ o) : u2 f o k v a b = f a b := by simp [u2, h]
theorem u2_ss {α : Type} (f : Nat → Nat → α) (o k : Nat) (v : α) : u2 f o k v o k = v := by simp [u2]
theorem u2_st {α : Type} (f : Nat → Nat → α) {o a k b : Nat} (v : α) (h : a = o) (h2 : b = k) : u2 f o k v a b = v := by simp [u2, h, h2]
theorem vpI {n N : Nat} (h : n < 2147483648) : vp_in (nI n) N ↔ n < N := by
  rw [vp_in_iff, nI_toInt (by omega)]
  omega
theorem nIc {n : Nat} (h : n < 2147483648) : (nI n).toNatClampNeg = n := nI_clamp (by omega)
theorem nIle {a b : Nat} (ha : a < 2147483648) (hb : b < 2147483648) : nI a ≤ nI b ↔ a ≤ b := nI_leI (by omega) (by omega)
theorem nIlt {a b : Nat} (ha : a < 2147483648) (hb : b < 2147483648) : nI a < nI b ↔ a < b := nI_ltI (by omega) (by omega)
theorem nIeq {a b : Nat} (ha : a < 2147483648) (hb : b < 2147483648) : nI a = nI b ↔ a = b := nI_eq (by omega) (by omega)
theorem nIdiv {a d : Nat} (ha : a < 2147483648) (h0 : 0 < d) (hd : d < 2147483648) : nI a / nI d = nI (a / d) := pk_div (by omega) h0 (by omega)
theorem nIrem {a d : Nat} (ha : a < 2147483648) (h0 : 0 < d) (hd : d < 2147483648) : nI a - nI a / nI d * nI d = nI (a % d) := pk_rem (by omega) h0 (by omega)
theorem m1_ne {a : Nat} (h : a < 2147483648) : nI a ≠ -1 := by
  intro e
  have := congrArg Int32.toInt e
  rw [nI_toInt (by omega)] at this
  have h2 : (-1 : Int32).toInt = -1 := by decide
  omega
theorem nIm1 {a : Nat} (h : a < 2147483648) : (nI a = -1) ↔ False := ⟨fun e => m1_ne h e, False.elim⟩
theorem m1nI {a : Nat} (h : a < 2147483648) : (-1 = nI a) ↔ False := ⟨fun e => m1_ne h e.symm, False.elim⟩
theorem m1lt {a : Nat} (h : a < 2147483648) : (-1 < nI a) ↔ True := by
  refine ⟨fun _ => trivial, fun _ => ?_⟩
  rw [Int32.lt_iff_toInt_lt, nI_toInt (by omega)]
  have h2 : (-1 : Int32).toInt = -1 := by decide
  omega
theorem nIlm {a : Nat} (h : a < 2147483648) : (nI a < -1) ↔ False := by
  refine ⟨fun e => ?_, False.elim⟩
  revert e
  rw [Int32.lt_iff_toInt_lt, nI_toInt (by omega)]
  have h2 : (-1 : Int32).toInt = -1 := by decide
  omega
theorem m1le {a : Nat} (h : a < 2147483648) : (-1 ≤ nI a) ↔ True := by
  refine ⟨fun _ => trivial, fun _ => ?_⟩
  rw [Int32.le_iff_toInt_le, nI_toInt (by omega)]
  have h2 : (-1 : Int32).toInt = -1 := by decide
  omega
theorem nIlem {a : Nat} (h : a < 2147483648) : (nI a ≤ -1) ↔ False := by
  refine ⟨fun e => ?_, False.elim⟩
  revert e
  rw [Int32.le_iff_toInt_le, nI_toInt (by omega)]
  have h2 : (-1 : Int32).toInt = -1 := by decide
  omega
theorem nIand (a b : Nat) : nI a &&& nI b = nI (a &&& b) := by
  apply Int32.toBitVec.inj
  show (nI a).toBitVec &&& (nI b).toBitVec = _
  show BitVec.ofNat 32 a &&& BitVec.ofNat 32 b = BitVec.ofNat 32 (a &&& b)
  apply BitVec.eq_of_toNat_eq
  simp only [BitVec.toNat_and, BitVec.toNat_ofNat, Nat.and_mod_two_pow]
theorem nIor (a b : Nat) : nI a ||| nI b = nI (a ||| b) := by
  apply Int32.toBitVec.inj
  show BitVec.ofNat 32 a ||| BitVec.ofNat 32 b = BitVec.ofNat 32 (a ||| b)
  apply BitVec.eq_of_toNat_eq
  simp only [BitVec.toNat_or, BitVec.toNat_ofNat, Nat.or_mod_two_pow]
theorem nIand1 (n : Nat) : nI n &&& nI 1 = nI (n % 2) := by rw [nIand]; congr 1; exact Nat.and_two_pow_sub_one_eq_mod n 1
theorem nIand3 (n : Nat) : nI n &&& nI 3 = nI (n % 4) := by rw [nIand]; congr 1; exact Nat.and_two_pow_sub_one_eq_mod n 2
theorem nIand7 (n : Nat) : nI n &&& nI 7 = nI (n % 8) := by rw [nIand]; congr 1; exact Nat.and_two_pow_sub_one_eq_mod n 3
theorem nIand31 (n : Nat) : nI n &&& nI 31 = nI (n % 32) := by rw [nIand]; congr 1; exact Nat.and_two_pow_sub_one_eq_mod n 5
theorem s_l' : ∀ n, n < 32 → ((nI n).toBitVec.smod 32).toNat = n := by decide +kernel
theorem nIshr {a k : Nat} (h : a < 2147483648) (hk : k < 32) : nI a >>> nI k = nI (a / 2 ^ k) := pk_shrN (by omega) _ _ (s_l' k hk)
theorem nIshl {a k : Nat} (hk : k < 32) (h : a * 2 ^ k < 2 ^ 32) : nI a <<< nI k = nI (a * 2 ^ k) := pk_shlN _ _ (s_l' k hk) h
theorem nIsub {a b : Nat} (h : b ≤ a) : nI a - nI b = nI (a - b) := pk_sub h
theorem nIneg {a b : Nat} (hb : b < 1073741824) (h : a < b) : (nI a - nI b < nI 0) ↔ True := ⟨fun _ => trivial, fun _ => pk_sneg (by omega) h⟩
