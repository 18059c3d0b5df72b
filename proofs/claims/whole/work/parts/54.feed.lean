/-! the tape -/
theorem l_and255 (m : Nat) : (lN m).toInt32 &&& nI 255 = nI (m % 256) := by
  apply Int32.toBitVec_inj.mp
  rw [Int32.toBitVec_and, Int64.toBitVec_toInt32, BitVec.signExtend_eq_setWidth_of_le _ (by decide)]
  show (BitVec.ofNat 64 m).setWidth 32 &&& BitVec.ofNat 32 255 = BitVec.ofNat 32 (m % 256)
  apply BitVec.eq_of_toNat_eq
  rw [BitVec.toNat_and, BitVec.toNat_setWidth, BitVec.toNat_ofNat, BitVec.toNat_ofNat, BitVec.toNat_ofNat]
  rw [show 255 % 2 ^ 32 = 2 ^ 8 - 1 by decide, Nat.and_two_pow_sub_one_eq_mod]
  omega
theorem fb_c {n k : Nat} (hn : n < 2 ^ 64) (hk : k < 64) : (Int64.toInt32 (((lN n).toUInt64 >>> ((nI k).toInt64.toUInt64 &&& Int64.toUInt64 63)).toInt64)) &&& nI 255 = nI (n / 2 ^ k % 256) := by
  rw [wb_shr hn hk, l_and255]
theorem fb_m {n k : Nat} (hk : k ≤ 56) : (Int64.toInt32 ((lN n) >>> ((nI k).toInt64 &&& 63))) &&& nI 255 = nI (n / 2 ^ k % 256) := by
  rw [wb_c k (by omega)]
  apply Int32.toBitVec_inj.mp
  rw [Int32.toBitVec_and, Int64.toBitVec_toInt32, BitVec.signExtend_eq_setWidth_of_le _ (by decide), Int64.toBitVec_shiftRight]
  rw [show (lN k).toBitVec.smod 64 = BitVec.ofNat 64 k from wb_sm k (by omega)]
  show ((BitVec.ofNat 64 n).sshiftRight' (BitVec.ofNat 64 k)).setWidth 32 &&& BitVec.ofNat 32 255 = BitVec.ofNat 32 (n / 2 ^ k % 256)
  apply BitVec.eq_of_getLsbD_eq
  intro i hi
  rw [BitVec.getLsbD_and, BitVec.getLsbD_setWidth, BitVec.sshiftRight_eq', BitVec.getLsbD_sshiftRight, BitVec.toNat_ofNat, Nat.mod_eq_of_lt (show k < 2 ^ 64 by omega)]
  rw [BitVec.getLsbD_ofNat, BitVec.getLsbD_ofNat, BitVec.getLsbD_ofNat]
  rw [show (255 : Nat) = 2 ^ 8 - 1 by decide, Nat.testBit_two_pow_sub_one, show (256 : Nat) = 2 ^ 8 by decide, Nat.testBit_mod_two_pow, Nat.testBit_div_two_pow]
  by_cases h8 : i < 8
  · rw [if_pos (by omega), Nat.add_comm k i]
    simp [h8, hi, show i < 64 by omega, show i + k < 64 by omega]
  · simp [h8]
def fd1 (tp : List Nat) (b : Nat) : List Nat := if (b = 10 ∨ (32 ≤ b ∧ b ≤ 126)) ∧ tp.length < 1000 then tp ++ [b] else tp
def fdV (tp : List Nat) (v : Int64) : List Nat := [56, 48, 40, 32, 24, 16, 8, 0].foldl (fun t k => fd1 t (v.toBitVec.toNat / 2 ^ k % 256)) tp
def tpOk (tp : List Nat) : Prop := tp.length ≤ 1000 ∧ ∀ x ∈ tp, x = 10 ∨ (32 ≤ x ∧ x ≤ 126)
theorem fd1_ok {tp : List Nat} (h : tpOk tp) (b : Nat) : tpOk (fd1 tp b) := by
  unfold fd1
  split
  · rename_i hc
    refine ⟨by rw [List.length_append]; exact hc.2, fun x hx => ?_⟩
    rcases List.mem_append.mp hx with hx | hx
    · exact h.2 x hx
    · rw [List.mem_singleton.mp hx]; exact hc.1
  · exact h
theorem fdV_ok {tp : List Nat} (h : tpOk tp) (v : Int64) : tpOk (fdV tp v) := by
  unfold fdV
  simp only [List.foldl]
  exact fd1_ok (fd1_ok (fd1_ok (fd1_ok (fd1_ok (fd1_ok (fd1_ok (fd1_ok h _) _) _) _) _) _) _) _
def TpC (tp : List Nat) (I : Ints) : Prop := I 0 1 = nI tp.length ∧ ALo I 1 0 tp
def TpM (tp : List Nat) (I : Ints) : Prop := I 92 2 = nI tp.length ∧ ALo I 93 0 tp
theorem nar_c : ∀ b, b < 256 → vp_nar .char (((nI b).toUInt32 % 65536).toInt32) = nI b := by decide +kernel
theorem fb_id {v : Int64} : lN v.toBitVec.toNat = v := wb_inj (by rw [wb_tb]; simp)
theorem k_m8 : ∀ k, k < 64 → 8 ≤ k → nI k + -8 = nI (k - 8) := by decide +kernel
theorem fd1_y {tp : List Nat} {b : Nat} (h : b = 10 ∨ (32 ≤ b ∧ b ≤ 126)) (hl : tp.length < 1000) : fd1 tp b = tp ++ [b] := by unfold fd1; rw [if_pos ⟨h, hl⟩]
theorem fd1_n {tp : List Nat} {b : Nat} (h : ¬ ((b = 10 ∨ (32 ≤ b ∧ b ≤ 126)) ∧ tp.length < 1000)) : fd1 tp b = tp := by unfold fd1; rw [if_neg h]
/-- one sign -/
theorem c_sign {d : Nat} {sx : Sx} {L : Lngs} {R : Rfs} {q : Q3} {v : Int64} {k : Nat} (hk : k ≤ 56) {tp : List Nat} (hok : tpOk tp) {I0 I : Ints} (hT : TpC tp I) (hF : Fr [1] [(0, 1)] I0 I)
    (h : ∀ J, TpC (fd1 tp (v.toBitVec.toNat / 2 ^ k % 256)) J → Fr [1] [(0, 1)] I0 J → Y mX11_takeSigns (d + 1) sx 3 [(0, .ref 0), (1, .long v), (3, .int (nI k + -8))] [] J L R q) :
    Y mX11_takeSigns (d + 1) sx 3 [(0, .ref 0), (1, .long v), (3, .int (nI k))] [] I L R q := by
  have e := fb_c (n := v.toBitVec.toNat) (k := k) v.toBitVec.isLt (by omega)
  rw [fb_id] at e
  have hb : v.toBitVec.toNat / 2 ^ k % 256 < 256 := Nat.mod_lt _ (by decide)
  obtain ⟨t1, t2⟩ := hT
  have hln := hok.1
  generalize hbe : v.toBitVec.toNat / 2 ^ k % 256 = b at *
  have en := nar_c b hb
  have hpush : (b = 10 ∨ (32 ≤ b ∧ b ≤ 126)) → tp.length < 1000 → TpC (fd1 tp b) (u2 (u2 I 1 tp.length (nI b)) 0 1 (nI (tp.length + 1))) := by
    intro h1 h2
    rw [fd1_y h1 h2]
    refine ⟨by rw [u2_ss, List.length_append]; rfl, ?_⟩
    exact ALo.congr (I := u2 I 1 tp.length (nI b)) (t2.push (by omega)) (fun j => u2_nn _ _ _ _ (by decide))
  refine RX11_takeSigns_3 ⟨fun cc => absurd cc (i32_ltz (by omega)), fun _ => ?_⟩
  rw [show (255 : Int32) = nI 255 from rfl, e, en, t1, nIc (by omega)]
  refine ⟨fun c1 => ⟨fun c2 => ?_, fun c2 => ⟨?_, ?_⟩⟩, fun c1 => ⟨fun c2 => ?_, fun c2 => ⟨fun c3 => ?_, fun c3 => ⟨fun c4 => ?_, fun c4 => ⟨?_, ?_⟩⟩⟩⟩⟩
  · simp (disch := omega) only [nlit, natrem, nIrm, nIam, nIam',  nI_add, pk_mul, nIsub, nIrem, nIdiv, nIand1, nIand3, nIand7, nIand31, nIshr, nIle, nIlt, nIeq, nIc, vpI, nIm1, m1nI, m1lt, nIlm, m1le, nIlem, nIneg, u2_ss, u2_nn, u2_kk, nIm1n, m1nIn, m1ltn, nIlmn, m1len, nIlemn] at c1 c2
    refine h I ?_ hF
    rw [fd1_n (by omega)]; exact ⟨t1, t2⟩
  · simp (disch := omega) only [nlit, natrem, nIrm, nIam, nIam',  nI_add, pk_mul, nIsub, nIrem, nIdiv, nIand1, nIand3, nIand7, nIand31, nIshr, nIle, nIlt, nIeq, nIc, vpI, nIm1, m1nI, m1lt, nIlm, m1le, nIlem, nIneg, u2_ss, u2_nn, u2_kk, nIm1n, m1nIn, m1ltn, nIlmn, m1len, nIlemn] at c1 c2
    simp (disch := omega) only [nlit, natrem, nIrm, nIam, nIam',  nI_add, pk_mul, nIsub, nIrem, nIdiv, nIand1, nIand3, nIand7, nIand31, nIshr, nIle, nIlt, nIeq, nIc, vpI, nIm1, m1nI, m1lt, nIlm, m1le, nIlem, nIneg, u2_ss, u2_nn, u2_kk, nIm1n, m1nIn, m1ltn, nIlmn, m1len, nIlemn]
    omega
  · simp (disch := omega) only [nlit, natrem, nIrm, nIam, nIam',  nI_add, pk_mul, nIsub, nIrem, nIdiv, nIand1, nIand3, nIand7, nIand31, nIshr, nIle, nIlt, nIeq, nIc, vpI, nIm1, m1nI, m1lt, nIlm, m1le, nIlem, nIneg, u2_ss, u2_nn, u2_kk, nIm1n, m1nIn, m1ltn, nIlmn, m1len, nIlemn] at c1 c2
    simp (disch := omega) only [nlit, natrem, nIrm, nIam, nIam',  nI_add, pk_mul, nIsub, nIrem, nIdiv, nIand1, nIand3, nIand7, nIand31, nIshr, nIle, nIlt, nIeq, nIc, vpI, nIm1, m1nI, m1lt, nIlm, m1le, nIlem, nIneg, u2_ss, u2_nn, u2_kk, nIm1n, m1nIn, m1ltn, nIlmn, m1len, nIlemn]
    exact h _ (hpush (by omega) (by omega)) ((hF.ua rfl).uf rfl)
  · simp (disch := omega) only [nlit, natrem, nIrm, nIam, nIam',  nI_add, pk_mul, nIsub, nIrem, nIdiv, nIand1, nIand3, nIand7, nIand31, nIshr, nIle, nIlt, nIeq, nIc, vpI, nIm1, m1nI, m1lt, nIlm, m1le, nIlem, nIneg, u2_ss, u2_nn, u2_kk, nIm1n, m1nIn, m1ltn, nIlmn, m1len, nIlemn] at c1 c2
    refine h I ?_ hF
    rw [fd1_n (by omega)]; exact ⟨t1, t2⟩
  · simp (disch := omega) only [nlit, natrem, nIrm, nIam, nIam',  nI_add, pk_mul, nIsub, nIrem, nIdiv, nIand1, nIand3, nIand7, nIand31, nIshr, nIle, nIlt, nIeq, nIc, vpI, nIm1, m1nI, m1lt, nIlm, m1le, nIlem, nIneg, u2_ss, u2_nn, u2_kk, nIm1n, m1nIn, m1ltn, nIlmn, m1len, nIlemn] at c1 c2 c3
    refine h I ?_ hF
    rw [fd1_n (by omega)]; exact ⟨t1, t2⟩
  · simp (disch := omega) only [nlit, natrem, nIrm, nIam, nIam',  nI_add, pk_mul, nIsub, nIrem, nIdiv, nIand1, nIand3, nIand7, nIand31, nIshr, nIle, nIlt, nIeq, nIc, vpI, nIm1, m1nI, m1lt, nIlm, m1le, nIlem, nIneg, u2_ss, u2_nn, u2_kk, nIm1n, m1nIn, m1ltn, nIlmn, m1len, nIlemn] at c1 c2 c3 c4
    refine h I ?_ hF
    rw [fd1_n (by omega)]; exact ⟨t1, t2⟩
  · simp (disch := omega) only [nlit, natrem, nIrm, nIam, nIam',  nI_add, pk_mul, nIsub, nIrem, nIdiv, nIand1, nIand3, nIand7, nIand31, nIshr, nIle, nIlt, nIeq, nIc, vpI, nIm1, m1nI, m1lt, nIlm, m1le, nIlem, nIneg, u2_ss, u2_nn, u2_kk, nIm1n, m1nIn, m1ltn, nIlmn, m1len, nIlemn] at c1 c2 c3 c4
    simp (disch := omega) only [nlit, natrem, nIrm, nIam, nIam',  nI_add, pk_mul, nIsub, nIrem, nIdiv, nIand1, nIand3, nIand7, nIand31, nIshr, nIle, nIlt, nIeq, nIc, vpI, nIm1, m1nI, m1lt, nIlm, m1le, nIlem, nIneg, u2_ss, u2_nn, u2_kk, nIm1n, m1nIn, m1ltn, nIlmn, m1len, nIlemn]
    omega
  · simp (disch := omega) only [nlit, natrem, nIrm, nIam, nIam',  nI_add, pk_mul, nIsub, nIrem, nIdiv, nIand1, nIand3, nIand7, nIand31, nIshr, nIle, nIlt, nIeq, nIc, vpI, nIm1, m1nI, m1lt, nIlm, m1le, nIlem, nIneg, u2_ss, u2_nn, u2_kk, nIm1n, m1nIn, m1ltn, nIlmn, m1len, nIlemn] at c1 c2 c3 c4
    simp (disch := omega) only [nlit, natrem, nIrm, nIam, nIam',  nI_add, pk_mul, nIsub, nIrem, nIdiv, nIand1, nIand3, nIand7, nIand31, nIshr, nIle, nIlt, nIeq, nIc, vpI, nIm1, m1nI, m1lt, nIlm, m1le, nIlem, nIneg, u2_ss, u2_nn, u2_kk, nIm1n, m1nIn, m1ltn, nIlmn, m1len, nIlemn]
    exact h _ (hpush (by omega) (by omega)) ((hF.ua rfl).uf rfl)
theorem m_sign {d : Nat} {sx : Sx} {L : Lngs} {R : Rfs} {q : Q3} {v : Int64} {k : Nat} (hk : k ≤ 56) {tp : List Nat} (hok : tpOk tp) {I0 I : Ints} (hT : TpM tp I) (hF : Fr [93] [(92, 2)] I0 I)
    (h : ∀ J, TpM (fd1 tp (v.toBitVec.toNat / 2 ^ k % 256)) J → Fr [93] [(92, 2)] I0 J → Y mX12_lay (d + 1) sx 3 [(0, .ref 92), (1, .long v), (3, .int (nI k + -8))] [] J L R q) :
    Y mX12_lay (d + 1) sx 3 [(0, .ref 92), (1, .long v), (3, .int (nI k))] [] I L R q := by
  have e := fb_m (n := v.toBitVec.toNat) (k := k) hk
  rw [fb_id] at e
  have hb : v.toBitVec.toNat / 2 ^ k % 256 < 256 := Nat.mod_lt _ (by decide)
  obtain ⟨t1, t2⟩ := hT
  have hln := hok.1
  generalize hbe : v.toBitVec.toNat / 2 ^ k % 256 = b at *
  have hpush : (b = 10 ∨ (32 ≤ b ∧ b ≤ 126)) → tp.length < 1000 → TpM (fd1 tp b) (u2 (u2 I 93 tp.length (nI b)) 92 2 (nI (tp.length + 1))) := by
    intro h1 h2
    rw [fd1_y h1 h2]
    refine ⟨by rw [u2_ss, List.length_append]; rfl, ?_⟩
    exact ALo.congr (I := u2 I 93 tp.length (nI b)) (t2.push (by omega)) (fun j => u2_nn _ _ _ _ (by decide))
  refine RX12_lay_3 ⟨fun cc => absurd cc (i32_ltz (by omega)), fun _ => ?_⟩
  rw [show (255 : Int32) = nI 255 from rfl, e, t1, nIc (by omega)]
  refine ⟨fun c1 => ⟨fun c2 => ?_, fun c2 => ⟨?_, ?_⟩⟩, fun c1 => ⟨fun c2 => ?_, fun c2 => ⟨fun c3 => ?_, fun c3 => ⟨fun c4 => ?_, fun c4 => ⟨?_, ?_⟩⟩⟩⟩⟩
  · simp (disch := omega) only [nlit, natrem, nIrm, nIam, nIam',  nI_add, pk_mul, nIsub, nIrem, nIdiv, nIand1, nIand3, nIand7, nIand31, nIshr, nIle, nIlt, nIeq, nIc, vpI, nIm1, m1nI, m1lt, nIlm, m1le, nIlem, nIneg, u2_ss, u2_nn, u2_kk, nIm1n, m1nIn, m1ltn, nIlmn, m1len, nIlemn] at c1 c2
    refine h I ?_ hF
    rw [fd1_n (by omega)]; exact ⟨t1, t2⟩
  · simp (disch := omega) only [nlit, natrem, nIrm, nIam, nIam',  nI_add, pk_mul, nIsub, nIrem, nIdiv, nIand1, nIand3, nIand7, nIand31, nIshr, nIle, nIlt, nIeq, nIc, vpI, nIm1, m1nI, m1lt, nIlm, m1le, nIlem, nIneg, u2_ss, u2_nn, u2_kk, nIm1n, m1nIn, m1ltn, nIlmn, m1len, nIlemn] at c1 c2
    simp (disch := omega) only [nlit, natrem, nIrm, nIam, nIam',  nI_add, pk_mul, nIsub, nIrem, nIdiv, nIand1, nIand3, nIand7, nIand31, nIshr, nIle, nIlt, nIeq, nIc, vpI, nIm1, m1nI, m1lt, nIlm, m1le, nIlem, nIneg, u2_ss, u2_nn, u2_kk, nIm1n, m1nIn, m1ltn, nIlmn, m1len, nIlemn]
    omega
  · simp (disch := omega) only [nlit, natrem, nIrm, nIam, nIam',  nI_add, pk_mul, nIsub, nIrem, nIdiv, nIand1, nIand3, nIand7, nIand31, nIshr, nIle, nIlt, nIeq, nIc, vpI, nIm1, m1nI, m1lt, nIlm, m1le, nIlem, nIneg, u2_ss, u2_nn, u2_kk, nIm1n, m1nIn, m1ltn, nIlmn, m1len, nIlemn] at c1 c2
    simp (disch := omega) only [nlit, natrem, nIrm, nIam, nIam',  nI_add, pk_mul, nIsub, nIrem, nIdiv, nIand1, nIand3, nIand7, nIand31, nIshr, nIle, nIlt, nIeq, nIc, vpI, nIm1, m1nI, m1lt, nIlm, m1le, nIlem, nIneg, u2_ss, u2_nn, u2_kk, nIm1n, m1nIn, m1ltn, nIlmn, m1len, nIlemn]
    exact h _ (hpush (by omega) (by omega)) ((hF.ua rfl).uf rfl)
  · simp (disch := omega) only [nlit, natrem, nIrm, nIam, nIam',  nI_add, pk_mul, nIsub, nIrem, nIdiv, nIand1, nIand3, nIand7, nIand31, nIshr, nIle, nIlt, nIeq, nIc, vpI, nIm1, m1nI, m1lt, nIlm, m1le, nIlem, nIneg, u2_ss, u2_nn, u2_kk, nIm1n, m1nIn, m1ltn, nIlmn, m1len, nIlemn] at c1 c2
    refine h I ?_ hF
    rw [fd1_n (by omega)]; exact ⟨t1, t2⟩
  · simp (disch := omega) only [nlit, natrem, nIrm, nIam, nIam',  nI_add, pk_mul, nIsub, nIrem, nIdiv, nIand1, nIand3, nIand7, nIand31, nIshr, nIle, nIlt, nIeq, nIc, vpI, nIm1, m1nI, m1lt, nIlm, m1le, nIlem, nIneg, u2_ss, u2_nn, u2_kk, nIm1n, m1nIn, m1ltn, nIlmn, m1len, nIlemn] at c1 c2 c3
    refine h I ?_ hF
    rw [fd1_n (by omega)]; exact ⟨t1, t2⟩
  · simp (disch := omega) only [nlit, natrem, nIrm, nIam, nIam',  nI_add, pk_mul, nIsub, nIrem, nIdiv, nIand1, nIand3, nIand7, nIand31, nIshr, nIle, nIlt, nIeq, nIc, vpI, nIm1, m1nI, m1lt, nIlm, m1le, nIlem, nIneg, u2_ss, u2_nn, u2_kk, nIm1n, m1nIn, m1ltn, nIlmn, m1len, nIlemn] at c1 c2 c3 c4
    refine h I ?_ hF
    rw [fd1_n (by omega)]; exact ⟨t1, t2⟩
  · simp (disch := omega) only [nlit, natrem, nIrm, nIam, nIam',  nI_add, pk_mul, nIsub, nIrem, nIdiv, nIand1, nIand3, nIand7, nIand31, nIshr, nIle, nIlt, nIeq, nIc, vpI, nIm1, m1nI, m1lt, nIlm, m1le, nIlem, nIneg, u2_ss, u2_nn, u2_kk, nIm1n, m1nIn, m1ltn, nIlmn, m1len, nIlemn] at c1 c2 c3 c4
    simp (disch := omega) only [nlit, natrem, nIrm, nIam, nIam',  nI_add, pk_mul, nIsub, nIrem, nIdiv, nIand1, nIand3, nIand7, nIand31, nIshr, nIle, nIlt, nIeq, nIc, vpI, nIm1, m1nI, m1lt, nIlm, m1le, nIlem, nIneg, u2_ss, u2_nn, u2_kk, nIm1n, m1nIn, m1ltn, nIlmn, m1len, nIlemn]
    omega
  · simp (disch := omega) only [nlit, natrem, nIrm, nIam, nIam',  nI_add, pk_mul, nIsub, nIrem, nIdiv, nIand1, nIand3, nIand7, nIand31, nIshr, nIle, nIlt, nIeq, nIc, vpI, nIm1, m1nI, m1lt, nIlm, m1le, nIlem, nIneg, u2_ss, u2_nn, u2_kk, nIm1n, m1nIn, m1ltn, nIlmn, m1len, nIlemn] at c1 c2 c3 c4
    simp (disch := omega) only [nlit, natrem, nIrm, nIam, nIam',  nI_add, pk_mul, nIsub, nIrem, nIdiv, nIand1, nIand3, nIand7, nIand31, nIshr, nIle, nIlt, nIeq, nIc, vpI, nIm1, m1nI, m1lt, nIlm, m1le, nIlem, nIneg, u2_ss, u2_nn, u2_kk, nIm1n, m1nIn, m1ltn, nIlmn, m1len, nIlemn]
    exact h _ (hpush (by omega) (by omega)) ((hF.ua rfl).uf rfl)
theorem takeSigns_ok {d : Nat} {sx : Sx} {I : Ints} {L : Lngs} {R : Rfs} {q : Q3} {v : Int64} {tp : List Nat} (hok : tpOk tp) {I0 : Ints} (hT : TpC tp I) (hF : Fr [1] [(0, 1)] I0 I) (h : ∀ J, TpC (fdV tp v) J → Fr [1] [(0, 1)] I0 J → q none J L R) : E0 mX11_takeSigns (d + 1) sx [.ref 0, .long v] I L R q := by
  refine EX11_takeSigns ?_
  refine c_sign (k := 56) (by decide) hok hT hF (fun J j1 j2 => ?_)
  have o1 := fd1_ok hok (v.toBitVec.toNat / 2 ^ 56 % 256)
  refine c_sign (k := 48) (by decide) o1 j1 j2 (fun J j1 j2 => ?_)
  have o2 := fd1_ok o1 (v.toBitVec.toNat / 2 ^ 48 % 256)
  refine c_sign (k := 40) (by decide) o2 j1 j2 (fun J j1 j2 => ?_)
  have o3 := fd1_ok o2 (v.toBitVec.toNat / 2 ^ 40 % 256)
  refine c_sign (k := 32) (by decide) o3 j1 j2 (fun J j1 j2 => ?_)
  have o4 := fd1_ok o3 (v.toBitVec.toNat / 2 ^ 32 % 256)
  refine c_sign (k := 24) (by decide) o4 j1 j2 (fun J j1 j2 => ?_)
  have o5 := fd1_ok o4 (v.toBitVec.toNat / 2 ^ 24 % 256)
  refine c_sign (k := 16) (by decide) o5 j1 j2 (fun J j1 j2 => ?_)
  have o6 := fd1_ok o5 (v.toBitVec.toNat / 2 ^ 16 % 256)
  refine c_sign (k := 8) (by decide) o6 j1 j2 (fun J j1 j2 => ?_)
  have o7 := fd1_ok o6 (v.toBitVec.toNat / 2 ^ 8 % 256)
  refine c_sign (k := 0) (by decide) o7 j1 j2 (fun J j1 j2 => ?_)
  exact RX11_takeSigns_3 ⟨fun _ => h J j1 j2, fun w => absurd (by decide) w⟩
theorem lay_ok {d : Nat} {sx : Sx} {I : Ints} {L : Lngs} {R : Rfs} {q : Q3} {v : Int64} {tp : List Nat} (hok : tpOk tp) {I0 : Ints} (hT : TpM tp I) (hF : Fr [93] [(92, 2)] I0 I) (h : ∀ J, TpM (fdV tp v) J → Fr [93] [(92, 2)] I0 J → q none J L R) : E0 mX12_lay (d + 1) sx [.ref 92, .long v] I L R q := by
  refine EX12_lay ?_
  refine m_sign (k := 56) (by decide) hok hT hF (fun J j1 j2 => ?_)
  have o1 := fd1_ok hok (v.toBitVec.toNat / 2 ^ 56 % 256)
  refine m_sign (k := 48) (by decide) o1 j1 j2 (fun J j1 j2 => ?_)
  have o2 := fd1_ok o1 (v.toBitVec.toNat / 2 ^ 48 % 256)
  refine m_sign (k := 40) (by decide) o2 j1 j2 (fun J j1 j2 => ?_)
  have o3 := fd1_ok o2 (v.toBitVec.toNat / 2 ^ 40 % 256)
  refine m_sign (k := 32) (by decide) o3 j1 j2 (fun J j1 j2 => ?_)
  have o4 := fd1_ok o3 (v.toBitVec.toNat / 2 ^ 32 % 256)
  refine m_sign (k := 24) (by decide) o4 j1 j2 (fun J j1 j2 => ?_)
  have o5 := fd1_ok o4 (v.toBitVec.toNat / 2 ^ 24 % 256)
  refine m_sign (k := 16) (by decide) o5 j1 j2 (fun J j1 j2 => ?_)
  have o6 := fd1_ok o5 (v.toBitVec.toNat / 2 ^ 16 % 256)
  refine m_sign (k := 8) (by decide) o6 j1 j2 (fun J j1 j2 => ?_)
  have o7 := fd1_ok o6 (v.toBitVec.toNat / 2 ^ 8 % 256)
  refine m_sign (k := 0) (by decide) o7 j1 j2 (fun J j1 j2 => ?_)
  exact RX12_lay_3 ⟨fun _ => h J j1 j2, fun w => absurd (by decide) w⟩
theorem c_feed {d : Nat} {sx : Sx} {I : Ints} {L : Lngs} {R : Rfs} {q : Q3} {x y z : Int64} {tp : List Nat} (hok : tpOk tp) (hT : TpC tp I) (h : ∀ J, TpC (fdV (fdV (fdV tp x) y) z) J → Fr [1] [(0, 1)] I J → q (some (.int (nI (fdV (fdV (fdV tp x) y) z).length))) J L R) : E0 mX11_feed (d + 2) sx [.ref 0, .long x, .long y, .long z] I L R q := by
  refine EX11_feed (takeSigns_ok hok hT Fr.rf (fun J j1 j2 => RX11_feed_5 (takeSigns_ok (fdV_ok hok x) j1 j2 (fun J j1 j2 => RX11_feed_10 (takeSigns_ok (fdV_ok (fdV_ok hok x) y) j1 j2 (fun J j1 j2 => RX11_feed_16 ?_))))))
  rw [j1.1]
  exact h J j1 j2
theorem m_feed {d : Nat} {sx : Sx} {I : Ints} {L : Lngs} {R : Rfs} {q : Q3} {x y z : Int64} {tp : List Nat} (hok : tpOk tp) (hT : TpM tp I) (h : ∀ J, TpM (fdV (fdV (fdV tp x) y) z) J → Fr [93] [(92, 0), (92, 2)] I J → q (some (.int (nI (fdV (fdV (fdV tp x) y) z).length))) J L R) : E0 mX12_feed (d + 2) sx [.ref 92, .long x, .long y, .long z] I L R q := by
  refine EX12_feed ?_
  have hT' : TpM tp (u2 I 92 0 0) := ⟨by rw [u2_kk _ _ _ _ (by decide)]; exact hT.1, hT.2.congr (fun j => u2_nn _ _ _ _ (by decide))⟩
  refine lay_ok hok hT' Fr.rf (fun J j1 j2 => RX12_feed_10 (lay_ok (fdV_ok hok x) j1 j2 (fun J j1 j2 => RX12_feed_15 (lay_ok (fdV_ok (fdV_ok hok x) y) j1 j2 (fun J j1 j2 => RX12_feed_21 ?_)))))
  rw [j1.1]
  exact h J j1 ((Fr.rf.uf rfl).tr (j2.mn rfl rfl))
