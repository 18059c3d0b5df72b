/-! the best order of the model -/
theorem bits_ok {d : Nat} {sx : Sx} {I : Ints} {L : Lngs} {R : Rfs} {q : Q3} {b : Nat} (hb : b < 64) (h : q (some (.int (nI (cntP b 6)))) I L R) : E0 mX12_bits (d + 1) sx [.int (nI b)] I L R q := by
  have hlp : ∀ n k : Nat, n = 6 - k → k ≤ 6 → Y mX12_bits (d + 1) sx 4 [(0, .int (nI b)), (1, .int (nI (cntP b k))), (2, .int (nI k))] [] I L R q := by
    intro n
    induction n with
    | zero =>
      intro k hn hk
      have e : k = 6 := by omega
      subst e
      refine RX12_bits_4  ⟨fun c1 => ?_, fun c1 => ?_⟩
      · (try simp (disch := omega) only [nlit, natrem, nIrm, nIam, nIam',  nI_add, pk_mul, nIsub, nIrem, nIdiv, nIand1, nIand3, nIand7, nIand31, nIshr, nIle, nIlt, nIeq, nIc, vpI, nIm1, m1nI, m1lt, nIlm, m1le, nIlem, nIneg, u2_ss, u2_nn, u2_kk, nIm1n, m1nIn, m1ltn, nIlmn, m1len, nIlemn] at c1); (try simp (disch := omega) only [nlit, natrem, nIrm, nIam, nIam',  nI_add, pk_mul, nIsub, nIrem, nIdiv, nIand1, nIand3, nIand7, nIand31, nIshr, nIle, nIlt, nIeq, nIc, vpI, nIm1, m1nI, m1lt, nIlm, m1le, nIlem, nIneg, u2_ss, u2_nn, u2_kk, nIm1n, m1nIn, m1ltn, nIlmn, m1len, nIlemn])
        exact h
      · (try simp (disch := omega) only [nlit, natrem, nIrm, nIam, nIam',  nI_add, pk_mul, nIsub, nIrem, nIdiv, nIand1, nIand3, nIand7, nIand31, nIshr, nIle, nIlt, nIeq, nIc, vpI, nIm1, m1nI, m1lt, nIlm, m1le, nIlem, nIneg, u2_ss, u2_nn, u2_kk, nIm1n, m1nIn, m1ltn, nIlmn, m1len, nIlemn] at c1) <;> (first | omega | exact absurd rfl c1 | exact absurd trivial c1)
    | succ n ih =>
      intro k hn hk
      refine RX12_bits_4  ⟨fun c1 => ?_, fun c1 => ?_⟩
      · (try simp (disch := omega) only [nlit, natrem, nIrm, nIam, nIam',  nI_add, pk_mul, nIsub, nIrem, nIdiv, nIand1, nIand3, nIand7, nIand31, nIshr, nIle, nIlt, nIeq, nIc, vpI, nIm1, m1nI, m1lt, nIlm, m1le, nIlem, nIneg, u2_ss, u2_nn, u2_kk, nIm1n, m1nIn, m1ltn, nIlmn, m1len, nIlemn, bt_m] at c1); (try simp (disch := omega) only [nlit, natrem, nIrm, nIam, nIam',  nI_add, pk_mul, nIsub, nIrem, nIdiv, nIand1, nIand3, nIand7, nIand31, nIshr, nIle, nIlt, nIeq, nIc, vpI, nIm1, m1nI, m1lt, nIlm, m1le, nIlem, nIneg, u2_ss, u2_nn, u2_kk, nIm1n, m1nIn, m1ltn, nIlmn, m1len, nIlemn, bt_m])
        omega
      · (try simp (disch := omega) only [nlit, natrem, nIrm, nIam, nIam',  nI_add, pk_mul, nIsub, nIrem, nIdiv, nIand1, nIand3, nIand7, nIand31, nIshr, nIle, nIlt, nIeq, nIc, vpI, nIm1, m1nI, m1lt, nIlm, m1le, nIlem, nIneg, u2_ss, u2_nn, u2_kk, nIm1n, m1nIn, m1ltn, nIlmn, m1len, nIlemn, bt_m] at c1); (try simp (disch := omega) only [nlit, natrem, nIrm, nIam, nIam',  nI_add, pk_mul, nIsub, nIrem, nIdiv, nIand1, nIand3, nIand7, nIand31, nIshr, nIle, nIlt, nIeq, nIc, vpI, nIm1, m1nI, m1lt, nIlm, m1le, nIlem, nIneg, u2_ss, u2_nn, u2_kk, nIm1n, m1nIn, m1ltn, nIlmn, m1len, nIlemn, bt_m])
        exact ih (k + 1) (by omega) (by omega)
  exact EX12_bits (hlp _ 0 rfl (by decide))
def BsM (t : Bst) (J : Ints) : Prop := J 92 39 = bgV t.1 ∧ J 92 40 = nI t.2
def oN (o : Nat → Nat) : Nat → Nat
  | 0 => 0
  | k + 1 => oN o k + o k * 8 ^ k
theorem oN_lt {o : Nat → Nat} {n : Nat} (h : ∀ j, j < n → o j < 8) : ∀ k, k ≤ n → oN o k < 8 ^ k
  | 0, _ => by show 0 < 8 ^ 0; decide
  | k + 1, hk => by
    have ih := oN_lt h k (by omega)
    have h1 : (o k + 1) * 8 ^ k ≤ 8 * 8 ^ k := Nat.mul_le_mul_right _ (h k (by omega))
    rw [Nat.succ_mul] at h1
    have e8 : 8 ^ (k + 1) = 8 * 8 ^ k := by rw [Nat.pow_succ, Nat.mul_comm]
    show oN o k + o k * 8 ^ k < _
    rw [e8]
    omega
/-- Horner from above: the number of o k .. o (n-1), in base 8 -/
theorem oN_cons (o : Nat → Nat) : ∀ n k, k ≤ n → oN o n = oN o k + 8 ^ k * oN (fun j => o (k + j)) (n - k)
  | 0, k, h => by have : k = 0 := by omega
                  subst this
                  rfl
  | n + 1, k, h => by
    by_cases e : k = n + 1
    · subst e
      rw [Nat.sub_self]
      show _ = _ + 8 ^ (n + 1) * 0
      omega
    · have ih := oN_cons o n k (by omega)
      show oN o n + o n * 8 ^ n = _
      rw [ih, show n + 1 - k = (n - k) + 1 by omega]
      show _ = oN o k + 8 ^ k * (oN (fun j => o (k + j)) (n - k) + o (k + (n - k)) * 8 ^ (n - k))
      rw [show k + (n - k) = n by omega, Nat.mul_add]
      have e2 : 8 ^ n = 8 ^ k * 8 ^ (n - k) := by rw [← Nat.pow_add]; congr 1; omega
      rw [e2, Nat.add_assoc]
      congr 2
      rw [Nat.mul_comm (o n), Nat.mul_assoc, Nat.mul_comm (8 ^ (n - k))]
def oT (o : Nat → Nat) (n k : Nat) : Nat := oN (fun j => o (k + j)) (n - k)
theorem oT_s {o : Nat → Nat} {n k : Nat} (h : k < n) : oT o n k = 8 * oT o n (k + 1) + o k := by
  unfold oT
  rw [oN_cons (fun j => o (k + j)) (n - k) 1 (by omega)]
  show oN (fun j => o (k + j)) 0 + o (k + 0) * 8 ^ 0 + 8 ^ 1 * oN (fun j => o (k + (1 + j))) (n - k - 1) = _
  rw [show (fun j => o (k + (1 + j))) = (fun j => o (k + 1 + j)) from funext (fun j => by rw [Nat.add_assoc]), show n - k - 1 = n - (k + 1) by omega]
  show 0 + o k * 1 + 8 * _ = _
  omega
theorem oT_lt {o : Nat → Nat} {n k : Nat} (hn : n ≤ 6) (h : ∀ j, j < n → o j < 8) : oT o n k < 262144 := by
  unfold oT
  have := oN_lt (o := fun j => o (k + j)) (n := n - k) (fun j hj => h _ (by omega)) (n - k) (Nat.le_refl _)
  exact Nat.lt_of_lt_of_le this (pow8_le (by omega))
theorem sO_congr {a : Ce} {rs : Nat → List Nat} {o o' : Nat → Nat} : ∀ k, (∀ j, j < k → o' j = o j) → sO a rs o' k = sO a rs o k
  | 0, _ => rfl
  | k + 1, h => by
    show go1 a rs (sO a rs o' k) (o' k) = go1 a rs (sO a rs o k) (o k)
    rw [sO_congr k (fun j hj => h j (by omega)), h k (by omega)]
theorem oN_congr {o o' : Nat → Nat} : ∀ k, (∀ j, j < k → o' j = o j) → oN o' k = oN o k
  | 0, _ => rfl
  | k + 1, h => by
    show oN o' k + o' k * 8 ^ k = oN o k + o k * 8 ^ k
    rw [oN_congr k (fun j hj => h j (by omega)), h k (by omega)]
theorem triesOrder_ok {a : Ce} {lc : List (Nat × Nat)} {lf : Nat → Nat} {gl : Nat → List Nat} {sn : Nat → Nat} {R : Rfs} {L : Lngs} {sx : Sx} {I0 : Ints} (hM : MC a lc lf gl sn I0) :
    ∀ (rem d k b : Nat) (o : Nat → Nat) (t : Bst) (I : Ints) (q : Q3), k + rem = (a 4).val → b < 64 → t.1 ≤ 7 → (∀ j, j < k → o j < (a 4).val ∧ bt b (o j) = 1) → (∀ i j, i < j → j < k → o i ≠ o j) → OrM k o I → BsM t I → Fr AQ FQ I0 I →
      (∀ J, BsM (trS a (fun x => rt a lc x (gl x)) rem k b (oN o k) (sO a (fun x => rt a lc x (gl x)) o k) t) J → (∀ j, j < k → J 115 j = I 115 j) → Fr AQ FQ I0 J → q none J L R) →
      E0 mX12_triesOrder (d + rem + 7) sx [.ref 92, .int (nI k), .int (nI b)] I L R q := by
  have hW := hM.1
  have w4 := hW.2.2.2.2.1
  have hMc := hM.2.2.1
  intro rem
  induction rem with
  | zero =>
    intro d k b o t I q hk hb ht7 ho hne hO hB hF h
    have hkn : k = (a 4).val := by omega
    subst hkn
    have hMI := hM.fr hF
    refine EX12_triesOrder (guests_ok hMI.2.2.1 (RX12_triesOrder_5 ⟨fun w => absurd rfl w, fun _ => ?_⟩))
    have hsk := sO_ok hW (rs := fun x => rt a lc x (gl x)) (fun j hj => (ho j hj).1) _ (Nat.le_refl _)
    refine sends_ok (o := o) hMI hO (fun j hj => (ho j hj).1) hne (fun J hJ => RX12_triesOrder_12 ?_)
    refine bits_ok hsk.2 ?_
    have hFJ : Fr AQ FQ I0 J := hF.tr (hJ.mn rfl rfl)
    have hOJ : OrM (a 4).val o J := fun j hj => by rw [hJ.ar 115 rfl rfl]; exact hO j hj
    have hBJ : BsM t J := ⟨(hJ 92 39 rfl rfl).trans hB.1, (hJ 92 40 rfl rfl).trans hB.2⟩
    have h115 : ∀ j, J 115 j = I 115 j := hJ.ar 115 rfl rfl
    unfold trS at h
    generalize sO a (fun x => rt a lc x (gl x)) o (a 4).val = s at *
    have hcn := cntP_le s.2 6
    have hhor : ∀ (i : Nat) (M : Ints) (u : Nat), i ≤ (a 4).val → u = cntP s.2 6 + 1 → M 92 39 = bgV u → M 92 40 = nI (oT o (a 4).val i) → OrM (a 4).val o M → (∀ j, M 115 j = I 115 j) → Fr AQ FQ I0 M → (∀ N, BsM (u, oN o (a 4).val) N → (∀ j, j < (a 4).val → N 115 j = I 115 j) → Fr AQ FQ I0 N → q none N L R) → Y mX12_triesOrder (d + 7) sx 39 [(0, .ref 92), (4, .int (nI i - 1))] [] M L R q := by
      intro i
      induction i with
      | zero =>
        intro M u hi hu h39 h40 hOM h15 hFM hq
        refine RX12_triesOrder_39 ⟨fun _ => ?_, fun cc => absurd (by decide) cc⟩
        refine hq M ⟨h39, ?_⟩ (fun j _ => h15 j) hFM
        rw [h40]
        unfold oT
        rw [Nat.sub_zero, show (fun j => o (0 + j)) = o from funext (fun j => by rw [Nat.zero_add])]
      | succ i ih =>
        intro M u hi hu h39 h40 hOM h15 hFM hq
        have e1 : nI (i + 1) - 1 = nI i := nIsub (b := 1) (by omega)
        have e15 := hOM i (by omega)
        have hlt := oT_lt (k := i + 1) w4 (fun j hj => Nat.lt_of_lt_of_le (ho j hj).1 (by omega))
        have hoi := (ho i (by omega)).1
        have hos := oT_s (o := o) (n := (a 4).val) (k := i) (by omega)
        rw [e1]
        refine RX12_triesOrder_39  ⟨fun c1 => ?_, fun c1 => ⟨?_, ?_⟩⟩
        · (try simp (disch := omega) only [nlit, natrem, nIrm, nIam, nIam',  nI_add, pk_mul, nIsub, nIrem, nIdiv, nIand1, nIand3, nIand7, nIand31, nIshr, nIle, nIlt, nIeq, nIc, vpI, nIm1, m1nI, m1lt, nIlm, m1le, nIlem, nIneg, u2_ss, u2_nn, u2_kk, nIm1n, m1nIn, m1ltn, nIlmn, m1len, nIlemn, h40, e15] at c1) <;> (first | omega | exact absurd rfl c1 | exact absurd trivial c1)
        · (try simp (disch := omega) only [nlit, natrem, nIrm, nIam, nIam',  nI_add, pk_mul, nIsub, nIrem, nIdiv, nIand1, nIand3, nIand7, nIand31, nIshr, nIle, nIlt, nIeq, nIc, vpI, nIm1, m1nI, m1lt, nIlm, m1le, nIlem, nIneg, u2_ss, u2_nn, u2_kk, nIm1n, m1nIn, m1ltn, nIlmn, m1len, nIlemn, h40, e15] at c1) <;> (try simp (disch := omega) only [nlit, natrem, nIrm, nIam, nIam',  nI_add, pk_mul, nIsub, nIrem, nIdiv, nIand1, nIand3, nIand7, nIand31, nIshr, nIle, nIlt, nIeq, nIc, vpI, nIm1, m1nI, m1lt, nIlm, m1le, nIlem, nIneg, u2_ss, u2_nn, u2_kk, nIm1n, m1nIn, m1ltn, nIlmn, m1len, nIlemn, h40, e15]) <;> (first | omega | trivial)
        · (try simp (disch := omega) only [nlit, natrem, nIrm, nIam, nIam',  nI_add, pk_mul, nIsub, nIrem, nIdiv, nIand1, nIand3, nIand7, nIand31, nIshr, nIle, nIlt, nIeq, nIc, vpI, nIm1, m1nI, m1lt, nIlm, m1le, nIlem, nIneg, u2_ss, u2_nn, u2_kk, nIm1n, m1nIn, m1ltn, nIlmn, m1len, nIlemn, h40, e15] at c1); (try simp (disch := omega) only [nlit, natrem, nIrm, nIam, nIam',  nI_add, pk_mul, nIsub, nIrem, nIdiv, nIand1, nIand3, nIand7, nIand31, nIshr, nIle, nIlt, nIeq, nIc, vpI, nIm1, m1nI, m1lt, nIlm, m1le, nIlem, nIneg, u2_ss, u2_nn, u2_kk, nIm1n, m1nIn, m1ltn, nIlmn, m1len, nIlemn, h40, e15])
          rw [show nI i + -nI 1 = nI i - 1 from (Int32.sub_eq_add_neg _ _).symm]
          refine ih _ u (by omega) hu ?_ ?_ (fun j hj => ?_) (fun j => ?_) (hFM.uf rfl) hq
          · rw [u2_kk _ _ _ _ (by decide)]; exact h39
          · rw [u2_ss, hos]
          · rw [u2_nn _ _ _ _ (by decide)]; exact hOM j hj
          · rw [u2_nn _ _ _ _ (by decide)]; exact h15 j
    have htop : t.1 ≤ cntP s.2 6 → Y mX12_triesOrder (d + 7) sx 39 [(0, .ref 92), (4, .int (nI (a 4).val - 1))] [] (u2 (u2 J 92 39 (nI (cntP s.2 6))) 92 40 (nI 0)) L R q := by
      intro hle
      rw [if_pos hle] at h
      refine hhor (a 4).val _ (cntP s.2 6 + 1) (Nat.le_refl _) rfl ?_ ?_ (fun j hj => ?_) (fun j => ?_) ((hFJ.uf rfl).uf rfl) h
      · rw [u2_kk _ _ _ _ (by decide), u2_ss]; unfold bgV; rw [if_neg (Nat.succ_ne_zero _)]; rfl
      · rw [u2_ss]; unfold oT; rw [Nat.sub_self]; rfl
      · rw [u2_nn _ _ _ _ (by decide), u2_nn _ _ _ _ (by decide)]; exact hOJ j hj
      · rw [u2_nn _ _ _ _ (by decide), u2_nn _ _ _ _ (by decide)]; exact h115 j
    have e39 := hBJ.1
    unfold bgV at e39
    by_cases ht0 : t.1 = 0
    · rw [if_pos ht0] at e39
      refine RX12_triesOrder_15 ⟨fun cc => ?_, fun cc => htop (by omega)⟩
      exfalso
      rw [e39] at cc
      exact (nIlem (by omega)).mp cc
    · rw [if_neg ht0] at e39
      refine RX12_triesOrder_15 ⟨fun cc => ?_, fun cc => htop ?_⟩
      · rw [e39, nIle (by omega) (by omega)] at cc
        rw [if_neg (by omega)] at h
        exact h J hBJ (fun j _ => h115 j) hFJ
      · rw [e39, nIle (by omega) (by omega)] at cc
        omega
  | succ rem ih =>
    intro d k b o t I q hk hb ht7 ho hne hO hB hF h
    rw [show d + (rem + 1) + 7 = (d + rem + 7) + 1 by omega]
    have hMI := hMc.fr hF rfl rfl
    have hlp : ∀ m g : Nat, ∀ J, m = (a 4).val - g → g ≤ (a 4).val → BsM (trP a (fun x => rt a lc x (gl x)) rem k b (oN o k) (sO a (fun x => rt a lc x (gl x)) o k) t g) J → (trP a (fun x => rt a lc x (gl x)) rem k b (oN o k) (sO a (fun x => rt a lc x (gl x)) o k) t g).1 ≤ 7 → (∀ j, j < k → J 115 j = I 115 j) → Fr AQ FQ I0 J → Y mX12_triesOrder ((d + rem + 7) + 1) sx 72 [(0, .ref 92), (1, .int (nI k)), (2, .int (nI b)), (3, .int (nI g))] [] J L R q := by
      intro m
      induction m with
      | zero =>
        intro g J hm hg hBJ hle h15 hFJ
        have eg : g = (a 4).val := by omega
        refine RX12_triesOrder_72 (guests_ok (hMc.fr hFJ rfl rfl) ?_)
        refine RX12_triesOrder_77  ⟨fun c1 => ?_, fun c1 => ⟨fun c2 => ?_, fun c2 => ⟨?_, ?_⟩⟩⟩
        · (try simp (disch := omega) only [nlit, natrem, nIrm, nIam, nIam',  nI_add, pk_mul, nIsub, nIrem, nIdiv, nIand1, nIand3, nIand7, nIand31, nIshr, nIle, nIlt, nIeq, nIc, vpI, nIm1, m1nI, m1lt, nIlm, m1le, nIlem, nIneg, u2_ss, u2_nn, u2_kk, nIm1n, m1nIn, m1ltn, nIlmn, m1len, nIlemn] at c1); (try simp (disch := omega) only [nlit, natrem, nIrm, nIam, nIam',  nI_add, pk_mul, nIsub, nIrem, nIdiv, nIand1, nIand3, nIand7, nIand31, nIshr, nIle, nIlt, nIeq, nIc, vpI, nIm1, m1nI, m1lt, nIlm, m1le, nIlem, nIneg, u2_ss, u2_nn, u2_kk, nIm1n, m1nIn, m1ltn, nIlmn, m1len, nIlemn])
          rw [eg] at hBJ
          exact h J hBJ h15 hFJ
        · (try simp (disch := omega) only [nlit, natrem, nIrm, nIam, nIam',  nI_add, pk_mul, nIsub, nIrem, nIdiv, nIand1, nIand3, nIand7, nIand31, nIshr, nIle, nIlt, nIeq, nIc, vpI, nIm1, m1nI, m1lt, nIlm, m1le, nIlem, nIneg, u2_ss, u2_nn, u2_kk, nIm1n, m1nIn, m1ltn, nIlmn, m1len, nIlemn] at c1 c2) <;> (first | omega | exact absurd rfl c1 | exact absurd trivial c1 | exact absurd rfl c2 | exact absurd trivial c2)
        · (try simp (disch := omega) only [nlit, natrem, nIrm, nIam, nIam',  nI_add, pk_mul, nIsub, nIrem, nIdiv, nIand1, nIand3, nIand7, nIand31, nIshr, nIle, nIlt, nIeq, nIc, vpI, nIm1, m1nI, m1lt, nIlm, m1le, nIlem, nIneg, u2_ss, u2_nn, u2_kk, nIm1n, m1nIn, m1ltn, nIlmn, m1len, nIlemn] at c1 c2) <;> (try simp (disch := omega) only [nlit, natrem, nIrm, nIam, nIam',  nI_add, pk_mul, nIsub, nIrem, nIdiv, nIand1, nIand3, nIand7, nIand31, nIshr, nIle, nIlt, nIeq, nIc, vpI, nIm1, m1nI, m1lt, nIlm, m1le, nIlem, nIneg, u2_ss, u2_nn, u2_kk, nIm1n, m1nIn, m1ltn, nIlmn, m1len, nIlemn]) <;> (first | omega | trivial)
        · (try simp (disch := omega) only [nlit, natrem, nIrm, nIam, nIam',  nI_add, pk_mul, nIsub, nIrem, nIdiv, nIand1, nIand3, nIand7, nIand31, nIshr, nIle, nIlt, nIeq, nIc, vpI, nIm1, m1nI, m1lt, nIlm, m1le, nIlem, nIneg, u2_ss, u2_nn, u2_kk, nIm1n, m1nIn, m1ltn, nIlmn, m1len, nIlemn] at c1 c2) <;> (first | omega | exact absurd rfl c1 | exact absurd trivial c1 | exact absurd rfl c2 | exact absurd trivial c2)
      | succ m ihm =>
        intro g J hm hg hBJ hle h15 hFJ
        have hbl := bt_le b g
        have hstep := trP_s (a := a) (rs := fun x => rt a lc x (gl x)) (rem := rem) (k := k) (b := b) (o := oN o k) (s := sO a (fun x => rt a lc x (gl x)) o k) (t := t) g
        have hnx := ihm (g + 1)
        rw [hstep] at hnx
        generalize trP a (fun x => rt a lc x (gl x)) rem k b (oN o k) (sO a (fun x => rt a lc x (gl x)) o k) t g = u at *
        refine RX12_triesOrder_72 (guests_ok (hMc.fr hFJ rfl rfl) ?_)
        refine RX12_triesOrder_77  ⟨fun c1 => ?_, fun c1 => ⟨fun c2 => ?_, fun c2 => ⟨?_, ?_⟩⟩⟩
        · (try simp (disch := omega) only [nlit, natrem, nIrm, nIam, nIam',  nI_add, pk_mul, nIsub, nIrem, nIdiv, nIand1, nIand3, nIand7, nIand31, nIshr, nIle, nIlt, nIeq, nIc, vpI, nIm1, m1nI, m1lt, nIlm, m1le, nIlem, nIneg, u2_ss, u2_nn, u2_kk, nIm1n, m1nIn, m1ltn, nIlmn, m1len, nIlemn, bt_m] at c1); (try simp (disch := omega) only [nlit, natrem, nIrm, nIam, nIam',  nI_add, pk_mul, nIsub, nIrem, nIdiv, nIand1, nIand3, nIand7, nIand31, nIshr, nIle, nIlt, nIeq, nIc, vpI, nIm1, m1nI, m1lt, nIlm, m1le, nIlem, nIneg, u2_ss, u2_nn, u2_kk, nIm1n, m1nIn, m1ltn, nIlmn, m1len, nIlemn, bt_m])
          omega
        · (try simp (disch := omega) only [nlit, natrem, nIrm, nIam, nIam',  nI_add, pk_mul, nIsub, nIrem, nIdiv, nIand1, nIand3, nIand7, nIand31, nIshr, nIle, nIlt, nIeq, nIc, vpI, nIm1, m1nI, m1lt, nIlm, m1le, nIlem, nIneg, u2_ss, u2_nn, u2_kk, nIm1n, m1nIn, m1ltn, nIlmn, m1len, nIlemn, bt_m] at c1 c2); (try simp (disch := omega) only [nlit, natrem, nIrm, nIam, nIam',  nI_add, pk_mul, nIsub, nIrem, nIdiv, nIand1, nIand3, nIand7, nIand31, nIshr, nIle, nIlt, nIeq, nIc, vpI, nIm1, m1nI, m1lt, nIlm, m1le, nIlem, nIneg, u2_ss, u2_nn, u2_kk, nIm1n, m1nIn, m1ltn, nIlmn, m1len, nIlemn, bt_m])
          rw [if_neg c2] at hnx
          exact hnx J (by omega) (by omega) hBJ hle h15 hFJ
        · (try simp (disch := omega) only [nlit, natrem, nIrm, nIam, nIam',  nI_add, pk_mul, nIsub, nIrem, nIdiv, nIand1, nIand3, nIand7, nIand31, nIshr, nIle, nIlt, nIeq, nIc, vpI, nIm1, m1nI, m1lt, nIlm, m1le, nIlem, nIneg, u2_ss, u2_nn, u2_kk, nIm1n, m1nIn, m1ltn, nIlmn, m1len, nIlemn, bt_m] at c1 c2) <;> (try simp (disch := omega) only [nlit, natrem, nIrm, nIam, nIam',  nI_add, pk_mul, nIsub, nIrem, nIdiv, nIand1, nIand3, nIand7, nIand31, nIshr, nIle, nIlt, nIeq, nIc, vpI, nIm1, m1nI, m1lt, nIlm, m1le, nIlem, nIneg, u2_ss, u2_nn, u2_kk, nIm1n, m1nIn, m1ltn, nIlmn, m1len, nIlemn, bt_m]) <;> (first | omega | trivial)
        · (try simp (disch := omega) only [nlit, natrem, nIrm, nIam, nIam',  nI_add, pk_mul, nIsub, nIrem, nIdiv, nIand1, nIand3, nIand7, nIand31, nIshr, nIle, nIlt, nIeq, nIc, vpI, nIm1, m1nI, m1lt, nIlm, m1le, nIlem, nIneg, u2_ss, u2_nn, u2_kk, nIm1n, m1nIn, m1ltn, nIlmn, m1len, nIlemn, bt_m] at c1 c2); (try simp (disch := omega) only [nlit, natrem, nIrm, nIam, nIam',  nI_add, pk_mul, nIsub, nIrem, nIdiv, nIand1, nIand3, nIand7, nIand31, nIshr, nIle, nIlt, nIeq, nIc, vpI, nIm1, m1nI, m1lt, nIlm, m1le, nIlem, nIneg, u2_ss, u2_nn, u2_kk, nIm1n, m1nIn, m1ltn, nIlmn, m1len, nIlemn, bt_m])
          rw [if_pos c2] at hnx
          have hio := i_or (b := b) (h := g) (by omega)
          rw [hio]
          have ec : ∀ j, j < k → up1 o k g j = o j := fun j hj => up1_n _ _ (by omega)
          have es : sO a (fun x => rt a lc x (gl x)) (up1 o k g) (k + 1) = go1 a (fun x => rt a lc x (gl x)) (sO a (fun x => rt a lc x (gl x)) o k) g := by
            show go1 a _ (sO a _ (up1 o k g) k) (up1 o k g k) = _
            rw [sO_congr k ec, up1_s]
          have en : oN (up1 o k g) (k + 1) = oN o k + g * 8 ^ k := by
            show oN (up1 o k g) k + up1 o k g k * 8 ^ k = _
            rw [oN_congr k ec, up1_s]
          refine ih d (k + 1) (b ||| 2 ^ g) (up1 o k g) u _ _ (by omega) (or_lt6 hb (by omega)) hle (fun j hj => ?_) (fun i j hij hj => ?_) (fun j hj => ?_) ⟨?_, ?_⟩ (hFJ.ua rfl) (fun N hN1 hN2 hN3 => RX12_triesOrder_107 ?_)
          · rw [bt_or]
            by_cases e : j = k
            · rw [e, up1_s, if_pos rfl]; exact ⟨by omega, rfl⟩
            · rw [up1_n _ _ e]
              have := ho j (by omega)
              refine ⟨this.1, ?_⟩
              split
              · rfl
              · exact this.2
          · rw [ec i (by omega)]
            by_cases e : j = k
            · rw [e, up1_s]
              intro e2
              have := (ho i (by omega)).2
              rw [e2] at this
              omega
            · rw [up1_n _ _ e]; exact hne i j hij (by omega)
          · by_cases e : j = k
            · rw [e, up1_s, u2_ss]
            · rw [up1_n _ _ e, u2_kk _ _ _ _ e, h15 j (by omega)]; exact hO j (by omega)
          · rw [u2_nn _ _ _ _ (by decide)]; exact hBJ.1
          · rw [u2_nn _ _ _ _ (by decide)]; exact hBJ.2
          · rw [es, en] at hN1
            rw [show nI g + 1 = nI (g + 1) from nI_add g 1]
            refine hnx N (by omega) (by omega) hN1 (trS_le _ _ _ _ _ _ hle) (fun j hj => ?_) hN3
            rw [hN2 j (by omega), u2_kk _ _ _ _ (by omega)]
            exact h15 j hj
    refine EX12_triesOrder (guests_ok hMI (RX12_triesOrder_5 ⟨fun _ => ?_, fun cc => ?_⟩))
    · exact hlp _ 0 I rfl (Nat.zero_le _) hB ht7 (fun j _ => rfl) hF
    · exfalso
      rw [nIeq (by omega) (by omega)] at cc
      omega
theorem m_best {d : Nat} {sx : Sx} {I : Ints} {L : Lngs} {R : Rfs} {q : Q3} {a : Ce} {lc : List (Nat × Nat)} {lf : Nat → Nat} {gl : Nat → List Nat} {sn : Nat → Nat} (hM : MC a lc lf gl sn I) {x : Int32} (h : ∀ J, Fr AQ FQ I J → q (some (.int (spBest a lc gl x))) J L R) : E0 mX12_best (d + 14) sx [.ref 92, .int x] I L R q := by
  have w4 := hM.1.2.2.2.2.1
  refine EX12_best ?_
  have hF : Fr AQ FQ I (u2 (u2 (u2 I 92 0 0) 92 39 (-1)) 92 40 0) := ((Fr.rf.uf rfl).uf rfl).uf rfl
  have hs := triesOrder_ok (L := L) (R := R) (sx := sx) hM (a 4).val (d + (6 - (a 4).val)) 0 0 (fun _ => 0) (0, 0) _ (fun r J K T => Y mX12_best (d + 14) sx 21 [(0, .ref 92), (1, .int x)] (r.toList ++ []) J K T q) (by omega) (by decide) (by decide) (fun j hj => absurd hj (Nat.not_lt_zero _)) (fun i j _ hj => absurd hj (Nat.not_lt_zero _)) (fun j hj => absurd hj (Nat.not_lt_zero _)) ⟨by rw [u2_kk _ _ _ _ (by decide), u2_ss]; rfl, u2_ss _ _ _ _⟩ hF (fun J hJ _ hFJ => ?_)
  · rw [show d + (6 - (a 4).val) + (a 4).val + 7 = d + 13 by omega] at hs
    exact hs
  · have hJ : BsM (bstS a lc gl) J := hJ
    have h := h J hFJ
    unfold spBest at h
    refine RX12_best_21 ⟨fun c1 => ⟨fun c2 => ?_, fun c2 => ?_⟩, fun c1 => ?_⟩
    · rw [if_neg c1, if_neg c2] at h; exact h
    · rw [if_neg c1, if_pos c2] at h; rw [hJ.2]; exact h
    · rw [if_pos c1] at h; rw [hJ.1]; exact h
