/-! a routine of the class -/
def ent (a : Ce) (kd : Nat) : List Nat → Nat → Nat → Bool
  | [], _, _ => false
  | s :: l, p, c => (decide (aft a (clP a) kd p s / 4 ≠ p / 4) && decide (c = aft a (clP a) kd p s / 4)) || ent a kd l (aft a (clP a) kd p s) c
def CInv (r c : Nat) (I0 J : Ints) (l : List Nat) (m kd hm : Nat) : Prop := Kp (fun k => k ≠ r ∧ k ≠ r + 1 ∧ k ≠ c + 11) I0 J ∧ J r 1 = nI l.length ∧ J r 2 = nI m ∧ ALo J (r + 1) 0 l ∧ J r 5 = nI kd ∧ J r 6 = nI hm
theorem CInv.fr {r c : Nat} {I0 J K : Ints} {l : List Nat} {m kd hm : Nat} (h : CInv r c I0 J l m kd hm) (hF : Kp (fun k => k ≠ c + 11) J K) (h1 : r ≠ c + 11) (h2 : r + 1 ≠ c + 11) : CInv r c I0 K l m kd hm := by
  have e1 := hF r h1
  have e2 := hF (r + 1) h2
  refine ⟨h.1.tr (hF.mn (fun k hk => hk.2.2)), ?_, ?_, h.2.2.2.1.congr (fun j => by rw [e2]), ?_, ?_⟩
  · rw [e1]; exact h.2.1
  · rw [e1]; exact h.2.2.1
  · rw [e1]; exact h.2.2.2.2.1
  · rw [e1]; exact h.2.2.2.2.2
theorem CelC.kp {a : Ce} {lc : List (Nat × Nat)} {c : Nat} {I J : Ints} {L : Lngs} {P : Nat → Prop} (h : CelC a lc c I L) (hF : Kp P I J) (hP : ∀ k, c ≤ k → k ≤ c + 10 → P k) : CelC a lc c J L := h.fr (fun k h1 h2 => hF k (hP k h1 h2)) rfl
theorem min_ok {d : Nat} {sx : Sx} {I : Ints} {L : Lngs} {R : Rfs} {q : Q3} {a b : Nat} (ha : a < 2147483648) (hb : b < 2147483648) (h : q (some (.int (nI (min a b)))) I L R) : E0 mJ9_min_7cf53 (d + 1) sx [.int (nI a), .int (nI b)] I L R q := by
  refine EJ9_min_7cf53  ⟨fun c1 => ?_, fun c1 => ?_⟩
  · (try simp (disch := omega) only [nlit, natrem, nIrm, nIam, nIam',  nI_add, pk_mul, nIsub, nIrem, nIdiv, nIand1, nIand3, nIand7, nIand31, nIshr, nIle, nIlt, nIeq, nIc, vpI, nIm1, m1nI, m1lt, nIlm, m1le, nIlem, nIneg, u2_ss, u2_nn, u2_kk] at c1); (try simp (disch := omega) only [nlit, natrem, nIrm, nIam, nIam',  nI_add, pk_mul, nIsub, nIrem, nIdiv, nIand1, nIand3, nIand7, nIand31, nIshr, nIle, nIlt, nIeq, nIc, vpI, nIm1, m1nI, m1lt, nIlm, m1le, nIlem, nIneg, u2_ss, u2_nn, u2_kk])
    rw [Nat.min_eq_right (by omega)] at h; exact h
  · (try simp (disch := omega) only [nlit, natrem, nIrm, nIam, nIam',  nI_add, pk_mul, nIsub, nIrem, nIdiv, nIand1, nIand3, nIand7, nIand31, nIshr, nIle, nIlt, nIeq, nIc, vpI, nIm1, m1nI, m1lt, nIlm, m1le, nIlem, nIneg, u2_ss, u2_nn, u2_kk] at c1); (try simp (disch := omega) only [nlit, natrem, nIrm, nIam, nIam',  nI_add, pk_mul, nIsub, nIrem, nIdiv, nIand1, nIand3, nIand7, nIand31, nIshr, nIle, nIlt, nIeq, nIc, vpI, nIm1, m1nI, m1lt, nIlm, m1le, nIlem, nIneg, u2_ss, u2_nn, u2_kk])
    rw [Nat.min_eq_left (by omega)] at h; exact h
theorem drink_lp {d : Nat} {sx : Sx} {L : Lngs} {R : Rfs} {q : Q3} {a : Ce} {lc : List (Nat × Nat)} {c r : Nat} (hc : isCel c) (hr : isRou r) {I0 : Ints} (hC : CelC a lc c I0 L) (hW : WFc a) {g : Nat} (hg : g < (a 4).val) {ws : List Nat} (hw : wsOk a ws) {gl m kd hm : Nat} (hgl : gl < ws.length) {pre : List Nat} (hpre : pre.length ≤ 480) (hm4 : m ≤ 480)
    (h : ∀ J, CInv r c I0 J (pre ++ gsP a lc g ws gl (wL a (ws.getD gl 0))) (m + gsN a lc g ws gl (wL a (ws.getD gl 0))) kd hm → q none J L R) :
    ∀ n s : Nat, ∀ J, n = wL a (ws.getD gl 0) - s → s ≤ wL a (ws.getD gl 0) → CInv r c I0 J (pre ++ gsP a lc g ws gl s) (m + gsN a lc g ws gl s) kd hm →
      Y mX7_drink (d + 4) sx 22 [(0, .ref r), (1, .ref c), (2, .int (nI g)), (3, .int (nI (ws.getD gl 0))), (4, .int (nI gl)), (5, .int (nI ws.length)), (6, .int (nI (wL a (ws.getD gl 0)))), (7, .int (nI s))] [] J L R q := by
  have w4 := hW.2.2.2.2.1
  have w3 := hW.2.2.2.1
  have hwl := hw.2 gl hgl
  have hL := wL_le hW hwl
  have hc' : c = 2 ∨ c = 14 := hc
  have hr' : 44 ≤ r ∧ r ≤ 90 := by rcases hr with h | h | h | h | h | h | h <;> omega
  intro n
  induction n with
  | zero =>
    intro s J hn hs hS
    have e : s = wL a (ws.getD gl 0) := by omega
    rw [e] at hS ⊢
    refine RX7_drink_22 hr hc ⟨fun _ => h J hS, fun cc => ?_⟩
    simp (disch := omega) only [nlit, natrem, nIrm, nIam, nIam',  nI_add, pk_mul, nIsub, nIrem, nIdiv, nIand1, nIand3, nIand7, nIand31, nIshr, nIle, nIlt, nIeq, nIc, vpI, nIm1, m1nI, m1lt, nIlm, m1le, nIlem, nIneg, u2_ss, u2_nn, u2_kk] at cc
    omega
  | succ n ih =>
    intro s J hn hs hS
    have hsl := gsP_len a lc g ws gl s
    have hsn := gsN_le a lc g ws gl s
    have hle : (pre ++ gsP a lc g ws gl s).length = pre.length + s := by rw [List.length_append, hsl]
    refine RX7_drink_22 hr hc ⟨fun cc => ?_, fun cc => ?_⟩
    · simp (disch := omega) only [nlit, natrem, nIrm, nIam, nIam',  nI_add, pk_mul, nIsub, nIrem, nIdiv, nIand1, nIand3, nIand7, nIand31, nIshr, nIle, nIlt, nIeq, nIc, vpI, nIm1, m1nI, m1lt, nIlm, m1le, nIlem, nIneg, u2_ss, u2_nn, u2_kk] at cc
      omega
    have hCJ := hC.kp hS.1 (fun k h1 h2 => ⟨by omega, by omega, by omega⟩)
    refine loses_ok hc hCJ hg w4 (fun K hK => ?_)
    have hSK := hS.fr hK (by omega) (by omega)
    have hCK := hC.kp hSK.1 (fun k h1 h2 => ⟨by omega, by omega, by omega⟩)
    obtain ⟨k1, k2, k3, k4, k5, k6⟩ := hSK
    have eS := (hCK.2.2.2.1 _ hwl).2.2 s (by omega)
    rw [hle] at k2
    by_cases hlo : lost lc gl s (gA a g).val ws.length = true
    · rw [if_pos hlo]
      have e1 : gs1 a lc g ws gl s = 4 := by unfold gs1; rw [if_pos hlo]
      have e2 : gsN a lc g ws gl (s + 1) = gsN a lc g ws gl s + 1 := by show _ + (if _ then 1 else 0) = _; rw [if_pos hlo]
      refine RX7_drink_40 hr hc ⟨fun c1 => ⟨?_, ⟨?_, ?_⟩⟩, fun c1 => ⟨?_, ?_⟩⟩
      · (try simp (disch := omega) only [nlit, natrem, nIrm, nIam, nIam',  nI_add, pk_mul, nIsub, nIrem, nIdiv, nIand1, nIand3, nIand7, nIand31, nIshr, nIle, nIlt, nIeq, nIc, vpI, nIm1, m1nI, m1lt, nIlm, m1le, nIlem, nIneg, u2_ss, u2_nn, u2_kk, k2, k3] at c1) <;> (try simp (disch := omega) only [nlit, natrem, nIrm, nIam, nIam',  nI_add, pk_mul, nIsub, nIrem, nIdiv, nIand1, nIand3, nIand7, nIand31, nIshr, nIle, nIlt, nIeq, nIc, vpI, nIm1, m1nI, m1lt, nIlm, m1le, nIlem, nIneg, u2_ss, u2_nn, u2_kk, k2, k3]) <;> (first | omega | trivial)
      · (try simp (disch := omega) only [nlit, natrem, nIrm, nIam, nIam',  nI_add, pk_mul, nIsub, nIrem, nIdiv, nIand1, nIand3, nIand7, nIand31, nIshr, nIle, nIlt, nIeq, nIc, vpI, nIm1, m1nI, m1lt, nIlm, m1le, nIlem, nIneg, u2_ss, u2_nn, u2_kk, k2, k3] at c1) <;> (try simp (disch := omega) only [nlit, natrem, nIrm, nIam, nIam',  nI_add, pk_mul, nIsub, nIrem, nIdiv, nIand1, nIand3, nIand7, nIand31, nIshr, nIle, nIlt, nIeq, nIc, vpI, nIm1, m1nI, m1lt, nIlm, m1le, nIlem, nIneg, u2_ss, u2_nn, u2_kk, k2, k3]) <;> (first | omega | trivial)
      · (try simp (disch := omega) only [nlit, natrem, nIrm, nIam, nIam',  nI_add, pk_mul, nIsub, nIrem, nIdiv, nIand1, nIand3, nIand7, nIand31, nIshr, nIle, nIlt, nIeq, nIc, vpI, nIm1, m1nI, m1lt, nIlm, m1le, nIlem, nIneg, u2_ss, u2_nn, u2_kk, k2, k3] at c1) <;> (first | omega | exact absurd rfl c1 | exact absurd trivial c1)
      · (try simp (disch := omega) only [nlit, natrem, nIrm, nIam, nIam',  nI_add, pk_mul, nIsub, nIrem, nIdiv, nIand1, nIand3, nIand7, nIand31, nIshr, nIle, nIlt, nIeq, nIc, vpI, nIm1, m1nI, m1lt, nIlm, m1le, nIlem, nIneg, u2_ss, u2_nn, u2_kk, k2, k3] at c1) <;> (try simp (disch := omega) only [nlit, natrem, nIrm, nIam, nIam',  nI_add, pk_mul, nIsub, nIrem, nIdiv, nIand1, nIand3, nIand7, nIand31, nIshr, nIle, nIlt, nIeq, nIc, vpI, nIm1, m1nI, m1lt, nIlm, m1le, nIlem, nIneg, u2_ss, u2_nn, u2_kk, k2, k3]) <;> (first | omega | trivial)
      · (try simp (disch := omega) only [nlit, natrem, nIrm, nIam, nIam',  nI_add, pk_mul, nIsub, nIrem, nIdiv, nIand1, nIand3, nIand7, nIand31, nIshr, nIle, nIlt, nIeq, nIc, vpI, nIm1, m1nI, m1lt, nIlm, m1le, nIlem, nIneg, u2_ss, u2_nn, u2_kk, k2, k3] at c1); (try simp (disch := omega) only [nlit, natrem, nIrm, nIam, nIam',  nI_add, pk_mul, nIsub, nIrem, nIdiv, nIand1, nIand3, nIand7, nIand31, nIshr, nIle, nIlt, nIeq, nIc, vpI, nIm1, m1nI, m1lt, nIlm, m1le, nIlem, nIneg, u2_ss, u2_nn, u2_kk, k2, k3])
        refine ih (s + 1) _ (by omega) (by omega) ?_
        rw [e2]
        show CInv r c I0 _ (pre ++ (gsP a lc g ws gl s ++ [gs1 a lc g ws gl s])) _ kd hm
        rw [e1, ← List.append_assoc, ← Nat.add_assoc]
        refine ⟨((k1.up (by omega)).up (by omega)).up (by omega), ?_, ?_, ?_, ?_, ?_⟩
        · rw [List.length_append, hle]; simp (disch := omega) only [nlit, natrem, nIrm, nIam, nIam',  nI_add, pk_mul, nIsub, nIrem, nIdiv, nIand1, nIand3, nIand7, nIand31, nIshr, nIle, nIlt, nIeq, nIc, vpI, nIm1, m1nI, m1lt, nIlm, m1le, nIlem, nIneg, u2_ss, u2_nn, u2_kk]; rfl
        · simp (disch := omega) only [nlit, natrem, nIrm, nIam, nIam',  nI_add, pk_mul, nIsub, nIrem, nIdiv, nIand1, nIand3, nIand7, nIand31, nIshr, nIle, nIlt, nIeq, nIc, vpI, nIm1, m1nI, m1lt, nIlm, m1le, nIlem, nIneg, u2_ss, u2_nn, u2_kk]
        · refine ALo.congr (I := u2 K (r + 1) (pre.length + s) (nI 4)) (k4.push (by omega)) (fun j => ?_)
          rw [u2_nn _ _ _ _ (by omega)]
          simp [u2]
        · simp (disch := omega) only [nlit, natrem, nIrm, nIam, nIam',  nI_add, pk_mul, nIsub, nIrem, nIdiv, nIand1, nIand3, nIand7, nIand31, nIshr, nIle, nIlt, nIeq, nIc, vpI, nIm1, m1nI, m1lt, nIlm, m1le, nIlem, nIneg, u2_ss, u2_nn, u2_kk]; exact k5
        · simp (disch := omega) only [nlit, natrem, nIrm, nIam, nIam',  nI_add, pk_mul, nIsub, nIrem, nIdiv, nIand1, nIand3, nIand7, nIand31, nIshr, nIle, nIlt, nIeq, nIc, vpI, nIm1, m1nI, m1lt, nIlm, m1le, nIlem, nIneg, u2_ss, u2_nn, u2_kk]; exact k6
    · rw [if_neg hlo]
      have e1 : gs1 a lc g ws gl s = wS a (ws.getD gl 0) s := by unfold gs1; rw [if_neg hlo]
      have e2 : gsN a lc g ws gl (s + 1) = gsN a lc g ws gl s + 0 := by show _ + (if _ then 1 else 0) = _; rw [if_neg hlo]
      refine RX7_drink_40 hr hc ⟨fun c1 => ⟨?_, ⟨?_, ?_⟩⟩, fun c1 => ⟨?_, ?_⟩⟩
      · (try simp (disch := omega) only [nlit, natrem, nIrm, nIam, nIam',  nI_add, pk_mul, nIsub, nIrem, nIdiv, nIand1, nIand3, nIand7, nIand31, nIshr, nIle, nIlt, nIeq, nIc, vpI, nIm1, m1nI, m1lt, nIlm, m1le, nIlem, nIneg, u2_ss, u2_nn, u2_kk, k2, k3, eS] at c1) <;> (try simp (disch := omega) only [nlit, natrem, nIrm, nIam, nIam',  nI_add, pk_mul, nIsub, nIrem, nIdiv, nIand1, nIand3, nIand7, nIand31, nIshr, nIle, nIlt, nIeq, nIc, vpI, nIm1, m1nI, m1lt, nIlm, m1le, nIlem, nIneg, u2_ss, u2_nn, u2_kk, k2, k3, eS]) <;> (first | omega | trivial)
      · (try simp (disch := omega) only [nlit, natrem, nIrm, nIam, nIam',  nI_add, pk_mul, nIsub, nIrem, nIdiv, nIand1, nIand3, nIand7, nIand31, nIshr, nIle, nIlt, nIeq, nIc, vpI, nIm1, m1nI, m1lt, nIlm, m1le, nIlem, nIneg, u2_ss, u2_nn, u2_kk, k2, k3, eS] at c1) <;> (try simp (disch := omega) only [nlit, natrem, nIrm, nIam, nIam',  nI_add, pk_mul, nIsub, nIrem, nIdiv, nIand1, nIand3, nIand7, nIand31, nIshr, nIle, nIlt, nIeq, nIc, vpI, nIm1, m1nI, m1lt, nIlm, m1le, nIlem, nIneg, u2_ss, u2_nn, u2_kk, k2, k3, eS]) <;> (first | omega | trivial)
      · (try simp (disch := omega) only [nlit, natrem, nIrm, nIam, nIam',  nI_add, pk_mul, nIsub, nIrem, nIdiv, nIand1, nIand3, nIand7, nIand31, nIshr, nIle, nIlt, nIeq, nIc, vpI, nIm1, m1nI, m1lt, nIlm, m1le, nIlem, nIneg, u2_ss, u2_nn, u2_kk, k2, k3, eS] at c1); (try simp (disch := omega) only [nlit, natrem, nIrm, nIam, nIam',  nI_add, pk_mul, nIsub, nIrem, nIdiv, nIand1, nIand3, nIand7, nIand31, nIshr, nIle, nIlt, nIeq, nIc, vpI, nIm1, m1nI, m1lt, nIlm, m1le, nIlem, nIneg, u2_ss, u2_nn, u2_kk, k2, k3, eS])
        refine ih (s + 1) _ (by omega) (by omega) ?_
        rw [e2]
        show CInv r c I0 _ (pre ++ (gsP a lc g ws gl s ++ [gs1 a lc g ws gl s])) _ kd hm
        rw [e1, ← List.append_assoc, ← Nat.add_assoc]
        refine ⟨(k1.up (by omega)).up (by omega), ?_, ?_, ?_, ?_, ?_⟩
        · rw [List.length_append, hle]; simp (disch := omega) only [nlit, natrem, nIrm, nIam, nIam',  nI_add, pk_mul, nIsub, nIrem, nIdiv, nIand1, nIand3, nIand7, nIand31, nIshr, nIle, nIlt, nIeq, nIc, vpI, nIm1, m1nI, m1lt, nIlm, m1le, nIlem, nIneg, u2_ss, u2_nn, u2_kk]; rfl
        · simp (disch := omega) only [nlit, natrem, nIrm, nIam, nIam',  nI_add, pk_mul, nIsub, nIrem, nIdiv, nIand1, nIand3, nIand7, nIand31, nIshr, nIle, nIlt, nIeq, nIc, vpI, nIm1, m1nI, m1lt, nIlm, m1le, nIlem, nIneg, u2_ss, u2_nn, u2_kk]; exact k3
        · refine ALo.congr (I := u2 K (r + 1) (pre.length + s) (nI (wS a (ws.getD gl 0) s))) (k4.push (by omega)) (fun j => ?_)
          rw [u2_nn _ _ _ _ (by omega)]
        · simp (disch := omega) only [nlit, natrem, nIrm, nIam, nIam',  nI_add, pk_mul, nIsub, nIrem, nIdiv, nIand1, nIand3, nIand7, nIand31, nIshr, nIle, nIlt, nIeq, nIc, vpI, nIm1, m1nI, m1lt, nIlm, m1le, nIlem, nIneg, u2_ss, u2_nn, u2_kk]; exact k5
        · simp (disch := omega) only [nlit, natrem, nIrm, nIam, nIam',  nI_add, pk_mul, nIsub, nIrem, nIdiv, nIand1, nIand3, nIand7, nIand31, nIshr, nIle, nIlt, nIeq, nIc, vpI, nIm1, m1nI, m1lt, nIlm, m1le, nIlem, nIneg, u2_ss, u2_nn, u2_kk]; exact k6
      · (try simp (disch := omega) only [nlit, natrem, nIrm, nIam, nIam',  nI_add, pk_mul, nIsub, nIrem, nIdiv, nIand1, nIand3, nIand7, nIand31, nIshr, nIle, nIlt, nIeq, nIc, vpI, nIm1, m1nI, m1lt, nIlm, m1le, nIlem, nIneg, u2_ss, u2_nn, u2_kk, k2, k3, eS] at c1) <;> (try simp (disch := omega) only [nlit, natrem, nIrm, nIam, nIam',  nI_add, pk_mul, nIsub, nIrem, nIdiv, nIand1, nIand3, nIand7, nIand31, nIshr, nIle, nIlt, nIeq, nIc, vpI, nIm1, m1nI, m1lt, nIlm, m1le, nIlem, nIneg, u2_ss, u2_nn, u2_kk, k2, k3, eS]) <;> (first | omega | trivial)
      · (try simp (disch := omega) only [nlit, natrem, nIrm, nIam, nIam',  nI_add, pk_mul, nIsub, nIrem, nIdiv, nIand1, nIand3, nIand7, nIand31, nIshr, nIle, nIlt, nIeq, nIc, vpI, nIm1, m1nI, m1lt, nIlm, m1le, nIlem, nIneg, u2_ss, u2_nn, u2_kk, k2, k3, eS] at c1) <;> (first | omega | exact absurd rfl c1 | exact absurd trivial c1)
theorem drink_ok {d : Nat} {sx : Sx} {I : Ints} {L : Lngs} {R : Rfs} {q : Q3} {a : Ce} {lc : List (Nat × Nat)} {c r : Nat} (hc : isCel c) (hr : isRou r) {I0 : Ints} (hC : CelC a lc c I0 L) (hW : WFc a) {g : Nat} (hg : g < (a 4).val) {ws : List Nat} (hw : wsOk a ws) {gl m kd hm : Nat} (hgl : gl < ws.length) {pre : List Nat} (hpre : pre.length ≤ 480) (hm4 : m ≤ 480) (hI : CInv r c I0 I pre m kd hm)
    (h : ∀ J, CInv r c I0 J (pre ++ gsP a lc g ws gl (wL a (ws.getD gl 0))) (m + gsN a lc g ws gl (wL a (ws.getD gl 0))) kd hm → q none J L R) :
    E0 mX7_drink (d + 4) sx [.ref r, .ref c, .int (nI g), .int (nI (ws.getD gl 0)), .int (nI gl), .int (nI ws.length)] I L R q := by
  have w3 := hW.2.2.2.1
  have hwl := hw.2 gl hgl
  have hL := wL_le hW hwl
  have hc' : c = 2 ∨ c = 14 := hc
  have hr' : 44 ≤ r ∧ r ≤ 90 := by rcases hr with h | h | h | h | h | h | h <;> omega
  have hCI := hC.kp hI.1 (fun k h1 h2 => ⟨by omega, by omega, by omega⟩)
  have eL := (hCI.2.2.2.1 _ hwl).2.1
  have e1 := hI.2.1
  refine EX7_drink hr hc ⟨?_, ?_⟩
  · (try simp (disch := omega) only [nlit, natrem, nIrm, nIam, nIam',  nI_add, pk_mul, nIsub, nIrem, nIdiv, nIand1, nIand3, nIand7, nIand31, nIshr, nIle, nIlt, nIeq, nIc, vpI, nIm1, m1nI, m1lt, nIlm, m1le, nIlem, nIneg, u2_ss, u2_nn, u2_kk, eL, e1]) <;> (first | omega | trivial)
  · (try simp (disch := omega) only [nlit, natrem, nIrm, nIam, nIam',  nI_add, pk_mul, nIsub, nIrem, nIdiv, nIand1, nIand3, nIand7, nIand31, nIshr, nIle, nIlt, nIeq, nIc, vpI, nIm1, m1nI, m1lt, nIlm, m1le, nIlem, nIneg, u2_ss, u2_nn, u2_kk, eL, e1])
    refine min_ok (by omega) (by omega) (RX7_drink_17 hr hc ?_)
    rw [Nat.min_eq_left (by omega)]
    exact drink_lp hc hr hC hW hg hw hgl hpre hm4 h _ 0 I rfl (Nat.zero_le _) (by show CInv r c I0 I (pre ++ []) _ _ _; rw [List.append_nil]; exact hI)
theorem walkAlone_lp {d : Nat} {sx : Sx} {R : Rfs} {q : Q3} {a : Ce} {lc : List (Nat × Nat)} {c r : Nat} (hc : isCel c) (hr : isRou r) {I0 : Ints} {L0 : Lngs} (hC : CelC a lc c I0 L0) (hW : WFc a) {kd : Nat} (hkd : kd ≤ 4) {l : List Nat} (hln : l.length ≤ 576) (hk5 : I0 r 5 = nI kd) (hl1 : I0 r 1 = nI l.length) (hA : ALo I0 (r + 1) 0 l) :
    ∀ (l2 l1 : List Nat) (J : Ints) (K : Lngs) (p : Nat) (E : Nat → Bool), l = l1 ++ l2 → (∀ x ∈ l2, x ≤ 4) → p < 256 → J r 3 = nI p → (∀ i, i ≠ 3 → J r i = I0 r i) → Kp (fun k => k ≠ r) I0 J → Kp (fun k => k ≠ r) L0 K → (∀ x, x < 64 → bL (K r 4) x = E x) →
      (∀ J K, J r 3 = nI (wk a (clP a) kd l2 p) → (∀ i, i ≠ 3 → J r i = I0 r i) → Kp (fun k => k ≠ r) I0 J → Kp (fun k => k ≠ r) L0 K → (∀ x, x < 64 → bL (K r 4) x = (E x || ent a kd l2 p x)) → q none J K R) →
      Y mX7_walkAlone (d + 3) sx 15 [(0, .ref r), (1, .ref c), (2, .int (nI l1.length))] [] J K R q := by
  have w0 := hW.1.2
  have w1 := hW.2.1.2
  have hc' : c = 2 ∨ c = 14 := hc
  have hr' : 44 ≤ r ∧ r ≤ 90 := by rcases hr with h | h | h | h | h | h | h <;> omega
  intro l2
  induction l2 with
  | nil =>
    intro l1 J K p E e h4 hp h3 hi hJ hK hE h
    have e5 := (hi 1 (by decide)).trans hl1
    rw [List.append_nil] at e
    rw [e] at e5 hln
    refine RX7_walkAlone_15 hr hc ⟨fun c1 => ?_, fun c1 => ⟨?_, ?_⟩⟩
    · (try simp (disch := omega) only [nlit, natrem, nIrm, nIam, nIam',  nI_add, pk_mul, nIsub, nIrem, nIdiv, nIand1, nIand3, nIand7, nIand31, nIshr, nIle, nIlt, nIeq, nIc, vpI, nIm1, m1nI, m1lt, nIlm, m1le, nIlem, nIneg, u2_ss, u2_nn, u2_kk, e5] at c1); (try simp (disch := omega) only [nlit, natrem, nIrm, nIam, nIam',  nI_add, pk_mul, nIsub, nIrem, nIdiv, nIand1, nIand3, nIand7, nIand31, nIshr, nIle, nIlt, nIeq, nIc, vpI, nIm1, m1nI, m1lt, nIlm, m1le, nIlem, nIneg, u2_ss, u2_nn, u2_kk, e5])
      exact h J K h3 hi hJ hK (fun x hx => by rw [hE x hx]; simp [ent])
    · (try simp (disch := omega) only [nlit, natrem, nIrm, nIam, nIam',  nI_add, pk_mul, nIsub, nIrem, nIdiv, nIand1, nIand3, nIand7, nIand31, nIshr, nIle, nIlt, nIeq, nIc, vpI, nIm1, m1nI, m1lt, nIlm, m1le, nIlem, nIneg, u2_ss, u2_nn, u2_kk, e5] at c1) <;> (try simp (disch := omega) only [nlit, natrem, nIrm, nIam, nIam',  nI_add, pk_mul, nIsub, nIrem, nIdiv, nIand1, nIand3, nIand7, nIand31, nIshr, nIle, nIlt, nIeq, nIc, vpI, nIm1, m1nI, m1lt, nIlm, m1le, nIlem, nIneg, u2_ss, u2_nn, u2_kk, e5]) <;> (first | omega | trivial)
    · (try simp (disch := omega) only [nlit, natrem, nIrm, nIam, nIam',  nI_add, pk_mul, nIsub, nIrem, nIdiv, nIand1, nIand3, nIand7, nIand31, nIshr, nIle, nIlt, nIeq, nIc, vpI, nIm1, m1nI, m1lt, nIlm, m1le, nIlem, nIneg, u2_ss, u2_nn, u2_kk, e5] at c1) <;> (first | omega | exact absurd rfl c1 | exact absurd trivial c1)
  | cons s l2 ih =>
    intro l1 J K p E e h4 hp h3 hi hJ hK hE h
    have hle : l.length = l1.length + (l2.length + 1) := by rw [e, List.length_append, List.length_cons]
    have e5 := (hi 1 (by decide)).trans hl1
    rw [hle] at e5
    have ek := (hi 5 (by decide)).trans hk5
    have e8 : J (r + 1) l1.length = nI s := by
      have := hA l1.length (by omega)
      rw [Nat.zero_add] at this
      rw [hJ (r + 1) (by omega), this, e, getD_r (Nat.le_refl _), Nat.sub_self]
      rfl
    have hs := h4 s (List.mem_cons_self ..)
    have hCJ : CelC a lc c J K := hC.fr (fun k h1 h2 => hJ k (by omega)) (hK c (by omega))
    have hp' := aft_lt (cl := clP a) (kd := kd) (s := s) w0 w1 hp
    refine RX7_walkAlone_15 hr hc ⟨fun c1 => ?_, fun c1 => ⟨?_, ?_⟩⟩
    · (try simp (disch := omega) only [nlit, natrem, nIrm, nIam, nIam',  nI_add, pk_mul, nIsub, nIrem, nIdiv, nIand1, nIand3, nIand7, nIand31, nIshr, nIle, nIlt, nIeq, nIc, vpI, nIm1, m1nI, m1lt, nIlm, m1le, nIlem, nIneg, u2_ss, u2_nn, u2_kk, e5, e8, ek, h3, Nat.reduceMod, Nat.reducePow] at c1); (try simp (disch := omega) only [nlit, natrem, nIrm, nIam, nIam',  nI_add, pk_mul, nIsub, nIrem, nIdiv, nIand1, nIand3, nIand7, nIand31, nIshr, nIle, nIlt, nIeq, nIc, vpI, nIm1, m1nI, m1lt, nIlm, m1le, nIlem, nIneg, u2_ss, u2_nn, u2_kk, e5, e8, ek, h3, Nat.reduceMod, Nat.reducePow])
      omega
    · (try simp (disch := omega) only [nlit, natrem, nIrm, nIam, nIam',  nI_add, pk_mul, nIsub, nIrem, nIdiv, nIand1, nIand3, nIand7, nIand31, nIshr, nIle, nIlt, nIeq, nIc, vpI, nIm1, m1nI, m1lt, nIlm, m1le, nIlem, nIneg, u2_ss, u2_nn, u2_kk, e5, e8, ek, h3, Nat.reduceMod, Nat.reducePow] at c1) <;> (try simp (disch := omega) only [nlit, natrem, nIrm, nIam, nIam',  nI_add, pk_mul, nIsub, nIrem, nIdiv, nIand1, nIand3, nIand7, nIand31, nIshr, nIle, nIlt, nIeq, nIc, vpI, nIm1, m1nI, m1lt, nIlm, m1le, nIlem, nIneg, u2_ss, u2_nn, u2_kk, e5, e8, ek, h3, Nat.reduceMod, Nat.reducePow]) <;> (first | omega | trivial)
    · (try simp (disch := omega) only [nlit, natrem, nIrm, nIam, nIam',  nI_add, pk_mul, nIsub, nIrem, nIdiv, nIand1, nIand3, nIand7, nIand31, nIshr, nIle, nIlt, nIeq, nIc, vpI, nIm1, m1nI, m1lt, nIlm, m1le, nIlem, nIneg, u2_ss, u2_nn, u2_kk, e5, e8, ek, h3, Nat.reduceMod, Nat.reducePow] at c1); (try simp (disch := omega) only [nlit, natrem, nIrm, nIam, nIam',  nI_add, pk_mul, nIsub, nIrem, nIdiv, nIand1, nIand3, nIand7, nIand31, nIshr, nIle, nIlt, nIeq, nIc, vpI, nIm1, m1nI, m1lt, nIlm, m1le, nIlem, nIneg, u2_ss, u2_nn, u2_kk, e5, e8, ek, h3, Nat.reduceMod, Nat.reducePow])
      refine after_ok hc hCJ.1.1 hCJ.1.2.1 w0 w1 hCJ.2.1 hp hs hkd ?_
      refine RX7_walkAlone_53 hr hc ⟨fun c1 => ?_, fun c1 => ?_⟩
      · (try simp (disch := omega) only [nlit, natrem, nIrm, nIam, nIam',  nI_add, pk_mul, nIsub, nIrem, nIdiv, nIand1, nIand3, nIand7, nIand31, nIshr, nIle, nIlt, nIeq, nIc, vpI, nIm1, m1nI, m1lt, nIlm, m1le, nIlem, nIneg, u2_ss, u2_nn, u2_kk, Nat.reduceMod, Nat.reducePow] at c1); (try simp (disch := omega) only [nlit, natrem, nIrm, nIam, nIam',  nI_add, pk_mul, nIsub, nIrem, nIdiv, nIand1, nIand3, nIand7, nIand31, nIshr, nIle, nIlt, nIeq, nIc, vpI, nIm1, m1nI, m1lt, nIlm, m1le, nIlem, nIneg, u2_ss, u2_nn, u2_kk, Nat.reduceMod, Nat.reducePow])
        rw [show l1.length + 1 = (l1 ++ [s]).length by simp]
        refine ih (l1 ++ [s]) _ K _ E (by rw [e]; simp) (fun x hx => h4 x (List.mem_cons_of_mem _ hx)) hp' (by rw [u2_ss]) (fun i hi3 => by rw [u2_kk _ _ _ _ hi3]; exact hi i hi3) (hJ.up (by simp)) hK hE (fun J' K' g1 g2 g3 g4 g5 => h J' K' g1 g2 g3 g4 (fun x hx => ?_))
        rw [g5 x hx]
        show _ = (E x || ((decide (aft a (clP a) kd p s / 4 ≠ p / 4) && _) || ent a kd l2 (aft a (clP a) kd p s) x))
        rw [show decide (aft a (clP a) kd p s / 4 ≠ p / 4) = false by simp [c1]]
        simp
      · (try simp (disch := omega) only [nlit, natrem, nIrm, nIam, nIam',  nI_add, pk_mul, nIsub, nIrem, nIdiv, nIand1, nIand3, nIand7, nIand31, nIshr, nIle, nIlt, nIeq, nIc, vpI, nIm1, m1nI, m1lt, nIlm, m1le, nIlem, nIneg, u2_ss, u2_nn, u2_kk, Nat.reduceMod, Nat.reducePow] at c1); (try simp (disch := omega) only [nlit, natrem, nIrm, nIam, nIam',  nI_add, pk_mul, nIsub, nIrem, nIdiv, nIand1, nIand3, nIand7, nIand31, nIshr, nIle, nIlt, nIeq, nIc, vpI, nIm1, m1nI, m1lt, nIlm, m1le, nIlem, nIneg, u2_ss, u2_nn, u2_kk, Nat.reduceMod, Nat.reducePow])
        rw [show l1.length + 1 = (l1 ++ [s]).length by simp]
        refine ih (l1 ++ [s]) _ _ _ (fun x => E x || decide (x = aft a (clP a) kd p s / 4)) (by rw [e]; simp) (fun x hx => h4 x (List.mem_cons_of_mem _ hx)) hp' (by rw [u2_ss]) (fun i hi3 => by rw [u2_kk _ _ _ _ hi3]; exact hi i hi3) (hJ.up (by simp)) (hK.up (by simp)) (fun x hx => ?_) (fun J' K' g1 g2 g3 g4 g5 => h J' K' g1 g2 g3 g4 (fun x hx => ?_))
        · rw [u2_ss, bL_or, hE x hx, bL_one (by omega) hx]
        · rw [g5 x hx]
          show _ = (E x || ((decide (aft a (clP a) kd p s / 4 ≠ p / 4) && _) || ent a kd l2 (aft a (clP a) kd p s) x))
          rw [show decide (aft a (clP a) kd p s / 4 ≠ p / 4) = true by simp [c1]]
          simp [Bool.or_assoc]
def Rou (a : Ce) (lc : List (Nat × Nat)) (g : Nat) (ws : List Nat) (r : Nat) (I : Ints) (L : Lngs) : Prop :=
  I r 1 = nI (rt a lc g ws).length ∧ I r 2 = nI (rl a lc g ws) ∧ ALo I (r + 1) 0 (rt a lc g ws) ∧ I r 3 = nI (wk a (clP a) (gK a g).val (rt a lc g ws) (hom a g)) ∧ (∀ x, x < 64 → bL (L r 4) x = ent a (gK a g).val (rt a lc g ws) (hom a g) x) ∧ I r 5 = nI (gK a g).val ∧ I r 6 = nI (hom a g)
theorem walkAlone_ok {d : Nat} {sx : Sx} {I : Ints} {L : Lngs} {R : Rfs} {q : Q3} {a : Ce} {lc : List (Nat × Nat)} {c r : Nat} (hc : isCel c) (hr : isRou r) {I0 : Ints} (hC : CelC a lc c I0 L) (hW : WFc a) {g : Nat} (hg : g < (a 4).val) {ws : List Nat} (hw : wsOk a ws) (hI : CInv r c I0 I (rt a lc g ws) (rl a lc g ws) (gK a g).val (hom a g))
    (h : ∀ J K, Rou a lc g ws r J K → Kp (fun k => k ≠ r ∧ k ≠ r + 1 ∧ k ≠ c + 11) I0 J → Kp (fun k => k ≠ r) L K → q none J K R) : E0 mX7_walkAlone (d + 3) sx [.ref r, .ref c] I L R q := by
  have hc' : c = 2 ∨ c = 14 := hc
  have hr' : 44 ≤ r ∧ r ≤ 90 := by rcases hr with h | h | h | h | h | h | h <;> omega
  obtain ⟨i1, i2, i3, i4, i5, i6⟩ := hI
  have hh := hom_lt hW hg
  have hln := rt_len hW (lc := lc) (g := g) hw
  have hk4 := (hW.2.2.2.2.2.2.2.2.2.1 g hg).1
  refine EX7_walkAlone hr hc ?_
  have hF : Kp (fun k => k ≠ r) I (u2 I r 3 (I r 6)) := Kp.rf.up (by simp)
  have hCI : CelC a lc c (u2 I r 3 (I r 6)) (u2 L r 4 0) := (hC.kp i1 (fun k h1 h2 => ⟨by omega, by omega, by omega⟩)).fr (fun k h1 h2 => hF k (by omega)) ((Kp.rf.up (P := fun k => k ≠ r) (by simp)) c (by omega))
  refine walkAlone_lp hc hr hCI hW hk4 hln ?_ ?_ ?_ (rt a lc g ws) [] _ _ (hom a g) (fun _ => false) rfl (rt_le hW hw) hh ?_ (fun i _ => rfl) Kp.rf Kp.rf (fun x hx => ?_) (fun J K j1 j2 j3 j4 j5 => h J K ⟨?_, ?_, ?_, j1, ?_, ?_, ?_⟩ ?_ ?_)
  · rw [u2_kk _ _ _ _ (by decide)]; exact i5
  · rw [u2_kk _ _ _ _ (by decide)]; exact i2
  · exact i4.congr (fun j => by rw [u2_nn _ _ _ _ (by omega)])
  · rw [u2_ss]; exact i6
  · rw [u2_ss, bL_0]
  · rw [j2 1 (by decide), u2_kk _ _ _ _ (by decide)]; exact i2
  · rw [j2 2 (by decide), u2_kk _ _ _ _ (by decide)]; exact i3
  · exact i4.congr (fun j => by rw [j3 (r + 1) (by omega), u2_nn _ _ _ _ (by omega)])
  · intro x hx
    rw [j5 x hx, Bool.false_or]
  · rw [j2 5 (by decide), u2_kk _ _ _ _ (by decide)]; exact i5
  · rw [j2 6 (by decide), u2_kk _ _ _ _ (by decide)]; exact i6
  · exact i1.tr ((hF.tr j3).mn (fun k hk => hk.1))
  · exact (Kp.rf.up (by simp)).tr j4
theorem make_lp {d : Nat} {sx : Sx} {L : Lngs} {R : Rfs} {q : Q3} {a : Ce} {lc : List (Nat × Nat)} {c r : Nat} (hc : isCel c) (hr : isRou r) {I0 : Ints} (hC : CelC a lc c I0 L) (hW : WFc a) {g : Nat} (hg : g < (a 4).val) (hkn : (gK a g).val ≠ 1) {ws : List Nat} (hw : wsOk a ws) {b f nb : Nat} (hb : S0[b]? = some (Sum.inr (.int, nb))) (hb' : b = 36 ∨ b = 46) (hf : f + ws.length ≤ nb) (hnb : nb ≤ 36) (hws : ALo I0 b f ws)
    (h : ∀ J K, Rou a lc g ws r J K → Kp (fun k => k ≠ r ∧ k ≠ r + 1 ∧ k ≠ c + 11) I0 J → Kp (fun k => k ≠ r) L K → q none J K R) :
    ∀ n k : Nat, ∀ J, n = ws.length - k → k ≤ ws.length → CInv r c I0 J (rtP a lc g ws k) (rtN a lc g ws k) (gK a g).val (hom a g) →
      Y mX7_make (d + 5) sx 41 [(0, .ref r), (1, .ref c), (2, .int (nI g)), (3, .ref b), (4, .int (nI f)), (5, .int (nI ws.length)), (6, .int (nI k))] [] J L R q := by
  have hc' : c = 2 ∨ c = 14 := hc
  have hr' : 44 ≤ r ∧ r ≤ 90 ∧ r ≠ 46 ∧ r ≠ 45 := by rcases hr with h | h | h | h | h | h | h <;> omega
  have h6 := hw.1
  intro n
  induction n with
  | zero =>
    intro k J hn hk hS
    have e : k = ws.length := by omega
    refine RX7_make_41 hr hc hb ⟨fun c1 => ?_, fun c1 => ⟨fun c2 => ⟨?_, ?_⟩, fun c2 => ⟨?_, ?_⟩⟩⟩
    · (try simp (disch := omega) only [nlit, natrem, nIrm, nIam, nIam',  nI_add, pk_mul, nIsub, nIrem, nIdiv, nIand1, nIand3, nIand7, nIand31, nIshr, nIle, nIlt, nIeq, nIc, vpI, nIm1, m1nI, m1lt, nIlm, m1le, nIlem, nIneg, u2_ss, u2_nn, u2_kk] at c1); (try simp (disch := omega) only [nlit, natrem, nIrm, nIam, nIam',  nI_add, pk_mul, nIsub, nIrem, nIdiv, nIand1, nIand3, nIand7, nIand31, nIshr, nIle, nIlt, nIeq, nIc, vpI, nIm1, m1nI, m1lt, nIlm, m1le, nIlem, nIneg, u2_ss, u2_nn, u2_kk])
      refine walkAlone_ok (I0 := I0) hc hr hC hW hg hw ?_ (fun J' K' h1 h2 h3 => RX7_make_98 (h J' K' h1 h2 h3))
      unfold rt rl
      rw [if_neg hkn, if_neg hkn, ← e]
      exact hS
    · (try simp (disch := omega) only [nlit, natrem, nIrm, nIam, nIam',  nI_add, pk_mul, nIsub, nIrem, nIdiv, nIand1, nIand3, nIand7, nIand31, nIshr, nIle, nIlt, nIeq, nIc, vpI, nIm1, m1nI, m1lt, nIlm, m1le, nIlem, nIneg, u2_ss, u2_nn, u2_kk] at c1 c2) <;> (try simp (disch := omega) only [nlit, natrem, nIrm, nIam, nIam',  nI_add, pk_mul, nIsub, nIrem, nIdiv, nIand1, nIand3, nIand7, nIand31, nIshr, nIle, nIlt, nIeq, nIc, vpI, nIm1, m1nI, m1lt, nIlm, m1le, nIlem, nIneg, u2_ss, u2_nn, u2_kk]) <;> (first | omega | trivial)
    · (try simp (disch := omega) only [nlit, natrem, nIrm, nIam, nIam',  nI_add, pk_mul, nIsub, nIrem, nIdiv, nIand1, nIand3, nIand7, nIand31, nIshr, nIle, nIlt, nIeq, nIc, vpI, nIm1, m1nI, m1lt, nIlm, m1le, nIlem, nIneg, u2_ss, u2_nn, u2_kk] at c1 c2) <;> (first | omega | exact absurd rfl c1 | exact absurd trivial c1)
    · (try simp (disch := omega) only [nlit, natrem, nIrm, nIam, nIam',  nI_add, pk_mul, nIsub, nIrem, nIdiv, nIand1, nIand3, nIand7, nIand31, nIshr, nIle, nIlt, nIeq, nIc, vpI, nIm1, m1nI, m1lt, nIlm, m1le, nIlem, nIneg, u2_ss, u2_nn, u2_kk] at c1 c2) <;> (try simp (disch := omega) only [nlit, natrem, nIrm, nIam, nIam',  nI_add, pk_mul, nIsub, nIrem, nIdiv, nIand1, nIand3, nIand7, nIand31, nIshr, nIle, nIlt, nIeq, nIc, vpI, nIm1, m1nI, m1lt, nIlm, m1le, nIlem, nIneg, u2_ss, u2_nn, u2_kk]) <;> (first | omega | trivial)
    · (try simp (disch := omega) only [nlit, natrem, nIrm, nIam, nIam',  nI_add, pk_mul, nIsub, nIrem, nIdiv, nIand1, nIand3, nIand7, nIand31, nIshr, nIle, nIlt, nIeq, nIc, vpI, nIm1, m1nI, m1lt, nIlm, m1le, nIlem, nIneg, u2_ss, u2_nn, u2_kk] at c1 c2) <;> (first | omega | exact absurd rfl c1 | exact absurd trivial c1)
  | succ n ih =>
    intro k J hn hk hS
    have hd := dor_lt (a := a) (g := g) (many := ws.length) (n := k) (by omega)
    have hpl := rtP_len hW (lc := lc) (g := g) hw k (by omega)
    have hpn := rtN_le hW (lc := lc) (g := g) hw k (by omega)
    have ee := hws _ hd
    rw [← hS.1 b ⟨by omega, by omega, by omega⟩] at ee
    have e5 := hS.2.2.2.2.1
    have hin := drink_ok (d := d) (sx := sx) (L := L) (R := R) (q := fun r' J' K' T' => Y mX7_make (d + 5) sx 87 [(0, .ref r), (1, .ref c), (2, .int (nI g)), (3, .ref b), (4, .int (nI f)), (5, .int (nI ws.length)), (6, .int (nI k))] (r'.toList ++ []) J' K' T' q) hc hr hC hW hg hw hd (by omega) (by omega) hS (fun J' hJ' => RX7_make_87 hr hc hb (by
      rw [show nI k + 1 = nI (k + 1) from nI_add k 1]
      exact ih (k + 1) J' (by omega) (by omega) hJ'))
    by_cases h4 : (gK a g).val = 4
    · have ed : dor a g ws.length k = ws.length - 1 - k := by unfold dor; rw [if_pos h4]
      rw [ed] at hin ee
      refine RX7_make_41 hr hc hb ⟨fun c1 => ?_, fun c1 => ⟨fun c2 => ⟨?_, ?_⟩, fun c2 => ⟨?_, ?_⟩⟩⟩
      · (try simp (disch := omega) only [nlit, natrem, nIrm, nIam, nIam',  nI_add, pk_mul, nIsub, nIrem, nIdiv, nIand1, nIand3, nIand7, nIand31, nIshr, nIle, nIlt, nIeq, nIc, vpI, nIm1, m1nI, m1lt, nIlm, m1le, nIlem, nIneg, u2_ss, u2_nn, u2_kk, ee, e5] at c1); (try simp (disch := omega) only [nlit, natrem, nIrm, nIam, nIam',  nI_add, pk_mul, nIsub, nIrem, nIdiv, nIand1, nIand3, nIand7, nIand31, nIshr, nIle, nIlt, nIeq, nIc, vpI, nIm1, m1nI, m1lt, nIlm, m1le, nIlem, nIneg, u2_ss, u2_nn, u2_kk, ee, e5])
        omega
      · (try simp (disch := omega) only [nlit, natrem, nIrm, nIam, nIam',  nI_add, pk_mul, nIsub, nIrem, nIdiv, nIand1, nIand3, nIand7, nIand31, nIshr, nIle, nIlt, nIeq, nIc, vpI, nIm1, m1nI, m1lt, nIlm, m1le, nIlem, nIneg, u2_ss, u2_nn, u2_kk, ee, e5] at c1 c2) <;> (try simp (disch := omega) only [nlit, natrem, nIrm, nIam, nIam',  nI_add, pk_mul, nIsub, nIrem, nIdiv, nIand1, nIand3, nIand7, nIand31, nIshr, nIle, nIlt, nIeq, nIc, vpI, nIm1, m1nI, m1lt, nIlm, m1le, nIlem, nIneg, u2_ss, u2_nn, u2_kk, ee, e5]) <;> (first | omega | trivial)
      · (try simp (disch := omega) only [nlit, natrem, nIrm, nIam, nIam',  nI_add, pk_mul, nIsub, nIrem, nIdiv, nIand1, nIand3, nIand7, nIand31, nIshr, nIle, nIlt, nIeq, nIc, vpI, nIm1, m1nI, m1lt, nIlm, m1le, nIlem, nIneg, u2_ss, u2_nn, u2_kk, ee, e5] at c1 c2); (try simp (disch := omega) only [nlit, natrem, nIrm, nIam, nIam',  nI_add, pk_mul, nIsub, nIrem, nIdiv, nIand1, nIand3, nIand7, nIand31, nIshr, nIle, nIlt, nIeq, nIc, vpI, nIm1, m1nI, m1lt, nIlm, m1le, nIlem, nIneg, u2_ss, u2_nn, u2_kk, ee, e5])
        omega
      · (try simp (disch := omega) only [nlit, natrem, nIrm, nIam, nIam',  nI_add, pk_mul, nIsub, nIrem, nIdiv, nIand1, nIand3, nIand7, nIand31, nIshr, nIle, nIlt, nIeq, nIc, vpI, nIm1, m1nI, m1lt, nIlm, m1le, nIlem, nIneg, u2_ss, u2_nn, u2_kk, ee, e5] at c1 c2) <;> (try simp (disch := omega) only [nlit, natrem, nIrm, nIam, nIam',  nI_add, pk_mul, nIsub, nIrem, nIdiv, nIand1, nIand3, nIand7, nIand31, nIshr, nIle, nIlt, nIeq, nIc, vpI, nIm1, m1nI, m1lt, nIlm, m1le, nIlem, nIneg, u2_ss, u2_nn, u2_kk, ee, e5]) <;> (first | omega | trivial)
      · (try simp (disch := omega) only [nlit, natrem, nIrm, nIam, nIam',  nI_add, pk_mul, nIsub, nIrem, nIdiv, nIand1, nIand3, nIand7, nIand31, nIshr, nIle, nIlt, nIeq, nIc, vpI, nIm1, m1nI, m1lt, nIlm, m1le, nIlem, nIneg, u2_ss, u2_nn, u2_kk, ee, e5] at c1 c2); (try simp (disch := omega) only [nlit, natrem, nIrm, nIam, nIam',  nI_add, pk_mul, nIsub, nIrem, nIdiv, nIand1, nIand3, nIand7, nIand31, nIshr, nIle, nIlt, nIeq, nIc, vpI, nIm1, m1nI, m1lt, nIlm, m1le, nIlem, nIneg, u2_ss, u2_nn, u2_kk, ee, e5])
        exact hin
    · have ed : dor a g ws.length k = k := by unfold dor; rw [if_neg h4]
      rw [ed] at hin ee
      refine RX7_make_41 hr hc hb ⟨fun c1 => ?_, fun c1 => ⟨fun c2 => ⟨?_, ?_⟩, fun c2 => ⟨?_, ?_⟩⟩⟩
      · (try simp (disch := omega) only [nlit, natrem, nIrm, nIam, nIam',  nI_add, pk_mul, nIsub, nIrem, nIdiv, nIand1, nIand3, nIand7, nIand31, nIshr, nIle, nIlt, nIeq, nIc, vpI, nIm1, m1nI, m1lt, nIlm, m1le, nIlem, nIneg, u2_ss, u2_nn, u2_kk, ee, e5] at c1); (try simp (disch := omega) only [nlit, natrem, nIrm, nIam, nIam',  nI_add, pk_mul, nIsub, nIrem, nIdiv, nIand1, nIand3, nIand7, nIand31, nIshr, nIle, nIlt, nIeq, nIc, vpI, nIm1, m1nI, m1lt, nIlm, m1le, nIlem, nIneg, u2_ss, u2_nn, u2_kk, ee, e5])
        omega
      · (try simp (disch := omega) only [nlit, natrem, nIrm, nIam, nIam',  nI_add, pk_mul, nIsub, nIrem, nIdiv, nIand1, nIand3, nIand7, nIand31, nIshr, nIle, nIlt, nIeq, nIc, vpI, nIm1, m1nI, m1lt, nIlm, m1le, nIlem, nIneg, u2_ss, u2_nn, u2_kk, ee, e5] at c1 c2) <;> (try simp (disch := omega) only [nlit, natrem, nIrm, nIam, nIam',  nI_add, pk_mul, nIsub, nIrem, nIdiv, nIand1, nIand3, nIand7, nIand31, nIshr, nIle, nIlt, nIeq, nIc, vpI, nIm1, m1nI, m1lt, nIlm, m1le, nIlem, nIneg, u2_ss, u2_nn, u2_kk, ee, e5]) <;> (first | omega | trivial)
      · (try simp (disch := omega) only [nlit, natrem, nIrm, nIam, nIam',  nI_add, pk_mul, nIsub, nIrem, nIdiv, nIand1, nIand3, nIand7, nIand31, nIshr, nIle, nIlt, nIeq, nIc, vpI, nIm1, m1nI, m1lt, nIlm, m1le, nIlem, nIneg, u2_ss, u2_nn, u2_kk, ee, e5] at c1 c2); (try simp (disch := omega) only [nlit, natrem, nIrm, nIam, nIam',  nI_add, pk_mul, nIsub, nIrem, nIdiv, nIand1, nIand3, nIand7, nIand31, nIshr, nIle, nIlt, nIeq, nIc, vpI, nIm1, m1nI, m1lt, nIlm, m1le, nIlem, nIneg, u2_ss, u2_nn, u2_kk, ee, e5])
        exact hin
      · (try simp (disch := omega) only [nlit, natrem, nIrm, nIam, nIam',  nI_add, pk_mul, nIsub, nIrem, nIdiv, nIand1, nIand3, nIand7, nIand31, nIshr, nIle, nIlt, nIeq, nIc, vpI, nIm1, m1nI, m1lt, nIlm, m1le, nIlem, nIneg, u2_ss, u2_nn, u2_kk, ee, e5] at c1 c2) <;> (try simp (disch := omega) only [nlit, natrem, nIrm, nIam, nIam',  nI_add, pk_mul, nIsub, nIrem, nIdiv, nIand1, nIand3, nIand7, nIand31, nIshr, nIle, nIlt, nIeq, nIc, vpI, nIm1, m1nI, m1lt, nIlm, m1le, nIlem, nIneg, u2_ss, u2_nn, u2_kk, ee, e5]) <;> (first | omega | trivial)
      · (try simp (disch := omega) only [nlit, natrem, nIrm, nIam, nIam',  nI_add, pk_mul, nIsub, nIrem, nIdiv, nIand1, nIand3, nIand7, nIand31, nIshr, nIle, nIlt, nIeq, nIc, vpI, nIm1, m1nI, m1lt, nIlm, m1le, nIlem, nIneg, u2_ss, u2_nn, u2_kk, ee, e5] at c1 c2); (try simp (disch := omega) only [nlit, natrem, nIrm, nIam, nIam',  nI_add, pk_mul, nIsub, nIrem, nIdiv, nIand1, nIand3, nIand7, nIand31, nIshr, nIle, nIlt, nIeq, nIc, vpI, nIm1, m1nI, m1lt, nIlm, m1le, nIlem, nIneg, u2_ss, u2_nn, u2_kk, ee, e5])
        omega
theorem make_ok {d : Nat} {sx : Sx} {I : Ints} {L : Lngs} {R : Rfs} {q : Q3} {a : Ce} {lc : List (Nat × Nat)} {c r : Nat} (hc : isCel c) (hr : isRou r) (hC : CelC a lc c I L) (hW : WFc a) {g : Nat} (hg : g < (a 4).val) {ws : List Nat} (hw : wsOk a ws) {b f nb : Nat} (hb : S0[b]? = some (Sum.inr (.int, nb))) (hb' : b = 36 ∨ b = 46) (hf : f + ws.length ≤ nb) (hnb : nb ≤ 36) (hws : ALo I b f ws)
    (h : ∀ J K, Rou a lc g ws r J K → Kp (fun k => k ≠ r ∧ k ≠ r + 1 ∧ k ≠ c + 11) I J → Kp (fun k => k ≠ r) L K → q none J K R) :
    E0 mX7_make (d + 5) sx [.ref r, .ref c, .int (nI g), .ref b, .int (nI f), .int (nI ws.length)] I L R q := by
  have hc' : c = 2 ∨ c = 14 := hc
  have hr' : 44 ≤ r ∧ r ≤ 90 ∧ r ≠ 46 ∧ r ≠ 45 := by rcases hr with h | h | h | h | h | h | h <;> omega
  have w4 := hW.2.2.2.2.1
  have hk4 := (hW.2.2.2.2.2.2.2.2.2.1 g hg).1
  have eK := (hC.2.2.2.2.1 g hg).1
  have eH := (hC.2.2.2.2.1 g hg).2.1
  have hF : Kp (fun k => k ≠ r ∧ k ≠ r + 1 ∧ k ≠ c + 11) I (u2 (u2 (u2 (u2 I r 1 (nI 0)) r 2 (nI 0)) r 5 (nI (gK a g).val)) r 6 (nI (hom a g))) := (((Kp.rf.up (by simp)).up (by simp)).up (by simp)).up (by simp)
  have hCI : CelC a lc c (u2 (u2 (u2 (u2 I r 1 (nI 0)) r 2 (nI 0)) r 5 (nI (gK a g).val)) r 6 (nI (hom a g))) L := hC.kp hF (fun k h1 h2 => ⟨by omega, by omega, by omega⟩)
  have hI0 : CInv r c (u2 (u2 (u2 (u2 I r 1 (nI 0)) r 2 (nI 0)) r 5 (nI (gK a g).val)) r 6 (nI (hom a g))) (u2 (u2 (u2 (u2 I r 1 (nI 0)) r 2 (nI 0)) r 5 (nI (gK a g).val)) r 6 (nI (hom a g))) [] 0 (gK a g).val (hom a g) := by
    refine ⟨Kp.rf, ?_, ?_, ALo.nil, ?_, ?_⟩
    · simp (disch := omega) only [nlit, natrem, nIrm, nIam, nIam',  nI_add, pk_mul, nIsub, nIrem, nIdiv, nIand1, nIand3, nIand7, nIand31, nIshr, nIle, nIlt, nIeq, nIc, vpI, nIm1, m1nI, m1lt, nIlm, m1le, nIlem, nIneg, u2_ss, u2_nn, u2_kk]; rfl
    · simp (disch := omega) only [nlit, natrem, nIrm, nIam, nIam',  nI_add, pk_mul, nIsub, nIrem, nIdiv, nIand1, nIand3, nIand7, nIand31, nIshr, nIle, nIlt, nIeq, nIc, vpI, nIm1, m1nI, m1lt, nIlm, m1le, nIlem, nIneg, u2_ss, u2_nn, u2_kk]
    · simp (disch := omega) only [nlit, natrem, nIrm, nIam, nIam',  nI_add, pk_mul, nIsub, nIrem, nIdiv, nIand1, nIand3, nIand7, nIand31, nIshr, nIle, nIlt, nIeq, nIc, vpI, nIm1, m1nI, m1lt, nIlm, m1le, nIlem, nIneg, u2_ss, u2_nn, u2_kk]
    · simp (disch := omega) only [nlit, natrem, nIrm, nIam, nIam',  nI_add, pk_mul, nIsub, nIrem, nIdiv, nIand1, nIand3, nIand7, nIand31, nIshr, nIle, nIlt, nIeq, nIc, vpI, nIm1, m1nI, m1lt, nIlm, m1le, nIlem, nIneg, u2_ss, u2_nn, u2_kk]
  refine EX7_make hr hc hb ⟨?_, ⟨?_, ⟨fun c1 => ?_, fun c1 => ?_⟩⟩⟩
  · (try simp (disch := omega) only [nlit, natrem, nIrm, nIam, nIam',  nI_add, pk_mul, nIsub, nIrem, nIdiv, nIand1, nIand3, nIand7, nIand31, nIshr, nIle, nIlt, nIeq, nIc, vpI, nIm1, m1nI, m1lt, nIlm, m1le, nIlem, nIneg, u2_ss, u2_nn, u2_kk, eK, eH]) <;> (first | omega | trivial)
  · (try simp (disch := omega) only [nlit, natrem, nIrm, nIam, nIam',  nI_add, pk_mul, nIsub, nIrem, nIdiv, nIand1, nIand3, nIand7, nIand31, nIshr, nIle, nIlt, nIeq, nIc, vpI, nIm1, m1nI, m1lt, nIlm, m1le, nIlem, nIneg, u2_ss, u2_nn, u2_kk, eK, eH]) <;> (first | omega | trivial)
  · (try simp (disch := omega) only [nlit, natrem, nIrm, nIam, nIam',  nI_add, pk_mul, nIsub, nIrem, nIdiv, nIand1, nIand3, nIand7, nIand31, nIshr, nIle, nIlt, nIeq, nIc, vpI, nIm1, m1nI, m1lt, nIlm, m1le, nIlem, nIneg, u2_ss, u2_nn, u2_kk, eK, eH] at c1); (try simp (disch := omega) only [nlit, natrem, nIrm, nIam, nIam',  nI_add, pk_mul, nIsub, nIrem, nIdiv, nIand1, nIand3, nIand7, nIand31, nIshr, nIle, nIlt, nIeq, nIc, vpI, nIm1, m1nI, m1lt, nIlm, m1le, nIlem, nIneg, u2_ss, u2_nn, u2_kk, eK, eH])
    refine walkAlone_ok hc hr hCI hW hg hw ?_ (fun J K h1 h2 h3 => RX7_make_98 (h J K h1 (hF.tr h2) h3))
    unfold rt rl
    rw [if_pos c1, if_pos c1]
    exact hI0
  · (try simp (disch := omega) only [nlit, natrem, nIrm, nIam, nIam',  nI_add, pk_mul, nIsub, nIrem, nIdiv, nIand1, nIand3, nIand7, nIand31, nIshr, nIle, nIlt, nIeq, nIc, vpI, nIm1, m1nI, m1lt, nIlm, m1le, nIlem, nIneg, u2_ss, u2_nn, u2_kk, eK, eH] at c1); (try simp (disch := omega) only [nlit, natrem, nIrm, nIam, nIam',  nI_add, pk_mul, nIsub, nIrem, nIdiv, nIand1, nIand3, nIand7, nIand31, nIshr, nIle, nIlt, nIeq, nIc, vpI, nIm1, m1nI, m1lt, nIlm, m1le, nIlem, nIneg, u2_ss, u2_nn, u2_kk, eK, eH])
    refine make_lp hc hr hCI hW hg c1 hw hb hb' hf hnb (hws.congr (fun j => by rw [hF b ⟨by omega, by omega, by omega⟩])) (fun J K h1 h2 h3 => h J K h1 (hF.tr h2) h3) _ 0 _ rfl (Nat.zero_le _) hI0
