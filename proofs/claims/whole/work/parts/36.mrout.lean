/-! what a guest dances, and where it comes -/
theorem getD_l {l m : List Nat} {j : Nat} (h : j < l.length) : (l ++ m).getD j 0 = l.getD j 0 := by simp only [List.getD_eq_getElem?_getD, List.getElem?_append_left h]
theorem getD_r {l m : List Nat} {j : Nat} (h : l.length ≤ j) : (l ++ m).getD j 0 = m.getD (j - l.length) 0 := by simp only [List.getD_eq_getElem?_getD, List.getElem?_append_right h]
def ALo (I : Ints) (o f : Nat) (l : List Nat) : Prop := ∀ j, j < l.length → I o (f + j) = nI (l.getD j 0)
theorem ALo.congr {I J : Ints} {o f : Nat} {l : List Nat} (h : ALo I o f l) (e : ∀ j, J o j = I o j) : ALo J o f l := fun j hj => (e _).trans (h j hj)
theorem ALo.push {I : Ints} {o f k v : Nat} {l : List Nat} (h : ALo I o f l) (hk : k = f + l.length) : ALo (u2 I o k (nI v)) o f (l ++ [v]) := by
  intro j hj
  rw [List.length_append, List.length_singleton] at hj
  by_cases e : j = l.length
  · rw [u2_st _ _ rfl (by omega), e]
    simp
  · rw [u2_kk _ _ _ _ (by omega), h j (by omega)]
    congr 1
    rw [getD_l (by omega)]
theorem ALo.nil {I : Ints} {o f : Nat} : ALo I o f [] := fun j hj => absurd hj (Nat.not_lt_zero _)
def gs1 (a : Ce) (lc : List (Nat × Nat)) (g : Nat) (ws : List Nat) (gl s : Nat) : Nat := if lost lc gl s (gA a g).val ws.length then 4 else wS a (ws.getD gl 0) s
def gsP (a : Ce) (lc : List (Nat × Nat)) (g : Nat) (ws : List Nat) (gl : Nat) : Nat → List Nat
  | 0 => []
  | s + 1 => gsP a lc g ws gl s ++ [gs1 a lc g ws gl s]
def gsN (a : Ce) (lc : List (Nat × Nat)) (g : Nat) (ws : List Nat) (gl : Nat) : Nat → Nat
  | 0 => 0
  | s + 1 => gsN a lc g ws gl s + (if lost lc gl s (gA a g).val ws.length then 1 else 0)
def dor (a : Ce) (g many n : Nat) : Nat := if (gK a g).val = 4 then many - 1 - n else n
def rtP (a : Ce) (lc : List (Nat × Nat)) (g : Nat) (ws : List Nat) : Nat → List Nat
  | 0 => []
  | n + 1 => rtP a lc g ws n ++ gsP a lc g ws (dor a g ws.length n) (wL a (ws.getD (dor a g ws.length n) 0))
def rtN (a : Ce) (lc : List (Nat × Nat)) (g : Nat) (ws : List Nat) : Nat → Nat
  | 0 => 0
  | n + 1 => rtN a lc g ws n + gsN a lc g ws (dor a g ws.length n) (wL a (ws.getD (dor a g ws.length n) 0))
def rt (a : Ce) (lc : List (Nat × Nat)) (g : Nat) (ws : List Nat) : List Nat := if (gK a g).val = 1 then [] else rtP a lc g ws ws.length
def rl (a : Ce) (lc : List (Nat × Nat)) (g : Nat) (ws : List Nat) : Nat := if (gK a g).val = 1 then 0 else rtN a lc g ws ws.length
def wsOk (a : Ce) (ws : List Nat) : Prop := ws.length ≤ 6 ∧ ∀ i, i < ws.length → ws.getD i 0 < (a 3).val
theorem gsP_len (a : Ce) (lc : List (Nat × Nat)) (g : Nat) (ws : List Nat) (gl : Nat) : ∀ s, (gsP a lc g ws gl s).length = s
  | 0 => rfl
  | s + 1 => by show (gsP a lc g ws gl s ++ [_]).length = _; rw [List.length_append, gsP_len a lc g ws gl s, List.length_singleton]
theorem gsN_le (a : Ce) (lc : List (Nat × Nat)) (g : Nat) (ws : List Nat) (gl : Nat) : ∀ s, gsN a lc g ws gl s ≤ s
  | 0 => Nat.le_refl 0
  | s + 1 => by
    have := gsN_le a lc g ws gl s
    show gsN a lc g ws gl s + (if _ then 1 else 0) ≤ _
    split <;> omega
theorem gs1_le {a : Ce} (hW : WFc a) {lc : List (Nat × Nat)} {g : Nat} {ws : List Nat} (hw : wsOk a ws) {gl : Nat} (hg : gl < ws.length) (s : Nat) : gs1 a lc g ws gl s ≤ 4 := by
  unfold gs1
  split
  · exact Nat.le_refl 4
  · exact wS_le hW (hw.2 gl hg) s
theorem gsP_le {a : Ce} (hW : WFc a) {lc : List (Nat × Nat)} {g : Nat} {ws : List Nat} (hw : wsOk a ws) {gl : Nat} (hg : gl < ws.length) : ∀ s, ∀ x ∈ gsP a lc g ws gl s, x ≤ 4
  | 0, x, hx => absurd hx List.not_mem_nil
  | s + 1, x, hx => by
    rcases List.mem_append.mp hx with h | h
    · exact gsP_le hW hw hg s x h
    · rw [List.mem_singleton.mp h]; exact gs1_le hW hw hg s
theorem dor_lt {a : Ce} {g many n : Nat} (h : n < many) : dor a g many n < many := by unfold dor; split <;> omega
theorem rtP_len {a : Ce} (hW : WFc a) {lc : List (Nat × Nat)} {g : Nat} {ws : List Nat} (hw : wsOk a ws) : ∀ n, n ≤ ws.length → (rtP a lc g ws n).length ≤ 96 * n
  | 0, _ => Nat.le_refl 0
  | n + 1, hn => by
    have h1 := rtP_len hW (lc := lc) (g := g) hw n (by omega)
    have h2 := wL_le hW (hw.2 _ (dor_lt (a := a) (g := g) (Nat.lt_of_succ_le hn)))
    show (rtP a lc g ws n ++ gsP a lc g ws _ _).length ≤ _
    rw [List.length_append, gsP_len]
    omega
theorem rtN_le {a : Ce} (hW : WFc a) {lc : List (Nat × Nat)} {g : Nat} {ws : List Nat} (hw : wsOk a ws) : ∀ n, n ≤ ws.length → rtN a lc g ws n ≤ 96 * n
  | 0, _ => Nat.le_refl 0
  | n + 1, hn => by
    have h1 := rtN_le hW (lc := lc) (g := g) hw n (by omega)
    have h2 := wL_le hW (hw.2 _ (dor_lt (a := a) (g := g) (Nat.lt_of_succ_le hn)))
    have h3 := gsN_le a lc g ws (dor a g ws.length n) (wL a (ws.getD (dor a g ws.length n) 0))
    show rtN a lc g ws n + gsN a lc g ws _ _ ≤ _
    omega
theorem rtP_le {a : Ce} (hW : WFc a) {lc : List (Nat × Nat)} {g : Nat} {ws : List Nat} (hw : wsOk a ws) : ∀ n, n ≤ ws.length → ∀ x ∈ rtP a lc g ws n, x ≤ 4
  | 0, _, x, hx => absurd hx List.not_mem_nil
  | n + 1, hn, x, hx => by
    rcases List.mem_append.mp hx with h | h
    · exact rtP_le hW hw n (by omega) x h
    · exact gsP_le hW hw (dor_lt (Nat.lt_of_succ_le hn)) _ x h
theorem rt_len {a : Ce} (hW : WFc a) {lc : List (Nat × Nat)} {g : Nat} {ws : List Nat} (hw : wsOk a ws) : (rt a lc g ws).length ≤ 576 := by
  unfold rt
  split
  · exact Nat.zero_le _
  · have := rtP_len hW (lc := lc) (g := g) hw _ (Nat.le_refl _)
    have := hw.1
    omega
theorem rl_le {a : Ce} (hW : WFc a) {lc : List (Nat × Nat)} {g : Nat} {ws : List Nat} (hw : wsOk a ws) : rl a lc g ws ≤ 576 := by
  unfold rl
  split
  · exact Nat.zero_le _
  · have := rtN_le hW (lc := lc) (g := g) hw _ (Nat.le_refl _)
    have := hw.1
    omega
theorem rt_le {a : Ce} (hW : WFc a) {lc : List (Nat × Nat)} {g : Nat} {ws : List Nat} (hw : wsOk a ws) : ∀ x ∈ rt a lc g ws, x ≤ 4 := by
  unfold rt
  split
  · exact fun x hx => absurd hx List.not_mem_nil
  · exact rtP_le hW hw _ (Nat.le_refl _)
/-! the model lays the steps -/
abbrev AS : List Nat := [104, 105, 108]
abbrev FS : List (Nat × Nat) := [(92, 25), (92, 26)]
def SInv (I0 J : Ints) (l : List Nat) (m : Nat) : Prop := Fr AS FS I0 J ∧ J 92 25 = nI l.length ∧ J 92 26 = nI m ∧ ALo J 108 0 l
theorem SInv.fr {I0 J K : Ints} {l : List Nat} {m : Nat} (h : SInv I0 J l m) (hF : Fr [104, 105] [] J K) : SInv I0 K l m :=
  ⟨h.1.tr (hF.mn rfl rfl), (hF.ar 92 rfl rfl 25).trans h.2.1, (hF.ar 92 rfl rfl 26).trans h.2.2.1, h.2.2.2.congr (hF.ar 108 rfl rfl)⟩
theorem SInv.push {I0 J : Ints} {l : List Nat} {m k v p : Nat} (h : SInv I0 J l m) (hk : k = l.length) : SInv I0 (u2 (u2 (u2 J 108 k (nI v)) 92 26 (nI (m + p))) 92 25 (nI (l.length + 1))) (l ++ [v]) (m + p) := by
  refine ⟨((h.1.ua rfl).uf rfl).uf rfl, ?_, ?_, ?_⟩
  · rw [u2_ss, List.length_append, List.length_singleton]
  · rw [u2_kk _ _ _ _ (by decide), u2_ss]
  · refine ALo.congr (I := u2 J 108 k (nI v)) (h.2.2.2.push (by omega)) (fun j => ?_)
    rw [u2_nn _ _ _ _ (by decide), u2_nn _ _ _ _ (by decide)]
theorem laysSteps_in {d : Nat} {sx : Sx} {L : Lngs} {R : Rfs} {q : Q3} {a : Ce} {lc : List (Nat × Nat)} {I0 : Ints} (hM : CelM a I0) (hW : WFc a) (hl : LawM lc I0) {g : Nat} (hg : g < (a 4).val) {ws : List Nat} (hw : wsOk a ws) {k gl m : Nat} (hgl : gl < ws.length) {pre : List Nat} (hpre : pre.length ≤ 480) (hm : m ≤ 480)
    (h : ∀ J, SInv I0 J (pre ++ gsP a lc g ws gl (wL a (ws.getD gl 0))) (m + gsN a lc g ws gl (wL a (ws.getD gl 0))) → Y mX12_laysSteps (d + 4) sx 12 [(0, .ref 92), (1, .int (nI g)), (2, .int (nI ws.length)), (3, .int (nI k + 1))] [] J L R q) :
    ∀ n s : Nat, ∀ J, n = wL a (ws.getD gl 0) - s → s ≤ wL a (ws.getD gl 0) → SInv I0 J (pre ++ gsP a lc g ws gl s) (m + gsN a lc g ws gl s) →
      Y mX12_laysSteps (d + 4) sx 68 [(0, .ref 92), (1, .int (nI g)), (2, .int (nI ws.length)), (3, .int (nI k)), (4, .int (nI gl)), (5, .int (nI (ws.getD gl 0))), (6, .int (nI (wL a (ws.getD gl 0)))), (7, .int (nI s))] [] J L R q := by
  have w4 := hW.2.2.2.2.1
  have hwl := hw.2 gl hgl
  have hL := wL_le hW hwl
  intro n
  induction n with
  | zero =>
    intro s J hn hs hS
    have e : s = wL a (ws.getD gl 0) := by omega
    rw [e] at hS ⊢
    refine RX12_laysSteps_68 ⟨fun _ => h J hS, fun c => ?_⟩
    simp (disch := omega) only [nlit, natrem, nIrm, nIam, nIam',  nI_add, pk_mul, nIsub, nIrem, nIdiv, nIand1, nIand3, nIand7, nIand31, nIshr, nIle, nIlt, nIeq, nIc, vpI, nIm1, m1nI, m1lt, nIlm, m1le, nIlem, nIneg, u2_ss, u2_nn, u2_kk] at c
    omega
  | succ n ih =>
    intro s J hn hs hS
    have hsl := gsP_len a lc g ws gl s
    have hsn := gsN_le a lc g ws gl s
    have hle : (pre ++ gsP a lc g ws gl s).length = pre.length + s := by rw [List.length_append, hsl]
    refine RX12_laysSteps_68 ⟨fun c => ?_, fun c => ?_⟩
    · simp (disch := omega) only [nlit, natrem, nIrm, nIam, nIam',  nI_add, pk_mul, nIsub, nIrem, nIdiv, nIand1, nIand3, nIand7, nIand31, nIshr, nIle, nIlt, nIeq, nIc, vpI, nIm1, m1nI, m1lt, nIlm, m1le, nIlem, nIneg, u2_ss, u2_nn, u2_kk] at c
      omega
    refine isLost_ok (hM.fr hS.1 rfl rfl) (hl.fr hS.1 rfl rfl rfl rfl) (by omega) (fun K hK => ?_)
    have hSK := hS.fr hK
    have e25 := hSK.2.1
    have e26 := hSK.2.2.1
    by_cases hlo : lost lc gl s (gA a g).val ws.length = true
    · rw [if_pos hlo]
      have e1 : gs1 a lc g ws gl s = 4 := by unfold gs1; rw [if_pos hlo]
      have e2 : gsN a lc g ws gl (s + 1) = gsN a lc g ws gl s + 1 := by show _ + (if _ then 1 else 0) = _; rw [if_pos hlo]
      refine RX12_laysSteps_85  ⟨fun c1 => ?_, fun c1 => ⟨?_, ?_⟩⟩
      · (try simp (disch := omega) only [nlit, natrem, nIrm, nIam, nIam',  nI_add, pk_mul, nIsub, nIrem, nIdiv, nIand1, nIand3, nIand7, nIand31, nIshr, nIle, nIlt, nIeq, nIc, vpI, nIm1, m1nI, m1lt, nIlm, m1le, nIlem, nIneg, u2_ss, u2_nn, u2_kk, e25, e26, hle] at c1); (first | omega | exact absurd rfl c1 | exact absurd trivial c1)
      · (try simp (disch := omega) only [nlit, natrem, nIrm, nIam, nIam',  nI_add, pk_mul, nIsub, nIrem, nIdiv, nIand1, nIand3, nIand7, nIand31, nIshr, nIle, nIlt, nIeq, nIc, vpI, nIm1, m1nI, m1lt, nIlm, m1le, nIlem, nIneg, u2_ss, u2_nn, u2_kk, e25, e26, hle] at c1); (try simp (disch := omega) only [nlit, natrem, nIrm, nIam, nIam',  nI_add, pk_mul, nIsub, nIrem, nIdiv, nIand1, nIand3, nIand7, nIand31, nIshr, nIle, nIlt, nIeq, nIc, vpI, nIm1, m1nI, m1lt, nIlm, m1le, nIlem, nIneg, u2_ss, u2_nn, u2_kk, e25, e26, hle]); (first | omega | trivial)
      · (try simp (disch := omega) only [nlit, natrem, nIrm, nIam, nIam',  nI_add, pk_mul, nIsub, nIrem, nIdiv, nIand1, nIand3, nIand7, nIand31, nIshr, nIle, nIlt, nIeq, nIc, vpI, nIm1, m1nI, m1lt, nIlm, m1le, nIlem, nIneg, u2_ss, u2_nn, u2_kk, e25, e26, hle] at c1); (try simp (disch := omega) only [nlit, natrem, nIrm, nIam, nIam',  nI_add, pk_mul, nIsub, nIrem, nIdiv, nIand1, nIand3, nIand7, nIand31, nIshr, nIle, nIlt, nIeq, nIc, vpI, nIm1, m1nI, m1lt, nIlm, m1le, nIlem, nIneg, u2_ss, u2_nn, u2_kk, e25, e26, hle])
        refine ih (s + 1) _ (by omega) (by omega) ?_
        have hp := hSK.push (v := 4) (p := 1) (k := pre.length + s) (by omega)
        rw [hle] at hp
        rw [e2]
        show SInv I0 _ (pre ++ (gsP a lc g ws gl s ++ [gs1 a lc g ws gl s])) _
        rw [e1, ← List.append_assoc, ← Nat.add_assoc]
        exact hp
    · rw [if_neg hlo]
      have e1 : gs1 a lc g ws gl s = wS a (ws.getD gl 0) s := by unfold gs1; rw [if_neg hlo]
      have e2 : gsN a lc g ws gl (s + 1) = gsN a lc g ws gl s + 0 := by show _ + (if _ then 1 else 0) = _; rw [if_neg hlo]
      refine RX12_laysSteps_85  ⟨fun c1 => ?_, fun c1 => ⟨?_, ?_⟩⟩
      · (try simp (disch := omega) only [nlit, natrem, nIrm, nIam, nIam',  nI_add, pk_mul, nIsub, nIrem, nIdiv, nIand1, nIand3, nIand7, nIand31, nIshr, nIle, nIlt, nIeq, nIc, vpI, nIm1, m1nI, m1lt, nIlm, m1le, nIlem, nIneg, u2_ss, u2_nn, u2_kk, e25, e26, hle] at c1); (try simp (disch := omega) only [nlit, natrem, nIrm, nIam, nIam',  nI_add, pk_mul, nIsub, nIrem, nIdiv, nIand1, nIand3, nIand7, nIand31, nIshr, nIle, nIlt, nIeq, nIc, vpI, nIm1, m1nI, m1lt, nIlm, m1le, nIlem, nIneg, u2_ss, u2_nn, u2_kk, e25, e26, hle])
        refine stepOf_ok (hM.fr hSK.1 rfl rfl) hW hwl (by omega) ?_
        refine RX12_laysSteps_112  ⟨?_, ⟨fun c1 => ?_, fun c1 => ?_⟩⟩
        · (try simp (disch := omega) only [nlit, natrem, nIrm, nIam, nIam',  nI_add, pk_mul, nIsub, nIrem, nIdiv, nIand1, nIand3, nIand7, nIand31, nIshr, nIle, nIlt, nIeq, nIc, vpI, nIm1, m1nI, m1lt, nIlm, m1le, nIlem, nIneg, u2_ss, u2_nn, u2_kk, e25, e26, hle]); (first | omega | trivial)
        · (try simp (disch := omega) only [nlit, natrem, nIrm, nIam, nIam',  nI_add, pk_mul, nIsub, nIrem, nIdiv, nIand1, nIand3, nIand7, nIand31, nIshr, nIle, nIlt, nIeq, nIc, vpI, nIm1, m1nI, m1lt, nIlm, m1le, nIlem, nIneg, u2_ss, u2_nn, u2_kk, e25, e26, hle] at c1); (try simp (disch := omega) only [nlit, natrem, nIrm, nIam, nIam',  nI_add, pk_mul, nIsub, nIrem, nIdiv, nIand1, nIand3, nIand7, nIand31, nIshr, nIle, nIlt, nIeq, nIc, vpI, nIm1, m1nI, m1lt, nIlm, m1le, nIlem, nIneg, u2_ss, u2_nn, u2_kk, e25, e26, hle])
          refine ih (s + 1) _ (by omega) (by omega) ?_
          have hp := hSK.push (v := wS a (ws.getD gl 0) s) (p := 0) (k := pre.length + s) (by omega)
          rw [hle] at hp
          rw [e2]
          show SInv I0 _ (pre ++ (gsP a lc g ws gl s ++ [gs1 a lc g ws gl s])) _
          rw [e1, ← List.append_assoc, ← Nat.add_assoc]
          exact hp
        · (try simp (disch := omega) only [nlit, natrem, nIrm, nIam, nIam',  nI_add, pk_mul, nIsub, nIrem, nIdiv, nIand1, nIand3, nIand7, nIand31, nIshr, nIle, nIlt, nIeq, nIc, vpI, nIm1, m1nI, m1lt, nIlm, m1le, nIlem, nIneg, u2_ss, u2_nn, u2_kk, e25, e26, hle] at c1); (first | omega | exact absurd rfl c1 | exact absurd trivial c1)
      · (try simp (disch := omega) only [nlit, natrem, nIrm, nIam, nIam',  nI_add, pk_mul, nIsub, nIrem, nIdiv, nIand1, nIand3, nIand7, nIand31, nIshr, nIle, nIlt, nIeq, nIc, vpI, nIm1, m1nI, m1lt, nIlm, m1le, nIlem, nIneg, u2_ss, u2_nn, u2_kk, e25, e26, hle] at c1); (try simp (disch := omega) only [nlit, natrem, nIrm, nIam, nIam',  nI_add, pk_mul, nIsub, nIrem, nIdiv, nIand1, nIand3, nIand7, nIand31, nIshr, nIle, nIlt, nIeq, nIc, vpI, nIm1, m1nI, m1lt, nIlm, m1le, nIlem, nIneg, u2_ss, u2_nn, u2_kk, e25, e26, hle]); (first | omega | trivial)
      · (try simp (disch := omega) only [nlit, natrem, nIrm, nIam, nIam',  nI_add, pk_mul, nIsub, nIrem, nIdiv, nIand1, nIand3, nIand7, nIand31, nIshr, nIle, nIlt, nIeq, nIc, vpI, nIm1, m1nI, m1lt, nIlm, m1le, nIlem, nIneg, u2_ss, u2_nn, u2_kk, e25, e26, hle] at c1); (first | omega | exact absurd rfl c1 | exact absurd trivial c1)
theorem laysSteps_lp {d : Nat} {sx : Sx} {L : Lngs} {R : Rfs} {q : Q3} {a : Ce} {lc : List (Nat × Nat)} {I0 : Ints} (hM : CelM a I0) (hW : WFc a) (hl : LawM lc I0) {g : Nat} (hg : g < (a 4).val) {ws : List Nat} (hw : wsOk a ws) (hws : ALo I0 109 0 ws)
    (h : ∀ J, SInv I0 J (rt a lc g ws) (rl a lc g ws) → q none J L R) :
    ∀ n k : Nat, ∀ J, n = ws.length - k → k ≤ ws.length → (k ≠ 0 → (gK a g).val ≠ 1) → SInv I0 J (rtP a lc g ws k) (rtN a lc g ws k) →
      Y mX12_laysSteps (d + 4) sx 12 [(0, .ref 92), (1, .int (nI g)), (2, .int (nI ws.length)), (3, .int (nI k))] [] J L R q := by
  have w4 := hW.2.2.2.2.1
  have w3 := hW.2.2.2.1
  have h6 := hw.1
  intro n
  induction n with
  | zero =>
    intro k J hn hk hk1 hS
    have e : k = ws.length := by omega
    refine RX12_laysSteps_12 ⟨fun _ => h J ?_, fun c => ?_⟩
    · unfold rt rl
      by_cases h1 : (gK a g).val = 1
      · rw [if_pos h1, if_pos h1]
        have : k = 0 := Nat.eq_zero_of_not_pos (fun hp => hk1 (by omega) h1)
        subst this
        exact hS
      · rw [if_neg h1, if_neg h1, ← e]
        exact hS
    · simp (disch := omega) only [nlit, natrem, nIrm, nIam, nIam',  nI_add, pk_mul, nIsub, nIrem, nIdiv, nIand1, nIand3, nIand7, nIand31, nIshr, nIle, nIlt, nIeq, nIc, vpI, nIm1, m1nI, m1lt, nIlm, m1le, nIlem, nIneg, u2_ss, u2_nn, u2_kk] at c
      omega
  | succ n ih =>
    intro k J hn hk hk1 hS
    have hMJ := hM.fr hS.1 rfl rfl
    have eg : ∀ i, J 109 i = I0 109 i := hS.1.ar 109 rfl rfl
    refine RX12_laysSteps_12 ⟨fun c => ?_, fun c => ?_⟩
    · simp (disch := omega) only [nlit, natrem, nIrm, nIam, nIam',  nI_add, pk_mul, nIsub, nIrem, nIdiv, nIand1, nIand3, nIand7, nIand31, nIshr, nIle, nIlt, nIeq, nIc, vpI, nIm1, m1nI, m1lt, nIlm, m1le, nIlem, nIneg, u2_ss, u2_nn, u2_kk] at c
      omega
    refine guestK_ok hMJ (by omega) ?_
    refine RX12_laysSteps_23  ⟨fun c1 => ?_, fun c1 => ?_⟩
    · (try simp (disch := omega) only [nlit, natrem, nIrm, nIam, nIam',  nI_add, pk_mul, nIsub, nIrem, nIdiv, nIand1, nIand3, nIand7, nIand31, nIshr, nIle, nIlt, nIeq, nIc, vpI, nIm1, m1nI, m1lt, nIlm, m1le, nIlem, nIneg, u2_ss, u2_nn, u2_kk] at c1); (try simp (disch := omega) only [nlit, natrem, nIrm, nIam, nIam',  nI_add, pk_mul, nIsub, nIrem, nIdiv, nIand1, nIand3, nIand7, nIand31, nIshr, nIle, nIlt, nIeq, nIc, vpI, nIm1, m1nI, m1lt, nIlm, m1le, nIlem, nIneg, u2_ss, u2_nn, u2_kk])
      refine h J ?_
      unfold rt rl
      rw [if_pos c1, if_pos c1]
      have : k = 0 := Nat.eq_zero_of_not_pos (fun hp => hk1 (by omega) c1)
      subst this
      exact hS
    · (try simp (disch := omega) only [nlit, natrem, nIrm, nIam, nIam',  nI_add, pk_mul, nIsub, nIrem, nIdiv, nIand1, nIand3, nIand7, nIand31, nIshr, nIle, nIlt, nIeq, nIc, vpI, nIm1, m1nI, m1lt, nIlm, m1le, nIlem, nIneg, u2_ss, u2_nn, u2_kk] at c1); (try simp (disch := omega) only [nlit, natrem, nIrm, nIam, nIam',  nI_add, pk_mul, nIsub, nIrem, nIdiv, nIand1, nIand3, nIand7, nIand31, nIshr, nIle, nIlt, nIeq, nIc, vpI, nIm1, m1nI, m1lt, nIlm, m1le, nIlem, nIneg, u2_ss, u2_nn, u2_kk])
      refine guestK_ok hMJ (by omega) ?_
      have hd := dor_lt (a := a) (g := g) (many := ws.length) (n := k) (by omega)
      have hwd := hw.2 _ hd
      have hpl := rtP_len hW (lc := lc) (g := g) hw k (by omega)
      have hpn := rtN_le hW (lc := lc) (g := g) hw k (by omega)
      have hin := laysSteps_in (d := d) (sx := sx) (L := L) (R := R) (q := q) (k := k) (m := rtN a lc g ws k) (pre := rtP a lc g ws k) hM hW hl hg hw hd (by omega) (by omega) (fun K hK => by
        rw [show nI k + 1 = nI (k + 1) from nI_add k 1]
        exact ih (k + 1) K (by omega) (by omega) (fun _ => c1) hK) _ 0 J rfl (Nat.zero_le _) (by show SInv I0 J (rtP a lc g ws k ++ []) _; rw [List.append_nil]; exact hS)
      have ee := hws _ hd
      rw [Nat.zero_add, ← eg] at ee
      by_cases h4 : (gK a g).val = 4
      · have ed : dor a g ws.length k = ws.length - 1 - k := by unfold dor; rw [if_pos h4]
        rw [ed] at hin ee hwd
        refine RX12_laysSteps_33  ⟨fun c1 => ⟨?_, ?_⟩, fun c1 => ⟨?_, ?_⟩⟩
        · (try simp (disch := omega) only [nlit, natrem, nIrm, nIam, nIam',  nI_add, pk_mul, nIsub, nIrem, nIdiv, nIand1, nIand3, nIand7, nIand31, nIshr, nIle, nIlt, nIeq, nIc, vpI, nIm1, m1nI, m1lt, nIlm, m1le, nIlem, nIneg, u2_ss, u2_nn, u2_kk, ee] at c1); (try simp (disch := omega) only [nlit, natrem, nIrm, nIam, nIam',  nI_add, pk_mul, nIsub, nIrem, nIdiv, nIand1, nIand3, nIand7, nIand31, nIshr, nIle, nIlt, nIeq, nIc, vpI, nIm1, m1nI, m1lt, nIlm, m1le, nIlem, nIneg, u2_ss, u2_nn, u2_kk, ee]); (first | omega | trivial)
        · (try simp (disch := omega) only [nlit, natrem, nIrm, nIam, nIam',  nI_add, pk_mul, nIsub, nIrem, nIdiv, nIand1, nIand3, nIand7, nIand31, nIshr, nIle, nIlt, nIeq, nIc, vpI, nIm1, m1nI, m1lt, nIlm, m1le, nIlem, nIneg, u2_ss, u2_nn, u2_kk, ee] at c1); (first | omega | exact absurd rfl c1 | exact absurd trivial c1)
        · (try simp (disch := omega) only [nlit, natrem, nIrm, nIam, nIam',  nI_add, pk_mul, nIsub, nIrem, nIdiv, nIand1, nIand3, nIand7, nIand31, nIshr, nIle, nIlt, nIeq, nIc, vpI, nIm1, m1nI, m1lt, nIlm, m1le, nIlem, nIneg, u2_ss, u2_nn, u2_kk, ee] at c1); (try simp (disch := omega) only [nlit, natrem, nIrm, nIam, nIam',  nI_add, pk_mul, nIsub, nIrem, nIdiv, nIand1, nIand3, nIand7, nIand31, nIshr, nIle, nIlt, nIeq, nIc, vpI, nIm1, m1nI, m1lt, nIlm, m1le, nIlem, nIneg, u2_ss, u2_nn, u2_kk, ee]); (first | omega | trivial)
        · (try simp (disch := omega) only [nlit, natrem, nIrm, nIam, nIam',  nI_add, pk_mul, nIsub, nIrem, nIdiv, nIand1, nIand3, nIand7, nIand31, nIshr, nIle, nIlt, nIeq, nIc, vpI, nIm1, m1nI, m1lt, nIlm, m1le, nIlem, nIneg, u2_ss, u2_nn, u2_kk, ee] at c1); (try simp (disch := omega) only [nlit, natrem, nIrm, nIam, nIam',  nI_add, pk_mul, nIsub, nIrem, nIdiv, nIand1, nIand3, nIand7, nIand31, nIshr, nIle, nIlt, nIeq, nIc, vpI, nIm1, m1nI, m1lt, nIlm, m1le, nIlem, nIneg, u2_ss, u2_nn, u2_kk, ee])
          exact lengthOf_ok hMJ hW hwd (RX12_laysSteps_63 hin)
      · have ed : dor a g ws.length k = k := by unfold dor; rw [if_neg h4]
        rw [ed] at hin ee hwd
        refine RX12_laysSteps_33  ⟨fun c1 => ⟨?_, ?_⟩, fun c1 => ⟨?_, ?_⟩⟩
        · (try simp (disch := omega) only [nlit, natrem, nIrm, nIam, nIam',  nI_add, pk_mul, nIsub, nIrem, nIdiv, nIand1, nIand3, nIand7, nIand31, nIshr, nIle, nIlt, nIeq, nIc, vpI, nIm1, m1nI, m1lt, nIlm, m1le, nIlem, nIneg, u2_ss, u2_nn, u2_kk, ee] at c1); (try simp (disch := omega) only [nlit, natrem, nIrm, nIam, nIam',  nI_add, pk_mul, nIsub, nIrem, nIdiv, nIand1, nIand3, nIand7, nIand31, nIshr, nIle, nIlt, nIeq, nIc, vpI, nIm1, m1nI, m1lt, nIlm, m1le, nIlem, nIneg, u2_ss, u2_nn, u2_kk, ee]); (first | omega | trivial)
        · (try simp (disch := omega) only [nlit, natrem, nIrm, nIam, nIam',  nI_add, pk_mul, nIsub, nIrem, nIdiv, nIand1, nIand3, nIand7, nIand31, nIshr, nIle, nIlt, nIeq, nIc, vpI, nIm1, m1nI, m1lt, nIlm, m1le, nIlem, nIneg, u2_ss, u2_nn, u2_kk, ee] at c1); (try simp (disch := omega) only [nlit, natrem, nIrm, nIam, nIam',  nI_add, pk_mul, nIsub, nIrem, nIdiv, nIand1, nIand3, nIand7, nIand31, nIshr, nIle, nIlt, nIeq, nIc, vpI, nIm1, m1nI, m1lt, nIlm, m1le, nIlem, nIneg, u2_ss, u2_nn, u2_kk, ee])
          exact lengthOf_ok hMJ hW hwd (RX12_laysSteps_63 hin)
        · (try simp (disch := omega) only [nlit, natrem, nIrm, nIam, nIam',  nI_add, pk_mul, nIsub, nIrem, nIdiv, nIand1, nIand3, nIand7, nIand31, nIshr, nIle, nIlt, nIeq, nIc, vpI, nIm1, m1nI, m1lt, nIlm, m1le, nIlem, nIneg, u2_ss, u2_nn, u2_kk, ee] at c1); (try simp (disch := omega) only [nlit, natrem, nIrm, nIam, nIam',  nI_add, pk_mul, nIsub, nIrem, nIdiv, nIand1, nIand3, nIand7, nIand31, nIshr, nIle, nIlt, nIeq, nIc, vpI, nIm1, m1nI, m1lt, nIlm, m1le, nIlem, nIneg, u2_ss, u2_nn, u2_kk, ee]); (first | omega | trivial)
        · (try simp (disch := omega) only [nlit, natrem, nIrm, nIam, nIam',  nI_add, pk_mul, nIsub, nIrem, nIdiv, nIand1, nIand3, nIand7, nIand31, nIshr, nIle, nIlt, nIeq, nIc, vpI, nIm1, m1nI, m1lt, nIlm, m1le, nIlem, nIneg, u2_ss, u2_nn, u2_kk, ee] at c1); (first | omega | exact absurd rfl c1 | exact absurd trivial c1)
theorem laysSteps_ok {d : Nat} {sx : Sx} {I : Ints} {L : Lngs} {R : Rfs} {q : Q3} {a : Ce} {lc : List (Nat × Nat)} (hM : CelM a I) (hW : WFc a) (hl : LawM lc I) {g : Nat} (hg : g < (a 4).val) {ws : List Nat} (hw : wsOk a ws) (hws : ALo I 109 0 ws)
    (h : ∀ J, SInv I J (rt a lc g ws) (rl a lc g ws) → q none J L R) : E0 mX12_laysSteps (d + 4) sx [.ref 92, .int (nI g), .int (nI ws.length)] I L R q := by
  refine EX12_laysSteps ?_
  have hF : Fr AS FS I (u2 (u2 I 92 25 0) 92 26 0) := (Fr.rf.uf rfl).uf rfl
  refine laysSteps_lp (hM.fr hF rfl rfl) hW (hl.fr hF rfl rfl rfl rfl) hg hw (hws.congr (hF.ar 109 rfl rfl)) (fun J hJ => h J ⟨hF.tr hJ.1, hJ.2⟩) _ 0 _ rfl (Nat.zero_le _) (fun w => absurd rfl w) ⟨Fr.rf, ?_, ?_, ALo.nil⟩
  · rw [u2_kk _ _ _ _ (by decide), u2_ss]; rfl
  · rw [u2_ss]; rfl
