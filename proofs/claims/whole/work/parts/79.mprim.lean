/-! what the model reads of its tokens -/
theorem u2_id {α : Type} (f : Nat → Nat → α) (o k : Nat) : u2 f o k (f o k) = f := by
  funext a b
  unfold u2
  by_cases ha : a = o
  · by_cases hb : b = k
    · rw [if_pos ha, if_pos hb, ha, hb]
    · rw [if_pos ha, if_neg hb]
  · rw [if_neg ha]
theorem TkM.get {ts : List Tk} {I : Ints} {L : Lngs} (h : TkM ts I L) {i : Nat} (hi : i < ts.length) : I 94 i = nI (mso (sK ts i)) ∧ I 95 i = nI (pK ts i) ∧ (sK ts i ≤ 30 → L 96 i = lN (pk 37 96 (wK ts i))) ∧ (sK ts i = 31 → L 96 i = lN (vK ts i)) ∧ (40 ≤ sK ts i → L 96 i = lN (sK ts i)) := h i hi
theorem TkM.fr {ts : List Tk} {I J : Ints} {L K : Lngs} (h : TkM ts I L) (h4 : ∀ i, J 94 i = I 94 i) (h5 : ∀ i, J 95 i = I 95 i) (h6 : ∀ i, K 96 i = L 96 i) : TkM ts J K := by
  intro i hi
  have := h i hi
  unfold tkM at *
  rw [h4, h5, h6]
  exact this
theorem sK_cs {ts : List Tk} (hT : TkOk ts) {i : Nat} (hi : i < ts.length) : sK ts i < 28 ∨ sK ts i = 30 ∨ sK ts i = 31 ∨ sK ts i = 32 ∨ sK ts i = 33 ∨ isG (sK ts i) := by
  have := (hT.2.2 i hi).1.2
  unfold sK
  rcases this with h | h | h | h | h | h
  · exact Or.inl h.1
  · exact Or.inr (Or.inl h.1)
  · exact Or.inr (Or.inr (Or.inl h.1))
  · exact Or.inr (Or.inr (Or.inr (Or.inl h)))
  · exact Or.inr (Or.inr (Or.inr (Or.inr (Or.inl h))))
  · exact Or.inr (Or.inr (Or.inr (Or.inr (Or.inr h))))
theorem mso_cs {s : Nat} (h : s < 28 ∨ s = 30 ∨ s = 31 ∨ s = 32 ∨ s = 33 ∨ isG s) : (mso s = 0 ↔ s = 33) ∧ (mso s = 1 ↔ s ≤ 30) ∧ (mso s = 2 ↔ s = 31) ∧ (mso s = 3 ↔ isG s) ∧ mso s < 5 := by
  unfold mso isG at *
  refine ⟨?_, ?_, ?_, ?_, ?_⟩ <;> (repeat' split) <;> omega
theorem wds_inj : ∀ j, j < 28 → ∀ k, k < 28 → wds.getD j [] = wds.getD k [] → j = k := by decide +kernel
theorem tk_word {ts : List Tk} (hT : TkOk ts) {i w : Nat} (hi : i < ts.length) (h30 : sK ts i ≤ 30) (hw : w < 28) : wK ts i = wds.getD w [] ↔ sK ts i = w := by
  have h := (hT.2.2 i hi).1.2
  unfold sK wK at *
  rcases h with h | h | h | h | h | h
  · rw [h.2]
    exact ⟨fun e => wds_inj _ h.1 _ hw e, fun e => by rw [e]⟩
  · exact ⟨fun e => absurd e.symm (h.2.2 w hw), fun e => by omega⟩
  · omega
  · omega
  · omega
  · omega
theorem wK_ok {ts : List Tk} (hT : TkOk ts) {i : Nat} (hi : i < ts.length) (h30 : sK ts i ≤ 30) : wOk (wK ts i) := tOk_w (hT.2.2 i hi).1 h30
theorem pK_le {ts : List Tk} (hT : TkOk ts) (i : Nat) : pK ts i ≤ 1000 := by
  by_cases hi : i < ts.length
  · exact (hT.2.2 i hi).1.1
  · unfold pK
    rw [List.getD_eq_getElem?_getD, List.getElem?_eq_none (by omega)]
    decide
theorem fK_lt {ts : List Tk} (hT : TkOk ts) {k : Nat} (h : k ≤ 5) (i : Nat) : fK ts k i < 20000 := by have := pK_le hT i; unfold fK; omega
def WdM (L : Lngs) : Prop := ∀ w, w < 28 → L 97 w = lN (pk 37 96 (wds.getD w []))
/-- a fault is told -/
abbrev isF (v : Nat) : Prop := 1 ≤ v ∧ v < 20000
theorem wrongM_ok {d : Nat} {sx : Sx} {I : Ints} {L : Lngs} {R : Rfs} {q : Q3} {ts : List Tk} (hT : TkOk ts) (hM : TkM ts I L) {i k : Nat} (h8 : I 92 8 = nI 0) (h7 : I 92 7 = nI i) (hi : i < ts.length) (h : q none (u2 I 92 8 (nI (fK ts k i))) L R) : E0 mX12_wrong (d + 1) sx [.ref 92, .int (nI k)] I L R q := by
  have hl := hT.1
  have e5 := (hM.get hi).2.1
  refine EX12_wrong  ⟨fun c1 => ?_, fun c1 => ⟨?_, ?_⟩⟩
  · (try simp (disch := omega) only [nlit, natrem, nIrm, nIam, nIam',  nI_add, pk_mul, nIsub, nIrem, nIdiv, nIand1, nIand3, nIand7, nIand31, nIshr, nIle, nIlt, nIeq, nIc, vpI, nIm1, m1nI, m1lt, nIlm, m1le, nIlem, nIneg, u2_ss, u2_nn, u2_kk, nIm1n, m1nIn, m1ltn, nIlmn, m1len, nIlemn, h8, h7, e5] at c1) <;> (first | omega | exact absurd rfl c1 | exact absurd trivial c1)
  · (try simp (disch := omega) only [nlit, natrem, nIrm, nIam, nIam',  nI_add, pk_mul, nIsub, nIrem, nIdiv, nIand1, nIand3, nIand7, nIand31, nIshr, nIle, nIlt, nIeq, nIc, vpI, nIm1, m1nI, m1lt, nIlm, m1le, nIlem, nIneg, u2_ss, u2_nn, u2_kk, nIm1n, m1nIn, m1ltn, nIlmn, m1len, nIlemn, h8, h7, e5] at c1) <;> (try simp (disch := omega) only [nlit, natrem, nIrm, nIam, nIam',  nI_add, pk_mul, nIsub, nIrem, nIdiv, nIand1, nIand3, nIand7, nIand31, nIshr, nIle, nIlt, nIeq, nIc, vpI, nIm1, m1nI, m1lt, nIlm, m1le, nIlem, nIneg, u2_ss, u2_nn, u2_kk, nIm1n, m1nIn, m1ltn, nIlmn, m1len, nIlemn, h8, h7, e5]) <;> (first | omega | trivial)
  · (try simp (disch := omega) only [nlit, natrem, nIrm, nIam, nIam',  nI_add, pk_mul, nIsub, nIrem, nIdiv, nIand1, nIand3, nIand7, nIand31, nIshr, nIle, nIlt, nIeq, nIc, vpI, nIm1, m1nI, m1lt, nIlm, m1le, nIlem, nIneg, u2_ss, u2_nn, u2_kk, nIm1n, m1nIn, m1ltn, nIlmn, m1len, nIlemn, h8, h7, e5] at c1); (try simp (disch := omega) only [nlit, natrem, nIrm, nIam, nIam',  nI_add, pk_mul, nIsub, nIrem, nIdiv, nIand1, nIand3, nIand7, nIand31, nIshr, nIle, nIlt, nIeq, nIc, vpI, nIm1, m1nI, m1lt, nIlm, m1le, nIlem, nIneg, u2_ss, u2_nn, u2_kk, nIm1n, m1nIn, m1ltn, nIlmn, m1len, nIlemn, h8, h7, e5])
    exact h
theorem wrongM_f {d : Nat} {sx : Sx} {I : Ints} {L : Lngs} {R : Rfs} {q : Q3} {v : Nat} {x : Int32} (hv : isF v) (h8 : I 92 8 = nI v) (h : q none I L R) : E0 mX12_wrong (d + 1) sx [.ref 92, .int x] I L R q := by
  refine EX12_wrong ⟨fun _ => h, fun c => ?_⟩
  exfalso; rw [h8] at c; simp (disch := omega) only [nlit, natrem, nIrm, nIam, nIam',  nI_add, pk_mul, nIsub, nIrem, nIdiv, nIand1, nIand3, nIand7, nIand31, nIshr, nIle, nIlt, nIeq, nIc, vpI, nIm1, m1nI, m1lt, nIlm, m1le, nIlem, nIneg, u2_ss, u2_nn, u2_kk, nIm1n, m1nIn, m1ltn, nIlmn, m1len, nIlemn] at c; omega
theorem isSignM_ok {d : Nat} {sx : Sx} {I : Ints} {L : Lngs} {R : Rfs} {q : Q3} {ts : List Tk} (hT : TkOk ts) (hM : TkM ts I L) {i c : Nat} (h8 : I 92 8 = nI 0) (h7 : I 92 7 = nI i) (hi : i < ts.length) (hc : isG c) (ht : sK ts i = c → q (some (.int 1)) I L R) (hf : sK ts i ≠ c → q (some (.int 0)) I L R) : E0 mX12_isSign (d + 1) sx [.ref 92, .int (nI c)] I L R q := by
  have hl := hT.1
  obtain ⟨e4, -, -, -, e6⟩ := hM.get hi
  have hcs := sK_cs hT hi
  have hm := mso_cs hcs
  have hlt := hT.lt i
  refine EX12_isSign ⟨fun c1 => absurd h8 c1, fun c1 => ⟨?_, fun c2 => ?_, fun c2 => ⟨?_, fun c3 => ?_, fun c3 => ?_⟩⟩⟩
  · rw [h7]; simp (disch := omega) only [nlit, natrem, nIrm, nIam, nIam',  nI_add, pk_mul, nIsub, nIrem, nIdiv, nIand1, nIand3, nIand7, nIand31, nIshr, nIle, nIlt, nIeq, nIc, vpI, nIm1, m1nI, m1lt, nIlm, m1le, nIlem, nIneg, u2_ss, u2_nn, u2_kk, nIm1n, m1nIn, m1ltn, nIlmn, m1len, nIlemn]; omega
  · rw [h7, nIc (by omega), e4] at c2
    simp (disch := omega) only [nlit, natrem, nIrm, nIam, nIam',  nI_add, pk_mul, nIsub, nIrem, nIdiv, nIand1, nIand3, nIand7, nIand31, nIshr, nIle, nIlt, nIeq, nIc, vpI, nIm1, m1nI, m1lt, nIlm, m1le, nIlem, nIneg, u2_ss, u2_nn, u2_kk, nIm1n, m1nIn, m1ltn, nIlmn, m1len, nIlemn] at c2
    refine hf (fun e => ?_)
    rw [hm.2.2.2.1, e] at c2
    exact c2 hc
  · rw [h7]; simp (disch := omega) only [nlit, natrem, nIrm, nIam, nIam',  nI_add, pk_mul, nIsub, nIrem, nIdiv, nIand1, nIand3, nIand7, nIand31, nIshr, nIle, nIlt, nIeq, nIc, vpI, nIm1, m1nI, m1lt, nIlm, m1le, nIlem, nIneg, u2_ss, u2_nn, u2_kk, nIm1n, m1nIn, m1ltn, nIlmn, m1len, nIlemn]; omega
  · rw [h7, nIc (by omega), e4] at c2
    simp (disch := omega) only [nlit, natrem, nIrm, nIam, nIam',  nI_add, pk_mul, nIsub, nIrem, nIdiv, nIand1, nIand3, nIand7, nIand31, nIshr, nIle, nIlt, nIeq, nIc, vpI, nIm1, m1nI, m1lt, nIlm, m1le, nIlem, nIneg, u2_ss, u2_nn, u2_kk, nIm1n, m1nIn, m1ltn, nIlmn, m1len, nIlemn] at c2
    rw [hm.2.2.2.1] at c2
    rw [h7, nIc (by omega), e6 (by omega), i2l (by omega)] at c3
    exact hf (fun e => c3 ((lg_cmp_eq _ _).mpr (by rw [e])))
  · rw [h7, nIc (by omega), e4] at c2
    simp (disch := omega) only [nlit, natrem, nIrm, nIam, nIam',  nI_add, pk_mul, nIsub, nIrem, nIdiv, nIand1, nIand3, nIand7, nIand31, nIshr, nIle, nIlt, nIeq, nIc, vpI, nIm1, m1nI, m1lt, nIlm, m1le, nIlem, nIneg, u2_ss, u2_nn, u2_kk, nIm1n, m1nIn, m1ltn, nIlmn, m1len, nIlemn] at c2
    rw [hm.2.2.2.1] at c2
    rw [h7, nIc (by omega), e6 (by omega), i2l (by omega)] at c3
    exact ht ((wb_lN (by omega) (by omega)).mp ((lg_cmp_eq _ _).mp c3))
theorem isSignM_f {d : Nat} {sx : Sx} {I : Ints} {L : Lngs} {R : Rfs} {q : Q3} {v : Nat} {x : Int32} (hv : isF v) (h8 : I 92 8 = nI v) (h : q (some (.int 0)) I L R) : E0 mX12_isSign (d + 1) sx [.ref 92, .int x] I L R q := by
  refine EX12_isSign ⟨fun _ => h, fun c => ?_⟩
  exfalso; rw [h8] at c; simp (disch := omega) only [nlit, natrem, nIrm, nIam, nIam',  nI_add, pk_mul, nIsub, nIrem, nIdiv, nIand1, nIand3, nIand7, nIand31, nIshr, nIle, nIlt, nIeq, nIc, vpI, nIm1, m1nI, m1lt, nIlm, m1le, nIlem, nIneg, u2_ss, u2_nn, u2_kk, nIm1n, m1nIn, m1ltn, nIlmn, m1len, nIlemn] at c; omega
theorem isWordM_ok {d : Nat} {sx : Sx} {I : Ints} {L : Lngs} {R : Rfs} {q : Q3} {ts : List Tk} (hT : TkOk ts) (hM : TkM ts I L) (hW : WdM L) {i w : Nat} (h8 : I 92 8 = nI 0) (h7 : I 92 7 = nI i) (hi : i < ts.length) (hw : w < 28) (ht : sK ts i = w → q (some (.int 1)) I L R) (hf : sK ts i ≠ w → q (some (.int 0)) I L R) : E0 mX12_isWord (d + 1) sx [.ref 92, .int (nI w)] I L R q := by
  have hl := hT.1
  obtain ⟨e4, -, e6, -, -⟩ := hM.get hi
  have hcs := sK_cs hT hi
  have hm := mso_cs hcs
  have hlt := hT.lt i
  have e7 := hW w hw
  refine EX12_isWord ⟨fun c1 => absurd h8 c1, fun c1 => ⟨?_, fun c2 => ?_, fun c2 => ⟨?_, ?_, fun c3 => ?_, fun c3 => ?_⟩⟩⟩
  · rw [h7]; simp (disch := omega) only [nlit, natrem, nIrm, nIam, nIam',  nI_add, pk_mul, nIsub, nIrem, nIdiv, nIand1, nIand3, nIand7, nIand31, nIshr, nIle, nIlt, nIeq, nIc, vpI, nIm1, m1nI, m1lt, nIlm, m1le, nIlem, nIneg, u2_ss, u2_nn, u2_kk, nIm1n, m1nIn, m1ltn, nIlmn, m1len, nIlemn]; omega
  · rw [h7, nIc (by omega), e4] at c2
    simp (disch := omega) only [nlit, natrem, nIrm, nIam, nIam',  nI_add, pk_mul, nIsub, nIrem, nIdiv, nIand1, nIand3, nIand7, nIand31, nIshr, nIle, nIlt, nIeq, nIc, vpI, nIm1, m1nI, m1lt, nIlm, m1le, nIlem, nIneg, u2_ss, u2_nn, u2_kk, nIm1n, m1nIn, m1ltn, nIlmn, m1len, nIlemn] at c2
    rw [hm.2.1] at c2
    exact hf (by omega)
  · rw [h7]; simp (disch := omega) only [nlit, natrem, nIrm, nIam, nIam',  nI_add, pk_mul, nIsub, nIrem, nIdiv, nIand1, nIand3, nIand7, nIand31, nIshr, nIle, nIlt, nIeq, nIc, vpI, nIm1, m1nI, m1lt, nIlm, m1le, nIlem, nIneg, u2_ss, u2_nn, u2_kk, nIm1n, m1nIn, m1ltn, nIlmn, m1len, nIlemn]; omega
  · simp (disch := omega) only [nlit, natrem, nIrm, nIam, nIam',  nI_add, pk_mul, nIsub, nIrem, nIdiv, nIand1, nIand3, nIand7, nIand31, nIshr, nIle, nIlt, nIeq, nIc, vpI, nIm1, m1nI, m1lt, nIlm, m1le, nIlem, nIneg, u2_ss, u2_nn, u2_kk, nIm1n, m1nIn, m1ltn, nIlmn, m1len, nIlemn]; omega
  · rw [h7, nIc (by omega), e4] at c2
    simp (disch := omega) only [nlit, natrem, nIrm, nIam, nIam',  nI_add, pk_mul, nIsub, nIrem, nIdiv, nIand1, nIand3, nIand7, nIand31, nIshr, nIle, nIlt, nIeq, nIc, vpI, nIm1, m1nI, m1lt, nIlm, m1le, nIlem, nIneg, u2_ss, u2_nn, u2_kk, nIm1n, m1nIn, m1ltn, nIlmn, m1len, nIlemn] at c2
    rw [hm.2.1] at c2
    rw [h7, nIc (by omega), nIc (by omega), e6 c2, e7] at c3
    exact hf (fun e => c3 ((lg_cmp_eq _ _).mpr (by rw [(tk_word hT hi c2 hw).mpr e])))
  · rw [h7, nIc (by omega), e4] at c2
    simp (disch := omega) only [nlit, natrem, nIrm, nIam, nIam',  nI_add, pk_mul, nIsub, nIrem, nIdiv, nIand1, nIand3, nIand7, nIand31, nIshr, nIle, nIlt, nIeq, nIc, vpI, nIm1, m1nI, m1lt, nIlm, m1le, nIlem, nIneg, u2_ss, u2_nn, u2_kk, nIm1n, m1nIn, m1ltn, nIlmn, m1len, nIlemn] at c2
    rw [hm.2.1] at c2
    rw [h7, nIc (by omega), nIc (by omega), e6 c2, e7] at c3
    exact ht ((tk_word hT hi c2 hw).mp ((pw_eq (by decide) (by decide) (by decide) (wK_ok hT hi c2) (wds_ok hw)).mp ((lg_cmp_eq _ _).mp c3)))
theorem isWordM_f {d : Nat} {sx : Sx} {I : Ints} {L : Lngs} {R : Rfs} {q : Q3} {v : Nat} {x : Int32} (hv : isF v) (h8 : I 92 8 = nI v) (h : q (some (.int 0)) I L R) : E0 mX12_isWord (d + 1) sx [.ref 92, .int x] I L R q := by
  refine EX12_isWord ⟨fun _ => h, fun c => ?_⟩
  exfalso; rw [h8] at c; simp (disch := omega) only [nlit, natrem, nIrm, nIam, nIam',  nI_add, pk_mul, nIsub, nIrem, nIdiv, nIand1, nIand3, nIand7, nIand31, nIshr, nIle, nIlt, nIeq, nIc, vpI, nIm1, m1nI, m1lt, nIlm, m1le, nIlem, nIneg, u2_ss, u2_nn, u2_kk, nIm1n, m1nIn, m1ltn, nIlmn, m1len, nIlemn] at c; omega
theorem hasSignM_ok {d : Nat} {sx : Sx} {I : Ints} {L : Lngs} {R : Rfs} {q : Q3} {ts : List Tk} (hT : TkOk ts) (hM : TkM ts I L) {i c : Nat} (h8 : I 92 8 = nI 0) (h7 : I 92 7 = nI i) (hi : i < ts.length) (hc : isG c) (ht : sK ts i = c → q (some (.int 1)) (u2 I 92 7 (nI (i + 1))) L R) (hf : sK ts i ≠ c → q (some (.int 0)) I L R) : E0 mX12_hasSign (d + 2) sx [.ref 92, .int (nI c)] I L R q := by
  refine EX12_hasSign (isSignM_ok hT hM h8 h7 hi hc (fun e => ?_) (fun e => ?_))
  · refine RX12_hasSign_5 ⟨fun c1 => absurd c1 (by decide), fun _ => ⟨Or.inr rfl, ?_⟩⟩
    rw [h7, show nI i + 1 = nI (i + 1) from nI_add i 1]
    exact ht e
  · refine RX12_hasSign_5 ⟨fun _ => ⟨Or.inl rfl, ?_⟩, fun c1 => absurd rfl c1⟩
    rw [i_add0, u2_id]
    exact hf e
theorem hasSignM_f {d : Nat} {sx : Sx} {I : Ints} {L : Lngs} {R : Rfs} {q : Q3} {v : Nat} {x : Int32} (hv : isF v) (h8 : I 92 8 = nI v) (h : q (some (.int 0)) I L R) : E0 mX12_hasSign (d + 2) sx [.ref 92, .int x] I L R q := by
  refine EX12_hasSign (isSignM_f hv h8 (RX12_hasSign_5 ⟨fun _ => ⟨Or.inl rfl, ?_⟩, fun c1 => absurd rfl c1⟩))
  rw [i_add0, u2_id]
  exact h
theorem hasWordM_ok {d : Nat} {sx : Sx} {I : Ints} {L : Lngs} {R : Rfs} {q : Q3} {ts : List Tk} (hT : TkOk ts) (hM : TkM ts I L) (hW : WdM L) {i w : Nat} (h8 : I 92 8 = nI 0) (h7 : I 92 7 = nI i) (hi : i < ts.length) (hw : w < 28) (ht : sK ts i = w → q (some (.int 1)) (u2 I 92 7 (nI (i + 1))) L R) (hf : sK ts i ≠ w → q (some (.int 0)) I L R) : E0 mX12_hasWord (d + 2) sx [.ref 92, .int (nI w)] I L R q := by
  refine EX12_hasWord (isWordM_ok hT hM hW h8 h7 hi hw (fun e => ?_) (fun e => ?_))
  · refine RX12_hasWord_5 ⟨fun c1 => absurd c1 (by decide), fun _ => ⟨Or.inr rfl, ?_⟩⟩
    rw [h7, show nI i + 1 = nI (i + 1) from nI_add i 1]
    exact ht e
  · refine RX12_hasWord_5 ⟨fun _ => ⟨Or.inl rfl, ?_⟩, fun c1 => absurd rfl c1⟩
    rw [i_add0, u2_id]
    exact hf e
theorem hasWordM_f {d : Nat} {sx : Sx} {I : Ints} {L : Lngs} {R : Rfs} {q : Q3} {v : Nat} {x : Int32} (hv : isF v) (h8 : I 92 8 = nI v) (h : q (some (.int 0)) I L R) : E0 mX12_hasWord (d + 2) sx [.ref 92, .int x] I L R q := by
  refine EX12_hasWord (isWordM_f hv h8 (RX12_hasWord_5 ⟨fun _ => ⟨Or.inl rfl, ?_⟩, fun c1 => absurd rfl c1⟩))
  rw [i_add0, u2_id]
  exact h
theorem takeSignM_ok {d : Nat} {sx : Sx} {I : Ints} {L : Lngs} {R : Rfs} {q : Q3} {ts : List Tk} (hT : TkOk ts) (hM : TkM ts I L) {i c : Nat} (h8 : I 92 8 = nI 0) (h7 : I 92 7 = nI i) (hi : i < ts.length) (hc : isG c) (ht : sK ts i = c → q none (u2 I 92 7 (nI (i + 1))) L R) (hf : sK ts i ≠ c → q none (u2 I 92 8 (nI (fK ts 1 i))) L R) : E0 mX12_takeSign (d + 2) sx [.ref 92, .int (nI c)] I L R q := by
  refine EX12_takeSign (isSignM_ok hT hM h8 h7 hi hc (fun e => ?_) (fun e => ?_))
  · refine RX12_takeSign_5 ⟨fun c1 => absurd c1 (by decide), fun _ => ?_⟩
    rw [h7, show nI i + 1 = nI (i + 1) from nI_add i 1]
    exact ht e
  · exact RX12_takeSign_5 ⟨fun _ => wrongM_ok (k := 1) hT hM h8 h7 hi (RX12_takeSign_26 (hf e)), fun c1 => absurd rfl c1⟩
theorem takeSignM_f {d : Nat} {sx : Sx} {I : Ints} {L : Lngs} {R : Rfs} {q : Q3} {v : Nat} {x : Int32} (hv : isF v) (h8 : I 92 8 = nI v) (h : q none I L R) : E0 mX12_takeSign (d + 2) sx [.ref 92, .int x] I L R q :=
  EX12_takeSign (isSignM_f hv h8 (RX12_takeSign_5 ⟨fun _ => wrongM_f hv h8 (RX12_takeSign_26 h), fun c1 => absurd rfl c1⟩))
theorem takeWordM_ok {d : Nat} {sx : Sx} {I : Ints} {L : Lngs} {R : Rfs} {q : Q3} {ts : List Tk} (hT : TkOk ts) (hM : TkM ts I L) (hW : WdM L) {i w : Nat} (h8 : I 92 8 = nI 0) (h7 : I 92 7 = nI i) (hi : i < ts.length) (hw : w < 28) (ht : sK ts i = w → q none (u2 I 92 7 (nI (i + 1))) L R) (hf : sK ts i ≠ w → q none (u2 I 92 8 (nI (fK ts 1 i))) L R) : E0 mX12_takeWord (d + 3) sx [.ref 92, .int (nI w)] I L R q := by
  refine EX12_takeWord (hasWordM_ok hT hM hW h8 h7 hi hw (fun e => ?_) (fun e => ?_))
  · exact RX12_takeWord_5 ⟨fun _ => ht e, fun c1 => absurd c1 (by decide)⟩
  · exact RX12_takeWord_5 ⟨fun c1 => absurd rfl c1, fun _ => wrongM_ok (k := 1) hT hM h8 h7 hi (RX12_takeWord_13 (hf e))⟩
theorem takeWordM_f {d : Nat} {sx : Sx} {I : Ints} {L : Lngs} {R : Rfs} {q : Q3} {v : Nat} {x : Int32} (hv : isF v) (h8 : I 92 8 = nI v) (h : q none I L R) : E0 mX12_takeWord (d + 3) sx [.ref 92, .int x] I L R q :=
  EX12_takeWord (hasWordM_f hv h8 (RX12_takeWord_5 ⟨fun c1 => absurd rfl c1, fun _ => wrongM_f hv h8 (RX12_takeWord_13 h)⟩))
theorem takeNumberM_ok {d : Nat} {sx : Sx} {I : Ints} {L : Lngs} {R : Rfs} {q : Q3} {ts : List Tk} (hT : TkOk ts) (hM : TkM ts I L) {i lo hi : Nat} (h8 : I 92 8 = nI 0) (h7 : I 92 7 = nI i) (hil : i < ts.length) (hlo : lo < 10000) (hhi : hi < 10000)
    (h1 : sK ts i ≠ 31 → q (some (.int 0)) (u2 I 92 8 (nI (fK ts 1 i))) L R) (h4 : sK ts i = 31 → vK ts i < lo ∨ hi < vK ts i → q (some (.int 0)) (u2 I 92 8 (nI (fK ts 4 i))) L R)
    (ht : sK ts i = 31 → lo ≤ vK ts i ∧ vK ts i ≤ hi → q (some (.int (nI (vK ts i)))) (u2 I 92 7 (nI (i + 1))) L R) : E0 mX12_takeNumber (d + 2) sx [.ref 92, .int (nI lo), .int (nI hi)] I L R q := by
  have hl := hT.1
  obtain ⟨e4, -, -, e6, -⟩ := hM.get hil
  have hm := mso_cs (sK_cs hT hil)
  have hlt := hT.lt i
  have hfl : ∀ k, 1 ≤ k → k ≤ 5 → q (some (.int 0)) (u2 I 92 8 (nI (fK ts k i))) L R → Y mX12_takeNumber (d + 2) sx 70 [(0, .ref 92)] [] (u2 I 92 8 (nI (fK ts k i))) L R q := by
    intro k hk1 hk5 hq
    have := fK_lt hT hk5 i
    have hnz := fK_nz (ts := ts) (i := i) hk1
    refine RX12_takeNumber_70 ⟨fun c => ?_, fun _ => hq⟩
    exfalso
    rw [u2_ss] at c
    simp (disch := omega) only [nlit, natrem, nIrm, nIam, nIam',  nI_add, pk_mul, nIsub, nIrem, nIdiv, nIand1, nIand3, nIand7, nIand31, nIshr, nIle, nIlt, nIeq, nIc, vpI, nIm1, m1nI, m1lt, nIlm, m1le, nIlem, nIneg, u2_ss, u2_nn, u2_kk, nIm1n, m1nIn, m1ltn, nIlmn, m1len, nIlemn] at c
    omega
  refine EX12_takeNumber ⟨fun c1 => absurd h8 c1, fun c1 => ⟨?_, ⟨fun c2 => ⟨?_, ⟨fun c3 => ?_, fun c3 => ⟨?_, ⟨fun c4 => ⟨fun c5 => ⟨?_, ?_⟩, fun c5 => ?_⟩, fun c4 => ?_⟩⟩⟩⟩, fun c2 => ?_⟩⟩⟩
  · rw [h7]; simp (disch := omega) only [nlit, natrem, nIrm, nIam, nIam',  nI_add, pk_mul, nIsub, nIrem, nIdiv, nIand1, nIand3, nIand7, nIand31, nIshr, nIle, nIlt, nIeq, nIc, vpI, nIm1, m1nI, m1lt, nIlm, m1le, nIlem, nIneg, u2_ss, u2_nn, u2_kk, nIm1n, m1nIn, m1ltn, nIlmn, m1len, nIlemn]; omega
  · rw [h7]; simp (disch := omega) only [nlit, natrem, nIrm, nIam, nIam',  nI_add, pk_mul, nIsub, nIrem, nIdiv, nIand1, nIand3, nIand7, nIand31, nIshr, nIle, nIlt, nIeq, nIc, vpI, nIm1, m1nI, m1lt, nIlm, m1le, nIlem, nIneg, u2_ss, u2_nn, u2_kk, nIm1n, m1nIn, m1ltn, nIlmn, m1len, nIlemn]; omega
  · rw [h7, nIc (by omega), e4] at c2
    simp (disch := omega) only [nlit, natrem, nIrm, nIam, nIam',  nI_add, pk_mul, nIsub, nIrem, nIdiv, nIand1, nIand3, nIand7, nIand31, nIshr, nIle, nIlt, nIeq, nIc, vpI, nIm1, m1nI, m1lt, nIlm, m1le, nIlem, nIneg, u2_ss, u2_nn, u2_kk, nIm1n, m1nIn, m1ltn, nIlmn, m1len, nIlemn] at c2
    rw [hm.2.2.1] at c2
    have hv := hT.v hil c2
    rw [h7, nIc (by omega), e6 c2, i2l (by omega), lg_cmp_lt, lN_lt (by omega) (by omega)] at c3
    exact wrongM_ok (k := 4) hT hM h8 h7 hil (hfl 4 (by decide) (by decide) (h4 c2 (Or.inl c3)))
  · rw [h7]; simp (disch := omega) only [nlit, natrem, nIrm, nIam, nIam',  nI_add, pk_mul, nIsub, nIrem, nIdiv, nIand1, nIand3, nIand7, nIand31, nIshr, nIle, nIlt, nIeq, nIc, vpI, nIm1, m1nI, m1lt, nIlm, m1le, nIlem, nIneg, u2_ss, u2_nn, u2_kk, nIm1n, m1nIn, m1ltn, nIlmn, m1len, nIlemn]; omega
  · rw [h7]; simp (disch := omega) only [nlit, natrem, nIrm, nIam, nIam',  nI_add, pk_mul, nIsub, nIrem, nIdiv, nIand1, nIand3, nIand7, nIand31, nIshr, nIle, nIlt, nIeq, nIc, vpI, nIm1, m1nI, m1lt, nIlm, m1le, nIlem, nIneg, u2_ss, u2_nn, u2_kk, nIm1n, m1nIn, m1ltn, nIlmn, m1len, nIlemn, Nat.add_sub_cancel]; omega
  · rw [h7, nIc (by omega), e4] at c2
    simp (disch := omega) only [nlit, natrem, nIrm, nIam, nIam',  nI_add, pk_mul, nIsub, nIrem, nIdiv, nIand1, nIand3, nIand7, nIand31, nIshr, nIle, nIlt, nIeq, nIc, vpI, nIm1, m1nI, m1lt, nIlm, m1le, nIlem, nIneg, u2_ss, u2_nn, u2_kk, nIm1n, m1nIn, m1ltn, nIlmn, m1len, nIlemn] at c2
    rw [hm.2.2.1] at c2
    have hv := hT.v hil c2
    rw [h7, nIc (by omega), e6 c2, i2l (by omega), lg_cmp_lt, lN_lt (by omega) (by omega)] at c3
    rw [h7, nIc (by omega), e6 c2, i2l (by omega), lg_cmp_le, lN_le (by omega) (by omega)] at c4
    rw [h7]
    simp (disch := omega) only [nlit, natrem, nIrm, nIam, nIam',  nI_add, pk_mul, nIsub, nIrem, nIdiv, nIand1, nIand3, nIand7, nIand31, nIshr, nIle, nIlt, nIeq, nIc, vpI, nIm1, m1nI, m1lt, nIlm, m1le, nIlem, nIneg, u2_ss, u2_nn, u2_kk, nIm1n, m1nIn, m1ltn, nIlmn, m1len, nIlemn, Nat.add_sub_cancel]
    rw [e6 c2, lN_i]
    exact ht c2 ⟨by omega, c4⟩
  · exfalso; rw [h8] at c5; exact c5 (by decide)
  · rw [h7, nIc (by omega), e4] at c2
    simp (disch := omega) only [nlit, natrem, nIrm, nIam, nIam',  nI_add, pk_mul, nIsub, nIrem, nIdiv, nIand1, nIand3, nIand7, nIand31, nIshr, nIle, nIlt, nIeq, nIc, vpI, nIm1, m1nI, m1lt, nIlm, m1le, nIlem, nIneg, u2_ss, u2_nn, u2_kk, nIm1n, m1nIn, m1ltn, nIlmn, m1len, nIlemn] at c2
    rw [hm.2.2.1] at c2
    have hv := hT.v hil c2
    rw [h7, nIc (by omega), e6 c2, i2l (by omega), lg_cmp_le, lN_le (by omega) (by omega)] at c4
    exact wrongM_ok (k := 4) hT hM h8 h7 hil (hfl 4 (by decide) (by decide) (h4 c2 (Or.inr (by omega))))
  · rw [h7, nIc (by omega), e4] at c2
    simp (disch := omega) only [nlit, natrem, nIrm, nIam, nIam',  nI_add, pk_mul, nIsub, nIrem, nIdiv, nIand1, nIand3, nIand7, nIand31, nIshr, nIle, nIlt, nIeq, nIc, vpI, nIm1, m1nI, m1lt, nIlm, m1le, nIlem, nIneg, u2_ss, u2_nn, u2_kk, nIm1n, m1nIn, m1ltn, nIlmn, m1len, nIlemn] at c2
    rw [hm.2.2.1] at c2
    exact wrongM_ok (k := 1) hT hM h8 h7 hil (RX12_takeNumber_25 (hfl 1 (by decide) (by decide) (h1 c2)))
theorem takeNumberM_f {d : Nat} {sx : Sx} {I : Ints} {L : Lngs} {R : Rfs} {q : Q3} {v : Nat} {x y : Int32} (hv : isF v) (h8 : I 92 8 = nI v) (h : q (some (.int 0)) I L R) : E0 mX12_takeNumber (d + 2) sx [.ref 92, .int x, .int y] I L R q := by
  refine EX12_takeNumber ⟨fun c1 => ⟨fun c2 => ?_, fun _ => h⟩, fun c1 => ?_⟩
  · exfalso; rw [h8] at c2; simp (disch := omega) only [nlit, natrem, nIrm, nIam, nIam',  nI_add, pk_mul, nIsub, nIrem, nIdiv, nIand1, nIand3, nIand7, nIand31, nIshr, nIle, nIlt, nIeq, nIc, vpI, nIm1, m1nI, m1lt, nIlm, m1le, nIlem, nIneg, u2_ss, u2_nn, u2_kk, nIm1n, m1nIn, m1ltn, nIlmn, m1len, nIlemn] at c2; omega
  · exfalso; rw [h8] at c1; simp (disch := omega) only [nlit, natrem, nIrm, nIam, nIam',  nI_add, pk_mul, nIsub, nIrem, nIdiv, nIand1, nIand3, nIand7, nIand31, nIshr, nIle, nIlt, nIeq, nIc, vpI, nIm1, m1nI, m1lt, nIlm, m1le, nIlem, nIneg, u2_ss, u2_nn, u2_kk, nIm1n, m1nIn, m1ltn, nIlmn, m1len, nIlemn] at c1; omega
theorem takeAfterM_ok {d : Nat} {sx : Sx} {I : Ints} {L : Lngs} {R : Rfs} {q : Q3} {ts : List Tk} (hT : TkOk ts) (hM : TkM ts I L) (hW : WdM L) {i w lo hi : Nat} (h8 : I 92 8 = nI 0) (h7 : I 92 7 = nI i) (hil : i + 1 < ts.length) (hw : w < 28) (hlo : lo < 10000) (hhi : hi < 10000)
    (h0 : sK ts i ≠ w → q (some (.int 0)) (u2 I 92 8 (nI (fK ts 1 i))) L R)
    (h1 : sK ts i = w → sK ts (i + 1) ≠ 31 → q (some (.int 0)) (u2 (u2 I 92 7 (nI (i + 1))) 92 8 (nI (fK ts 1 (i + 1)))) L R) (h4 : sK ts i = w → sK ts (i + 1) = 31 → vK ts (i + 1) < lo ∨ hi < vK ts (i + 1) → q (some (.int 0)) (u2 (u2 I 92 7 (nI (i + 1))) 92 8 (nI (fK ts 4 (i + 1)))) L R)
    (ht : sK ts i = w → sK ts (i + 1) = 31 → lo ≤ vK ts (i + 1) ∧ vK ts (i + 1) ≤ hi → q (some (.int (nI (vK ts (i + 1))))) (u2 (u2 I 92 7 (nI (i + 1))) 92 7 (nI (i + 1 + 1))) L R) : E0 mX12_takeAfter (d + 4) sx [.ref 92, .int (nI w), .int (nI lo), .int (nI hi)] I L R q := by
  refine EX12_takeAfter (takeWordM_ok hT hM hW h8 h7 (by omega) hw (fun e => ?_) (fun e => ?_))
  · refine RX12_takeAfter_5 ?_
    have hM' : TkM ts (u2 I 92 7 (nI (i + 1))) L := hM.fr (fun j => u2_nn _ _ _ _ (by decide)) (fun j => u2_nn _ _ _ _ (by decide)) (fun j => rfl)
    exact takeNumberM_ok hT hM' (by rw [u2_kk _ _ _ _ (by decide)]; exact h8) (by rw [u2_ss]) hil hlo hhi (fun a => RX12_takeAfter_11 (h1 e a)) (fun a b => RX12_takeAfter_11 (h4 e a b)) (fun a b => RX12_takeAfter_11 (ht e a b))
  · have hfl := fK_lt hT (k := 1) (by decide) i
    have hnz := fK_nz (ts := ts) (i := i) (k := 1) (by decide)
    exact RX12_takeAfter_5 (takeNumberM_f (v := fK ts 1 i) ⟨by omega, hfl⟩ (u2_ss _ _ _ _) (RX12_takeAfter_11 (h0 e)))
theorem takeAfterM_f {d : Nat} {sx : Sx} {I : Ints} {L : Lngs} {R : Rfs} {q : Q3} {v : Nat} {x y z : Int32} (hv : isF v) (h8 : I 92 8 = nI v) (h : q (some (.int 0)) I L R) : E0 mX12_takeAfter (d + 4) sx [.ref 92, .int x, .int y, .int z] I L R q :=
  EX12_takeAfter (takeWordM_f hv h8 (RX12_takeAfter_5 (takeNumberM_f hv h8 (RX12_takeAfter_11 h))))
abbrev isN (s : Nat) : Prop := s = 30 ∨ (25 ≤ s ∧ s ≤ 27)
theorem isNameM_ok {d : Nat} {sx : Sx} {I : Ints} {L : Lngs} {R : Rfs} {q : Q3} {ts : List Tk} (hT : TkOk ts) (hM : TkM ts I L) (hW : WdM L) {i : Nat} (h8 : I 92 8 = nI 0) (h7 : I 92 7 = nI i) (hi : i < ts.length) (ht : isN (sK ts i) → q (some (.int 1)) I L R) (hf : ¬ isN (sK ts i) → q (some (.int 0)) I L R) : E0 mX12_isName (d + 1) sx [.ref 92] I L R q := by
  have hl := hT.1
  obtain ⟨e4, -, e6, -, -⟩ := hM.get hi
  have hcs := sK_cs hT hi
  have hm := mso_cs hcs
  have hlt := hT.lt i
  have hlp : ∀ n k f : Nat, n = 25 - k → k ≤ 25 → (f = 1 ∧ sK ts i ≤ 30 ∧ (∀ j, j < k → sK ts i ≠ j)) ∨ (f = 0 ∧ ¬ isN (sK ts i)) → Y mX12_isName (d + 1) sx 28 [(0, .ref 92), (1, .int (nI f)), (2, .int (nI k))] [] I L R q := by
    intro n
    induction n with
    | zero =>
      intro k f hn hk hi2
      refine RX12_isName_28 ⟨fun c1 => ⟨?_, ?_⟩, fun c1 => ?_⟩
      · rcases hi2 with h | h <;> rw [h.1]
        · exact Or.inr rfl
        · exact Or.inl rfl
      · rcases hi2 with ⟨rfl, h1, h2⟩ | ⟨rfl, h⟩
        · refine ht ?_
          have h25 : 25 ≤ sK ts i := Nat.le_of_not_lt (fun hh => h2 _ (by omega) rfl)
          unfold isN
          rcases hcs with h | h | h | h | h | h <;> omega
        · exact hf h
      · exfalso; simp (disch := omega) only [nlit, natrem, nIrm, nIam, nIam',  nI_add, pk_mul, nIsub, nIrem, nIdiv, nIand1, nIand3, nIand7, nIand31, nIshr, nIle, nIlt, nIeq, nIc, vpI, nIm1, m1nI, m1lt, nIlm, m1le, nIlem, nIneg, u2_ss, u2_nn, u2_kk, nIm1n, m1nIn, m1ltn, nIlmn, m1len, nIlemn] at c1; omega
    | succ n ih =>
      intro k f hn hk hi2
      refine RX12_isName_28 ⟨fun c1 => ?_, fun c1 => ⟨fun c2 => ?_, fun c2 => ⟨?_, ?_, fun c3 => ?_, fun c3 => ?_⟩⟩⟩
      · exfalso; simp (disch := omega) only [nlit, natrem, nIrm, nIam, nIam',  nI_add, pk_mul, nIsub, nIrem, nIdiv, nIand1, nIand3, nIand7, nIand31, nIshr, nIle, nIlt, nIeq, nIc, vpI, nIm1, m1nI, m1lt, nIlm, m1le, nIlem, nIneg, u2_ss, u2_nn, u2_kk, nIm1n, m1nIn, m1ltn, nIlmn, m1len, nIlemn] at c1; omega
      · rw [show nI k + 1 = nI (k + 1) from nI_add k 1]
        rcases hi2 with ⟨rfl, h1, h2⟩ | ⟨rfl, h⟩
        · exact absurd c2 (by decide)
        · exact ih (k + 1) 0 (by omega) (by omega) (Or.inr ⟨rfl, h⟩)
      · rw [h7]; simp (disch := omega) only [nlit, natrem, nIrm, nIam, nIam',  nI_add, pk_mul, nIsub, nIrem, nIdiv, nIand1, nIand3, nIand7, nIand31, nIshr, nIle, nIlt, nIeq, nIc, vpI, nIm1, m1nI, m1lt, nIlm, m1le, nIlem, nIneg, u2_ss, u2_nn, u2_kk, nIm1n, m1nIn, m1ltn, nIlmn, m1len, nIlemn]; omega
      · simp (disch := omega) only [nlit, natrem, nIrm, nIam, nIam',  nI_add, pk_mul, nIsub, nIrem, nIdiv, nIand1, nIand3, nIand7, nIand31, nIshr, nIle, nIlt, nIeq, nIc, vpI, nIm1, m1nI, m1lt, nIlm, m1le, nIlem, nIneg, u2_ss, u2_nn, u2_kk, nIm1n, m1nIn, m1ltn, nIlmn, m1len, nIlemn]; omega
      · rcases hi2 with ⟨rfl, h1, h2⟩ | ⟨rfl, h⟩
        · rw [h7, nIc (by omega), nIc (by omega), e6 h1, hW k (by omega)] at c3
          have e := (tk_word hT hi h1 (w := k) (by omega)).mp ((pw_eq (by decide) (by decide) (by decide) (wK_ok hT hi h1) (wds_ok (by omega))).mp ((lg_cmp_eq _ _).mp c3))
          rw [show nI k + 1 = nI (k + 1) from nI_add k 1]
          exact ih (k + 1) 0 (by omega) (by omega) (Or.inr ⟨rfl, by unfold isN; omega⟩)
        · exact absurd rfl c2
      · rcases hi2 with ⟨rfl, h1, h2⟩ | ⟨rfl, h⟩
        · rw [h7, nIc (by omega), nIc (by omega), e6 h1, hW k (by omega)] at c3
          rw [show nI k + 1 = nI (k + 1) from nI_add k 1]
          refine ih (k + 1) 1 (by omega) (by omega) (Or.inl ⟨rfl, h1, fun j hj => ?_⟩)
          by_cases e : j = k
          · subst e
            intro hh
            exact c3 ((lg_cmp_eq _ _).mpr (by rw [(tk_word hT hi h1 (w := j) (by omega)).mpr hh]))
          · exact h2 j (by omega)
        · exact absurd rfl c2
  refine EX12_isName ⟨fun c1 => absurd h8 c1, fun c1 => ⟨?_, fun c2 => ?_, fun c2 => ?_⟩⟩
  · rw [h7]; simp (disch := omega) only [nlit, natrem, nIrm, nIam, nIam',  nI_add, pk_mul, nIsub, nIrem, nIdiv, nIand1, nIand3, nIand7, nIand31, nIshr, nIle, nIlt, nIeq, nIc, vpI, nIm1, m1nI, m1lt, nIlm, m1le, nIlem, nIneg, u2_ss, u2_nn, u2_kk, nIm1n, m1nIn, m1ltn, nIlmn, m1len, nIlemn]; omega
  · rw [h7, nIc (by omega), e4] at c2
    simp (disch := omega) only [nlit, natrem, nIrm, nIam, nIam',  nI_add, pk_mul, nIsub, nIrem, nIdiv, nIand1, nIand3, nIand7, nIand31, nIshr, nIle, nIlt, nIeq, nIc, vpI, nIm1, m1nI, m1lt, nIlm, m1le, nIlem, nIneg, u2_ss, u2_nn, u2_kk, nIm1n, m1nIn, m1ltn, nIlmn, m1len, nIlemn] at c2
    rw [hm.2.1] at c2
    exact hlp 25 0 0 rfl (by decide) (Or.inr ⟨rfl, by unfold isN; omega⟩)
  · rw [h7, nIc (by omega), e4] at c2
    simp (disch := omega) only [nlit, natrem, nIrm, nIam, nIam',  nI_add, pk_mul, nIsub, nIrem, nIdiv, nIand1, nIand3, nIand7, nIand31, nIshr, nIle, nIlt, nIeq, nIc, vpI, nIm1, m1nI, m1lt, nIlm, m1le, nIlem, nIneg, u2_ss, u2_nn, u2_kk, nIm1n, m1nIn, m1ltn, nIlmn, m1len, nIlemn] at c2
    rw [hm.2.1] at c2
    exact hlp 25 0 1 rfl (by decide) (Or.inl ⟨rfl, c2, fun j hj => absurd hj (Nat.not_lt_zero _)⟩)
theorem isNameM_f {d : Nat} {sx : Sx} {I : Ints} {L : Lngs} {R : Rfs} {q : Q3} {v : Nat} (hv : isF v) (h8 : I 92 8 = nI v) (h : q (some (.int 0)) I L R) : E0 mX12_isName (d + 1) sx [.ref 92] I L R q := by
  have hlp : ∀ n k : Nat, n = 25 - k → k ≤ 25 → Y mX12_isName (d + 1) sx 28 [(0, .ref 92), (1, .int 0), (2, .int (nI k))] [] I L R q := by
    intro n
    induction n with
    | zero =>
      intro k hn hk
      refine RX12_isName_28 ⟨fun c1 => ⟨Or.inl rfl, h⟩, fun c1 => ?_⟩
      exfalso; simp (disch := omega) only [nlit, natrem, nIrm, nIam, nIam',  nI_add, pk_mul, nIsub, nIrem, nIdiv, nIand1, nIand3, nIand7, nIand31, nIshr, nIle, nIlt, nIeq, nIc, vpI, nIm1, m1nI, m1lt, nIlm, m1le, nIlem, nIneg, u2_ss, u2_nn, u2_kk, nIm1n, m1nIn, m1ltn, nIlmn, m1len, nIlemn] at c1; omega
    | succ n ih =>
      intro k hn hk
      refine RX12_isName_28 ⟨fun c1 => ⟨Or.inl rfl, h⟩, fun c1 => ⟨fun _ => ?_, fun c2 => absurd rfl c2⟩⟩
      rw [show nI k + 1 = nI (k + 1) from nI_add k 1]
      exact ih (k + 1) (by omega) (by omega)
  refine EX12_isName ⟨fun _ => hlp 25 0 rfl (by decide), fun c => ?_⟩
  exfalso; rw [h8] at c; simp (disch := omega) only [nlit, natrem, nIrm, nIam, nIam',  nI_add, pk_mul, nIsub, nIrem, nIdiv, nIand1, nIand3, nIand7, nIand31, nIshr, nIle, nIlt, nIeq, nIc, vpI, nIm1, m1nI, m1lt, nIlm, m1le, nIlem, nIneg, u2_ss, u2_nn, u2_kk, nIm1n, m1nIn, m1ltn, nIlmn, m1len, nIlemn] at c; omega
theorem emitM_ok {d : Nat} {sx : Sx} {I : Ints} {L : Lngs} {R : Rfs} {q : Q3} {m o v : Nat} (h13 : I 92 13 = nI m) (hm : m < 1100) (h : q none (u2 (u2 (u2 I 99 (1100 + m) (nI o)) 100 (1100 + m) (nI v)) 92 13 (nI (m + 1))) L R) : E0 mX12_emit (d + 1) sx [.ref 92, .int (nI o), .int (nI v)] I L R q := by
  refine EX12_emit  ⟨?_, ⟨?_, ?_⟩⟩
  · (try simp (disch := omega) only [nlit, natrem, nIrm, nIam, nIam',  nI_add, pk_mul, nIsub, nIrem, nIdiv, nIand1, nIand3, nIand7, nIand31, nIshr, nIle, nIlt, nIeq, nIc, vpI, nIm1, m1nI, m1lt, nIlm, m1le, nIlem, nIneg, u2_ss, u2_nn, u2_kk, nIm1n, m1nIn, m1ltn, nIlmn, m1len, nIlemn, h13]) <;> (first | omega | trivial)
  · (try simp (disch := omega) only [nlit, natrem, nIrm, nIam, nIam',  nI_add, pk_mul, nIsub, nIrem, nIdiv, nIand1, nIand3, nIand7, nIand31, nIshr, nIle, nIlt, nIeq, nIc, vpI, nIm1, m1nI, m1lt, nIlm, m1le, nIlem, nIneg, u2_ss, u2_nn, u2_kk, nIm1n, m1nIn, m1ltn, nIlmn, m1len, nIlemn, h13]) <;> (first | omega | trivial)
  · (try simp (disch := omega) only [nlit, natrem, nIrm, nIam, nIam',  nI_add, pk_mul, nIsub, nIrem, nIdiv, nIand1, nIand3, nIand7, nIand31, nIshr, nIle, nIlt, nIeq, nIc, vpI, nIm1, m1nI, m1lt, nIlm, m1le, nIlem, nIneg, u2_ss, u2_nn, u2_kk, nIm1n, m1nIn, m1ltn, nIlmn, m1len, nIlemn, h13])
    exact h
