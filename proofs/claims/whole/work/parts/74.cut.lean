/-! the class cuts a text -/
def tkC (t : Tk) (i : Nat) (I : Ints) (L : Lngs) : Prop := I 28 i = nI t.1 ∧ I 29 i = nI t.2.1 ∧ (t.1 ≤ 30 → L 30 i = lN (pk 256 0 t.2.2)) ∧ (t.1 = 31 → L 30 i = lN (pk 10 48 t.2.2))
def TkC (ts : List Tk) (I : Ints) (L : Lngs) : Prop := I 27 3 = nI ts.length ∧ ∀ i, i < ts.length → tkC (ts.getD i eEnd) i I L
def KpT (I J : Ints) (L K : Lngs) : Prop := Kp (fun k => k ≠ 27 ∧ k ≠ 28 ∧ k ≠ 29) I J ∧ Kp (fun k => k ≠ 30) L K
theorem KpT.rf {I : Ints} {L : Lngs} : KpT I I L L := ⟨Kp.rf, Kp.rf⟩
theorem KpT.tr {I J M : Ints} {L K N : Lngs} (h : KpT I J L K) (h2 : KpT J M K N) : KpT I M L N := ⟨h.1.tr h2.1, h.2.tr h2.2⟩
theorem getT_l {l m : List Tk} {j : Nat} (h : j < l.length) : (l ++ m).getD j eEnd = l.getD j eEnd := by simp only [List.getD_eq_getElem?_getD, List.getElem?_append_left h]
theorem getT_r {l : List Tk} {t : Tk} {j : Nat} (h : j = l.length) : (l ++ [t]).getD j eEnd = t := by subst h; simp
theorem tp_lt {tp : List Nat} (h : ∀ x ∈ tp, x < 256) (j : Nat) : tp.getD j 0 < 256 := by
  rw [List.getD_eq_getElem?_getD]
  cases hx : tp[j]? with
  | none => decide
  | some v => exact h v (List.mem_of_getElem? hx)
theorem i2l {n : Nat} (h : n < 2147483648) : (nI n).toInt64 = lN n := by
  apply Int64.toInt_inj.mp
  rw [Int32.toInt_toInt64, nI_toInt (by omega), lN_toInt (by omega)]
theorem tput_ok {d : Nat} {sx : Sx} {I : Ints} {L : Lngs} {R : Rfs} {q : Q3} {ts : List Tk} (hT : TkC ts I L) (hl : ts.length < 1001) {s p : Nat} {w : List Nat} {v : Int64} (hv1 : s ≤ 30 → v = lN (pk 256 0 w)) (hv2 : s = 31 → v = lN (pk 10 48 w))
    (h : ∀ J K, TkC (ts ++ [(s, p, w)]) J K → KpT I J L K → q none J K R) : E0 mX10_put (d + 1) sx [.ref 27, .int (nI s), .int (nI p), .long v] I L R q := by
  have e3 := hT.1
  refine EX10_put  ⟨fun c1 => ?_, fun c1 => ⟨?_, ⟨?_, ⟨?_, ?_⟩⟩⟩⟩
  · (try simp (disch := omega) only [nlit, natrem, nIrm, nIam, nIam',  nI_add, pk_mul, nIsub, nIrem, nIdiv, nIand1, nIand3, nIand7, nIand31, nIshr, nIle, nIlt, nIeq, nIc, vpI, nIm1, m1nI, m1lt, nIlm, m1le, nIlem, nIneg, u2_ss, u2_nn, u2_kk, nIm1n, m1nIn, m1ltn, nIlmn, m1len, nIlemn, e3] at c1) <;> (first | omega | exact absurd rfl c1 | exact absurd trivial c1)
  · (try simp (disch := omega) only [nlit, natrem, nIrm, nIam, nIam',  nI_add, pk_mul, nIsub, nIrem, nIdiv, nIand1, nIand3, nIand7, nIand31, nIshr, nIle, nIlt, nIeq, nIc, vpI, nIm1, m1nI, m1lt, nIlm, m1le, nIlem, nIneg, u2_ss, u2_nn, u2_kk, nIm1n, m1nIn, m1ltn, nIlmn, m1len, nIlemn, e3] at c1) <;> (try simp (disch := omega) only [nlit, natrem, nIrm, nIam, nIam',  nI_add, pk_mul, nIsub, nIrem, nIdiv, nIand1, nIand3, nIand7, nIand31, nIshr, nIle, nIlt, nIeq, nIc, vpI, nIm1, m1nI, m1lt, nIlm, m1le, nIlem, nIneg, u2_ss, u2_nn, u2_kk, nIm1n, m1nIn, m1ltn, nIlmn, m1len, nIlemn, e3]) <;> (first | omega | trivial)
  · (try simp (disch := omega) only [nlit, natrem, nIrm, nIam, nIam',  nI_add, pk_mul, nIsub, nIrem, nIdiv, nIand1, nIand3, nIand7, nIand31, nIshr, nIle, nIlt, nIeq, nIc, vpI, nIm1, m1nI, m1lt, nIlm, m1le, nIlem, nIneg, u2_ss, u2_nn, u2_kk, nIm1n, m1nIn, m1ltn, nIlmn, m1len, nIlemn, e3] at c1) <;> (try simp (disch := omega) only [nlit, natrem, nIrm, nIam, nIam',  nI_add, pk_mul, nIsub, nIrem, nIdiv, nIand1, nIand3, nIand7, nIand31, nIshr, nIle, nIlt, nIeq, nIc, vpI, nIm1, m1nI, m1lt, nIlm, m1le, nIlem, nIneg, u2_ss, u2_nn, u2_kk, nIm1n, m1nIn, m1ltn, nIlmn, m1len, nIlemn, e3]) <;> (first | omega | trivial)
  · (try simp (disch := omega) only [nlit, natrem, nIrm, nIam, nIam',  nI_add, pk_mul, nIsub, nIrem, nIdiv, nIand1, nIand3, nIand7, nIand31, nIshr, nIle, nIlt, nIeq, nIc, vpI, nIm1, m1nI, m1lt, nIlm, m1le, nIlem, nIneg, u2_ss, u2_nn, u2_kk, nIm1n, m1nIn, m1ltn, nIlmn, m1len, nIlemn, e3] at c1) <;> (try simp (disch := omega) only [nlit, natrem, nIrm, nIam, nIam',  nI_add, pk_mul, nIsub, nIrem, nIdiv, nIand1, nIand3, nIand7, nIand31, nIshr, nIle, nIlt, nIeq, nIc, vpI, nIm1, m1nI, m1lt, nIlm, m1le, nIlem, nIneg, u2_ss, u2_nn, u2_kk, nIm1n, m1nIn, m1ltn, nIlmn, m1len, nIlemn, e3]) <;> (first | omega | trivial)
  · (try simp (disch := omega) only [nlit, natrem, nIrm, nIam, nIam',  nI_add, pk_mul, nIsub, nIrem, nIdiv, nIand1, nIand3, nIand7, nIand31, nIshr, nIle, nIlt, nIeq, nIc, vpI, nIm1, m1nI, m1lt, nIlm, m1le, nIlem, nIneg, u2_ss, u2_nn, u2_kk, nIm1n, m1nIn, m1ltn, nIlmn, m1len, nIlemn, e3] at c1); (try simp (disch := omega) only [nlit, natrem, nIrm, nIam, nIam',  nI_add, pk_mul, nIsub, nIrem, nIdiv, nIand1, nIand3, nIand7, nIand31, nIshr, nIle, nIlt, nIeq, nIc, vpI, nIm1, m1nI, m1lt, nIlm, m1le, nIlem, nIneg, u2_ss, u2_nn, u2_kk, nIm1n, m1nIn, m1ltn, nIlmn, m1len, nIlemn, e3])
    refine h _ _ ⟨?_, fun i hi => ?_⟩ ⟨((Kp.rf.up (by simp)).up (by simp)).up (by simp), Kp.rf.up (by simp)⟩
    · rw [u2_ss, List.length_append]; rfl
    · rw [List.length_append, List.length_singleton] at hi
      by_cases e : i = ts.length
      · rw [getT_r e, e]
        refine ⟨?_, ?_, ?_, ?_⟩
        · rw [u2_nn _ _ _ _ (by decide), u2_nn _ _ _ _ (by decide), u2_ss]
        · rw [u2_nn _ _ _ _ (by decide), u2_ss]
        · intro hs; rw [u2_ss]; exact hv1 hs
        · intro hs; rw [u2_ss]; exact hv2 hs
      · rw [getT_l (by omega)]
        obtain ⟨k1, k2, k3, k4⟩ := hT.2 i (by omega)
        refine ⟨?_, ?_, ?_, ?_⟩
        · rw [u2_nn _ _ _ _ (by decide), u2_nn _ _ _ _ (by decide), u2_kk _ _ _ _ e]; exact k1
        · rw [u2_nn _ _ _ _ (by decide), u2_kk _ _ _ _ e, u2_nn _ _ _ _ (by decide)]; exact k2
        · rw [u2_kk _ _ _ _ e]; exact k3
        · rw [u2_kk _ _ _ _ e]; exact k4
theorem isLetterC_ok {d : Nat} {sx : Sx} {I : Ints} {L : Lngs} {R : Rfs} {q : Q3} {c : Nat} (hc : c < 1000) (ht : isL c = true → q (some (.int 1)) I L R) (hf : isL c = false → q (some (.int 0)) I L R) : E0 mX10_isLetter (d + 1) sx [.int (nI c)] I L R q := by
  refine EX10_isLetter  ⟨fun c1 => ?_, fun c1 => ⟨fun c2 => ?_, fun c2 => ?_⟩⟩
  · (try simp (disch := omega) only [nlit, natrem, nIrm, nIam, nIam',  nI_add, pk_mul, nIsub, nIrem, nIdiv, nIand1, nIand3, nIand7, nIand31, nIshr, nIle, nIlt, nIeq, nIc, vpI, nIm1, m1nI, m1lt, nIlm, m1le, nIlem, nIneg, u2_ss, u2_nn, u2_kk, nIm1n, m1nIn, m1ltn, nIlmn, m1len, nIlemn] at c1); (try simp (disch := omega) only [nlit, natrem, nIrm, nIam, nIam',  nI_add, pk_mul, nIsub, nIrem, nIdiv, nIand1, nIand3, nIand7, nIand31, nIshr, nIle, nIlt, nIeq, nIc, vpI, nIm1, m1nI, m1lt, nIlm, m1le, nIlem, nIneg, u2_ss, u2_nn, u2_kk, nIm1n, m1nIn, m1ltn, nIlmn, m1len, nIlemn])
    exact hf (by unfold isL; exact decide_eq_false (by omega))
  · (try simp (disch := omega) only [nlit, natrem, nIrm, nIam, nIam',  nI_add, pk_mul, nIsub, nIrem, nIdiv, nIand1, nIand3, nIand7, nIand31, nIshr, nIle, nIlt, nIeq, nIc, vpI, nIm1, m1nI, m1lt, nIlm, m1le, nIlem, nIneg, u2_ss, u2_nn, u2_kk, nIm1n, m1nIn, m1ltn, nIlmn, m1len, nIlemn] at c1 c2); (try simp (disch := omega) only [nlit, natrem, nIrm, nIam, nIam',  nI_add, pk_mul, nIsub, nIrem, nIdiv, nIand1, nIand3, nIand7, nIand31, nIshr, nIle, nIlt, nIeq, nIc, vpI, nIm1, m1nI, m1lt, nIlm, m1le, nIlem, nIneg, u2_ss, u2_nn, u2_kk, nIm1n, m1nIn, m1ltn, nIlmn, m1len, nIlemn])
    exact hf (by unfold isL; exact decide_eq_false (by omega))
  · (try simp (disch := omega) only [nlit, natrem, nIrm, nIam, nIam',  nI_add, pk_mul, nIsub, nIrem, nIdiv, nIand1, nIand3, nIand7, nIand31, nIshr, nIle, nIlt, nIeq, nIc, vpI, nIm1, m1nI, m1lt, nIlm, m1le, nIlem, nIneg, u2_ss, u2_nn, u2_kk, nIm1n, m1nIn, m1ltn, nIlmn, m1len, nIlemn] at c1 c2); (try simp (disch := omega) only [nlit, natrem, nIrm, nIam, nIam',  nI_add, pk_mul, nIsub, nIrem, nIdiv, nIand1, nIand3, nIand7, nIand31, nIshr, nIle, nIlt, nIeq, nIc, vpI, nIm1, m1nI, m1lt, nIlm, m1le, nIlem, nIneg, u2_ss, u2_nn, u2_kk, nIm1n, m1nIn, m1ltn, nIlmn, m1len, nIlemn])
    exact ht (by unfold isL; exact decide_eq_true (by omega))
theorem isDigitC_ok {d : Nat} {sx : Sx} {I : Ints} {L : Lngs} {R : Rfs} {q : Q3} {c : Nat} (hc : c < 1000) (ht : isD c = true → q (some (.int 1)) I L R) (hf : isD c = false → q (some (.int 0)) I L R) : E0 mX10_isDigit (d + 1) sx [.int (nI c)] I L R q := by
  refine EX10_isDigit  ⟨fun c1 => ?_, fun c1 => ⟨fun c2 => ?_, fun c2 => ?_⟩⟩
  · (try simp (disch := omega) only [nlit, natrem, nIrm, nIam, nIam',  nI_add, pk_mul, nIsub, nIrem, nIdiv, nIand1, nIand3, nIand7, nIand31, nIshr, nIle, nIlt, nIeq, nIc, vpI, nIm1, m1nI, m1lt, nIlm, m1le, nIlem, nIneg, u2_ss, u2_nn, u2_kk, nIm1n, m1nIn, m1ltn, nIlmn, m1len, nIlemn] at c1); (try simp (disch := omega) only [nlit, natrem, nIrm, nIam, nIam',  nI_add, pk_mul, nIsub, nIrem, nIdiv, nIand1, nIand3, nIand7, nIand31, nIshr, nIle, nIlt, nIeq, nIc, vpI, nIm1, m1nI, m1lt, nIlm, m1le, nIlem, nIneg, u2_ss, u2_nn, u2_kk, nIm1n, m1nIn, m1ltn, nIlmn, m1len, nIlemn])
    exact hf (by unfold isD; exact decide_eq_false (by omega))
  · (try simp (disch := omega) only [nlit, natrem, nIrm, nIam, nIam',  nI_add, pk_mul, nIsub, nIrem, nIdiv, nIand1, nIand3, nIand7, nIand31, nIshr, nIle, nIlt, nIeq, nIc, vpI, nIm1, m1nI, m1lt, nIlm, m1le, nIlem, nIneg, u2_ss, u2_nn, u2_kk, nIm1n, m1nIn, m1ltn, nIlmn, m1len, nIlemn] at c1 c2); (try simp (disch := omega) only [nlit, natrem, nIrm, nIam, nIam',  nI_add, pk_mul, nIsub, nIrem, nIdiv, nIand1, nIand3, nIand7, nIand31, nIshr, nIle, nIlt, nIeq, nIc, vpI, nIm1, m1nI, m1lt, nIlm, m1le, nIlem, nIneg, u2_ss, u2_nn, u2_kk, nIm1n, m1nIn, m1ltn, nIlmn, m1len, nIlemn])
    exact hf (by unfold isD; exact decide_eq_false (by omega))
  · (try simp (disch := omega) only [nlit, natrem, nIrm, nIam, nIam',  nI_add, pk_mul, nIsub, nIrem, nIdiv, nIand1, nIand3, nIand7, nIand31, nIshr, nIle, nIlt, nIeq, nIc, vpI, nIm1, m1nI, m1lt, nIlm, m1le, nIlem, nIneg, u2_ss, u2_nn, u2_kk, nIm1n, m1nIn, m1ltn, nIlmn, m1len, nIlemn] at c1 c2); (try simp (disch := omega) only [nlit, natrem, nIrm, nIam, nIam',  nI_add, pk_mul, nIsub, nIrem, nIdiv, nIand1, nIand3, nIand7, nIand31, nIshr, nIle, nIlt, nIeq, nIc, vpI, nIm1, m1nI, m1lt, nIlm, m1le, nIlem, nIneg, u2_ss, u2_nn, u2_kk, nIm1n, m1nIn, m1ltn, nIlmn, m1len, nIlemn])
    exact ht (by unfold isD; exact decide_eq_true (by omega))
theorem isSignC_ok {d : Nat} {sx : Sx} {I : Ints} {L : Lngs} {R : Rfs} {q : Q3} {c : Nat} (hc : c < 1000) (ht : isG c → q (some (.int 1)) I L R) (hf : ¬ isG c → q (some (.int 0)) I L R) : E0 mX10_isSign (d + 1) sx [.int (nI c)] I L R q := by
  refine EX10_isSign  ⟨fun c1 => ⟨fun c2 => ?_, fun c2 => ⟨fun c3 => ?_, fun c3 => ⟨fun c4 => ?_, fun c4 => ?_⟩⟩⟩, fun c1 => ⟨fun c2 => ?_, fun c2 => ⟨fun c3 => ?_, fun c3 => ⟨fun c4 => ?_, fun c4 => ⟨fun c5 => ?_, fun c5 => ?_⟩⟩⟩⟩⟩
  · (try simp (disch := omega) only [nlit, natrem, nIrm, nIam, nIam',  nI_add, pk_mul, nIsub, nIrem, nIdiv, nIand1, nIand3, nIand7, nIand31, nIshr, nIle, nIlt, nIeq, nIc, vpI, nIm1, m1nI, m1lt, nIlm, m1le, nIlem, nIneg, u2_ss, u2_nn, u2_kk, nIm1n, m1nIn, m1ltn, nIlmn, m1len, nIlemn] at c1 c2); (try simp (disch := omega) only [nlit, natrem, nIrm, nIam, nIam',  nI_add, pk_mul, nIsub, nIrem, nIdiv, nIand1, nIand3, nIand7, nIand31, nIshr, nIle, nIlt, nIeq, nIc, vpI, nIm1, m1nI, m1lt, nIlm, m1le, nIlem, nIneg, u2_ss, u2_nn, u2_kk, nIm1n, m1nIn, m1ltn, nIlmn, m1len, nIlemn])
    exact ht (by unfold isG; omega)
  · (try simp (disch := omega) only [nlit, natrem, nIrm, nIam, nIam',  nI_add, pk_mul, nIsub, nIrem, nIdiv, nIand1, nIand3, nIand7, nIand31, nIshr, nIle, nIlt, nIeq, nIc, vpI, nIm1, m1nI, m1lt, nIlm, m1le, nIlem, nIneg, u2_ss, u2_nn, u2_kk, nIm1n, m1nIn, m1ltn, nIlmn, m1len, nIlemn] at c1 c2 c3); (try simp (disch := omega) only [nlit, natrem, nIrm, nIam, nIam',  nI_add, pk_mul, nIsub, nIrem, nIdiv, nIand1, nIand3, nIand7, nIand31, nIshr, nIle, nIlt, nIeq, nIc, vpI, nIm1, m1nI, m1lt, nIlm, m1le, nIlem, nIneg, u2_ss, u2_nn, u2_kk, nIm1n, m1nIn, m1ltn, nIlmn, m1len, nIlemn])
    exact hf (by unfold isG; omega)
  · (try simp (disch := omega) only [nlit, natrem, nIrm, nIam, nIam',  nI_add, pk_mul, nIsub, nIrem, nIdiv, nIand1, nIand3, nIand7, nIand31, nIshr, nIle, nIlt, nIeq, nIc, vpI, nIm1, m1nI, m1lt, nIlm, m1le, nIlem, nIneg, u2_ss, u2_nn, u2_kk, nIm1n, m1nIn, m1ltn, nIlmn, m1len, nIlemn] at c1 c2 c3 c4); (try simp (disch := omega) only [nlit, natrem, nIrm, nIam, nIam',  nI_add, pk_mul, nIsub, nIrem, nIdiv, nIand1, nIand3, nIand7, nIand31, nIshr, nIle, nIlt, nIeq, nIc, vpI, nIm1, m1nI, m1lt, nIlm, m1le, nIlem, nIneg, u2_ss, u2_nn, u2_kk, nIm1n, m1nIn, m1ltn, nIlmn, m1len, nIlemn])
    exact hf (by unfold isG; omega)
  · (try simp (disch := omega) only [nlit, natrem, nIrm, nIam, nIam',  nI_add, pk_mul, nIsub, nIrem, nIdiv, nIand1, nIand3, nIand7, nIand31, nIshr, nIle, nIlt, nIeq, nIc, vpI, nIm1, m1nI, m1lt, nIlm, m1le, nIlem, nIneg, u2_ss, u2_nn, u2_kk, nIm1n, m1nIn, m1ltn, nIlmn, m1len, nIlemn] at c1 c2 c3 c4); (try simp (disch := omega) only [nlit, natrem, nIrm, nIam, nIam',  nI_add, pk_mul, nIsub, nIrem, nIdiv, nIand1, nIand3, nIand7, nIand31, nIshr, nIle, nIlt, nIeq, nIc, vpI, nIm1, m1nI, m1lt, nIlm, m1le, nIlem, nIneg, u2_ss, u2_nn, u2_kk, nIm1n, m1nIn, m1ltn, nIlmn, m1len, nIlemn])
    exact ht (by unfold isG; omega)
  · (try simp (disch := omega) only [nlit, natrem, nIrm, nIam, nIam',  nI_add, pk_mul, nIsub, nIrem, nIdiv, nIand1, nIand3, nIand7, nIand31, nIshr, nIle, nIlt, nIeq, nIc, vpI, nIm1, m1nI, m1lt, nIlm, m1le, nIlem, nIneg, u2_ss, u2_nn, u2_kk, nIm1n, m1nIn, m1ltn, nIlmn, m1len, nIlemn] at c1 c2); (try simp (disch := omega) only [nlit, natrem, nIrm, nIam, nIam',  nI_add, pk_mul, nIsub, nIrem, nIdiv, nIand1, nIand3, nIand7, nIand31, nIshr, nIle, nIlt, nIeq, nIc, vpI, nIm1, m1nI, m1lt, nIlm, m1le, nIlem, nIneg, u2_ss, u2_nn, u2_kk, nIm1n, m1nIn, m1ltn, nIlmn, m1len, nIlemn])
    exact ht (by unfold isG; omega)
  · (try simp (disch := omega) only [nlit, natrem, nIrm, nIam, nIam',  nI_add, pk_mul, nIsub, nIrem, nIdiv, nIand1, nIand3, nIand7, nIand31, nIshr, nIle, nIlt, nIeq, nIc, vpI, nIm1, m1nI, m1lt, nIlm, m1le, nIlem, nIneg, u2_ss, u2_nn, u2_kk, nIm1n, m1nIn, m1ltn, nIlmn, m1len, nIlemn] at c1 c2 c3); (try simp (disch := omega) only [nlit, natrem, nIrm, nIam, nIam',  nI_add, pk_mul, nIsub, nIrem, nIdiv, nIand1, nIand3, nIand7, nIand31, nIshr, nIle, nIlt, nIeq, nIc, vpI, nIm1, m1nI, m1lt, nIlm, m1le, nIlem, nIneg, u2_ss, u2_nn, u2_kk, nIm1n, m1nIn, m1ltn, nIlmn, m1len, nIlemn])
    exact ht (by unfold isG; omega)
  · (try simp (disch := omega) only [nlit, natrem, nIrm, nIam, nIam',  nI_add, pk_mul, nIsub, nIrem, nIdiv, nIand1, nIand3, nIand7, nIand31, nIshr, nIle, nIlt, nIeq, nIc, vpI, nIm1, m1nI, m1lt, nIlm, m1le, nIlem, nIneg, u2_ss, u2_nn, u2_kk, nIm1n, m1nIn, m1ltn, nIlmn, m1len, nIlemn] at c1 c2 c3 c4); (try simp (disch := omega) only [nlit, natrem, nIrm, nIam, nIam',  nI_add, pk_mul, nIsub, nIrem, nIdiv, nIand1, nIand3, nIand7, nIand31, nIshr, nIle, nIlt, nIeq, nIc, vpI, nIm1, m1nI, m1lt, nIlm, m1le, nIlem, nIneg, u2_ss, u2_nn, u2_kk, nIm1n, m1nIn, m1ltn, nIlmn, m1len, nIlemn])
    exact hf (by unfold isG; omega)
  · (try simp (disch := omega) only [nlit, natrem, nIrm, nIam, nIam',  nI_add, pk_mul, nIsub, nIrem, nIdiv, nIand1, nIand3, nIand7, nIand31, nIshr, nIle, nIlt, nIeq, nIc, vpI, nIm1, m1nI, m1lt, nIlm, m1le, nIlem, nIneg, u2_ss, u2_nn, u2_kk, nIm1n, m1nIn, m1ltn, nIlmn, m1len, nIlemn] at c1 c2 c3 c4 c5); (try simp (disch := omega) only [nlit, natrem, nIrm, nIam, nIam',  nI_add, pk_mul, nIsub, nIrem, nIdiv, nIand1, nIand3, nIand7, nIand31, nIshr, nIle, nIlt, nIeq, nIc, vpI, nIm1, m1nI, m1lt, nIlm, m1le, nIlem, nIneg, u2_ss, u2_nn, u2_kk, nIm1n, m1nIn, m1ltn, nIlmn, m1len, nIlemn])
    exact hf (by unfold isG; omega)
  · (try simp (disch := omega) only [nlit, natrem, nIrm, nIam, nIam',  nI_add, pk_mul, nIsub, nIrem, nIdiv, nIand1, nIand3, nIand7, nIand31, nIshr, nIle, nIlt, nIeq, nIc, vpI, nIm1, m1nI, m1lt, nIlm, m1le, nIlem, nIneg, u2_ss, u2_nn, u2_kk, nIm1n, m1nIn, m1ltn, nIlmn, m1len, nIlemn] at c1 c2 c3 c4 c5); (try simp (disch := omega) only [nlit, natrem, nIrm, nIam, nIam',  nI_add, pk_mul, nIsub, nIrem, nIdiv, nIand1, nIand3, nIand7, nIand31, nIshr, nIle, nIlt, nIeq, nIc, vpI, nIm1, m1nI, m1lt, nIlm, m1le, nIlem, nIneg, u2_ss, u2_nn, u2_kk, nIm1n, m1nIn, m1ltn, nIlmn, m1len, nIlemn])
    exact ht (by unfold isG; omega)
theorem sortOfWord_ok {d : Nat} {sx : Sx} {I : Ints} {L : Lngs} {R : Rfs} {q : Q3} {w : List Nat} (hw : wOk w) (h : q (some (.int (nI (wdF w 28 0)))) I L R) : E0 mX10_sortOfWord (d + 5) sx [.long (lN (pk 256 0 w))] I L R q := by
  have hlp : ∀ n k : Nat, n = 28 - k → k ≤ 28 → wdF w 28 0 = wdF w n k → Y mX10_sortOfWord (d + 5) sx 2 [(0, .long (lN (pk 256 0 w))), (2, .int (nI k))] [] I L R q := by
    intro n
    induction n with
    | zero =>
      intro k hn hk e
      refine RX10_sortOfWord_2  ⟨fun c1 => ?_, fun c1 => ?_⟩
      · (try simp (disch := omega) only [nlit, natrem, nIrm, nIam, nIam',  nI_add, pk_mul, nIsub, nIrem, nIdiv, nIand1, nIand3, nIand7, nIand31, nIshr, nIle, nIlt, nIeq, nIc, vpI, nIm1, m1nI, m1lt, nIlm, m1le, nIlem, nIneg, u2_ss, u2_nn, u2_kk, nIm1n, m1nIn, m1ltn, nIlmn, m1len, nIlemn] at c1); (try simp (disch := omega) only [nlit, natrem, nIrm, nIam, nIam',  nI_add, pk_mul, nIsub, nIrem, nIdiv, nIand1, nIand3, nIand7, nIand31, nIshr, nIle, nIlt, nIeq, nIc, vpI, nIm1, m1nI, m1lt, nIlm, m1le, nIlem, nIneg, u2_ss, u2_nn, u2_kk, nIm1n, m1nIn, m1ltn, nIlmn, m1len, nIlemn])
        rw [e] at h
        exact h
      · (try simp (disch := omega) only [nlit, natrem, nIrm, nIam, nIam',  nI_add, pk_mul, nIsub, nIrem, nIdiv, nIand1, nIand3, nIand7, nIand31, nIshr, nIle, nIlt, nIeq, nIc, vpI, nIm1, m1nI, m1lt, nIlm, m1le, nIlem, nIneg, u2_ss, u2_nn, u2_kk, nIm1n, m1nIn, m1ltn, nIlmn, m1len, nIlemn] at c1); (try simp (disch := omega) only [nlit, natrem, nIrm, nIam, nIam',  nI_add, pk_mul, nIsub, nIrem, nIdiv, nIand1, nIand3, nIand7, nIand31, nIshr, nIle, nIlt, nIeq, nIc, vpI, nIm1, m1nI, m1lt, nIlm, m1le, nIlem, nIneg, u2_ss, u2_nn, u2_kk, nIm1n, m1nIn, m1ltn, nIlmn, m1len, nIlemn])
        omega
    | succ n ih =>
      intro k hn hk e
      refine RX10_sortOfWord_2  ⟨fun c1 => ?_, fun c1 => ?_⟩
      · (try simp (disch := omega) only [nlit, natrem, nIrm, nIam, nIam',  nI_add, pk_mul, nIsub, nIrem, nIdiv, nIand1, nIand3, nIand7, nIand31, nIshr, nIle, nIlt, nIeq, nIc, vpI, nIm1, m1nI, m1lt, nIlm, m1le, nIlem, nIneg, u2_ss, u2_nn, u2_kk, nIm1n, m1nIn, m1ltn, nIlmn, m1len, nIlemn] at c1); (try simp (disch := omega) only [nlit, natrem, nIrm, nIam, nIam',  nI_add, pk_mul, nIsub, nIrem, nIdiv, nIand1, nIand3, nIand7, nIand31, nIshr, nIle, nIlt, nIeq, nIc, vpI, nIm1, m1nI, m1lt, nIlm, m1le, nIlem, nIneg, u2_ss, u2_nn, u2_kk, nIm1n, m1nIn, m1ltn, nIlmn, m1len, nIlemn])
        omega
      · (try simp (disch := omega) only [nlit, natrem, nIrm, nIam, nIam',  nI_add, pk_mul, nIsub, nIrem, nIdiv, nIand1, nIand3, nIand7, nIand31, nIshr, nIle, nIlt, nIeq, nIc, vpI, nIm1, m1nI, m1lt, nIlm, m1le, nIlem, nIneg, u2_ss, u2_nn, u2_kk, nIm1n, m1nIn, m1ltn, nIlmn, m1len, nIlemn] at c1); (try simp (disch := omega) only [nlit, natrem, nIrm, nIam, nIam',  nI_add, pk_mul, nIsub, nIrem, nIdiv, nIand1, nIand3, nIand7, nIand31, nIshr, nIle, nIlt, nIeq, nIc, vpI, nIm1, m1nI, m1lt, nIlm, m1le, nIlem, nIneg, u2_ss, u2_nn, u2_kk, nIm1n, m1nIn, m1ltn, nIlmn, m1len, nIlemn])
        refine lettersOfWord_ok (by omega) ?_
        have hq := pw_eq (b := 256) (s := 0) (by decide) (by decide) (by decide) (wds_ok (k := k) (by omega)) hw
        refine RX10_sortOfWord_12 ⟨fun c1 => ?_, fun c1 => ?_⟩
        · rw [show nI k + 1 = nI (k + 1) from nI_add k 1]
          refine ih (k + 1) (by omega) (by omega) ?_
          rw [e]
          show (if _ then _ else _) = _
          rw [if_neg (fun e2 => c1 ((lg_cmp_eq _ _).mpr (hq.mpr e2)))]
        · have e2 := hq.mp ((lg_cmp_eq _ _).mp c1)
          have e3 : wdF w (n + 1) k = k := by show (if _ then _ else _) = _; rw [if_pos e2]
          rw [e, e3] at h
          exact h
  exact EX10_sortOfWord (hlp 28 0 rfl (by decide) rfl)
theorem sh_or {n c : Nat} (hn : n < 2 ^ 56) (hc : c < 256) : (lN n <<< ((nI 8).toInt64 &&& 63)) ||| (nI c).toInt64 = lN (n * 256 + (c - 0)) := by
  rw [wb_shl n (by decide), i2l (by omega), wb_or (by omega) (by omega), Nat.sub_zero]
  congr 1
  have := Nat.shiftLeft_add_eq_or_of_lt (i := 8) (b := c) (by omega) n
  rw [Nat.shiftLeft_eq] at this
  exact this.symm
theorem putWord_ok {d : Nat} {sx : Sx} {I : Ints} {L : Lngs} {R : Rfs} {q : Q3} {tp : List Nat} (hl : tp.length ≤ 1000) (hch : ∀ x ∈ tp, x < 256) (hA : ALo I 1 0 tp) {ts : List Tk} (hT : TkC ts I L) (hts : ts.length < 1001) {p : Nat} (hp : p < tp.length)
    (h : ∀ J K, TkC (ts ++ [(srtW (run tp isL p), p, run tp isL p)]) J K → KpT I J L K → q (some (.int (nI (p + (run tp isL p).length)))) J K R) : E0 mX10_putWord (d + 6) sx [.ref 27, .ref 1, .int (nI tp.length), .int (nI p)] I L R q := by
  have hrl := run_le tp isL p
  have hend : ∀ v5, ((run tp isL p).length ≤ 8 → v5 = lN (pk 256 0 (run tp isL p))) → ∀ s, s = srtW (run tp isL p) → Y mX10_putWord (d + 6) sx 61 [(3, .int (nI p)), (4, .int (nI (p + (run tp isL p).length))), (5, .long v5)] [.int (nI s), .ref 27] I L R q := by
    intro v5 hv s hs
    refine RX10_putWord_61 (tput_ok (w := run tp isL p) hT hts (fun hs30 => hv ?_) (fun h31 => ?_) (fun J K hJ hK => RX10_putWord_67 (h J K (by rw [← hs]; exact hJ) hK)))
    · rw [hs] at hs30
      unfold srtW at hs30
      split at hs30
      · assumption
      · omega
    · rw [hs] at h31
      unfold srtW at h31
      split at h31
      · rcases wdF_le (run tp isL p) 28 0 (by omega) with hh | hh <;> omega
      · omega
  have hend2 : ∀ v5, ((run tp isL p).length ≤ 8 → v5 = lN (pk 256 0 (run tp isL p))) → (run tp isL p).length ≤ 8 → E0 mX10_sortOfWord (d + 5) sx [.long v5] I L R (fun r J K T => Y mX10_putWord (d + 6) sx 61 [(3, .int (nI p)), (4, .int (nI (p + (run tp isL p).length))), (5, .long v5)] (r.toList ++ [.ref 27]) J K T q) := by
    intro v5 hv h8
    have hh := hend v5 hv _ rfl
    have e : srtW (run tp isL p) = wdF (run tp isL p) 28 0 := if_pos h8
    rw [e] at hh
    rw [hv h8] at hh ⊢
    exact sortOfWord_ok (run_wOk h8) hh
  have hlp : ∀ n k : Nat, ∀ v5, n = (run tp isL p).length - k → k ≤ (run tp isL p).length → (k ≤ 8 → v5 = lN (pk 256 0 ((run tp isL p).take k))) → Y mX10_putWord (d + 6) sx 6 [(0, .ref 27), (1, .ref 1), (2, .int (nI tp.length)), (3, .int (nI p)), (4, .int (nI (p + k))), (5, .long v5)] [] I L R q := by
    intro n
    induction n with
    | zero =>
      intro k v5 hn hk hv
      have ek : k = (run tp isL p).length := by omega
      subst ek
      rw [List.take_length] at hv
      have eA : p + (run tp isL p).length < tp.length → I 1 (p + (run tp isL p).length) = nI (tp.getD (p + (run tp isL p).length) 0) := fun hh => by have := hA _ hh; rw [Nat.zero_add] at this; exact this
      have hc8 : tp.getD (p + (run tp isL p).length) 0 < 256 := tp_lt hch _
      refine RX10_putWord_6  ⟨fun c1 => ⟨fun c2 => ?_, fun c2 => ?_⟩, fun c1 => ⟨?_, ?_⟩⟩
      · (try simp (disch := omega) only [nlit, natrem, nIrm, nIam, nIam',  nI_add, pk_mul, nIsub, nIrem, nIdiv, nIand1, nIand3, nIand7, nIand31, nIshr, nIle, nIlt, nIeq, nIc, vpI, nIm1, m1nI, m1lt, nIlm, m1le, nIlem, nIneg, u2_ss, u2_nn, u2_kk, nIm1n, m1nIn, m1ltn, nIlmn, m1len, nIlemn, Nat.add_sub_cancel_left] at c1 c2); (try simp (disch := omega) only [nlit, natrem, nIrm, nIam, nIam',  nI_add, pk_mul, nIsub, nIrem, nIdiv, nIand1, nIand3, nIand7, nIand31, nIshr, nIle, nIlt, nIeq, nIc, vpI, nIm1, m1nI, m1lt, nIlm, m1le, nIlem, nIneg, u2_ss, u2_nn, u2_kk, nIm1n, m1nIn, m1ltn, nIlmn, m1len, nIlemn, Nat.add_sub_cancel_left])
        exact hend2 v5 hv (by omega)
      · (try simp (disch := omega) only [nlit, natrem, nIrm, nIam, nIam',  nI_add, pk_mul, nIsub, nIrem, nIdiv, nIand1, nIand3, nIand7, nIand31, nIshr, nIle, nIlt, nIeq, nIc, vpI, nIm1, m1nI, m1lt, nIlm, m1le, nIlem, nIneg, u2_ss, u2_nn, u2_kk, nIm1n, m1nIn, m1ltn, nIlmn, m1len, nIlemn, Nat.add_sub_cancel_left] at c1 c2); (try simp (disch := omega) only [nlit, natrem, nIrm, nIam, nIam',  nI_add, pk_mul, nIsub, nIrem, nIdiv, nIand1, nIand3, nIand7, nIand31, nIshr, nIle, nIlt, nIeq, nIc, vpI, nIm1, m1nI, m1lt, nIlm, m1le, nIlem, nIneg, u2_ss, u2_nn, u2_kk, nIm1n, m1nIn, m1ltn, nIlmn, m1len, nIlemn, Nat.add_sub_cancel_left])
        have hh := hend v5 hv 32 (by unfold srtW; rw [if_neg (by omega)])
        refine tput_ok (s := 32) (w := run tp isL p) hT hts (fun h30 => by omega) (fun h31 => by omega) (fun J K hJ hK => RX10_putWord_67 (h J K ?_ hK))
        rw [show srtW (run tp isL p) = 32 by unfold srtW; rw [if_neg (by omega)]]
        exact hJ
      · (try simp (disch := omega) only [nlit, natrem, nIrm, nIam, nIam',  nI_add, pk_mul, nIsub, nIrem, nIdiv, nIand1, nIand3, nIand7, nIand31, nIshr, nIle, nIlt, nIeq, nIc, vpI, nIm1, m1nI, m1lt, nIlm, m1le, nIlem, nIneg, u2_ss, u2_nn, u2_kk, nIm1n, m1nIn, m1ltn, nIlmn, m1len, nIlemn, Nat.add_sub_cancel_left] at c1) <;> (try simp (disch := omega) only [nlit, natrem, nIrm, nIam, nIam',  nI_add, pk_mul, nIsub, nIrem, nIdiv, nIand1, nIand3, nIand7, nIand31, nIshr, nIle, nIlt, nIeq, nIc, vpI, nIm1, m1nI, m1lt, nIlm, m1le, nIlem, nIneg, u2_ss, u2_nn, u2_kk, nIm1n, m1nIn, m1ltn, nIlmn, m1len, nIlemn, Nat.add_sub_cancel_left]) <;> (first | omega | trivial)
      · (try simp (disch := omega) only [nlit, natrem, nIrm, nIam, nIam',  nI_add, pk_mul, nIsub, nIrem, nIdiv, nIand1, nIand3, nIand7, nIand31, nIshr, nIle, nIlt, nIeq, nIc, vpI, nIm1, m1nI, m1lt, nIlm, m1le, nIlem, nIneg, u2_ss, u2_nn, u2_kk, nIm1n, m1nIn, m1ltn, nIlmn, m1len, nIlemn, Nat.add_sub_cancel_left] at c1); (try simp (disch := omega) only [nlit, natrem, nIrm, nIam, nIam',  nI_add, pk_mul, nIsub, nIrem, nIdiv, nIand1, nIand3, nIand7, nIand31, nIshr, nIle, nIlt, nIeq, nIc, vpI, nIm1, m1nI, m1lt, nIlm, m1le, nIlem, nIneg, u2_ss, u2_nn, u2_kk, nIm1n, m1nIn, m1ltn, nIlmn, m1len, nIlemn, Nat.add_sub_cancel_left])
        rw [eA (by omega)]
        refine isLetterC_ok (by omega) (fun hx => ?_) (fun hx => ?_)
        · rw [run_out (tp := tp) (P := isL) (p := p) (by omega)] at hx; cases hx
        · refine RX10_putWord_19 ⟨fun _ => ⟨fun c2 => ?_, fun c2 => ?_⟩, fun c1 => absurd rfl c1⟩
          · rw [nIsub (by omega), Nat.add_sub_cancel_left] at c2
            exact hend2 v5 hv ((nIle (b := 8) (by omega) (by decide)).mp c2)
          · rw [nIsub (by omega), Nat.add_sub_cancel_left] at c2
            exact hend v5 hv 32 (by unfold srtW; rw [if_neg (fun hh => c2 ((nIle (b := 8) (by omega) (by decide)).mpr hh))])
    | succ n ih =>
      intro k v5 hn hk hv
      have hin := run_in (tp := tp) (P := isL) (p := p) (k := k) (by omega)
      have eA : I 1 (p + k) = nI (tp.getD (p + k) 0) := by have := hA _ hin.1; rw [Nat.zero_add] at this; exact this
      have hc8 : tp.getD (p + k) 0 < 256 := tp_lt hch _
      refine RX10_putWord_6  ⟨fun c1 => ⟨fun c2 => ?_, fun c2 => ?_⟩, fun c1 => ⟨?_, ?_⟩⟩
      · (try simp (disch := omega) only [nlit, natrem, nIrm, nIam, nIam',  nI_add, pk_mul, nIsub, nIrem, nIdiv, nIand1, nIand3, nIand7, nIand31, nIshr, nIle, nIlt, nIeq, nIc, vpI, nIm1, m1nI, m1lt, nIlm, m1le, nIlem, nIneg, u2_ss, u2_nn, u2_kk, nIm1n, m1nIn, m1ltn, nIlmn, m1len, nIlemn, eA] at c1 c2); (try simp (disch := omega) only [nlit, natrem, nIrm, nIam, nIam',  nI_add, pk_mul, nIsub, nIrem, nIdiv, nIand1, nIand3, nIand7, nIand31, nIshr, nIle, nIlt, nIeq, nIc, vpI, nIm1, m1nI, m1lt, nIlm, m1le, nIlem, nIneg, u2_ss, u2_nn, u2_kk, nIm1n, m1nIn, m1ltn, nIlmn, m1len, nIlemn, eA])
        omega
      · (try simp (disch := omega) only [nlit, natrem, nIrm, nIam, nIam',  nI_add, pk_mul, nIsub, nIrem, nIdiv, nIand1, nIand3, nIand7, nIand31, nIshr, nIle, nIlt, nIeq, nIc, vpI, nIm1, m1nI, m1lt, nIlm, m1le, nIlem, nIneg, u2_ss, u2_nn, u2_kk, nIm1n, m1nIn, m1ltn, nIlmn, m1len, nIlemn, eA] at c1 c2); (try simp (disch := omega) only [nlit, natrem, nIrm, nIam, nIam',  nI_add, pk_mul, nIsub, nIrem, nIdiv, nIand1, nIand3, nIand7, nIand31, nIshr, nIle, nIlt, nIeq, nIc, vpI, nIm1, m1nI, m1lt, nIlm, m1le, nIlem, nIneg, u2_ss, u2_nn, u2_kk, nIm1n, m1nIn, m1ltn, nIlmn, m1len, nIlemn, eA])
        omega
      · (try simp (disch := omega) only [nlit, natrem, nIrm, nIam, nIam',  nI_add, pk_mul, nIsub, nIrem, nIdiv, nIand1, nIand3, nIand7, nIand31, nIshr, nIle, nIlt, nIeq, nIc, vpI, nIm1, m1nI, m1lt, nIlm, m1le, nIlem, nIneg, u2_ss, u2_nn, u2_kk, nIm1n, m1nIn, m1ltn, nIlmn, m1len, nIlemn, eA] at c1) <;> (try simp (disch := omega) only [nlit, natrem, nIrm, nIam, nIam',  nI_add, pk_mul, nIsub, nIrem, nIdiv, nIand1, nIand3, nIand7, nIand31, nIshr, nIle, nIlt, nIeq, nIc, vpI, nIm1, m1nI, m1lt, nIlm, m1le, nIlem, nIneg, u2_ss, u2_nn, u2_kk, nIm1n, m1nIn, m1ltn, nIlmn, m1len, nIlemn, eA]) <;> (first | omega | trivial)
      · (try simp (disch := omega) only [nlit, natrem, nIrm, nIam, nIam',  nI_add, pk_mul, nIsub, nIrem, nIdiv, nIand1, nIand3, nIand7, nIand31, nIshr, nIle, nIlt, nIeq, nIc, vpI, nIm1, m1nI, m1lt, nIlm, m1le, nIlem, nIneg, u2_ss, u2_nn, u2_kk, nIm1n, m1nIn, m1ltn, nIlmn, m1len, nIlemn, eA] at c1); (try simp (disch := omega) only [nlit, natrem, nIrm, nIam, nIam',  nI_add, pk_mul, nIsub, nIrem, nIdiv, nIand1, nIand3, nIand7, nIand31, nIshr, nIle, nIlt, nIeq, nIc, vpI, nIm1, m1nI, m1lt, nIlm, m1le, nIlem, nIneg, u2_ss, u2_nn, u2_kk, nIm1n, m1nIn, m1ltn, nIlmn, m1len, nIlemn, eA])
        refine isLetterC_ok (by omega) (fun hx => ?_) (fun hx => ?_)
        · refine RX10_putWord_19 ⟨fun c1 => absurd c1 (by decide), fun c1 => ⟨?_, ?_⟩⟩
          · simp (disch := omega) only [nlit, natrem, nIrm, nIam, nIam',  nI_add, pk_mul, nIsub, nIrem, nIdiv, nIand1, nIand3, nIand7, nIand31, nIshr, nIle, nIlt, nIeq, nIc, vpI, nIm1, m1nI, m1lt, nIlm, m1le, nIlem, nIneg, u2_ss, u2_nn, u2_kk, nIm1n, m1nIn, m1ltn, nIlmn, m1len, nIlemn]; omega
          · simp (disch := omega) only [nlit, natrem, nIrm, nIam, nIam',  nI_add, pk_mul, nIsub, nIrem, nIdiv, nIand1, nIand3, nIand7, nIand31, nIshr, nIle, nIlt, nIeq, nIc, vpI, nIm1, m1nI, m1lt, nIlm, m1le, nIlem, nIneg, u2_ss, u2_nn, u2_kk, nIm1n, m1nIn, m1ltn, nIlmn, m1len, nIlemn]
            rw [eA]
            refine ih (k + 1) _ (by omega) (by omega) (fun h8 => ?_)
            have hx7 : pk 256 0 ((run tp isL p).take k) < 2 ^ 56 := by
              have hlt := pw_lt (b := 256) (s := 0) (w := (run tp isL p).take k) (fun c hc => by have := run_mem (List.mem_of_mem_take hc); simp [isL] at this; omega)
              rw [List.length_take, Nat.min_eq_left (by omega)] at hlt
              exact Nat.lt_of_lt_of_le hlt (Nat.le_trans (Nat.pow_le_pow_right (by decide) (show k ≤ 7 by omega)) (by decide))
            rw [hv (by omega), sh_or hx7 hc8, take_s (by omega), pw_s, hin.2.2]
        · rw [hin.2.1] at hx; cases hx
  refine EX10_putWord  ?_
  · (try simp (disch := omega) only [nlit, natrem, nIrm, nIam, nIam',  nI_add, pk_mul, nIsub, nIrem, nIdiv, nIand1, nIand3, nIand7, nIand31, nIshr, nIle, nIlt, nIeq, nIc, vpI, nIm1, m1nI, m1lt, nIlm, m1le, nIlem, nIneg, u2_ss, u2_nn, u2_kk, nIm1n, m1nIn, m1ltn, nIlmn, m1len, nIlemn])
    exact hlp _ 0 0 rfl (Nat.zero_le _) (fun _ => rfl)
theorem putNumber_ok {d : Nat} {sx : Sx} {I : Ints} {L : Lngs} {R : Rfs} {q : Q3} {tp : List Nat} (hl : tp.length ≤ 1000) (hch : ∀ x ∈ tp, x < 256) (hA : ALo I 1 0 tp) {ts : List Tk} (hT : TkC ts I L) (hts : ts.length < 1001) {p : Nat} (hp : p < tp.length)
    (h : ∀ J K, TkC (ts ++ [(if (run tp isD p).length ≤ 4 then 31 else 32, p, run tp isD p)]) J K → KpT I J L K → q (some (.int (nI (p + (run tp isD p).length)))) J K R) : E0 mX10_putNumber (d + 2) sx [.ref 27, .ref 1, .int (nI tp.length), .int (nI p)] I L R q := by
  have hrl := run_le tp isD p
  have hlt4 : (run tp isD p).length ≤ 4 → pk 10 48 (run tp isD p) < 10000 := fun h4 => by
    have hlt := pw_lt (b := 10) (s := 48) (w := run tp isD p) (fun c hc => by have := run_mem hc; simp [isD] at this; omega)
    exact Nat.lt_of_lt_of_le hlt (Nat.le_trans (Nat.pow_le_pow_right (by decide) h4) (by decide))
  have hend1 : ∀ v5, ((run tp isD p).length ≤ 4 → v5 = nI (pk 10 48 (run tp isD p))) → (run tp isD p).length ≤ 4 → E0 mX10_put (d + 1) sx [.ref 27, .int (nI 31), .int (nI p), .long (Int32.toInt64 v5)] I L R (fun r J K T => Y mX10_putNumber (d + 2) sx 66 [(4, .int (nI (p + (run tp isD p).length)))] (r.toList ++ []) J K T q) := by
    intro v5 hv h4
    refine tput_ok (w := run tp isD p) hT hts (fun hh => by omega) (fun _ => ?_) (fun J K hJ hK => RX10_putNumber_66 (h J K ?_ hK))
    · rw [hv h4, i2l (by have := hlt4 h4; omega)]
    · rw [if_pos h4]; exact hJ
  have hend2 : ∀ v5, ¬ (run tp isD p).length ≤ 4 → E0 mX10_put (d + 1) sx [.ref 27, .int (nI 32), .int (nI p), .long v5] I L R (fun r J K T => Y mX10_putNumber (d + 2) sx 66 [(4, .int (nI (p + (run tp isD p).length)))] (r.toList ++ []) J K T q) := by
    intro v5 h4
    refine tput_ok (w := run tp isD p) hT hts (fun hh => by omega) (fun hh => by omega) (fun J K hJ hK => RX10_putNumber_66 (h J K ?_ hK))
    rw [if_neg h4]; exact hJ
  have hlp : ∀ n k : Nat, ∀ v5, n = (run tp isD p).length - k → k ≤ (run tp isD p).length → (k ≤ 4 → v5 = nI (pk 10 48 ((run tp isD p).take k))) → Y mX10_putNumber (d + 2) sx 6 [(0, .ref 27), (1, .ref 1), (2, .int (nI tp.length)), (3, .int (nI p)), (4, .int (nI (p + k))), (5, .int v5)] [] I L R q := by
    intro n
    induction n with
    | zero =>
      intro k v5 hn hk hv
      have ek : k = (run tp isD p).length := by omega
      subst ek
      rw [List.take_length] at hv
      have eA : p + (run tp isD p).length < tp.length → I 1 (p + (run tp isD p).length) = nI (tp.getD (p + (run tp isD p).length) 0) := fun hh => by have := hA _ hh; rw [Nat.zero_add] at this; exact this
      have hc8 : tp.getD (p + (run tp isD p).length) 0 < 256 := tp_lt hch _
      refine RX10_putNumber_6  ⟨fun c1 => ⟨fun c2 => ?_, fun c2 => ?_⟩, fun c1 => ⟨?_, ?_⟩⟩
      · (try simp (disch := omega) only [nlit, natrem, nIrm, nIam, nIam',  nI_add, pk_mul, nIsub, nIrem, nIdiv, nIand1, nIand3, nIand7, nIand31, nIshr, nIle, nIlt, nIeq, nIc, vpI, nIm1, m1nI, m1lt, nIlm, m1le, nIlem, nIneg, u2_ss, u2_nn, u2_kk, nIm1n, m1nIn, m1ltn, nIlmn, m1len, nIlemn, Nat.add_sub_cancel_left] at c1 c2); (try simp (disch := omega) only [nlit, natrem, nIrm, nIam, nIam',  nI_add, pk_mul, nIsub, nIrem, nIdiv, nIand1, nIand3, nIand7, nIand31, nIshr, nIle, nIlt, nIeq, nIc, vpI, nIm1, m1nI, m1lt, nIlm, m1le, nIlem, nIneg, u2_ss, u2_nn, u2_kk, nIm1n, m1nIn, m1ltn, nIlmn, m1len, nIlemn, Nat.add_sub_cancel_left])
        exact hend1 v5 hv (by omega)
      · (try simp (disch := omega) only [nlit, natrem, nIrm, nIam, nIam',  nI_add, pk_mul, nIsub, nIrem, nIdiv, nIand1, nIand3, nIand7, nIand31, nIshr, nIle, nIlt, nIeq, nIc, vpI, nIm1, m1nI, m1lt, nIlm, m1le, nIlem, nIneg, u2_ss, u2_nn, u2_kk, nIm1n, m1nIn, m1ltn, nIlmn, m1len, nIlemn, Nat.add_sub_cancel_left] at c1 c2); (try simp (disch := omega) only [nlit, natrem, nIrm, nIam, nIam',  nI_add, pk_mul, nIsub, nIrem, nIdiv, nIand1, nIand3, nIand7, nIand31, nIshr, nIle, nIlt, nIeq, nIc, vpI, nIm1, m1nI, m1lt, nIlm, m1le, nIlem, nIneg, u2_ss, u2_nn, u2_kk, nIm1n, m1nIn, m1ltn, nIlmn, m1len, nIlemn, Nat.add_sub_cancel_left])
        exact hend2 _ (by omega)
      · (try simp (disch := omega) only [nlit, natrem, nIrm, nIam, nIam',  nI_add, pk_mul, nIsub, nIrem, nIdiv, nIand1, nIand3, nIand7, nIand31, nIshr, nIle, nIlt, nIeq, nIc, vpI, nIm1, m1nI, m1lt, nIlm, m1le, nIlem, nIneg, u2_ss, u2_nn, u2_kk, nIm1n, m1nIn, m1ltn, nIlmn, m1len, nIlemn, Nat.add_sub_cancel_left] at c1) <;> (try simp (disch := omega) only [nlit, natrem, nIrm, nIam, nIam',  nI_add, pk_mul, nIsub, nIrem, nIdiv, nIand1, nIand3, nIand7, nIand31, nIshr, nIle, nIlt, nIeq, nIc, vpI, nIm1, m1nI, m1lt, nIlm, m1le, nIlem, nIneg, u2_ss, u2_nn, u2_kk, nIm1n, m1nIn, m1ltn, nIlmn, m1len, nIlemn, Nat.add_sub_cancel_left]) <;> (first | omega | trivial)
      · (try simp (disch := omega) only [nlit, natrem, nIrm, nIam, nIam',  nI_add, pk_mul, nIsub, nIrem, nIdiv, nIand1, nIand3, nIand7, nIand31, nIshr, nIle, nIlt, nIeq, nIc, vpI, nIm1, m1nI, m1lt, nIlm, m1le, nIlem, nIneg, u2_ss, u2_nn, u2_kk, nIm1n, m1nIn, m1ltn, nIlmn, m1len, nIlemn, Nat.add_sub_cancel_left] at c1); (try simp (disch := omega) only [nlit, natrem, nIrm, nIam, nIam',  nI_add, pk_mul, nIsub, nIrem, nIdiv, nIand1, nIand3, nIand7, nIand31, nIshr, nIle, nIlt, nIeq, nIc, vpI, nIm1, m1nI, m1lt, nIlm, m1le, nIlem, nIneg, u2_ss, u2_nn, u2_kk, nIm1n, m1nIn, m1ltn, nIlmn, m1len, nIlemn, Nat.add_sub_cancel_left])
        rw [eA (by omega)]
        refine isDigitC_ok (by omega) (fun hx => ?_) (fun hx => ?_)
        · rw [run_out (tp := tp) (P := isD) (p := p) (by omega)] at hx; cases hx
        · refine RX10_putNumber_19 ⟨fun _ => ⟨fun c2 => ?_, fun c2 => ?_⟩, fun c1 => absurd rfl c1⟩
          · rw [nIsub (by omega), Nat.add_sub_cancel_left] at c2
            exact hend1 v5 hv ((nIle (b := 4) (by omega) (by decide)).mp c2)
          · rw [nIsub (by omega), Nat.add_sub_cancel_left] at c2
            exact hend2 _ (fun hh => c2 ((nIle (b := 4) (by omega) (by decide)).mpr hh))
    | succ n ih =>
      intro k v5 hn hk hv
      have hin := run_in (tp := tp) (P := isD) (p := p) (k := k) (by omega)
      have eA : I 1 (p + k) = nI (tp.getD (p + k) 0) := by have := hA _ hin.1; rw [Nat.zero_add] at this; exact this
      have hc8 : tp.getD (p + k) 0 < 256 := tp_lt hch _
      refine RX10_putNumber_6  ⟨fun c1 => ⟨fun c2 => ?_, fun c2 => ?_⟩, fun c1 => ⟨?_, ?_⟩⟩
      · (try simp (disch := omega) only [nlit, natrem, nIrm, nIam, nIam',  nI_add, pk_mul, nIsub, nIrem, nIdiv, nIand1, nIand3, nIand7, nIand31, nIshr, nIle, nIlt, nIeq, nIc, vpI, nIm1, m1nI, m1lt, nIlm, m1le, nIlem, nIneg, u2_ss, u2_nn, u2_kk, nIm1n, m1nIn, m1ltn, nIlmn, m1len, nIlemn, eA] at c1 c2); (try simp (disch := omega) only [nlit, natrem, nIrm, nIam, nIam',  nI_add, pk_mul, nIsub, nIrem, nIdiv, nIand1, nIand3, nIand7, nIand31, nIshr, nIle, nIlt, nIeq, nIc, vpI, nIm1, m1nI, m1lt, nIlm, m1le, nIlem, nIneg, u2_ss, u2_nn, u2_kk, nIm1n, m1nIn, m1ltn, nIlmn, m1len, nIlemn, eA])
        omega
      · (try simp (disch := omega) only [nlit, natrem, nIrm, nIam, nIam',  nI_add, pk_mul, nIsub, nIrem, nIdiv, nIand1, nIand3, nIand7, nIand31, nIshr, nIle, nIlt, nIeq, nIc, vpI, nIm1, m1nI, m1lt, nIlm, m1le, nIlem, nIneg, u2_ss, u2_nn, u2_kk, nIm1n, m1nIn, m1ltn, nIlmn, m1len, nIlemn, eA] at c1 c2); (try simp (disch := omega) only [nlit, natrem, nIrm, nIam, nIam',  nI_add, pk_mul, nIsub, nIrem, nIdiv, nIand1, nIand3, nIand7, nIand31, nIshr, nIle, nIlt, nIeq, nIc, vpI, nIm1, m1nI, m1lt, nIlm, m1le, nIlem, nIneg, u2_ss, u2_nn, u2_kk, nIm1n, m1nIn, m1ltn, nIlmn, m1len, nIlemn, eA])
        omega
      · (try simp (disch := omega) only [nlit, natrem, nIrm, nIam, nIam',  nI_add, pk_mul, nIsub, nIrem, nIdiv, nIand1, nIand3, nIand7, nIand31, nIshr, nIle, nIlt, nIeq, nIc, vpI, nIm1, m1nI, m1lt, nIlm, m1le, nIlem, nIneg, u2_ss, u2_nn, u2_kk, nIm1n, m1nIn, m1ltn, nIlmn, m1len, nIlemn, eA] at c1) <;> (try simp (disch := omega) only [nlit, natrem, nIrm, nIam, nIam',  nI_add, pk_mul, nIsub, nIrem, nIdiv, nIand1, nIand3, nIand7, nIand31, nIshr, nIle, nIlt, nIeq, nIc, vpI, nIm1, m1nI, m1lt, nIlm, m1le, nIlem, nIneg, u2_ss, u2_nn, u2_kk, nIm1n, m1nIn, m1ltn, nIlmn, m1len, nIlemn, eA]) <;> (first | omega | trivial)
      · (try simp (disch := omega) only [nlit, natrem, nIrm, nIam, nIam',  nI_add, pk_mul, nIsub, nIrem, nIdiv, nIand1, nIand3, nIand7, nIand31, nIshr, nIle, nIlt, nIeq, nIc, vpI, nIm1, m1nI, m1lt, nIlm, m1le, nIlem, nIneg, u2_ss, u2_nn, u2_kk, nIm1n, m1nIn, m1ltn, nIlmn, m1len, nIlemn, eA] at c1); (try simp (disch := omega) only [nlit, natrem, nIrm, nIam, nIam',  nI_add, pk_mul, nIsub, nIrem, nIdiv, nIand1, nIand3, nIand7, nIand31, nIshr, nIle, nIlt, nIeq, nIc, vpI, nIm1, m1nI, m1lt, nIlm, m1le, nIlem, nIneg, u2_ss, u2_nn, u2_kk, nIm1n, m1nIn, m1ltn, nIlmn, m1len, nIlemn, eA])
        refine isDigitC_ok (by omega) (fun hx => ?_) (fun hx => ?_)
        · have h48 : 48 ≤ tp.getD (p + k) 0 ∧ tp.getD (p + k) 0 ≤ 57 := by simpa [isD] using hx
          refine RX10_putNumber_19 ⟨fun c1 => absurd c1 (by decide), fun c1 => ⟨?_, ?_⟩⟩
          · simp (disch := omega) only [nlit, natrem, nIrm, nIam, nIam',  nI_add, pk_mul, nIsub, nIrem, nIdiv, nIand1, nIand3, nIand7, nIand31, nIshr, nIle, nIlt, nIeq, nIc, vpI, nIm1, m1nI, m1lt, nIlm, m1le, nIlem, nIneg, u2_ss, u2_nn, u2_kk, nIm1n, m1nIn, m1ltn, nIlmn, m1len, nIlemn]; omega
          · simp (disch := omega) only [nlit, natrem, nIrm, nIam, nIam',  nI_add, pk_mul, nIsub, nIrem, nIdiv, nIand1, nIand3, nIand7, nIand31, nIshr, nIle, nIlt, nIeq, nIc, vpI, nIm1, m1nI, m1lt, nIlm, m1le, nIlem, nIneg, u2_ss, u2_nn, u2_kk, nIm1n, m1nIn, m1ltn, nIlmn, m1len, nIlemn]
            rw [eA]
            refine ih (k + 1) _ (by omega) (by omega) (fun h4 => ?_)
            rw [hv (by omega), take_s (by omega), pw_s, hin.2.2]
            simp (disch := omega) only [nlit, natrem, nIrm, nIam, nIam',  nI_add, pk_mul, nIsub, nIrem, nIdiv, nIand1, nIand3, nIand7, nIand31, nIshr, nIle, nIlt, nIeq, nIc, vpI, nIm1, m1nI, m1lt, nIlm, m1le, nIlem, nIneg, u2_ss, u2_nn, u2_kk, nIm1n, m1nIn, m1ltn, nIlmn, m1len, nIlemn]
        · rw [hin.2.1] at hx; cases hx
  refine EX10_putNumber  ?_
  · (try simp (disch := omega) only [nlit, natrem, nIrm, nIam, nIam',  nI_add, pk_mul, nIsub, nIrem, nIdiv, nIand1, nIand3, nIand7, nIand31, nIshr, nIle, nIlt, nIeq, nIc, vpI, nIm1, m1nI, m1lt, nIlm, m1le, nIlem, nIneg, u2_ss, u2_nn, u2_kk, nIm1n, m1nIn, m1ltn, nIlmn, m1len, nIlemn])
    exact hlp _ 0 0 rfl (Nat.zero_le _) (fun _ => rfl)
theorem cut_ok {d : Nat} {sx : Sx} {I : Ints} {L : Lngs} {R : Rfs} {q : Q3} {tp : List Nat} (hl : tp.length ≤ 1000) (hch : ∀ x ∈ tp, x < 256) (hA : ALo I 1 0 tp)
    (h : ∀ J K, TkC (toks tp) J K → KpT I J L K → q none J K R) : E0 mX10_cut (d + 7) sx [.ref 27, .ref 1, .int (nI tp.length)] I L R q := by
  have hfin : ∀ J K ts m, TkC ts J K → KpT I J L K → ts.length < 1001 → ts ++ [(33, tp.length, [])] = toks tp → m = nI tp.length → E0 mX10_put (d + 6) sx [.ref 27, .int (nI 33), .int m, .long 0] J K R (fun r J K T => Y mX10_cut (d + 7) sx 116 [] (r.toList ++ []) J K T q) := by
    intro J K ts m hT hK hlt e em
    rw [em]
    refine tput_ok (w := []) hT hlt (fun hh => by omega) (fun hh => by omega) (fun J2 K2 hJ2 hK2 => RX10_cut_116 (h J2 K2 ?_ (hK.tr hK2)))
    rw [← e]; exact hJ2
  have hlp : ∀ n p : Nat, ∀ ts J K, n ≤ tp.length → TkC ts J K → KpT I J L K → ts.length + n ≤ 1000 → p ≤ 1000 → ts ++ cutF tp n p = toks tp → Y mX10_cut (d + 7) sx 10 [(0, .ref 27), (1, .ref 1), (2, .int (nI tp.length)), (3, .int (nI p)), (4, .int (nI (tp.length - n)))] [] J K R q := by
    intro n
    induction n with
    | zero =>
      intro p ts J K hn hT hK hlt hp e
      refine RX10_cut_10  ⟨fun c1 => ?_, fun c1 => ⟨fun c2 => ?_, fun c2 => ⟨?_, ?_⟩⟩⟩
      · (try simp (disch := omega) only [nlit, natrem, nIrm, nIam, nIam',  nI_add, pk_mul, nIsub, nIrem, nIdiv, nIand1, nIand3, nIand7, nIand31, nIshr, nIle, nIlt, nIeq, nIc, vpI, nIm1, m1nI, m1lt, nIlm, m1le, nIlem, nIneg, u2_ss, u2_nn, u2_kk, nIm1n, m1nIn, m1ltn, nIlmn, m1len, nIlemn] at c1); (try simp (disch := omega) only [nlit, natrem, nIrm, nIam, nIam',  nI_add, pk_mul, nIsub, nIrem, nIdiv, nIand1, nIand3, nIand7, nIand31, nIshr, nIle, nIlt, nIeq, nIc, vpI, nIm1, m1nI, m1lt, nIlm, m1le, nIlem, nIneg, u2_ss, u2_nn, u2_kk, nIm1n, m1nIn, m1ltn, nIlmn, m1len, nIlemn])
        exact hfin J K ts _ hT hK (by omega) e rfl
      · (try simp (disch := omega) only [nlit, natrem, nIrm, nIam, nIam',  nI_add, pk_mul, nIsub, nIrem, nIdiv, nIand1, nIand3, nIand7, nIand31, nIshr, nIle, nIlt, nIeq, nIc, vpI, nIm1, m1nI, m1lt, nIlm, m1le, nIlem, nIneg, u2_ss, u2_nn, u2_kk, nIm1n, m1nIn, m1ltn, nIlmn, m1len, nIlemn] at c1 c2) <;> (first | omega | exact absurd rfl c1 | exact absurd trivial c1 | exact absurd rfl c2 | exact absurd trivial c2)
      · (try simp (disch := omega) only [nlit, natrem, nIrm, nIam, nIam',  nI_add, pk_mul, nIsub, nIrem, nIdiv, nIand1, nIand3, nIand7, nIand31, nIshr, nIle, nIlt, nIeq, nIc, vpI, nIm1, m1nI, m1lt, nIlm, m1le, nIlem, nIneg, u2_ss, u2_nn, u2_kk, nIm1n, m1nIn, m1ltn, nIlmn, m1len, nIlemn] at c1 c2) <;> (try simp (disch := omega) only [nlit, natrem, nIrm, nIam, nIam',  nI_add, pk_mul, nIsub, nIrem, nIdiv, nIand1, nIand3, nIand7, nIand31, nIshr, nIle, nIlt, nIeq, nIc, vpI, nIm1, m1nI, m1lt, nIlm, m1le, nIlem, nIneg, u2_ss, u2_nn, u2_kk, nIm1n, m1nIn, m1ltn, nIlmn, m1len, nIlemn]) <;> (first | omega | trivial)
      · (try simp (disch := omega) only [nlit, natrem, nIrm, nIam, nIam',  nI_add, pk_mul, nIsub, nIrem, nIdiv, nIand1, nIand3, nIand7, nIand31, nIshr, nIle, nIlt, nIeq, nIc, vpI, nIm1, m1nI, m1lt, nIlm, m1le, nIlem, nIneg, u2_ss, u2_nn, u2_kk, nIm1n, m1nIn, m1ltn, nIlmn, m1len, nIlemn] at c1 c2) <;> (first | omega | exact absurd rfl c1 | exact absurd trivial c1 | exact absurd rfl c2 | exact absurd trivial c2)
    | succ n ih =>
      intro p ts J K hn hT hK hlt hp e
      have hAJ : ALo J 1 0 tp := hA.congr (fun j => by rw [hK.1 1 (by decide)])
      have e4 : nI (tp.length - (n + 1)) + 1 = nI (tp.length - n) := by rw [show (1 : Int32) = nI 1 from rfl, nI_add]; congr 1; omega
      by_cases hpl : tp.length ≤ p
      · have e' : ts ++ [(33, tp.length, [])] = toks tp := by rw [← e]; unfold cutF; rw [if_pos hpl]
        refine RX10_cut_10  ⟨fun c1 => ?_, fun c1 => ⟨fun c2 => ?_, fun c2 => ⟨?_, ?_⟩⟩⟩
        · (try simp (disch := omega) only [nlit, natrem, nIrm, nIam, nIam',  nI_add, pk_mul, nIsub, nIrem, nIdiv, nIand1, nIand3, nIand7, nIand31, nIshr, nIle, nIlt, nIeq, nIc, vpI, nIm1, m1nI, m1lt, nIlm, m1le, nIlem, nIneg, u2_ss, u2_nn, u2_kk, nIm1n, m1nIn, m1ltn, nIlmn, m1len, nIlemn] at c1) <;> (first | omega | exact absurd rfl c1 | exact absurd trivial c1)
        · (try simp (disch := omega) only [nlit, natrem, nIrm, nIam, nIam',  nI_add, pk_mul, nIsub, nIrem, nIdiv, nIand1, nIand3, nIand7, nIand31, nIshr, nIle, nIlt, nIeq, nIc, vpI, nIm1, m1nI, m1lt, nIlm, m1le, nIlem, nIneg, u2_ss, u2_nn, u2_kk, nIm1n, m1nIn, m1ltn, nIlmn, m1len, nIlemn] at c1 c2); (try simp (disch := omega) only [nlit, natrem, nIrm, nIam, nIam',  nI_add, pk_mul, nIsub, nIrem, nIdiv, nIand1, nIand3, nIand7, nIand31, nIshr, nIle, nIlt, nIeq, nIc, vpI, nIm1, m1nI, m1lt, nIlm, m1le, nIlem, nIneg, u2_ss, u2_nn, u2_kk, nIm1n, m1nIn, m1ltn, nIlmn, m1len, nIlemn])
          exact hfin J K ts _ hT hK (by omega) e' rfl
        · (try simp (disch := omega) only [nlit, natrem, nIrm, nIam, nIam',  nI_add, pk_mul, nIsub, nIrem, nIdiv, nIand1, nIand3, nIand7, nIand31, nIshr, nIle, nIlt, nIeq, nIc, vpI, nIm1, m1nI, m1lt, nIlm, m1le, nIlem, nIneg, u2_ss, u2_nn, u2_kk, nIm1n, m1nIn, m1ltn, nIlmn, m1len, nIlemn] at c1 c2) <;> (try simp (disch := omega) only [nlit, natrem, nIrm, nIam, nIam',  nI_add, pk_mul, nIsub, nIrem, nIdiv, nIand1, nIand3, nIand7, nIand31, nIshr, nIle, nIlt, nIeq, nIc, vpI, nIm1, m1nI, m1lt, nIlm, m1le, nIlem, nIneg, u2_ss, u2_nn, u2_kk, nIm1n, m1nIn, m1ltn, nIlmn, m1len, nIlemn]) <;> (first | omega | trivial)
        · (try simp (disch := omega) only [nlit, natrem, nIrm, nIam, nIam',  nI_add, pk_mul, nIsub, nIrem, nIdiv, nIand1, nIand3, nIand7, nIand31, nIshr, nIle, nIlt, nIeq, nIc, vpI, nIm1, m1nI, m1lt, nIlm, m1le, nIlem, nIneg, u2_ss, u2_nn, u2_kk, nIm1n, m1nIn, m1ltn, nIlmn, m1len, nIlemn] at c1 c2) <;> (first | omega | exact absurd rfl c1 | exact absurd trivial c1 | exact absurd rfl c2 | exact absurd trivial c2)
      · have eA : J 1 p = nI (tp.getD p 0) := by have := hAJ p (by omega); rw [Nat.zero_add] at this; exact this
        have hc8 : tp.getD p 0 < 256 := tp_lt hch _
        refine RX10_cut_10  ⟨fun c1 => ?_, fun c1 => ⟨fun c2 => ?_, fun c2 => ⟨?_, ?_⟩⟩⟩
        · (try simp (disch := omega) only [nlit, natrem, nIrm, nIam, nIam',  nI_add, pk_mul, nIsub, nIrem, nIdiv, nIand1, nIand3, nIand7, nIand31, nIshr, nIle, nIlt, nIeq, nIc, vpI, nIm1, m1nI, m1lt, nIlm, m1le, nIlem, nIneg, u2_ss, u2_nn, u2_kk, nIm1n, m1nIn, m1ltn, nIlmn, m1len, nIlemn, eA] at c1) <;> (first | omega | exact absurd rfl c1 | exact absurd trivial c1)
        · (try simp (disch := omega) only [nlit, natrem, nIrm, nIam, nIam',  nI_add, pk_mul, nIsub, nIrem, nIdiv, nIand1, nIand3, nIand7, nIand31, nIshr, nIle, nIlt, nIeq, nIc, vpI, nIm1, m1nI, m1lt, nIlm, m1le, nIlem, nIneg, u2_ss, u2_nn, u2_kk, nIm1n, m1nIn, m1ltn, nIlmn, m1len, nIlemn, eA] at c1 c2); (try simp (disch := omega) only [nlit, natrem, nIrm, nIam, nIam',  nI_add, pk_mul, nIsub, nIrem, nIdiv, nIand1, nIand3, nIand7, nIand31, nIshr, nIle, nIlt, nIeq, nIc, vpI, nIm1, m1nI, m1lt, nIlm, m1le, nIlem, nIneg, u2_ss, u2_nn, u2_kk, nIm1n, m1nIn, m1ltn, nIlmn, m1len, nIlemn, eA])
          omega
        · (try simp (disch := omega) only [nlit, natrem, nIrm, nIam, nIam',  nI_add, pk_mul, nIsub, nIrem, nIdiv, nIand1, nIand3, nIand7, nIand31, nIshr, nIle, nIlt, nIeq, nIc, vpI, nIm1, m1nI, m1lt, nIlm, m1le, nIlem, nIneg, u2_ss, u2_nn, u2_kk, nIm1n, m1nIn, m1ltn, nIlmn, m1len, nIlemn, eA] at c1 c2) <;> (try simp (disch := omega) only [nlit, natrem, nIrm, nIam, nIam',  nI_add, pk_mul, nIsub, nIrem, nIdiv, nIand1, nIand3, nIand7, nIand31, nIshr, nIle, nIlt, nIeq, nIc, vpI, nIm1, m1nI, m1lt, nIlm, m1le, nIlem, nIneg, u2_ss, u2_nn, u2_kk, nIm1n, m1nIn, m1ltn, nIlmn, m1len, nIlemn, eA]) <;> (first | omega | trivial)
        · (try simp (disch := omega) only [nlit, natrem, nIrm, nIam, nIam',  nI_add, pk_mul, nIsub, nIrem, nIdiv, nIand1, nIand3, nIand7, nIand31, nIshr, nIle, nIlt, nIeq, nIc, vpI, nIm1, m1nI, m1lt, nIlm, m1le, nIlem, nIneg, u2_ss, u2_nn, u2_kk, nIm1n, m1nIn, m1ltn, nIlmn, m1len, nIlemn, eA] at c1 c2); (try simp (disch := omega) only [nlit, natrem, nIrm, nIam, nIam',  nI_add, pk_mul, nIsub, nIrem, nIdiv, nIand1, nIand3, nIand7, nIand31, nIshr, nIle, nIlt, nIeq, nIc, vpI, nIm1, m1nI, m1lt, nIlm, m1le, nIlem, nIneg, u2_ss, u2_nn, u2_kk, nIm1n, m1nIn, m1ltn, nIlmn, m1len, nIlemn, eA])
          refine isLetterC_ok (by omega) (fun hx => ?_) (fun hx => ?_)
          · refine RX10_cut_31 ⟨fun c1 => absurd c1 (by decide), fun _ => ?_⟩
            refine putWord_ok hl hch hAJ hT (by omega) (by omega) (fun J2 K2 hJ2 hK2 => ?_)
            refine RX10_cut_41 ?_
            rw [e4]
            have := run_le tp isL p
            refine ih _ _ J2 K2 (by omega) hJ2 (hK.tr hK2) (by simp; omega) (by omega) ?_
            rw [← e]
            show _ = ts ++ (if tp.length ≤ p then _ else _)
            rw [if_neg hpl, if_pos hx]
            simp
          · refine RX10_cut_31 ⟨fun _ => ?_, fun c1 => absurd rfl c1⟩
            refine isDigitC_ok (by omega) (fun hd => ?_) (fun hd => ?_)
            · refine RX10_cut_50 ⟨fun c1 => absurd c1 (by decide), fun _ => ?_⟩
              refine putNumber_ok hl hch hAJ hT (by omega) (by omega) (fun J2 K2 hJ2 hK2 => ?_)
              refine RX10_cut_60 ?_
              rw [e4]
              have := run_le tp isD p
              refine ih _ _ J2 K2 (by omega) hJ2 (hK.tr hK2) (by simp; omega) (by omega) ?_
              rw [← e]
              show _ = ts ++ (if tp.length ≤ p then _ else _)
              rw [if_neg hpl, if_neg (show ¬ isL (tp.getD p 0) = true by rw [hx]; decide), if_pos hd]
              simp
            · have e1 : nI p + 1 = nI (p + 1) := nI_add p 1
              have hbl : tp.getD p 0 = 10 ∨ tp.getD p 0 = 32 → Y mX10_cut (d + 7) sx 10 [(0, .ref 27), (1, .ref 1), (2, .int (nI tp.length)), (3, .int (nI (p + 1))), (4, .int (nI (tp.length - n)))] [] J K R q := fun hb => by
                refine ih (p + 1) ts J K (by omega) hT hK (by omega) (by omega) ?_
                rw [← e]
                show _ = ts ++ (if tp.length ≤ p then _ else _)
                rw [if_neg hpl, if_neg (show ¬ isL (tp.getD p 0) = true by rw [hx]; decide), if_neg (show ¬ isD (tp.getD p 0) = true by rw [hd]; decide), if_pos hb]
              refine RX10_cut_50 ⟨fun _ => ⟨fun c2 => ?_, fun c2 => ⟨fun c3 => ?_, fun c3 => ?_⟩⟩, fun c1 => absurd rfl c1⟩
              · rw [e1, e4]
                exact hbl (Or.inl ((nIeq (by omega) (by decide)).mp c2))
              · rw [e1, e4]
                exact hbl (Or.inr ((nIeq (by omega) (by decide)).mp c3))
              · have hnb : ¬ (tp.getD p 0 = 10 ∨ tp.getD p 0 = 32) := fun hb => by
                  rcases hb with hb | hb
                  · exact c2 (by rw [hb]; rfl)
                  · exact c3 (by rw [hb]; rfl)
                have hgo : ∀ s, s = (if isG (tp.getD p 0) then tp.getD p 0 else 32) → E0 mX10_put (d + 6) sx [.ref 27, .int (nI s), .int (nI p), .long 0] J K R (fun r J K T => Y mX10_cut (d + 7) sx 99 [(0, .ref 27), (1, .ref 1), (2, .int (nI tp.length)), (3, .int (nI p)), (4, .int (nI (tp.length - (n + 1))))] (r.toList ++ []) J K T q) := fun s hs => by
                  refine tput_ok (w := []) hT (by omega) (fun hh => ?_) (fun hh => ?_) (fun J2 K2 hJ2 hK2 => RX10_cut_99 ?_)
                  · exfalso
                    rw [hs] at hh
                    split at hh <;> omega
                  · exfalso
                    rw [hs] at hh
                    split at hh <;> omega
                  · rw [e1, e4]
                    refine ih (p + 1) _ J2 K2 (by omega) hJ2 (hK.tr hK2) (by simp; omega) (by omega) ?_
                    rw [← e, hs]
                    show _ = ts ++ (if tp.length ≤ p then _ else _)
                    rw [if_neg hpl, if_neg (show ¬ isL (tp.getD p 0) = true by rw [hx]; decide), if_neg (show ¬ isD (tp.getD p 0) = true by rw [hd]; decide), if_neg hnb]
                    simp
                refine isSignC_ok (by omega) (fun hg => ?_) (fun hg => ?_)
                · exact RX10_cut_84 ⟨fun c1 => absurd c1 (by decide), fun _ => hgo _ (by rw [if_pos hg])⟩
                · exact RX10_cut_84 ⟨fun _ => hgo 32 (by rw [if_neg hg]), fun c1 => absurd rfl c1⟩
  refine EX10_cut  ?_
  · (try simp (disch := omega) only [nlit, natrem, nIrm, nIam, nIam',  nI_add, pk_mul, nIsub, nIrem, nIdiv, nIand1, nIand3, nIand7, nIand31, nIshr, nIle, nIlt, nIeq, nIc, vpI, nIm1, m1nI, m1lt, nIlm, m1le, nIlem, nIneg, u2_ss, u2_nn, u2_kk, nIm1n, m1nIn, m1ltn, nIlmn, m1len, nIlemn])
    have hh := hlp tp.length 0 [] (u2 I 27 3 (nI 0)) L (Nat.le_refl _) ⟨by rw [u2_ss]; rfl, fun i hi => absurd hi (Nat.not_lt_zero _)⟩ ⟨Kp.rf.up (by simp), Kp.rf⟩ (by simp; omega) (by omega) rfl
    rw [Nat.sub_self] at hh
    exact hh
