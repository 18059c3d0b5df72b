/-! no fault is 0 -/
def NZ (sub : Nat → Rs) : Prop := ∀ i v, sub i = .inl v → v ≠ 0
theorem lpO_nz {ts : List Tk} {sub : Nat → Rs} {op : Nat → Nat} (h : NZ sub) : ∀ n i c v, lpO ts sub op n i c = .inl v → v ≠ 0
  | 0, i, c, v, e => by cases e
  | n + 1, i, c, v, e => by
    unfold lpO at e
    split at e
    · cases e
    · rcases bnd_cs e with ⟨w, h1, h2⟩ | ⟨j1, e1, h1, h2⟩
      · cases h2; exact h _ _ h1
      · exact lpO_nz h n _ _ v h2
theorem chn_nz {ts : List Tk} {sub : Nat → Rs} {op : Nat → Nat} (h : NZ sub) : NZ (chn ts sub op) := by
  intro i v e
  rcases bnd_cs e with ⟨w, h1, h2⟩ | ⟨j1, e1, h1, h2⟩
  · cases h2; exact h _ _ h1
  · exact lpO_nz h _ _ _ v h2
theorem rgT_nz {ts : List Tk} {sub : Nat → Rs} (h : NZ sub) : NZ (rgT ts sub) := by
  have hs : NZ (rgS ts sub) := chn_nz (chn_nz h)
  intro i v e
  rcases bnd_cs e with ⟨w, h1, h2⟩ | ⟨j1, e1, h1, h2⟩
  · cases h2; exact hs _ _ h1
  · split at h2
    · cases h2
    · rcases bnd_cs h2 with ⟨w, h3, h4⟩ | ⟨j2, e2, h3, h4⟩
      · cases h4; exact hs _ _ h3
      · cases h4
theorem rgA_nz {ts : List Tk} {sub : Nat → Rs} (h : NZ sub) : NZ (rgA ts sub) := chn_nz (rgT_nz h)
theorem fK_nz {ts : List Tk} {k i : Nat} (h : 1 ≤ k) : fK ts k i ≠ 0 := by unfold fK; omega
theorem rgQ_nz {ts : List Tk} : ∀ r, NZ (rgQ ts r)
  | 0 => by
    intro i v e
    unfold rgQ at e
    split at e
    · cases e; exact fK_nz (by decide)
    · cases e; exact fK_nz (by decide)
  | r + 1 => by
    intro i v e
    unfold rgQ at e
    split at e
    · cases e; exact fK_nz (by decide)
    split at e
    · rcases bnd_cs e with ⟨w, h1, h2⟩ | ⟨j1, e1, h1, h2⟩
      · cases h2; exact rgQ_nz r _ _ h1
      · cases h2
    split at e
    · rcases bnd_cs e with ⟨w, h1, h2⟩ | ⟨j1, e1, h1, h2⟩
      · cases h2; exact rgA_nz (rgQ_nz r) _ _ h1
      · split at h2
        · cases h2
        · cases h2; exact fK_nz (by decide)
    · cases e
theorem rgL_nz {ts : List Tk} {i v : Nat} (e : rgL ts i = .inl v) : v ≠ 0 := by
  rcases bnd_cs e with ⟨w, h1, h2⟩ | ⟨j1, e1, h1, h2⟩
  · cases h2; exact rgA_nz (rgQ_nz 5) _ _ h1
  · split at h2
    · cases h2
    · cases h2; exact fK_nz (by decide)
/-! the class reads a law -/
def stR (I : Ints) (b : Nat) : List Nat → Prop
  | [] => True
  | x :: s => I b s.length = nI x ∧ stR I b s
theorem stR.fr {I J : Ints} {b : Nat} : ∀ (s : List Nat), stR I b s → (∀ i, i < s.length → J b i = I b i) → stR J b s
  | [], _, _ => trivial
  | x :: s, h, e => ⟨(e _ (by simp)).trans h.1, stR.fr s h.2 (fun i hi => e i (by simp; omega))⟩
theorem cdC_push {I : Ints} {b : Nat} {x : Nat × Nat} : ∀ (l : Cd) (i : Nat), cdC I b i l → ∀ k, k = i + l.length → cdC (u2 I b k (cco x.1 x.2)) b i (l ++ [x])
  | [], i, _, k, hk => ⟨by rw [hk]; exact u2_ss _ _ _ _, trivial⟩
  | (o, v) :: l, i, h, k, hk => by
    refine ⟨?_, cdC_push l (i + 1) h.2 k (by simp at hk; omega)⟩
    rw [u2_kk _ _ _ _ (by simp at hk; omega)]
    exact h.1
def LwC (o i : Nat) (stk : List Nat) (C : Cd) (I : Ints) : Prop := I o 3 = nI stk.length ∧ stR I (o + 2) stk ∧ I o 1 = nI C.length ∧ cdC I (o + 1) 0 C ∧ I o 4 = nI (opn stk) ∧ I o 5 = nI i
abbrev LWP (o k : Nat) : Prop := k ≠ o ∧ k ≠ o + 1 ∧ k ≠ o + 2
abbrev stE (x : Nat) : Prop := x = 22 ∨ x = 40 ∨ 1 ≤ rk x
def stOk (stk : List Nat) : Prop := ∀ x ∈ stk, stE x
theorem rk_62 {x : Nat} (h : 1 ≤ rk x) : x < 62 := by
  unfold rk at h
  refine Nat.lt_of_not_le (fun hh => ?_)
  rw [if_neg (by omega), if_neg (by omega), if_neg (by omega), if_neg (by omega)] at h
  omega
theorem stE_lt {x : Nat} (h : stE x) : x < 62 := by
  rcases h with h | h | h
  · omega
  · omega
  · exact rk_62 h
theorem cco_op : ∀ x, x < 62 → 1 ≤ rk x → cco (cdO x).1 (cdO x).2 = nI x ^^^ (-1) := by decide +kernel
theorem cco_22 : cco 3 0 = -23 := by decide
theorem cco_f {s : Nat} (h : s = 10 ∨ (25 ≤ s ∧ s ≤ 27)) : cco 2 (fcn s) = nI s ^^^ (-1) := by
  have : s = 10 ∨ s = 25 ∨ s = 26 ∨ s = 27 := by omega
  rcases this with rfl | rfl | rfl | rfl <;> decide
theorem lput_ok {d : Nat} {sx : Sx} {I : Ints} {L : Lngs} {R : Rfs} {q : Q3} {o : Nat} (ho : isLaw o) {i : Nat} {stk : List Nat} {C : Cd} {x : Nat × Nat} {v : Int32} (hv : v = cco x.1 x.2) (hL : LwC o i stk C I) (hC : C.length < 1000) (h : ∀ J, LwC o i stk (C ++ [x]) J → Kp (LWP o) I J → q none J L R) : E0 mX3_put (d + 1) sx [.ref o, .int v] I L R q := by
  subst hv
  obtain ⟨h1, h2, h3, h4, h5, h6⟩ := hL
  refine EX3_put ho ⟨fun c1 => ?_, fun c1 => ⟨?_, ?_⟩⟩
  · (try simp (disch := omega) only [nlit, natrem, nIrm, nIam, nIam',  nI_add, pk_mul, nIsub, nIrem, nIdiv, nIand1, nIand3, nIand7, nIand31, nIshr, nIle, nIlt, nIeq, nIc, vpI, nIm1, m1nI, m1lt, nIlm, m1le, nIlem, nIneg, u2_ss, u2_nn, u2_kk, nIm1n, m1nIn, m1ltn, nIlmn, m1len, nIlemn, h3] at c1) <;> (first | omega | exact absurd rfl c1 | exact absurd trivial c1)
  · (try simp (disch := omega) only [nlit, natrem, nIrm, nIam, nIam',  nI_add, pk_mul, nIsub, nIrem, nIdiv, nIand1, nIand3, nIand7, nIand31, nIshr, nIle, nIlt, nIeq, nIc, vpI, nIm1, m1nI, m1lt, nIlm, m1le, nIlem, nIneg, u2_ss, u2_nn, u2_kk, nIm1n, m1nIn, m1ltn, nIlmn, m1len, nIlemn, h3] at c1) <;> (try simp (disch := omega) only [nlit, natrem, nIrm, nIam, nIam',  nI_add, pk_mul, nIsub, nIrem, nIdiv, nIand1, nIand3, nIand7, nIand31, nIshr, nIle, nIlt, nIeq, nIc, vpI, nIm1, m1nI, m1lt, nIlm, m1le, nIlem, nIneg, u2_ss, u2_nn, u2_kk, nIm1n, m1nIn, m1ltn, nIlmn, m1len, nIlemn, h3]) <;> (first | omega | trivial)
  · (try simp (disch := omega) only [nlit, natrem, nIrm, nIam, nIam',  nI_add, pk_mul, nIsub, nIrem, nIdiv, nIand1, nIand3, nIand7, nIand31, nIshr, nIle, nIlt, nIeq, nIc, vpI, nIm1, m1nI, m1lt, nIlm, m1le, nIlem, nIneg, u2_ss, u2_nn, u2_kk, nIm1n, m1nIn, m1ltn, nIlmn, m1len, nIlemn, h3] at c1); (try simp (disch := omega) only [nlit, natrem, nIrm, nIam, nIam',  nI_add, pk_mul, nIsub, nIrem, nIdiv, nIand1, nIand3, nIand7, nIand31, nIshr, nIle, nIlt, nIeq, nIc, vpI, nIm1, m1nI, m1lt, nIlm, m1le, nIlem, nIneg, u2_ss, u2_nn, u2_kk, nIm1n, m1nIn, m1ltn, nIlmn, m1len, nIlemn, h3])
    have en : o ≠ o + 1 := by omega
    refine h _ ⟨?_, ?_, ?_, ?_, ?_, ?_⟩ ((Kp.rf.up (by simp)).up (by simp))
    · rw [u2_kk _ _ _ _ (by decide), u2_nn _ _ _ _ en]; exact h1
    · exact stR.fr _ h2 (fun i _ => by rw [u2_nn _ _ _ _ (by omega), u2_nn _ _ _ _ (by omega)])
    · rw [u2_ss, List.length_append]; rfl
    · exact cdC.fr (fun j => by rw [u2_nn _ _ _ _ (by omega)]) _ _ (cdC_push C 0 h4 _ (by omega))
    · rw [u2_kk _ _ _ _ (by decide), u2_nn _ _ _ _ en]; exact h5
    · rw [u2_kk _ _ _ _ (by decide), u2_nn _ _ _ _ en]; exact h6
theorem lpush_ok {d : Nat} {sx : Sx} {I : Ints} {L : Lngs} {R : Rfs} {q : Q3} {o : Nat} (ho : isLaw o) {n x : Nat} (h3 : I o 3 = nI n) (hn : n < 64) (h : q none (u2 (u2 I (o + 2) n (nI x)) o 3 (nI (n + 1))) L R) : E0 mX3_push (d + 1) sx [.ref o, .int (nI x)] I L R q := by
  refine EX3_push ho ⟨fun c1 => ?_, fun c1 => ⟨?_, ?_⟩⟩
  · (try simp (disch := omega) only [nlit, natrem, nIrm, nIam, nIam',  nI_add, pk_mul, nIsub, nIrem, nIdiv, nIand1, nIand3, nIand7, nIand31, nIshr, nIle, nIlt, nIeq, nIc, vpI, nIm1, m1nI, m1lt, nIlm, m1le, nIlem, nIneg, u2_ss, u2_nn, u2_kk, nIm1n, m1nIn, m1ltn, nIlmn, m1len, nIlemn, h3] at c1) <;> (first | omega | exact absurd rfl c1 | exact absurd trivial c1)
  · (try simp (disch := omega) only [nlit, natrem, nIrm, nIam, nIam',  nI_add, pk_mul, nIsub, nIrem, nIdiv, nIand1, nIand3, nIand7, nIand31, nIshr, nIle, nIlt, nIeq, nIc, vpI, nIm1, m1nI, m1lt, nIlm, m1le, nIlem, nIneg, u2_ss, u2_nn, u2_kk, nIm1n, m1nIn, m1ltn, nIlmn, m1len, nIlemn, h3] at c1) <;> (try simp (disch := omega) only [nlit, natrem, nIrm, nIam, nIam',  nI_add, pk_mul, nIsub, nIrem, nIdiv, nIand1, nIand3, nIand7, nIand31, nIshr, nIle, nIlt, nIeq, nIc, vpI, nIm1, m1nI, m1lt, nIlm, m1le, nIlem, nIneg, u2_ss, u2_nn, u2_kk, nIm1n, m1nIn, m1ltn, nIlmn, m1len, nIlemn, h3]) <;> (first | omega | trivial)
  · (try simp (disch := omega) only [nlit, natrem, nIrm, nIam, nIam',  nI_add, pk_mul, nIsub, nIrem, nIdiv, nIand1, nIand3, nIand7, nIand31, nIshr, nIle, nIlt, nIeq, nIc, vpI, nIm1, m1nI, m1lt, nIlm, m1le, nIlem, nIneg, u2_ss, u2_nn, u2_kk, nIm1n, m1nIn, m1ltn, nIlmn, m1len, nIlemn, h3] at c1); (try simp (disch := omega) only [nlit, natrem, nIrm, nIam, nIam',  nI_add, pk_mul, nIsub, nIrem, nIdiv, nIand1, nIand3, nIand7, nIand31, nIshr, nIle, nIlt, nIeq, nIc, vpI, nIm1, m1nI, m1lt, nIlm, m1le, nIlem, nIneg, u2_ss, u2_nn, u2_kk, nIm1n, m1nIn, m1ltn, nIlmn, m1len, nIlemn, h3])
    exact h
theorem LwC.push {o i : Nat} {stk : List Nat} {C : Cd} {I : Ints} (h : LwC o i stk C I) {x dp : Nat} (hd : dp = opn (x :: stk)) : LwC o i (x :: stk) C (u2 (u2 (u2 I o 4 (nI dp)) (o + 2) stk.length (nI x)) o 3 (nI (stk.length + 1))) := by
  obtain ⟨h1, h2, h3, h4, h5, h6⟩ := h
  have en : o ≠ o + 2 := by omega
  refine ⟨?_, ⟨?_, ?_⟩, ?_, ?_, ?_, ?_⟩
  · rw [u2_ss]; rfl
  · rw [u2_nn _ _ _ _ (by omega), u2_ss]
  · exact stR.fr _ h2 (fun i hi => by rw [u2_nn _ _ _ _ (by omega), u2_kk _ _ _ _ (by omega), u2_nn _ _ _ _ (by omega)])
  · rw [u2_kk _ _ _ _ (by decide), u2_nn _ _ _ _ en, u2_kk _ _ _ _ (by decide)]; exact h3
  · exact cdC.fr (fun j => by rw [u2_nn _ _ _ _ (by omega), u2_nn _ _ _ _ (by omega), u2_nn _ _ _ _ (by omega)]) _ _ h4
  · rw [u2_kk _ _ _ _ (by decide), u2_nn _ _ _ _ en, u2_ss, hd]
  · rw [u2_kk _ _ _ _ (by decide), u2_nn _ _ _ _ en, u2_kk _ _ _ _ (by decide)]; exact h6
theorem LwC.push2 {o i : Nat} {stk : List Nat} {C : Cd} {I : Ints} (h : LwC o i stk C I) {x : Nat} (hd : opn stk = opn (x :: stk)) : LwC o i (x :: stk) C (u2 (u2 I (o + 2) stk.length (nI x)) o 3 (nI (stk.length + 1))) := by
  obtain ⟨h1, h2, h3, h4, h5, h6⟩ := h
  have en : o ≠ o + 2 := by omega
  refine ⟨?_, ⟨?_, ?_⟩, ?_, ?_, ?_, ?_⟩
  · rw [u2_ss]; rfl
  · rw [u2_nn _ _ _ _ (by omega), u2_ss]
  · exact stR.fr _ h2 (fun i hi => by rw [u2_nn _ _ _ _ (by omega), u2_kk _ _ _ _ (by omega)])
  · rw [u2_kk _ _ _ _ (by decide), u2_nn _ _ _ _ en]; exact h3
  · exact cdC.fr (fun j => by rw [u2_nn _ _ _ _ (by omega), u2_nn _ _ _ _ (by omega)]) _ _ h4
  · rw [u2_kk _ _ _ _ (by decide), u2_nn _ _ _ _ en, ← hd]; exact h5
  · rw [u2_kk _ _ _ _ (by decide), u2_nn _ _ _ _ en]; exact h6
theorem LwC.pop {o i : Nat} {x : Nat} {stk : List Nat} {C : Cd} {I : Ints} (h : LwC o i (x :: stk) C I) (hd : opn stk = opn (x :: stk)) : LwC o i stk C (u2 I o 3 (nI stk.length)) := by
  obtain ⟨h1, h2, h3, h4, h5, h6⟩ := h
  refine ⟨?_, ?_, ?_, ?_, ?_, ?_⟩
  · rw [u2_ss]
  · exact stR.fr _ h2.2 (fun i hi => by rw [u2_nn _ _ _ _ (by omega)])
  · rw [u2_kk _ _ _ _ (by decide)]; exact h3
  · exact cdC.fr (fun j => by rw [u2_nn _ _ _ _ (by omega)]) _ _ h4
  · rw [u2_kk _ _ _ _ (by decide), hd]; exact h5
  · rw [u2_kk _ _ _ _ (by decide)]; exact h6
theorem LwC.popd {o i : Nat} {x : Nat} {stk : List Nat} {C : Cd} {I : Ints} (h : LwC o i (x :: stk) C I) : LwC o i stk C (u2 (u2 I o 3 (nI stk.length)) o 4 (nI (opn stk))) := by
  obtain ⟨h1, h2, h3, h4, h5, h6⟩ := h
  refine ⟨?_, ?_, ?_, ?_, ?_, ?_⟩
  · rw [u2_kk _ _ _ _ (by decide), u2_ss]
  · exact stR.fr _ h2.2 (fun i hi => by rw [u2_nn _ _ _ _ (by omega), u2_nn _ _ _ _ (by omega)])
  · rw [u2_kk _ _ _ _ (by decide), u2_kk _ _ _ _ (by decide)]; exact h3
  · exact cdC.fr (fun j => by rw [u2_nn _ _ _ _ (by omega), u2_nn _ _ _ _ (by omega)]) _ _ h4
  · rw [u2_ss]
  · rw [u2_kk _ _ _ _ (by decide), u2_kk _ _ _ _ (by decide)]; exact h6
theorem rankC_ok {d : Nat} {sx : Sx} {I : Ints} {L : Lngs} {R : Rfs} {q : Q3} {s : Nat} (hs : s < 1000) (h : q (some (.int (nI (rk s)))) I L R) : E0 mX3_rank (d + 1) sx [.int (nI s)] I L R q := by
  refine EX3_rank  ⟨fun c1 => ?_, fun c1 => ⟨fun c2 => ?_, fun c2 => ⟨fun c3 => ?_, fun c3 => ⟨fun c4 => ?_, fun c4 => ⟨fun c5 => ?_, fun c5 => ⟨fun c6 => ?_, fun c6 => ⟨fun c7 => ?_, fun c7 => ?_⟩⟩⟩⟩⟩⟩⟩
  · (try simp (disch := omega) only [nlit, natrem, nIrm, nIam, nIam',  nI_add, pk_mul, nIsub, nIrem, nIdiv, nIand1, nIand3, nIand7, nIand31, nIshr, nIle, nIlt, nIeq, nIc, vpI, nIm1, m1nI, m1lt, nIlm, m1le, nIlem, nIneg, u2_ss, u2_nn, u2_kk, nIm1n, m1nIn, m1ltn, nIlmn, m1len, nIlemn] at c1); (try simp (disch := omega) only [nlit, natrem, nIrm, nIam, nIam',  nI_add, pk_mul, nIsub, nIrem, nIdiv, nIand1, nIand3, nIand7, nIand31, nIshr, nIle, nIlt, nIeq, nIc, vpI, nIm1, m1nI, m1lt, nIlm, m1le, nIlem, nIneg, u2_ss, u2_nn, u2_kk, nIm1n, m1nIn, m1ltn, nIlmn, m1len, nIlemn])
    have e : rk s = 1 := by unfold rk; repeat (first | rw [if_pos (by omega)] | rw [if_neg (by omega)])
    rw [e] at h
    exact h
  · (try simp (disch := omega) only [nlit, natrem, nIrm, nIam, nIam',  nI_add, pk_mul, nIsub, nIrem, nIdiv, nIand1, nIand3, nIand7, nIand31, nIshr, nIle, nIlt, nIeq, nIc, vpI, nIm1, m1nI, m1lt, nIlm, m1le, nIlem, nIneg, u2_ss, u2_nn, u2_kk, nIm1n, m1nIn, m1ltn, nIlmn, m1len, nIlemn] at c1 c2); (try simp (disch := omega) only [nlit, natrem, nIrm, nIam, nIam',  nI_add, pk_mul, nIsub, nIrem, nIdiv, nIand1, nIand3, nIand7, nIand31, nIshr, nIle, nIlt, nIeq, nIc, vpI, nIm1, m1nI, m1lt, nIlm, m1le, nIlem, nIneg, u2_ss, u2_nn, u2_kk, nIm1n, m1nIn, m1ltn, nIlmn, m1len, nIlemn])
    have e : rk s = 1 := by unfold rk; repeat (first | rw [if_pos (by omega)] | rw [if_neg (by omega)])
    rw [e] at h
    exact h
  · (try simp (disch := omega) only [nlit, natrem, nIrm, nIam, nIam',  nI_add, pk_mul, nIsub, nIrem, nIdiv, nIand1, nIand3, nIand7, nIand31, nIshr, nIle, nIlt, nIeq, nIc, vpI, nIm1, m1nI, m1lt, nIlm, m1le, nIlem, nIneg, u2_ss, u2_nn, u2_kk, nIm1n, m1nIn, m1ltn, nIlmn, m1len, nIlemn] at c1 c2 c3); (try simp (disch := omega) only [nlit, natrem, nIrm, nIam, nIam',  nI_add, pk_mul, nIsub, nIrem, nIdiv, nIand1, nIand3, nIand7, nIand31, nIshr, nIle, nIlt, nIeq, nIc, vpI, nIm1, m1nI, m1lt, nIlm, m1le, nIlem, nIneg, u2_ss, u2_nn, u2_kk, nIm1n, m1nIn, m1ltn, nIlmn, m1len, nIlemn])
    have e : rk s = 4 := by unfold rk; repeat (first | rw [if_pos (by omega)] | rw [if_neg (by omega)])
    rw [e] at h
    exact h
  · (try simp (disch := omega) only [nlit, natrem, nIrm, nIam, nIam',  nI_add, pk_mul, nIsub, nIrem, nIdiv, nIand1, nIand3, nIand7, nIand31, nIshr, nIle, nIlt, nIeq, nIc, vpI, nIm1, m1nI, m1lt, nIlm, m1le, nIlem, nIneg, u2_ss, u2_nn, u2_kk, nIm1n, m1nIn, m1ltn, nIlmn, m1len, nIlemn] at c1 c2 c3 c4); (try simp (disch := omega) only [nlit, natrem, nIrm, nIam, nIam',  nI_add, pk_mul, nIsub, nIrem, nIdiv, nIand1, nIand3, nIand7, nIand31, nIshr, nIle, nIlt, nIeq, nIc, vpI, nIm1, m1nI, m1lt, nIlm, m1le, nIlem, nIneg, u2_ss, u2_nn, u2_kk, nIm1n, m1nIn, m1ltn, nIlmn, m1len, nIlemn])
    have e : rk s = 3 := by unfold rk; repeat (first | rw [if_pos (by omega)] | rw [if_neg (by omega)])
    rw [e] at h
    exact h
  · (try simp (disch := omega) only [nlit, natrem, nIrm, nIam, nIam',  nI_add, pk_mul, nIsub, nIrem, nIdiv, nIand1, nIand3, nIand7, nIand31, nIshr, nIle, nIlt, nIeq, nIc, vpI, nIm1, m1nI, m1lt, nIlm, m1le, nIlem, nIneg, u2_ss, u2_nn, u2_kk, nIm1n, m1nIn, m1ltn, nIlmn, m1len, nIlemn] at c1 c2 c3 c4 c5); (try simp (disch := omega) only [nlit, natrem, nIrm, nIam, nIam',  nI_add, pk_mul, nIsub, nIrem, nIdiv, nIand1, nIand3, nIand7, nIand31, nIshr, nIle, nIlt, nIeq, nIc, vpI, nIm1, m1nI, m1lt, nIlm, m1le, nIlem, nIneg, u2_ss, u2_nn, u2_kk, nIm1n, m1nIn, m1ltn, nIlmn, m1len, nIlemn])
    have e : rk s = 3 := by unfold rk; repeat (first | rw [if_pos (by omega)] | rw [if_neg (by omega)])
    rw [e] at h
    exact h
  · (try simp (disch := omega) only [nlit, natrem, nIrm, nIam, nIam',  nI_add, pk_mul, nIsub, nIrem, nIdiv, nIand1, nIand3, nIand7, nIand31, nIshr, nIle, nIlt, nIeq, nIc, vpI, nIm1, m1nI, m1lt, nIlm, m1le, nIlem, nIneg, u2_ss, u2_nn, u2_kk, nIm1n, m1nIn, m1ltn, nIlmn, m1len, nIlemn] at c1 c2 c3 c4 c5 c6); (try simp (disch := omega) only [nlit, natrem, nIrm, nIam, nIam',  nI_add, pk_mul, nIsub, nIrem, nIdiv, nIand1, nIand3, nIand7, nIand31, nIshr, nIle, nIlt, nIeq, nIc, vpI, nIm1, m1nI, m1lt, nIlm, m1le, nIlem, nIneg, u2_ss, u2_nn, u2_kk, nIm1n, m1nIn, m1ltn, nIlmn, m1len, nIlemn])
    have e : rk s = 2 := by unfold rk; repeat (first | rw [if_pos (by omega)] | rw [if_neg (by omega)])
    rw [e] at h
    exact h
  · (try simp (disch := omega) only [nlit, natrem, nIrm, nIam, nIam',  nI_add, pk_mul, nIsub, nIrem, nIdiv, nIand1, nIand3, nIand7, nIand31, nIshr, nIle, nIlt, nIeq, nIc, vpI, nIm1, m1nI, m1lt, nIlm, m1le, nIlem, nIneg, u2_ss, u2_nn, u2_kk, nIm1n, m1nIn, m1ltn, nIlmn, m1len, nIlemn] at c1 c2 c3 c4 c5 c6 c7); (try simp (disch := omega) only [nlit, natrem, nIrm, nIam, nIam',  nI_add, pk_mul, nIsub, nIrem, nIdiv, nIand1, nIand3, nIand7, nIand31, nIshr, nIle, nIlt, nIeq, nIc, vpI, nIm1, m1nI, m1lt, nIlm, m1le, nIlem, nIneg, u2_ss, u2_nn, u2_kk, nIm1n, m1nIn, m1ltn, nIlmn, m1len, nIlemn])
    have e : rk s = 2 := by unfold rk; repeat (first | rw [if_pos (by omega)] | rw [if_neg (by omega)])
    rw [e] at h
    exact h
  · (try simp (disch := omega) only [nlit, natrem, nIrm, nIam, nIam',  nI_add, pk_mul, nIsub, nIrem, nIdiv, nIand1, nIand3, nIand7, nIand31, nIshr, nIle, nIlt, nIeq, nIc, vpI, nIm1, m1nI, m1lt, nIlm, m1le, nIlem, nIneg, u2_ss, u2_nn, u2_kk, nIm1n, m1nIn, m1ltn, nIlmn, m1len, nIlemn] at c1 c2 c3 c4 c5 c6 c7); (try simp (disch := omega) only [nlit, natrem, nIrm, nIam, nIam',  nI_add, pk_mul, nIsub, nIrem, nIdiv, nIand1, nIand3, nIand7, nIand31, nIshr, nIle, nIlt, nIeq, nIc, vpI, nIm1, m1nI, m1lt, nIlm, m1le, nIlem, nIneg, u2_ss, u2_nn, u2_kk, nIm1n, m1nIn, m1ltn, nIlmn, m1len, nIlemn])
    have e : rk s = 0 := by unfold rk; repeat (first | rw [if_pos (by omega)] | rw [if_neg (by omega)])
    rw [e] at h
    exact h
theorem setS_c {r x : Nat} {s : List Nat} : (r ≤ rk x → setS r (x :: s) = setS r s ∧ setC r (x :: s) = cdO x :: setC r s) ∧ (¬ r ≤ rk x → setS r (x :: s) = x :: s ∧ setC r (x :: s) = []) := by
  unfold setS setC
  refine ⟨fun h => ?_, fun h => ?_⟩
  · rw [List.takeWhile_cons, List.dropWhile_cons, if_pos (decide_eq_true h), if_pos (decide_eq_true h)]
    exact ⟨rfl, rfl⟩
  · rw [List.takeWhile_cons, List.dropWhile_cons, if_neg (by simpa using h), if_neg (by simpa using h)]
    exact ⟨rfl, rfl⟩
theorem settle_ok {d : Nat} {sx : Sx} {L : Lngs} {R : Rfs} {q : Q3} {I0 : Ints} {o : Nat} (ho : isLaw o) {i r : Nat} (hr : 1 ≤ r) (hr5 : r < 5) : ∀ (stk : List Nat) (C : Cd) (I : Ints), stOk stk → stk.length < 64 → C.length + stk.length < 1000 → LwC o i stk C I → Kp (LWP o) I0 I →
    (∀ J, LwC o i (setS r stk) (C ++ setC r stk) J → Kp (LWP o) I0 J → q none J L R) → Y mX3_settle (d + 2) sx 0 [(0, .ref o), (1, .int (nI r))] [] I L R q := by
  intro stk
  induction stk with
  | nil =>
    intro C I hs hl hC hL hK h
    have e3 : I o 3 = nI 0 := hL.1
    refine RX3_settle_0 ho ⟨fun c1 => ?_, fun c1 => ⟨?_, ?_⟩⟩
    · (try simp (disch := omega) only [nlit, natrem, nIrm, nIam, nIam',  nI_add, pk_mul, nIsub, nIrem, nIdiv, nIand1, nIand3, nIand7, nIand31, nIshr, nIle, nIlt, nIeq, nIc, vpI, nIm1, m1nI, m1lt, nIlm, m1le, nIlem, nIneg, u2_ss, u2_nn, u2_kk, nIm1n, m1nIn, m1ltn, nIlmn, m1len, nIlemn, e3] at c1); (try simp (disch := omega) only [nlit, natrem, nIrm, nIam, nIam',  nI_add, pk_mul, nIsub, nIrem, nIdiv, nIand1, nIand3, nIand7, nIand31, nIshr, nIle, nIlt, nIeq, nIc, vpI, nIm1, m1nI, m1lt, nIlm, m1le, nIlem, nIneg, u2_ss, u2_nn, u2_kk, nIm1n, m1nIn, m1ltn, nIlmn, m1len, nIlemn, e3])
      have hh := h I (by rw [show C ++ setC r [] = C by show C ++ [] = C; simp]; exact hL) hK
      exact hh
    · (try simp (disch := omega) only [nlit, natrem, nIrm, nIam, nIam',  nI_add, pk_mul, nIsub, nIrem, nIdiv, nIand1, nIand3, nIand7, nIand31, nIshr, nIle, nIlt, nIeq, nIc, vpI, nIm1, m1nI, m1lt, nIlm, m1le, nIlem, nIneg, u2_ss, u2_nn, u2_kk, nIm1n, m1nIn, m1ltn, nIlmn, m1len, nIlemn, e3] at c1) <;> (try simp (disch := omega) only [nlit, natrem, nIrm, nIam, nIam',  nI_add, pk_mul, nIsub, nIrem, nIdiv, nIand1, nIand3, nIand7, nIand31, nIshr, nIle, nIlt, nIeq, nIc, vpI, nIm1, m1nI, m1lt, nIlm, m1le, nIlem, nIneg, u2_ss, u2_nn, u2_kk, nIm1n, m1nIn, m1ltn, nIlmn, m1len, nIlemn, e3]) <;> (first | omega | trivial)
    · (try simp (disch := omega) only [nlit, natrem, nIrm, nIam, nIam',  nI_add, pk_mul, nIsub, nIrem, nIdiv, nIand1, nIand3, nIand7, nIand31, nIshr, nIle, nIlt, nIeq, nIc, vpI, nIm1, m1nI, m1lt, nIlm, m1le, nIlem, nIneg, u2_ss, u2_nn, u2_kk, nIm1n, m1nIn, m1ltn, nIlmn, m1len, nIlemn, e3] at c1) <;> (first | omega | exact absurd rfl c1 | exact absurd trivial c1)
  | cons x s ih =>
    intro C I hs hl hC hL hK h
    simp only [List.length_cons] at hl hC
    have e3 : I o 3 = nI (s.length + 1) := hL.1
    have ex : I (o + 2) s.length = nI x := hL.2.1.1
    have hx := stE_lt (hs x List.mem_cons_self)
    have hx5 := rk_lt x
    refine RX3_settle_0 ho ⟨fun c1 => ?_, fun c1 => ⟨?_, ?_⟩⟩
    · (try simp (disch := omega) only [nlit, natrem, nIrm, nIam, nIam',  nI_add, pk_mul, nIsub, nIrem, nIdiv, nIand1, nIand3, nIand7, nIand31, nIshr, nIle, nIlt, nIeq, nIc, vpI, nIm1, m1nI, m1lt, nIlm, m1le, nIlem, nIneg, u2_ss, u2_nn, u2_kk, nIm1n, m1nIn, m1ltn, nIlmn, m1len, nIlemn, e3, ex, Nat.add_sub_cancel] at c1) <;> (first | omega | exact absurd rfl c1 | exact absurd trivial c1)
    · (try simp (disch := omega) only [nlit, natrem, nIrm, nIam, nIam',  nI_add, pk_mul, nIsub, nIrem, nIdiv, nIand1, nIand3, nIand7, nIand31, nIshr, nIle, nIlt, nIeq, nIc, vpI, nIm1, m1nI, m1lt, nIlm, m1le, nIlem, nIneg, u2_ss, u2_nn, u2_kk, nIm1n, m1nIn, m1ltn, nIlmn, m1len, nIlemn, e3, ex, Nat.add_sub_cancel] at c1) <;> (try simp (disch := omega) only [nlit, natrem, nIrm, nIam, nIam',  nI_add, pk_mul, nIsub, nIrem, nIdiv, nIand1, nIand3, nIand7, nIand31, nIshr, nIle, nIlt, nIeq, nIc, vpI, nIm1, m1nI, m1lt, nIlm, m1le, nIlem, nIneg, u2_ss, u2_nn, u2_kk, nIm1n, m1nIn, m1ltn, nIlmn, m1len, nIlemn, e3, ex, Nat.add_sub_cancel]) <;> (first | omega | trivial)
    · (try simp (disch := omega) only [nlit, natrem, nIrm, nIam, nIam',  nI_add, pk_mul, nIsub, nIrem, nIdiv, nIand1, nIand3, nIand7, nIand31, nIshr, nIle, nIlt, nIeq, nIc, vpI, nIm1, m1nI, m1lt, nIlm, m1le, nIlem, nIneg, u2_ss, u2_nn, u2_kk, nIm1n, m1nIn, m1ltn, nIlmn, m1len, nIlemn, e3, ex, Nat.add_sub_cancel] at c1); (try simp (disch := omega) only [nlit, natrem, nIrm, nIam, nIam',  nI_add, pk_mul, nIsub, nIrem, nIdiv, nIand1, nIand3, nIand7, nIand31, nIshr, nIle, nIlt, nIeq, nIc, vpI, nIm1, m1nI, m1lt, nIlm, m1le, nIlem, nIneg, u2_ss, u2_nn, u2_kk, nIm1n, m1nIn, m1ltn, nIlmn, m1len, nIlemn, e3, ex, Nat.add_sub_cancel])
      refine rankC_ok (by omega) ?_
      refine RX3_settle_21 ho ⟨fun c1 => ?_, fun c1 => ⟨?_, ?_⟩⟩
      · rw [nIlt (by omega) (by omega)] at c1
        have he := (setS_c (r := r) (x := x) (s := s)).2 (by omega)
        refine h I ?_ hK
        rw [he.1, he.2, List.append_nil]
        exact hL
      · rw [e3]; simp (disch := omega) only [nlit, natrem, nIrm, nIam, nIam',  nI_add, pk_mul, nIsub, nIrem, nIdiv, nIand1, nIand3, nIand7, nIand31, nIshr, nIle, nIlt, nIeq, nIc, vpI, nIm1, m1nI, m1lt, nIlm, m1le, nIlem, nIneg, u2_ss, u2_nn, u2_kk, nIm1n, m1nIn, m1ltn, nIlmn, m1len, nIlemn, Nat.add_sub_cancel]; omega
      · rw [nIlt (by omega) (by omega)] at c1
        have he := (setS_c (r := r) (x := x) (s := s)).1 (by omega)
        have hx1 : 1 ≤ rk x := by omega
        rw [e3, show nI (s.length + 1) - 1 = nI s.length by rw [show (1 : Int32) = nI 1 from rfl, nIsub (by omega)]; rfl, nIc (by omega), ex]
        refine lput_ok (x := cdO x) ho (cco_op x hx hx1).symm hL (by omega) (fun J hJ hKJ => ?_)
        refine RX3_settle_42 ho ?_
        have e3J : J o 3 = nI (s.length + 1) := hJ.1
        rw [e3J, show nI (s.length + 1) - 1 = nI s.length by rw [show (1 : Int32) = nI 1 from rfl, nIsub (by omega)]; rfl]
        refine ih (C ++ [cdO x]) _ (fun y hy => hs y (List.mem_cons_of_mem _ hy)) (by omega) (by simp; omega) (hJ.pop (opn_k hx1).symm) ((hK.tr hKJ).up (by simp)) (fun J2 hJ2 hK2 => h J2 ?_ hK2)
        rw [he.1, he.2, show C ++ cdO x :: setC r s = C ++ [cdO x] ++ setC r s by simp]
        exact hJ2
theorem settle_e {d : Nat} {sx : Sx} {I : Ints} {L : Lngs} {R : Rfs} {q : Q3} {o : Nat} (ho : isLaw o) {i r : Nat} (hr : 1 ≤ r) (hr5 : r < 5) {stk : List Nat} {C : Cd} (hs : stOk stk) (hl : stk.length < 64) (hC : C.length + stk.length < 1000) (hL : LwC o i stk C I)
    (h : ∀ J, LwC o i (setS r stk) (C ++ setC r stk) J → Kp (LWP o) I J → q none J L R) : E0 mX3_settle (d + 2) sx [.ref o, .int (nI r)] I L R q := E0_of rfl rfl (Nat.le_of_ble_eq_true rfl) (settle_ok ho hr hr5 stk C I hs hl hC hL Kp.rf h)
theorem endPart_ok {d : Nat} {sx : Sx} {L : Lngs} {R : Rfs} {q : Q3} {I0 : Ints} {o : Nat} (ho : isLaw o) {i : Nat} : ∀ (stk : List Nat) (C : Cd) (I : Ints), stOk stk → stk.length < 64 → C.length + stk.length ≤ 1000 → LwC o i stk C I → Kp (LWP o) I0 I →
    (∀ J, LwC o i (endS stk) (C ++ endC stk) J → Kp (LWP o) I0 J → q none J L R) → Y mX3_endPart (d + 2) sx 0 [(0, .ref o)] [] I L R q := by
  intro stk
  induction stk with
  | nil =>
    intro C I hs hl hC hL hK h
    have e3 : I o 3 = nI 0 := hL.1
    refine RX3_endPart_0 ho ⟨fun c1 => ?_, fun c1 => ⟨?_, ⟨fun c2 => ?_, fun c2 => ?_⟩⟩⟩
    · (try simp (disch := omega) only [nlit, natrem, nIrm, nIam, nIam',  nI_add, pk_mul, nIsub, nIrem, nIdiv, nIand1, nIand3, nIand7, nIand31, nIshr, nIle, nIlt, nIeq, nIc, vpI, nIm1, m1nI, m1lt, nIlm, m1le, nIlem, nIneg, u2_ss, u2_nn, u2_kk, nIm1n, m1nIn, m1ltn, nIlmn, m1len, nIlemn, e3] at c1); (try simp (disch := omega) only [nlit, natrem, nIrm, nIam, nIam',  nI_add, pk_mul, nIsub, nIrem, nIdiv, nIand1, nIand3, nIand7, nIand31, nIshr, nIle, nIlt, nIeq, nIc, vpI, nIm1, m1nI, m1lt, nIlm, m1le, nIlem, nIneg, u2_ss, u2_nn, u2_kk, nIm1n, m1nIn, m1ltn, nIlmn, m1len, nIlemn, e3])
      have hh := h I (by rw [show C ++ endC [] = C by show C ++ [] = C; simp]; exact hL) hK
      exact hh
    · (try simp (disch := omega) only [nlit, natrem, nIrm, nIam, nIam',  nI_add, pk_mul, nIsub, nIrem, nIdiv, nIand1, nIand3, nIand7, nIand31, nIshr, nIle, nIlt, nIeq, nIc, vpI, nIm1, m1nI, m1lt, nIlm, m1le, nIlem, nIneg, u2_ss, u2_nn, u2_kk, nIm1n, m1nIn, m1ltn, nIlmn, m1len, nIlemn, e3] at c1) <;> (try simp (disch := omega) only [nlit, natrem, nIrm, nIam, nIam',  nI_add, pk_mul, nIsub, nIrem, nIdiv, nIand1, nIand3, nIand7, nIand31, nIshr, nIle, nIlt, nIeq, nIc, vpI, nIm1, m1nI, m1lt, nIlm, m1le, nIlem, nIneg, u2_ss, u2_nn, u2_kk, nIm1n, m1nIn, m1ltn, nIlmn, m1len, nIlemn, e3]) <;> (first | omega | trivial)
    · (try simp (disch := omega) only [nlit, natrem, nIrm, nIam, nIam',  nI_add, pk_mul, nIsub, nIrem, nIdiv, nIand1, nIand3, nIand7, nIand31, nIshr, nIle, nIlt, nIeq, nIc, vpI, nIm1, m1nI, m1lt, nIlm, m1le, nIlem, nIneg, u2_ss, u2_nn, u2_kk, nIm1n, m1nIn, m1ltn, nIlmn, m1len, nIlemn, e3] at c1 c2) <;> (first | omega | exact absurd rfl c1 | exact absurd trivial c1 | exact absurd rfl c2 | exact absurd trivial c2)
    · (try simp (disch := omega) only [nlit, natrem, nIrm, nIam, nIam',  nI_add, pk_mul, nIsub, nIrem, nIdiv, nIand1, nIand3, nIand7, nIand31, nIshr, nIle, nIlt, nIeq, nIc, vpI, nIm1, m1nI, m1lt, nIlm, m1le, nIlem, nIneg, u2_ss, u2_nn, u2_kk, nIm1n, m1nIn, m1ltn, nIlmn, m1len, nIlemn, e3] at c1 c2) <;> (first | omega | exact absurd rfl c1 | exact absurd trivial c1 | exact absurd rfl c2 | exact absurd trivial c2)
  | cons x s ih =>
    intro C I hs hl hC hL hK h
    simp only [List.length_cons] at hl hC
    have e3 : I o 3 = nI (s.length + 1) := hL.1
    have ex : I (o + 2) s.length = nI x := hL.2.1.1
    have hx := stE_lt (hs x List.mem_cons_self)
    refine RX3_endPart_0 ho ⟨fun c1 => ?_, fun c1 => ⟨?_, ⟨fun c2 => ?_, fun c2 => ?_⟩⟩⟩
    · (try simp (disch := omega) only [nlit, natrem, nIrm, nIam, nIam',  nI_add, pk_mul, nIsub, nIrem, nIdiv, nIand1, nIand3, nIand7, nIand31, nIshr, nIle, nIlt, nIeq, nIc, vpI, nIm1, m1nI, m1lt, nIlm, m1le, nIlem, nIneg, u2_ss, u2_nn, u2_kk, nIm1n, m1nIn, m1ltn, nIlmn, m1len, nIlemn, e3, ex, Nat.add_sub_cancel] at c1) <;> (first | omega | exact absurd rfl c1 | exact absurd trivial c1)
    · (try simp (disch := omega) only [nlit, natrem, nIrm, nIam, nIam',  nI_add, pk_mul, nIsub, nIrem, nIdiv, nIand1, nIand3, nIand7, nIand31, nIshr, nIle, nIlt, nIeq, nIc, vpI, nIm1, m1nI, m1lt, nIlm, m1le, nIlem, nIneg, u2_ss, u2_nn, u2_kk, nIm1n, m1nIn, m1ltn, nIlmn, m1len, nIlemn, e3, ex, Nat.add_sub_cancel] at c1) <;> (try simp (disch := omega) only [nlit, natrem, nIrm, nIam, nIam',  nI_add, pk_mul, nIsub, nIrem, nIdiv, nIand1, nIand3, nIand7, nIand31, nIshr, nIle, nIlt, nIeq, nIc, vpI, nIm1, m1nI, m1lt, nIlm, m1le, nIlem, nIneg, u2_ss, u2_nn, u2_kk, nIm1n, m1nIn, m1ltn, nIlmn, m1len, nIlemn, e3, ex, Nat.add_sub_cancel]) <;> (first | omega | trivial)
    · (try simp (disch := omega) only [nlit, natrem, nIrm, nIam, nIam',  nI_add, pk_mul, nIsub, nIrem, nIdiv, nIand1, nIand3, nIand7, nIand31, nIshr, nIle, nIlt, nIeq, nIc, vpI, nIm1, m1nI, m1lt, nIlm, m1le, nIlem, nIneg, u2_ss, u2_nn, u2_kk, nIm1n, m1nIn, m1ltn, nIlmn, m1len, nIlemn, e3, ex, Nat.add_sub_cancel] at c1 c2); (try simp (disch := omega) only [nlit, natrem, nIrm, nIam, nIam',  nI_add, pk_mul, nIsub, nIrem, nIdiv, nIand1, nIand3, nIand7, nIand31, nIshr, nIle, nIlt, nIeq, nIc, vpI, nIm1, m1nI, m1lt, nIlm, m1le, nIlem, nIneg, u2_ss, u2_nn, u2_kk, nIm1n, m1nIn, m1ltn, nIlmn, m1len, nIlemn, e3, ex, Nat.add_sub_cancel])
      have he := end_id (stk := x :: s) (fun y hy => by have : x = y := Option.some.inj hy; omega)
      refine h I ?_ hK
      rw [he.1, he.2, List.append_nil]
      exact hL
    · (try simp (disch := omega) only [nlit, natrem, nIrm, nIam, nIam',  nI_add, pk_mul, nIsub, nIrem, nIdiv, nIand1, nIand3, nIand7, nIand31, nIshr, nIle, nIlt, nIeq, nIc, vpI, nIm1, m1nI, m1lt, nIlm, m1le, nIlem, nIneg, u2_ss, u2_nn, u2_kk, nIm1n, m1nIn, m1ltn, nIlmn, m1len, nIlemn, e3, ex, Nat.add_sub_cancel] at c1 c2); (try simp (disch := omega) only [nlit, natrem, nIrm, nIam, nIam',  nI_add, pk_mul, nIsub, nIrem, nIdiv, nIand1, nIand3, nIand7, nIand31, nIshr, nIle, nIlt, nIeq, nIc, vpI, nIm1, m1nI, m1lt, nIlm, m1le, nIlem, nIneg, u2_ss, u2_nn, u2_kk, nIm1n, m1nIn, m1ltn, nIlmn, m1len, nIlemn, e3, ex, Nat.add_sub_cancel])
      have e22 : x = 22 := by omega
      subst e22
      refine lput_ok (x := (3, 0)) ho cco_22.symm hL (by omega) (fun J hJ hKJ => ?_)
      refine RX3_endPart_29 ho ?_
      have e3J : J o 3 = nI (s.length + 1) := hJ.1
      have e4J : J o 4 = nI (opn s + 1) := by rw [← opn_c (Or.inl rfl)]; exact hJ.2.2.2.2.1
      rw [e3J, u2_kk _ _ _ _ (by decide), e4J, show nI (s.length + 1) - 1 = nI s.length by rw [show (1 : Int32) = nI 1 from rfl, nIsub (by omega)]; rfl, show nI (opn s + 1) - 1 = nI (opn s) by rw [show (1 : Int32) = nI 1 from rfl, nIsub (by omega)]; rfl]
      refine ih (C ++ [(3, 0)]) _ (fun y hy => hs y (List.mem_cons_of_mem _ hy)) (by omega) (by simp; omega) hJ.popd (((hK.tr hKJ).up (by simp)).up (by simp)) (fun J2 hJ2 hK2 => h J2 ?_ hK2)
      rw [show endS (22 :: s) = endS s from rfl, show endC (22 :: s) = (3, 0) :: endC s from rfl, show C ++ (3, 0) :: endC s = C ++ [(3, 0)] ++ endC s by simp]
      exact hJ2
theorem endPart_e {d : Nat} {sx : Sx} {I : Ints} {L : Lngs} {R : Rfs} {q : Q3} {o : Nat} (ho : isLaw o) {i : Nat} {stk : List Nat} {C : Cd} (hs : stOk stk) (hl : stk.length < 64) (hC : C.length + stk.length ≤ 1000) (hL : LwC o i stk C I)
    (h : ∀ J, LwC o i (endS stk) (C ++ endC stk) J → Kp (LWP o) I J → q none J L R) : E0 mX3_endPart (d + 2) sx [.ref o] I L R q := E0_of rfl rfl (Nat.le_of_ble_eq_true rfl) (endPart_ok ho stk C I hs hl hC hL Kp.rf h)
theorem cmpA_c {x : Nat} {s : List Nat} : (rk x < 2 → cmpA (x :: s) = false) ∧ (rk x = 2 → cmpA (x :: s) = true) ∧ (2 < rk x → cmpA (x :: s) = cmpA s) := by
  unfold cmpA
  refine ⟨fun h => ?_, fun h => ?_, fun h => ?_⟩
  · rw [List.takeWhile_cons, if_neg (by simp; omega)]; rfl
  · rw [List.takeWhile_cons, if_pos (decide_eq_true (by omega)), List.any_cons, h]; rfl
  · rw [List.takeWhile_cons, if_pos (decide_eq_true (by omega)), List.any_cons, show (rk x == 2) = false from beq_false_of_ne (by omega)]; rfl
theorem cmpAlr_ok {d : Nat} {sx : Sx} {I : Ints} {L : Lngs} {R : Rfs} {q : Q3} {o : Nat} (ho : isLaw o) : ∀ (stk : List Nat), stOk stk → stk.length < 64 → stR I (o + 2) stk → ((cmpA stk = true → q (some (.int 1)) I L R) ∧ (cmpA stk = false → q (some (.int 0)) I L R)) → Y mX3_comparesAlready (d + 2) sx 7 [(0, .ref o), (1, .int (nI stk.length - 1))] [] I L R q := by
  intro stk
  induction stk with
  | nil =>
    intro hs hl hR h
    refine RX3_comparesAlready_7 ho ⟨fun _ => h.2 rfl, fun c1 => absurd (by decide) c1⟩
  | cons x s ih =>
    intro hs hl hR h
    simp only [List.length_cons] at hl ⊢
    have ex : I (o + 2) s.length = nI x := hR.1
    have hx := stE_lt (hs x List.mem_cons_self)
    have hx5 := rk_lt x
    have e1 : nI (s.length + 1) - 1 = nI s.length := by rw [show (1 : Int32) = nI 1 from rfl, nIsub (by omega)]; rfl
    rw [e1]
    refine RX3_comparesAlready_7 ho ⟨fun c1 => ?_, fun c1 => ⟨?_, ?_⟩⟩
    · (try simp (disch := omega) only [nlit, natrem, nIrm, nIam, nIam',  nI_add, pk_mul, nIsub, nIrem, nIdiv, nIand1, nIand3, nIand7, nIand31, nIshr, nIle, nIlt, nIeq, nIc, vpI, nIm1, m1nI, m1lt, nIlm, m1le, nIlem, nIneg, u2_ss, u2_nn, u2_kk, nIm1n, m1nIn, m1ltn, nIlmn, m1len, nIlemn, ex] at c1) <;> (first | omega | exact absurd rfl c1 | exact absurd trivial c1)
    · (try simp (disch := omega) only [nlit, natrem, nIrm, nIam, nIam',  nI_add, pk_mul, nIsub, nIrem, nIdiv, nIand1, nIand3, nIand7, nIand31, nIshr, nIle, nIlt, nIeq, nIc, vpI, nIm1, m1nI, m1lt, nIlm, m1le, nIlem, nIneg, u2_ss, u2_nn, u2_kk, nIm1n, m1nIn, m1ltn, nIlmn, m1len, nIlemn, ex] at c1) <;> (try simp (disch := omega) only [nlit, natrem, nIrm, nIam, nIam',  nI_add, pk_mul, nIsub, nIrem, nIdiv, nIand1, nIand3, nIand7, nIand31, nIshr, nIle, nIlt, nIeq, nIc, vpI, nIm1, m1nI, m1lt, nIlm, m1le, nIlem, nIneg, u2_ss, u2_nn, u2_kk, nIm1n, m1nIn, m1ltn, nIlmn, m1len, nIlemn, ex]) <;> (first | omega | trivial)
    · (try simp (disch := omega) only [nlit, natrem, nIrm, nIam, nIam',  nI_add, pk_mul, nIsub, nIrem, nIdiv, nIand1, nIand3, nIand7, nIand31, nIshr, nIle, nIlt, nIeq, nIc, vpI, nIm1, m1nI, m1lt, nIlm, m1le, nIlem, nIneg, u2_ss, u2_nn, u2_kk, nIm1n, m1nIn, m1ltn, nIlmn, m1len, nIlemn, ex] at c1); (try simp (disch := omega) only [nlit, natrem, nIrm, nIam, nIam',  nI_add, pk_mul, nIsub, nIrem, nIdiv, nIand1, nIand3, nIand7, nIand31, nIshr, nIle, nIlt, nIeq, nIc, vpI, nIm1, m1nI, m1lt, nIlm, m1le, nIlem, nIneg, u2_ss, u2_nn, u2_kk, nIm1n, m1nIn, m1ltn, nIlmn, m1len, nIlemn, ex])
      refine rankC_ok (by omega) ?_
      refine RX3_comparesAlready_20 ho ⟨fun c1 => ?_, fun c1 => ⟨?_, ?_⟩⟩
      · simp (disch := omega) only [nlit, natrem, nIrm, nIam, nIam',  nI_add, pk_mul, nIsub, nIrem, nIdiv, nIand1, nIand3, nIand7, nIand31, nIshr, nIle, nIlt, nIeq, nIc, vpI, nIm1, m1nI, m1lt, nIlm, m1le, nIlem, nIneg, u2_ss, u2_nn, u2_kk, nIm1n, m1nIn, m1ltn, nIlmn, m1len, nIlemn] at c1
        exact h.2 (cmpA_c.1 c1)
      · simp (disch := omega) only [nlit, natrem, nIrm, nIam, nIam',  nI_add, pk_mul, nIsub, nIrem, nIdiv, nIand1, nIand3, nIand7, nIand31, nIshr, nIle, nIlt, nIeq, nIc, vpI, nIm1, m1nI, m1lt, nIlm, m1le, nIlem, nIneg, u2_ss, u2_nn, u2_kk, nIm1n, m1nIn, m1ltn, nIlmn, m1len, nIlemn]; omega
      · simp (disch := omega) only [nlit, natrem, nIrm, nIam, nIam',  nI_add, pk_mul, nIsub, nIrem, nIdiv, nIand1, nIand3, nIand7, nIand31, nIshr, nIle, nIlt, nIeq, nIc, vpI, nIm1, m1nI, m1lt, nIlm, m1le, nIlem, nIneg, u2_ss, u2_nn, u2_kk, nIm1n, m1nIn, m1ltn, nIlmn, m1len, nIlemn] at c1
        rw [nIc (by omega), ex]
        refine rankC_ok (by omega) ?_
        refine RX3_comparesAlready_33 ho ⟨fun c2 => ?_, fun c2 => ?_⟩
        · simp (disch := omega) only [nlit, natrem, nIrm, nIam, nIam',  nI_add, pk_mul, nIsub, nIrem, nIdiv, nIand1, nIand3, nIand7, nIand31, nIshr, nIle, nIlt, nIeq, nIc, vpI, nIm1, m1nI, m1lt, nIlm, m1le, nIlem, nIneg, u2_ss, u2_nn, u2_kk, nIm1n, m1nIn, m1ltn, nIlmn, m1len, nIlemn] at c2
          have := ih (fun y hy => hs y (List.mem_cons_of_mem _ hy)) (by omega) hR.2 (by rw [← (cmpA_c (x := x) (s := s)).2.2 (by omega)]; exact h)
          rw [show nI s.length + -1 = nI s.length - 1 from (Int32.sub_eq_add_neg _ _).symm]
          exact this
        · simp (disch := omega) only [nlit, natrem, nIrm, nIam, nIam',  nI_add, pk_mul, nIsub, nIrem, nIdiv, nIand1, nIand3, nIand7, nIand31, nIshr, nIle, nIlt, nIeq, nIc, vpI, nIm1, m1nI, m1lt, nIlm, m1le, nIlem, nIneg, u2_ss, u2_nn, u2_kk, nIm1n, m1nIn, m1ltn, nIlmn, m1len, nIlemn] at c2
          exact h.1 (cmpA_c.2.1 c2)
theorem fOfPart_ok {d : Nat} {sx : Sx} {I : Ints} {L : Lngs} {R : Rfs} {q : Q3} {o : Nat} (ho : isLaw o) {dp s : Nat} (h4 : I o 4 = nI dp) (hdp : dp < 1000) (hs : s < 100)
    (h1 : ¬ bgs s → q (some (.int (nI 1))) I L R) (h5 : bgs s → 5 ≤ dp → q (some (.int (nI 5))) I L R) (h0 : bgs s → dp < 5 → q (some (.int (nI 0))) I L R) : E0 mX3_faultOfPart (d + 2) sx [.ref o, .int (nI s)] I L R q := by
  refine EX3_faultOfPart ho ⟨fun c1 => ⟨fun c2 => ?_, fun c2 => ?_⟩, fun c1 => ⟨fun c2 => ⟨fun c3 => ?_, fun c3 => ?_⟩, fun c2 => ⟨fun c3 => ⟨fun c4 => ?_, fun c4 => ?_⟩, fun c3 => ?_⟩⟩⟩
  · (try simp (disch := omega) only [nlit, natrem, nIrm, nIam, nIam',  nI_add, pk_mul, nIsub, nIrem, nIdiv, nIand1, nIand3, nIand7, nIand31, nIshr, nIle, nIlt, nIeq, nIc, vpI, nIm1, m1nI, m1lt, nIlm, m1le, nIlem, nIneg, u2_ss, u2_nn, u2_kk, nIm1n, m1nIn, m1ltn, nIlmn, m1len, nIlemn, h4] at c1 c2); (try simp (disch := omega) only [nlit, natrem, nIrm, nIam, nIam',  nI_add, pk_mul, nIsub, nIrem, nIdiv, nIand1, nIand3, nIand7, nIand31, nIshr, nIle, nIlt, nIeq, nIc, vpI, nIm1, m1nI, m1lt, nIlm, m1le, nIlem, nIneg, u2_ss, u2_nn, u2_kk, nIm1n, m1nIn, m1ltn, nIlmn, m1len, nIlemn, h4])
    exact h0 (by unfold bgs; omega) (by omega)
  · (try simp (disch := omega) only [nlit, natrem, nIrm, nIam, nIam',  nI_add, pk_mul, nIsub, nIrem, nIdiv, nIand1, nIand3, nIand7, nIand31, nIshr, nIle, nIlt, nIeq, nIc, vpI, nIm1, m1nI, m1lt, nIlm, m1le, nIlem, nIneg, u2_ss, u2_nn, u2_kk, nIm1n, m1nIn, m1ltn, nIlmn, m1len, nIlemn, h4] at c1 c2); (try simp (disch := omega) only [nlit, natrem, nIrm, nIam, nIam',  nI_add, pk_mul, nIsub, nIrem, nIdiv, nIand1, nIand3, nIand7, nIand31, nIshr, nIle, nIlt, nIeq, nIc, vpI, nIm1, m1nI, m1lt, nIlm, m1le, nIlem, nIneg, u2_ss, u2_nn, u2_kk, nIm1n, m1nIn, m1ltn, nIlmn, m1len, nIlemn, h4])
    exact h5 (by unfold bgs; omega) (by omega)
  · (try simp (disch := omega) only [nlit, natrem, nIrm, nIam, nIam',  nI_add, pk_mul, nIsub, nIrem, nIdiv, nIand1, nIand3, nIand7, nIand31, nIshr, nIle, nIlt, nIeq, nIc, vpI, nIm1, m1nI, m1lt, nIlm, m1le, nIlem, nIneg, u2_ss, u2_nn, u2_kk, nIm1n, m1nIn, m1ltn, nIlmn, m1len, nIlemn, h4] at c1 c2 c3); (try simp (disch := omega) only [nlit, natrem, nIrm, nIam, nIam',  nI_add, pk_mul, nIsub, nIrem, nIdiv, nIand1, nIand3, nIand7, nIand31, nIshr, nIle, nIlt, nIeq, nIc, vpI, nIm1, m1nI, m1lt, nIlm, m1le, nIlem, nIneg, u2_ss, u2_nn, u2_kk, nIm1n, m1nIn, m1ltn, nIlmn, m1len, nIlemn, h4])
    exact h0 (by unfold bgs; omega) (by omega)
  · (try simp (disch := omega) only [nlit, natrem, nIrm, nIam, nIam',  nI_add, pk_mul, nIsub, nIrem, nIdiv, nIand1, nIand3, nIand7, nIand31, nIshr, nIle, nIlt, nIeq, nIc, vpI, nIm1, m1nI, m1lt, nIlm, m1le, nIlem, nIneg, u2_ss, u2_nn, u2_kk, nIm1n, m1nIn, m1ltn, nIlmn, m1len, nIlemn, h4] at c1 c2 c3); (try simp (disch := omega) only [nlit, natrem, nIrm, nIam, nIam',  nI_add, pk_mul, nIsub, nIrem, nIdiv, nIand1, nIand3, nIand7, nIand31, nIshr, nIle, nIlt, nIeq, nIc, vpI, nIm1, m1nI, m1lt, nIlm, m1le, nIlem, nIneg, u2_ss, u2_nn, u2_kk, nIm1n, m1nIn, m1ltn, nIlmn, m1len, nIlemn, h4])
    exact h5 (by unfold bgs; omega) (by omega)
  · (try simp (disch := omega) only [nlit, natrem, nIrm, nIam, nIam',  nI_add, pk_mul, nIsub, nIrem, nIdiv, nIand1, nIand3, nIand7, nIand31, nIshr, nIle, nIlt, nIeq, nIc, vpI, nIm1, m1nI, m1lt, nIlm, m1le, nIlem, nIneg, u2_ss, u2_nn, u2_kk, nIm1n, m1nIn, m1ltn, nIlmn, m1len, nIlemn, h4] at c1 c2 c3 c4); (try simp (disch := omega) only [nlit, natrem, nIrm, nIam, nIam',  nI_add, pk_mul, nIsub, nIrem, nIdiv, nIand1, nIand3, nIand7, nIand31, nIshr, nIle, nIlt, nIeq, nIc, vpI, nIm1, m1nI, m1lt, nIlm, m1le, nIlem, nIneg, u2_ss, u2_nn, u2_kk, nIm1n, m1nIn, m1ltn, nIlmn, m1len, nIlemn, h4])
    exact h0 (by unfold bgs; omega) (by omega)
  · (try simp (disch := omega) only [nlit, natrem, nIrm, nIam, nIam',  nI_add, pk_mul, nIsub, nIrem, nIdiv, nIand1, nIand3, nIand7, nIand31, nIshr, nIle, nIlt, nIeq, nIc, vpI, nIm1, m1nI, m1lt, nIlm, m1le, nIlem, nIneg, u2_ss, u2_nn, u2_kk, nIm1n, m1nIn, m1ltn, nIlmn, m1len, nIlemn, h4] at c1 c2 c3 c4); (try simp (disch := omega) only [nlit, natrem, nIrm, nIam, nIam',  nI_add, pk_mul, nIsub, nIrem, nIdiv, nIand1, nIand3, nIand7, nIand31, nIshr, nIle, nIlt, nIeq, nIc, vpI, nIm1, m1nI, m1lt, nIlm, m1le, nIlem, nIneg, u2_ss, u2_nn, u2_kk, nIm1n, m1nIn, m1ltn, nIlmn, m1len, nIlemn, h4])
    exact h5 (by unfold bgs; omega) (by omega)
  · (try simp (disch := omega) only [nlit, natrem, nIrm, nIam, nIam',  nI_add, pk_mul, nIsub, nIrem, nIdiv, nIand1, nIand3, nIand7, nIand31, nIshr, nIle, nIlt, nIeq, nIc, vpI, nIm1, m1nI, m1lt, nIlm, m1le, nIlem, nIneg, u2_ss, u2_nn, u2_kk, nIm1n, m1nIn, m1ltn, nIlmn, m1len, nIlemn, h4] at c1 c2 c3); (try simp (disch := omega) only [nlit, natrem, nIrm, nIam, nIam',  nI_add, pk_mul, nIsub, nIrem, nIdiv, nIand1, nIand3, nIand7, nIand31, nIshr, nIle, nIlt, nIeq, nIc, vpI, nIm1, m1nI, m1lt, nIlm, m1le, nIlem, nIneg, u2_ss, u2_nn, u2_kk, nIm1n, m1nIn, m1ltn, nIlmn, m1len, nIlemn, h4])
    refine isFact_ok (by omega) (fun hf => ?_) (fun hf => ?_)
    · refine RX3_faultOfPart_22 ho ⟨fun c => absurd c (by decide), fun _ => ⟨fun c => ?_, fun c => ?_⟩⟩
      · rw [h4] at c
        simp (disch := omega) only [nlit, natrem, nIrm, nIam, nIam',  nI_add, pk_mul, nIsub, nIrem, nIdiv, nIand1, nIand3, nIand7, nIand31, nIshr, nIle, nIlt, nIeq, nIc, vpI, nIm1, m1nI, m1lt, nIlm, m1le, nIlem, nIneg, u2_ss, u2_nn, u2_kk, nIm1n, m1nIn, m1ltn, nIlmn, m1len, nIlemn] at c
        exact h0 (by unfold bgs; omega) c
      · rw [h4] at c
        simp (disch := omega) only [nlit, natrem, nIrm, nIam, nIam',  nI_add, pk_mul, nIsub, nIrem, nIdiv, nIand1, nIand3, nIand7, nIand31, nIshr, nIle, nIlt, nIeq, nIc, vpI, nIm1, m1nI, m1lt, nIlm, m1le, nIlem, nIneg, u2_ss, u2_nn, u2_kk, nIm1n, m1nIn, m1ltn, nIlmn, m1len, nIlemn] at c
        exact h5 (by unfold bgs; omega) (by omega)
    · exact RX3_faultOfPart_22 ho ⟨fun _ => h1 (by unfold bgs; omega), fun c => absurd rfl c⟩
theorem fBehind_ok {d : Nat} {sx : Sx} {I : Ints} {L : Lngs} {R : Rfs} {q : Q3} {o : Nat} (ho : isLaw o) {i : Nat} {stk : List Nat} {C : Cd} {s : Nat} (hL : LwC o i stk C I) (hst : stOk stk) (hl : stk.length < 64) (hs : s < 100)
    (h1 : fBh stk s → q (some (.int (nI 1))) I L R) (h0 : ¬ fBh stk s → q (some (.int (nI 0))) I L R) : E0 mX3_faultBehindPart (d + 3) sx [.ref o, .int (nI s)] I L R q := by
  have h4 := hL.2.2.2.2.1
  have hop : opn stk ≤ stk.length := List.length_filter_le _ _
  have hr5 := rk_lt s
  refine EX3_faultBehindPart ho ⟨fun c1 => ⟨fun c2 => ?_, fun c2 => ?_⟩, fun c1 => ⟨fun c2 => ?_, fun c2 => ⟨fun c3 => ?_, fun c3 => ?_⟩⟩⟩
  · (try simp (disch := omega) only [nlit, natrem, nIrm, nIam, nIam',  nI_add, pk_mul, nIsub, nIrem, nIdiv, nIand1, nIand3, nIand7, nIand31, nIshr, nIle, nIlt, nIeq, nIc, vpI, nIm1, m1nI, m1lt, nIlm, m1le, nIlem, nIneg, u2_ss, u2_nn, u2_kk, nIm1n, m1nIn, m1ltn, nIlmn, m1len, nIlemn, h4] at c1 c2); (try simp (disch := omega) only [nlit, natrem, nIrm, nIam, nIam',  nI_add, pk_mul, nIsub, nIrem, nIdiv, nIand1, nIand3, nIand7, nIand31, nIshr, nIle, nIlt, nIeq, nIc, vpI, nIm1, m1nI, m1lt, nIlm, m1le, nIlem, nIneg, u2_ss, u2_nn, u2_kk, nIm1n, m1nIn, m1ltn, nIlmn, m1len, nIlemn, h4])
    exact h1 (Or.inl ⟨by omega, by omega⟩)
  · (try simp (disch := omega) only [nlit, natrem, nIrm, nIam, nIam',  nI_add, pk_mul, nIsub, nIrem, nIdiv, nIand1, nIand3, nIand7, nIand31, nIshr, nIle, nIlt, nIeq, nIc, vpI, nIm1, m1nI, m1lt, nIlm, m1le, nIlem, nIneg, u2_ss, u2_nn, u2_kk, nIm1n, m1nIn, m1ltn, nIlmn, m1len, nIlemn, h4] at c1 c2); (try simp (disch := omega) only [nlit, natrem, nIrm, nIam, nIam',  nI_add, pk_mul, nIsub, nIrem, nIdiv, nIand1, nIand3, nIand7, nIand31, nIshr, nIle, nIlt, nIeq, nIc, vpI, nIm1, m1nI, m1lt, nIlm, m1le, nIlem, nIneg, u2_ss, u2_nn, u2_kk, nIm1n, m1nIn, m1ltn, nIlmn, m1len, nIlemn, h4])
    exact h0 (by unfold fBh; omega)
  · (try simp (disch := omega) only [nlit, natrem, nIrm, nIam, nIam',  nI_add, pk_mul, nIsub, nIrem, nIdiv, nIand1, nIand3, nIand7, nIand31, nIshr, nIle, nIlt, nIeq, nIc, vpI, nIm1, m1nI, m1lt, nIlm, m1le, nIlem, nIneg, u2_ss, u2_nn, u2_kk, nIm1n, m1nIn, m1ltn, nIlmn, m1len, nIlemn, h4] at c1 c2); (try simp (disch := omega) only [nlit, natrem, nIrm, nIam, nIam',  nI_add, pk_mul, nIsub, nIrem, nIdiv, nIand1, nIand3, nIand7, nIand31, nIshr, nIle, nIlt, nIeq, nIc, vpI, nIm1, m1nI, m1lt, nIlm, m1le, nIlem, nIneg, u2_ss, u2_nn, u2_kk, nIm1n, m1nIn, m1ltn, nIlmn, m1len, nIlemn, h4])
    refine rankC_ok (by omega) ?_
    refine RX3_faultBehindPart_48 ho ⟨fun c => ?_, fun c => ⟨fun c3 => ?_, fun c3 => ?_⟩⟩
    · rw [show (0 : Int32) = nI 0 from rfl, nIeq (by omega) (by decide)] at c
      exact h1 (Or.inr (Or.inr ⟨by omega, by omega, Or.inl c⟩))
    · rw [show (0 : Int32) = nI 0 from rfl, nIeq (by omega) (by decide)] at c
      rw [show (2 : Int32) = nI 2 from rfl, nIeq (by omega) (by decide)] at c3
      exact h0 (by unfold fBh; omega)
    · rw [show (2 : Int32) = nI 2 from rfl, nIeq (by omega) (by decide)] at c3
      refine EX3_comparesAlready ho ?_
      rw [hL.1]
      refine cmpAlr_ok ho stk hst hl hL.2.1 ⟨fun hc => ?_, fun hc => ?_⟩
      · exact RX3_faultBehindPart_62 ⟨fun c => absurd c (by decide), fun _ => h1 (Or.inr (Or.inr ⟨by omega, by omega, Or.inr ⟨c3, hc⟩⟩))⟩
      · refine RX3_faultBehindPart_62 ⟨fun _ => h0 ?_, fun c => absurd rfl c⟩
        rintro (h | h | h)
        · omega
        · omega
        · rcases h.2.2 with h | h
          · omega
          · rw [hc] at h; exact absurd h.2 (by decide)
  · (try simp (disch := omega) only [nlit, natrem, nIrm, nIam, nIam',  nI_add, pk_mul, nIsub, nIrem, nIdiv, nIand1, nIand3, nIand7, nIand31, nIshr, nIle, nIlt, nIeq, nIc, vpI, nIm1, m1nI, m1lt, nIlm, m1le, nIlem, nIneg, u2_ss, u2_nn, u2_kk, nIm1n, m1nIn, m1ltn, nIlmn, m1len, nIlemn, h4] at c1 c2 c3); (try simp (disch := omega) only [nlit, natrem, nIrm, nIam, nIam',  nI_add, pk_mul, nIsub, nIrem, nIdiv, nIand1, nIand3, nIand7, nIand31, nIshr, nIle, nIlt, nIeq, nIc, vpI, nIm1, m1nI, m1lt, nIlm, m1le, nIlem, nIneg, u2_ss, u2_nn, u2_kk, nIm1n, m1nIn, m1ltn, nIlmn, m1len, nIlemn, h4])
    exact h0 (by unfold fBh; omega)
  · (try simp (disch := omega) only [nlit, natrem, nIrm, nIam, nIam',  nI_add, pk_mul, nIsub, nIrem, nIdiv, nIand1, nIand3, nIand7, nIand31, nIshr, nIle, nIlt, nIeq, nIc, vpI, nIm1, m1nI, m1lt, nIlm, m1le, nIlem, nIneg, u2_ss, u2_nn, u2_kk, nIm1n, m1nIn, m1ltn, nIlmn, m1len, nIlemn, h4] at c1 c2 c3); (try simp (disch := omega) only [nlit, natrem, nIrm, nIam, nIam',  nI_add, pk_mul, nIsub, nIrem, nIdiv, nIand1, nIand3, nIand7, nIand31, nIshr, nIle, nIlt, nIeq, nIc, vpI, nIm1, m1nI, m1lt, nIlm, m1le, nIlem, nIneg, u2_ss, u2_nn, u2_kk, nIm1n, m1nIn, m1ltn, nIlmn, m1len, nIlemn, h4])
    exact h1 (Or.inr (Or.inl ⟨by omega, by omega⟩))
theorem tw_mem {P : Nat → Bool} {x : Nat} : ∀ l : List Nat, x ∈ l.takeWhile P → P x = true
  | [], h => absurd h (by simp)
  | y :: l, h => by
    rw [List.takeWhile_cons] at h
    split at h
    · rename_i hy
      rcases List.mem_cons.mp h with h | h
      · rw [h]; exact hy
      · exact tw_mem l h
    · exact absurd h (by simp)
theorem stOk.dw {P : Nat → Bool} {stk : List Nat} (h : stOk stk) : stOk (stk.dropWhile P) := fun x hx => h x ((List.dropWhile_sublist P).subset hx)
theorem dw_len {P : Nat → Bool} (stk : List Nat) : (stk.takeWhile P).length + (stk.dropWhile P).length = stk.length := by
  have := congrArg List.length (List.takeWhile_append_dropWhile (p := P) (l := stk))
  rw [List.length_append] at this
  exact this
theorem setL (r : Nat) (stk : List Nat) : (setC r stk).length + (setS r stk).length = stk.length := by unfold setC setS; rw [List.length_map]; exact dw_len stk
theorem endL (stk : List Nat) : (endC stk).length + (endS stk).length = stk.length := by unfold endC endS; rw [List.length_map]; exact dw_len stk
theorem bgs_f {s : Nat} (h : bgs s) (h1 : s ≠ 31) (h2 : s ≠ 22) (h3 : s ≠ 40) : s = 10 ∨ (25 ≤ s ∧ s ≤ 27) := by unfold bgs at h; omega
/-- a part's first token -/
theorem takePartC_ok {d : Nat} {sx : Sx} {I : Ints} {L : Lngs} {R : Rfs} {q : Q3} {o : Nat} (ho : isLaw o) {ts : List Tk} {i : Nat} {stk : List Nat} {C : Cd} {v2 : Int32} (hL : LwC o i stk C I) (hst : stOk stk) (hl : stk.length < 60) (hC : C.length + stk.length < 1000) (hs : sK ts i < 100) (hb : bgs (sK ts i)) (hv : sK ts i = 31 → v2 = nI (vK ts i))
    (h0 : (sK ts i = 22 ∨ sK ts i = 40) → ∀ J, LwC o i (sK ts i :: stk) C J → Kp (LWP o) I J → q (some (.int 0)) J L R)
    (h1 : ¬ (sK ts i = 22 ∨ sK ts i = 40) → ∀ J, LwC o i (endS stk) (C ++ [opd ts i] ++ endC stk) J → Kp (LWP o) I J → q (some (.int 1)) J L R) : E0 mX3_takePart (d + 3) sx [.ref o, .int (nI (sK ts i)), .int v2] I L R q := by
  have h3 := hL.1
  have h4 := hL.2.2.2.2.1
  have hop : opn stk ≤ stk.length := List.length_filter_le _ _
  have hpush : ∀ s, s = sK ts i → (s = 22 ∨ s = 40) → E0 mX3_push (d + 2) sx [.ref o, .int (nI s)] (u2 I o 4 (nI (opn stk) + 1)) L R (fun r J K T => Y mX3_takePart (d + 3) sx 27 [] (r.toList ++ []) J K T q) := by
    intro s e hs2
    subst e
    rw [show nI (opn stk) + 1 = nI (opn stk + 1) from nI_add _ 1]
    refine lpush_ok ho (n := stk.length) (by rw [u2_kk _ _ _ _ (by decide)]; exact h3) (by omega) (RX3_takePart_27 ?_)
    exact h0 hs2 _ (hL.push (opn_c hs2).symm) (((Kp.rf.up (by simp)).up (by simp)).up (by simp))
  have hput : ∀ v, v = cco (opd ts i).1 (opd ts i).2 → ¬ (sK ts i = 22 ∨ sK ts i = 40) → E0 mX3_put (d + 2) sx [.ref o, .int v] I L R (fun r J K T => Y mX3_takePart (d + 3) sx 46 [(0, .ref o)] (r.toList ++ []) J K T q) := by
    intro v hv hs2
    refine lput_ok ho hv hL (by omega) (fun J hJ hK => RX3_takePart_46 ho ?_)
    refine endPart_e ho hst (by omega) (by simp; omega) hJ (fun J2 hJ2 hK2 => RX3_takePart_50 (h1 hs2 J2 hJ2 (hK.tr hK2)))
  refine EX3_takePart ho ⟨fun c1 => ?_, fun c1 => ⟨fun c2 => ⟨fun c3 => ?_, fun c3 => ?_⟩, fun c2 => ?_⟩⟩
  · simp (disch := omega) only [nlit, natrem, nIrm, nIam, nIam',  nI_add, pk_mul, nIsub, nIrem, nIdiv, nIand1, nIand3, nIand7, nIand31, nIshr, nIle, nIlt, nIeq, nIc, vpI, nIm1, m1nI, m1lt, nIlm, m1le, nIlem, nIneg, u2_ss, u2_nn, u2_kk, nIm1n, m1nIn, m1ltn, nIlmn, m1len, nIlemn] at c1
    rw [h4]
    exact hpush _ rfl (Or.inl c1)
  · simp (disch := omega) only [nlit, natrem, nIrm, nIam, nIam',  nI_add, pk_mul, nIsub, nIrem, nIdiv, nIand1, nIand3, nIand7, nIand31, nIshr, nIle, nIlt, nIeq, nIc, vpI, nIm1, m1nI, m1lt, nIlm, m1le, nIlem, nIneg, u2_ss, u2_nn, u2_kk, nIm1n, m1nIn, m1ltn, nIlmn, m1len, nIlemn] at c1 c2 c3
    refine hput _ ?_ (by omega)
    unfold opd
    rw [if_neg c3]
    exact (cco_f (bgs_f hb c3 c1 c2)).symm
  · simp (disch := omega) only [nlit, natrem, nIrm, nIam, nIam',  nI_add, pk_mul, nIsub, nIrem, nIdiv, nIand1, nIand3, nIand7, nIand31, nIshr, nIle, nIlt, nIeq, nIc, vpI, nIm1, m1nI, m1lt, nIlm, m1le, nIlem, nIneg, u2_ss, u2_nn, u2_kk, nIm1n, m1nIn, m1ltn, nIlmn, m1len, nIlemn] at c1 c2 c3
    refine hput _ ?_ (by omega)
    unfold opd
    rw [if_pos c3, hv c3]
    rfl
  · simp (disch := omega) only [nlit, natrem, nIrm, nIam, nIam',  nI_add, pk_mul, nIsub, nIrem, nIdiv, nIand1, nIand3, nIand7, nIand31, nIshr, nIle, nIlt, nIeq, nIc, vpI, nIm1, m1nI, m1lt, nIlm, m1le, nIlem, nIneg, u2_ss, u2_nn, u2_kk, nIm1n, m1nIn, m1ltn, nIlmn, m1len, nIlemn] at c1 c2
    rw [h4]
    exact hpush _ rfl (Or.inr c2)
theorem tail_len {s : List Nat} : s.tail.length = s.length - 1 := by simp
/-- what stands behind a part -/
theorem takeBehind_ok {d : Nat} {sx : Sx} {I : Ints} {L : Lngs} {R : Rfs} {q : Q3} {o : Nat} (ho : isLaw o) {i s : Nat} {stk : List Nat} {C : Cd} (hL : LwC o i stk C I) (hst : stOk stk) (hl : stk.length < 60) (hC : C.length + stk.length < 1000) (hs : s < 62) (hb : ¬ fBh stk s)
    (h0 : s = 59 → ∀ J, LwC o i (setS 1 stk) (C ++ setC 1 stk) J → Kp (LWP o) I J → q none J L R)
    (h1 : s = 41 → ∀ J, LwC o i (endS (setS 1 stk).tail) (C ++ setC 1 stk ++ endC (setS 1 stk).tail) J → Kp (LWP o) I J → q none J L R)
    (h2 : s ≠ 59 → s ≠ 41 → ∀ J, LwC o i (s :: setS (rk s) stk) (C ++ setC (rk s) stk) J → Kp (LWP o) I J → q none J L R) : E0 mX3_takeBehindPart (d + 3) sx [.ref o, .int (nI s)] I L R q := by
  have hr5 := rk_lt s
  refine EX3_takeBehindPart ho ⟨fun c1 => ⟨fun c2 => ?_, fun c2 => ?_⟩, fun c1 => ?_⟩
  · simp (disch := omega) only [nlit, natrem, nIrm, nIam, nIam',  nI_add, pk_mul, nIsub, nIrem, nIdiv, nIand1, nIand3, nIand7, nIand31, nIshr, nIle, nIlt, nIeq, nIc, vpI, nIm1, m1nI, m1lt, nIlm, m1le, nIlem, nIneg, u2_ss, u2_nn, u2_kk, nIm1n, m1nIn, m1ltn, nIlmn, m1len, nIlemn] at c1 c2
    refine rankC_ok (by omega) ?_
    refine RX3_takeBehindPart_61 ho ?_
    have hr1 : 1 ≤ rk s := by
      refine Nat.pos_of_ne_zero (fun e => hb (Or.inr (Or.inr ⟨c1, c2, Or.inl e⟩)))
    refine settle_e ho hr1 hr5 hst (by omega) hC hL (fun J hJ hK => RX3_takeBehindPart_64 ho ?_)
    have := setL (rk s) stk
    refine lpush_ok ho hJ.1 (by omega) (RX3_takeBehindPart_69 ?_)
    exact h2 c1 c2 _ (hJ.push2 (opn_k hr1).symm) ((hK.up (by simp)).up (by simp))
  · simp (disch := omega) only [nlit, natrem, nIrm, nIam, nIam',  nI_add, pk_mul, nIsub, nIrem, nIdiv, nIand1, nIand3, nIand7, nIand31, nIshr, nIle, nIlt, nIeq, nIc, vpI, nIm1, m1nI, m1lt, nIlm, m1le, nIlem, nIneg, u2_ss, u2_nn, u2_kk, nIm1n, m1nIn, m1ltn, nIlmn, m1len, nIlemn] at c1 c2
    refine settle_e (r := 1) ho (by decide) (by decide) hst (by omega) hC hL (fun J hJ hK => RX3_takeBehindPart_25 ho ?_)
    have hlen := setL 1 stk
    have hop : opn stk ≠ 0 := fun e => hb (Or.inr (Or.inl ⟨c2, e⟩))
    have hst1 : stOk (setS 1 stk) := hst.dw
    have hopS : opn (setS 1 stk) = opn stk := by
      have e : stk = stk.takeWhile (fun x => decide (1 ≤ rk x)) ++ setS 1 stk := (List.takeWhile_append_dropWhile).symm
      have h9 := opn_app (p := stk.takeWhile (fun x => decide (1 ≤ rk x))) (stk := setS 1 stk) (fun x hx => by
        have := tw_mem _ hx
        simpa using this)
      rw [← e] at h9
      exact h9.symm
    have hopE : ∃ x s', setS 1 stk = x :: s' := by
      match hm : setS 1 stk with
      | [] => rw [hm] at hopS; exact absurd hopS.symm hop
      | x :: s' => exact ⟨x, s', rfl⟩
    obtain ⟨x, s', hm⟩ := hopE
    have hx0 : ¬ 1 ≤ rk x := by
      have := List.head?_dropWhile_not (fun x => decide (1 ≤ rk x)) stk
      have hd : (stk.dropWhile (fun x => decide (1 ≤ rk x))) = x :: s' := hm
      rw [hd] at this
      simpa using this
    have hx2 : x = 22 ∨ x = 40 := by
      have := hst1 x (by rw [hm]; exact List.mem_cons_self)
      rcases this with h | h | h
      · exact Or.inl h
      · exact Or.inr h
      · exact absurd h hx0
    rw [hm] at hJ hlen hst1 h1
    simp only [List.length_cons] at hlen
    have e3 : J o 3 = nI (s'.length + 1) := hJ.1
    have e4 : J o 4 = nI (opn s' + 1) := by rw [← opn_c hx2]; exact hJ.2.2.2.2.1
    rw [e3, show nI (s'.length + 1) - 1 = nI s'.length by rw [show (1 : Int32) = nI 1 from rfl, nIsub (by omega)]; rfl]
    refine max_ok (a := 0) (by decide) (by omega) ?_
    refine RX3_takeBehindPart_36 ho ?_
    rw [Nat.zero_max, u2_kk _ _ _ _ (by decide), e4, show nI (opn s' + 1) - 1 = nI (opn s') by rw [show (1 : Int32) = nI 1 from rfl, nIsub (by omega)]; rfl]
    refine endPart_e ho (fun y hy => hst1 y (List.mem_cons_of_mem _ hy)) (by omega) (by simp; omega) hJ.popd (fun J2 hJ2 hK2 => RX3_takeBehindPart_53 (RX3_takeBehindPart_69 ?_))
    exact h1 c2 J2 hJ2 (((hK.up (by simp)).up (by simp)).tr hK2)
  · simp (disch := omega) only [nlit, natrem, nIrm, nIam, nIam',  nI_add, pk_mul, nIsub, nIrem, nIdiv, nIand1, nIand3, nIand7, nIand31, nIshr, nIle, nIlt, nIeq, nIc, vpI, nIm1, m1nI, m1lt, nIlm, m1le, nIlem, nIneg, u2_ss, u2_nn, u2_kk, nIm1n, m1nIn, m1ltn, nIlmn, m1len, nIlemn] at c1
    exact settle_e (r := 1) ho (by decide) (by decide) hst (by omega) hC hL (fun J hJ hK => RX3_takeBehindPart_11 (h0 c1 J hJ hK))
theorem LwC.at {o i j : Nat} {stk : List Nat} {C : Cd} {I : Ints} (h : LwC o i stk C I) : LwC o j stk C (u2 I o 5 (nI j)) := by
  obtain ⟨h1, h2, h3, h4, h5, h6⟩ := h
  refine ⟨?_, ?_, ?_, ?_, ?_, ?_⟩
  · rw [u2_kk _ _ _ _ (by decide)]; exact h1
  · exact stR.fr _ h2 (fun i hi => by rw [u2_nn _ _ _ _ (by omega)])
  · rw [u2_kk _ _ _ _ (by decide)]; exact h3
  · exact cdC.fr (fun j => by rw [u2_nn _ _ _ _ (by omega)]) _ _ h4
  · rw [u2_kk _ _ _ _ (by decide)]; exact h5
  · rw [u2_ss]
theorem TkC.get {ts : List Tk} {I : Ints} {L : Lngs} (h : TkC ts I L) {i : Nat} (hi : i < ts.length) : I 28 i = nI (sK ts i) ∧ I 29 i = nI (pK ts i) ∧ (sK ts i ≤ 30 → L 30 i = lN (pk 256 0 (wK ts i))) ∧ (sK ts i = 31 → L 30 i = lN (vK ts i)) := h.2 i hi
theorem TkC.fr {ts : List Tk} {I J : Ints} {L K : Lngs} (h : TkC ts I L) (h1 : J 27 = I 27) (h2 : J 28 = I 28) (h3 : J 29 = I 29) (h4 : K 30 = L 30) : TkC ts J K := by
  refine ⟨by rw [h1]; exact h.1, fun i hi => ?_⟩
  have := h.2 i hi
  unfold tkC at *
  rw [h2, h3, h4]
  exact this
theorem TkOk.lt {ts : List Tk} (h : TkOk ts) (i : Nat) : sK ts i < 62 := by
  by_cases hi : i < ts.length
  · exact tOk_lt (h.2.2 i hi).1
  · unfold sK
    rw [List.getD_eq_getElem?_getD, List.getElem?_eq_none (by omega)]
    decide
theorem TkOk.v {ts : List Tk} (h : TkOk ts) {i : Nat} (hi : i < ts.length) (h31 : sK ts i = 31) : vK ts i < 10000 := by
  have := (h.2.2 i hi).1.2
  unfold sK at h31
  rcases this with h | h | h | h | h | h
  · omega
  · omega
  · exact h.2
  · omega
  · omega
  · omega
theorem build_lp {d : Nat} {sx : Sx} {L : Lngs} {R : Rfs} {q : Q3} {I0 : Ints} {o : Nat} (ho : isLaw o) {ts : List Tk} {N i0 : Nat} (hT : TkOk ts) (hE : Ends ts N) (hTC : TkC ts I0 L)
    (hf : ∀ k j J, rgL ts i0 = .inl (fK ts k j) → 1 ≤ k → k ≤ 5 → j ≤ N → J o 5 = nI j → Kp (LWP o) I0 J → q (some (.int (nI k))) J L R)
    (ht : ∀ j c J, rgL ts i0 = .inr (j, c) → J o 5 = nI j → J o 1 = nI c.length → cdC J (o + 1) 0 c → Kp (LWP o) I0 J → q (some (.int 0)) J L R) :
    ∀ n i stk C due I, n ≤ 1001 → i ≤ N → stOk stk → LwC o i stk C I → Kp (LWP o) I0 I → msh ts n i stk C due = rgL ts i0 → Y mX3_build (d + 4) sx 20 [(0, .ref o), (1, .ref 27), (3, .int (if due = true then 1 else 0)), (4, .int (nI (1001 - n)))] [] I L R q := by
  have ho' : o = 11 ∨ o = 23 := ho
  have hN := hE.1
  intro n
  induction n with
  | zero =>
    intro i stk C due I hn hi hst hL hK e
    exact absurd rfl (rgL_nz e.symm)
  | succ n ih =>
    intro i stk C due I hn hi hst hL hK e
    by_cases hg : 60 ≤ stk.length ∨ 1000 ≤ C.length + stk.length
    · exfalso
      have : msh ts (n + 1) i stk C due = .inl 0 := by
        cases due
        · show (if _ then _ else _) = _
          rw [if_pos hg]
        · show (if _ then _ else _) = _
          rw [if_pos hg]
      rw [this] at e
      exact absurd rfl (rgL_nz e.symm)
    have hl : stk.length < 60 := by omega
    have hC : C.length + stk.length < 1000 := by omega
    have h5 := hL.2.2.2.2.2
    have hTI : TkC ts I L := hTC.fr (hK 27 ⟨by omega, by omega, by omega⟩) (hK 28 ⟨by omega, by omega, by omega⟩) (hK 29 ⟨by omega, by omega, by omega⟩) rfl
    have hil : i < ts.length := by have := hE.2.1; omega
    have hg1 := hTI.get hil
    have e28 := hg1.1
    have e27 : I 27 3 = nI ts.length := hTI.1
    have hlen := hE.2.1
    have hs := hT.lt i
    have e4 : nI (1001 - (n + 1)) + 1 = nI (1001 - n) := by rw [show (1 : Int32) = nI 1 from rfl, nI_add]; congr 1; omega
    have hop : opn stk ≤ stk.length := List.length_filter_le _ _
    cases due with
    | true =>
      refine RX3_build_20 ho ⟨fun c1 => ?_, fun c1 => ⟨fun c2 => ?_, fun c2 => ⟨?_, fun c3 => ?_, fun c3 => ?_⟩⟩⟩
      · exfalso; simp (disch := omega) only [nlit, natrem, nIrm, nIam, nIam',  nI_add, pk_mul, nIsub, nIrem, nIdiv, nIand1, nIand3, nIand7, nIand31, nIshr, nIle, nIlt, nIeq, nIc, vpI, nIm1, m1nI, m1lt, nIlm, m1le, nIlem, nIneg, u2_ss, u2_nn, u2_kk, nIm1n, m1nIn, m1ltn, nIlmn, m1len, nIlemn] at c1; omega
      · exfalso; rw [e27, h5] at c2; simp (disch := omega) only [nlit, natrem, nIrm, nIam, nIam',  nI_add, pk_mul, nIsub, nIrem, nIdiv, nIand1, nIand3, nIand7, nIand31, nIshr, nIle, nIlt, nIeq, nIc, vpI, nIm1, m1nI, m1lt, nIlm, m1le, nIlem, nIneg, u2_ss, u2_nn, u2_kk, nIm1n, m1nIn, m1ltn, nIlmn, m1len, nIlemn] at c2; omega
      · rw [h5]; simp (disch := omega) only [nlit, natrem, nIrm, nIam, nIam',  nI_add, pk_mul, nIsub, nIrem, nIdiv, nIand1, nIand3, nIand7, nIand31, nIshr, nIle, nIlt, nIeq, nIc, vpI, nIm1, m1nI, m1lt, nIlm, m1le, nIlem, nIneg, u2_ss, u2_nn, u2_kk, nIm1n, m1nIn, m1ltn, nIlmn, m1len, nIlemn]; omega
      · exact absurd c3 (by decide)
      · rw [h5, nIc (by omega), e28]
        have hfl : ∀ k, 1 ≤ k → k ≤ 5 → msh ts (n + 1) i stk C true = .inl (fK ts k i) → Y mX3_build (d + 4) sx 60 [(0, .ref o), (1, .ref 27), (3, .int (if true = true then 1 else 0)), (4, .int (nI (1001 - (n + 1)))), (5, .int (nI (sK ts i)))] [.int (nI k)] I L R q := by
          intro k hk1 hk5 em
          refine RX3_build_60 ho (RX3_build_69 ho ⟨fun c => ?_, fun _ => ?_⟩)
          · exfalso; simp (disch := omega) only [nlit, natrem, nIrm, nIam, nIam',  nI_add, pk_mul, nIsub, nIrem, nIdiv, nIand1, nIand3, nIand7, nIand31, nIshr, nIle, nIlt, nIeq, nIc, vpI, nIm1, m1nI, m1lt, nIlm, m1le, nIlem, nIneg, u2_ss, u2_nn, u2_kk, nIm1n, m1nIn, m1ltn, nIlmn, m1len, nIlemn] at c; omega
          · exact hf k i I (by rw [← e, em]) hk1 hk5 hi h5 hK
        refine fOfPart_ok ho hL.2.2.2.2.1 (by omega) (by omega) (fun hb => ?_) (fun hb h5' => ?_) (fun hb h5' => ?_)
        · refine hfl 1 (by decide) (by decide) ?_
          show (if _ then _ else _) = _
          rw [if_neg hg, if_pos hb]
        · refine hfl 5 (by decide) (by decide) ?_
          show (if _ then _ else _) = _
          rw [if_neg hg, if_neg (fun hh => hh hb), if_pos h5']
        · refine RX3_build_60 ho (RX3_build_69 ho ⟨fun _ => ⟨fun c => absurd c (by decide), fun _ => ⟨?_, ?_⟩⟩, fun c => absurd rfl c⟩)
          · rw [h5]; simp (disch := omega) only [nlit, natrem, nIrm, nIam, nIam',  nI_add, pk_mul, nIsub, nIrem, nIdiv, nIand1, nIand3, nIand7, nIand31, nIshr, nIle, nIlt, nIeq, nIc, vpI, nIm1, m1nI, m1lt, nIlm, m1le, nIlem, nIneg, u2_ss, u2_nn, u2_kk, nIm1n, m1nIn, m1ltn, nIlmn, m1len, nIlemn]; omega
          · rw [h5, nIc (by omega)]
            refine takePartC_ok ho hL hst hl hC (by omega) hb (fun h31 => ?_) (fun h22 J hJ hKJ => ?_) (fun h22 J hJ hKJ => ?_)
            · rw [hg1.2.2.2 h31, lN_i]
            · refine RX3_build_99 ho ⟨fun c => absurd rfl c, fun _ => ⟨fun c => ?_, fun c => ?_⟩⟩
              · rw [e4, hJ.2.2.2.2.2, show nI i + 1 = nI (i + 1) from nI_add i 1]
                have hiN : i < N := by
                  refine Nat.lt_of_le_of_ne hi (fun e => ?_)
                  rw [e, hE.2.2.1] at h22
                  omega
                refine ih (i + 1) _ C true _ (by omega) (by omega) ?_ hJ.at ((hK.tr hKJ).up (by simp)) ?_
                · intro y hy
                  rcases List.mem_cons.mp hy with hy | hy
                  · rw [hy]; omega
                  · exact hst y hy
                · rw [← e]
                  show _ = (if _ then _ else _)
                  rw [if_neg hg, if_neg (fun hh => hh hb), if_neg (by omega), if_pos h22]
              · exfalso; simp (disch := omega) only [nlit, natrem, nIrm, nIam, nIam',  nI_add, pk_mul, nIsub, nIrem, nIdiv, nIand1, nIand3, nIand7, nIand31, nIshr, nIle, nIlt, nIeq, nIc, vpI, nIm1, m1nI, m1lt, nIlm, m1le, nIlem, nIneg, u2_ss, u2_nn, u2_kk, nIm1n, m1nIn, m1ltn, nIlmn, m1len, nIlemn] at c; omega
            · refine RX3_build_99 ho ⟨fun _ => ⟨fun c => ?_, fun c => ?_⟩, fun c => absurd c (by decide)⟩
              · rw [e4, hJ.2.2.2.2.2, show nI i + 1 = nI (i + 1) from nI_add i 1]
                have hiN : i < N := by
                  refine Nat.lt_of_le_of_ne hi (fun e => ?_)
                  rw [e, hE.2.2.1] at hb
                  omega
                refine ih (i + 1) _ _ false _ (by omega) (by omega) hst.dw hJ.at ((hK.tr hKJ).up (by simp)) ?_
                rw [← e]
                show _ = (if _ then _ else _)
                rw [if_neg hg, if_neg (fun hh => hh hb), if_neg (by omega), if_neg h22]
                rfl
              · exfalso; simp (disch := omega) only [nlit, natrem, nIrm, nIam, nIam',  nI_add, pk_mul, nIsub, nIrem, nIdiv, nIand1, nIand3, nIand7, nIand31, nIshr, nIle, nIlt, nIeq, nIc, vpI, nIm1, m1nI, m1lt, nIlm, m1le, nIlem, nIneg, u2_ss, u2_nn, u2_kk, nIm1n, m1nIn, m1ltn, nIlmn, m1len, nIlemn] at c; unfold bgs at hb; omega
    | false =>
      refine RX3_build_20 ho ⟨fun c1 => ?_, fun c1 => ⟨fun c2 => ?_, fun c2 => ⟨?_, fun c3 => ?_, fun c3 => ?_⟩⟩⟩
      · exfalso; simp (disch := omega) only [nlit, natrem, nIrm, nIam, nIam',  nI_add, pk_mul, nIsub, nIrem, nIdiv, nIand1, nIand3, nIand7, nIand31, nIshr, nIle, nIlt, nIeq, nIc, vpI, nIm1, m1nI, m1lt, nIlm, m1le, nIlem, nIneg, u2_ss, u2_nn, u2_kk, nIm1n, m1nIn, m1ltn, nIlmn, m1len, nIlemn] at c1; omega
      · exfalso; rw [e27, h5] at c2; simp (disch := omega) only [nlit, natrem, nIrm, nIam, nIam',  nI_add, pk_mul, nIsub, nIrem, nIdiv, nIand1, nIand3, nIand7, nIand31, nIshr, nIle, nIlt, nIeq, nIc, vpI, nIm1, m1nI, m1lt, nIlm, m1le, nIlem, nIneg, u2_ss, u2_nn, u2_kk, nIm1n, m1nIn, m1ltn, nIlmn, m1len, nIlemn] at c2; omega
      · rw [h5]; simp (disch := omega) only [nlit, natrem, nIrm, nIam, nIam',  nI_add, pk_mul, nIsub, nIrem, nIdiv, nIand1, nIand3, nIand7, nIand31, nIshr, nIle, nIlt, nIeq, nIc, vpI, nIm1, m1nI, m1lt, nIlm, m1le, nIlem, nIneg, u2_ss, u2_nn, u2_kk, nIm1n, m1nIn, m1ltn, nIlmn, m1len, nIlemn]; omega
      · rw [h5, nIc (by omega), e28]
        refine fBehind_ok ho hL hst (by omega) (by omega) (fun hb => ?_) (fun hb => ?_)
        · refine RX3_build_69 ho ⟨fun c => absurd c (by decide), fun _ => ?_⟩
          refine hf 1 i I ?_ (by decide) (by decide) hi h5 hK
          rw [← e]
          show (if _ then _ else _) = _
          rw [if_neg hg, if_pos hb]
        · refine RX3_build_69 ho ⟨fun _ => ⟨fun _ => ?_, fun c => absurd rfl c⟩, fun c => absurd rfl c⟩
          have hiN : i < N := by
            refine Nat.lt_of_le_of_ne hi (fun e => ?_)
            rw [e, hE.2.2.1] at hb
            exact hb (Or.inr (Or.inr ⟨by decide, by decide, Or.inl rfl⟩))
          refine takeBehind_ok ho hL hst hl hC hs hb (fun h59 J hJ hKJ => ?_) (fun h41 J hJ hKJ => ?_) (fun h59 h41 J hJ hKJ => ?_)
          · refine RX3_build_117 ho ⟨fun c => ?_, fun c => ⟨fun c2 => ?_, fun c2 => ?_⟩⟩
            · exfalso; simp (disch := omega) only [nlit, natrem, nIrm, nIam, nIam',  nI_add, pk_mul, nIsub, nIrem, nIdiv, nIand1, nIand3, nIand7, nIand31, nIshr, nIle, nIlt, nIeq, nIc, vpI, nIm1, m1nI, m1lt, nIlm, m1le, nIlem, nIneg, u2_ss, u2_nn, u2_kk, nIm1n, m1nIn, m1ltn, nIlmn, m1len, nIlemn] at c; omega
            · exfalso; simp (disch := omega) only [nlit, natrem, nIrm, nIam, nIam',  nI_add, pk_mul, nIsub, nIrem, nIdiv, nIand1, nIand3, nIand7, nIand31, nIshr, nIle, nIlt, nIeq, nIc, vpI, nIm1, m1nI, m1lt, nIlm, m1le, nIlem, nIneg, u2_ss, u2_nn, u2_kk, nIm1n, m1nIn, m1ltn, nIlmn, m1len, nIlemn] at c2; omega
            · rw [hJ.2.2.2.2.2, show nI i + 1 = nI (i + 1) from nI_add i 1]
              have hJ2 := hJ.at (j := i + 1)
              refine ht (i + 1) _ _ ?_ hJ2.2.2.2.2.2 hJ2.2.2.1 hJ2.2.2.2.1 ((hK.tr hKJ).up (by simp))
              rw [← e]
              show (if _ then _ else _) = _
              rw [if_neg hg, if_neg hb, if_pos h59]
          · refine RX3_build_117 ho ⟨fun c => ?_, fun c => ⟨fun c2 => ?_, fun c2 => ?_⟩⟩
            · rw [e4, hJ.2.2.2.2.2, show nI i + 1 = nI (i + 1) from nI_add i 1]
              refine ih (i + 1) _ _ false _ (by omega) (by omega) ?_ hJ.at ((hK.tr hKJ).up (by simp)) ?_
              · exact stOk.dw (fun y hy => (hst.dw (P := fun x => decide (1 ≤ rk x))) y (List.mem_of_mem_tail hy))
              · rw [← e]
                show _ = (if _ then _ else _)
                rw [if_neg hg, if_neg hb, if_neg (by omega), if_pos h41]
            · exfalso; simp (disch := omega) only [nlit, natrem, nIrm, nIam, nIam',  nI_add, pk_mul, nIsub, nIrem, nIdiv, nIand1, nIand3, nIand7, nIand31, nIshr, nIle, nIlt, nIeq, nIc, vpI, nIm1, m1nI, m1lt, nIlm, m1le, nIlem, nIneg, u2_ss, u2_nn, u2_kk, nIm1n, m1nIn, m1ltn, nIlmn, m1len, nIlemn] at c; omega
            · exfalso; simp (disch := omega) only [nlit, natrem, nIrm, nIam, nIam',  nI_add, pk_mul, nIsub, nIrem, nIdiv, nIand1, nIand3, nIand7, nIand31, nIshr, nIle, nIlt, nIeq, nIc, vpI, nIm1, m1nI, m1lt, nIlm, m1le, nIlem, nIneg, u2_ss, u2_nn, u2_kk, nIm1n, m1nIn, m1ltn, nIlmn, m1len, nIlemn] at c; omega
          · refine RX3_build_117 ho ⟨fun c => ?_, fun c => ⟨fun c2 => ?_, fun c2 => ?_⟩⟩
            · exfalso; simp (disch := omega) only [nlit, natrem, nIrm, nIam, nIam',  nI_add, pk_mul, nIsub, nIrem, nIdiv, nIand1, nIand3, nIand7, nIand31, nIshr, nIle, nIlt, nIeq, nIc, vpI, nIm1, m1nI, m1lt, nIlm, m1le, nIlem, nIneg, u2_ss, u2_nn, u2_kk, nIm1n, m1nIn, m1ltn, nIlmn, m1len, nIlemn] at c; omega
            · rw [e4, hJ.2.2.2.2.2, show nI i + 1 = nI (i + 1) from nI_add i 1]
              refine ih (i + 1) _ _ true _ (by omega) (by omega) ?_ hJ.at ((hK.tr hKJ).up (by simp)) ?_
              · intro y hy
                rcases List.mem_cons.mp hy with hy | hy
                · rw [hy]
                  refine Or.inr (Or.inr (Nat.pos_of_ne_zero (fun e0 => hb (Or.inr (Or.inr ⟨h59, h41, Or.inl e0⟩)))))
                · exact hst.dw y hy
              · rw [← e]
                show _ = (if _ then _ else _)
                rw [if_neg hg, if_neg hb, if_neg h59, if_neg h41]
            · exfalso; simp (disch := omega) only [nlit, natrem, nIrm, nIam, nIam',  nI_add, pk_mul, nIsub, nIrem, nIdiv, nIand1, nIand3, nIand7, nIand31, nIshr, nIle, nIlt, nIeq, nIc, vpI, nIm1, m1nI, m1lt, nIlm, m1le, nIlem, nIneg, u2_ss, u2_nn, u2_kk, nIm1n, m1nIn, m1ltn, nIlmn, m1len, nIlemn] at c2; omega
      · exact absurd rfl c3
theorem build_ok {d : Nat} {sx : Sx} {I : Ints} {L : Lngs} {R : Rfs} {q : Q3} {o : Nat} (ho : isLaw o) {ts : List Tk} {N i : Nat} (hT : TkOk ts) (hE : Ends ts N) (hTC : TkC ts I L) (hi : i ≤ N) (hi1 : 1 ≤ i) (h0 : I o 1 = nI 0)
    (hf : ∀ k j J, rgL ts i = .inl (fK ts k j) → 1 ≤ k → k ≤ 5 → j ≤ N → J o 5 = nI j → Kp (LWP o) I J → q (some (.int (nI k))) J L R)
    (ht : ∀ j c J, rgL ts i = .inr (j, c) → J o 5 = nI j → J o 1 = nI c.length → cdC J (o + 1) 0 c → Kp (LWP o) I J → q (some (.int 0)) J L R) : E0 mX3_build (d + 4) sx [.ref o, .ref 27, .int (nI i)] I L R q := by
  refine EX3_build ho ?_
  refine build_lp ho hT hE hTC hf ht 1001 i [] [] true _ (Nat.le_refl _) hi (fun x hx => nomatch hx) ⟨?_, trivial, ?_, trivial, ?_, ?_⟩ (((Kp.rf.up (by simp)).up (by simp)).up (by simp)) (msh_rgL hT hE hi hi1)
  · rw [u2_kk _ _ _ _ (by decide), u2_kk _ _ _ _ (by decide), u2_ss]; rfl
  · rw [u2_kk _ _ _ _ (by decide), u2_kk _ _ _ _ (by decide), u2_kk _ _ _ _ (by decide)]; exact h0
  · rw [u2_kk _ _ _ _ (by decide), u2_ss]; rfl
  · rw [u2_ss]
