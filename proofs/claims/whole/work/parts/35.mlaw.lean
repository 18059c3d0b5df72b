/-! the law of stagger, as the model has it -/
def bothF (o : Nat) (x y : Int32) : Int32 :=
  if o = 4 then x + y else if o = 5 then x - y else if o = 6 then x * y
  else if o = 7 then (if y ≤ x then nI 0 else nI 1)
  else if o = 8 then (if x = y then nI 1 else nI 0)
  else if o = 9 then (if x = nI 0 then nI 0 else if y = nI 0 then nI 0 else nI 1)
  else (if x = nI 0 then (if y = nI 0 then nI 0 else nI 1) else nI 1)
def ev1 (f : Nat → Int32) (o v : Nat) (st : List Int32) : List Int32 :=
  if o = 1 then nI v :: st else if o = 2 then f v :: st
  else match st with
    | [] => []
    | x :: st' => if o = 3 then (if x = nI 0 then nI 1 else nI 0) :: st'
      else match st' with
        | [] => []
        | y :: st'' => bothF o y x :: st''
def evL (f : Nat → Int32) : List (Nat × Nat) → List Int32 → List Int32
  | [], st => st
  | (o, v) :: l, st => evL f l (ev1 f o v st)
def okL : List (Nat × Nat) → Nat → Prop
  | [], n => n = 1
  | (o, v) :: l, n => ((o = 1 ∧ v < 10000 ∨ o = 2 ∧ v < 4) ∧ n < 60 ∧ okL l (n + 1)) ∨ (o = 3 ∧ 1 ≤ n ∧ okL l n) ∨ (4 ≤ o ∧ o ≤ 10 ∧ 2 ≤ n ∧ okL l (n - 1))
def cdA (I : Ints) : Nat → List (Nat × Nat) → Prop
  | i, [] => I 99 i = nI 0
  | i, (o, v) :: l => I 99 i = nI o ∧ I 100 i = nI v ∧ cdA I (i + 1) l
def pilR (J : Ints) (o : Nat) : List Int32 → Prop
  | [] => True
  | v :: st => J o st.length = v ∧ pilR J o st
theorem pilR_up {J : Ints} {o k : Nat} {v : Int32} : ∀ st : List Int32, pilR J o st → st.length ≤ k → pilR (u2 J o k v) o st
  | [], _, _ => trivial
  | x :: st, h, hk => ⟨by rw [u2_kk _ _ _ _ (by simp at hk; omega)]; exact h.1, pilR_up st h.2 (by simp at hk; omega)⟩
theorem pilR_push {J : Ints} {o k : Nat} {v : Int32} {st : List Int32} (h : pilR J o st) (hk : k = st.length) : pilR (u2 J o k v) o (v :: st) := ⟨by rw [hk, u2_ss], pilR_up st h (by omega)⟩
theorem Fr.ar {As : List Nat} {Fs : List (Nat × Nat)} {I J : Ints} (hF : Fr As Fs I J) (k : Nat) (h1 : As.contains k = false) (h2 : (Fs.all fun x => x.1 != k) = true) (i : Nat) : J k i = I k i := by
  refine hF k i h1 ?_
  cases hc : Fs.contains (k, i) with
  | false => rfl
  | true =>
    have := List.all_eq_true.mp h2 _ (List.contains_iff_mem.mp hc)
    simp at this
theorem both_ok {d : Nat} {sx : Sx} {I : Ints} {L : Lngs} {R : Rfs} {q : Q3} {o : Nat} (ho : o < 100) {x y : Int32} (h : q (some (.int (bothF o x y))) I L R) : E0 mX12_both (d + 1) sx [.int (nI o), .int x, .int y] I L R q := by
  refine EX12_both  ⟨fun c1 => ?_, fun c1 => ⟨fun c2 => ?_, fun c2 => ⟨fun c3 => ?_, fun c3 => ⟨fun c4 => ⟨fun c5 => ?_, fun c5 => ?_⟩, fun c4 => ⟨fun c5 => ⟨fun c6 => ?_, fun c6 => ?_⟩, fun c5 => ⟨fun c6 => ⟨fun c7 => ?_, fun c7 => ⟨fun c8 => ?_, fun c8 => ?_⟩⟩, fun c6 => ⟨fun c7 => ?_, fun c7 => ⟨fun c8 => ?_, fun c8 => ?_⟩⟩⟩⟩⟩⟩⟩⟩
  · (try simp (disch := omega) only [nlit, natrem, nIrm, nIam, nIam',  nI_add, pk_mul, nIsub, nIrem, nIdiv, nIand1, nIand3, nIand7, nIand31, nIshr, nIle, nIlt, nIeq, nIc, vpI, nIm1, m1nI, m1lt, nIlm, m1le, nIlem, nIneg, u2_ss, u2_nn, u2_kk] at c1); (try simp (disch := omega) only [nlit, natrem, nIrm, nIam, nIam',  nI_add, pk_mul, nIsub, nIrem, nIdiv, nIand1, nIand3, nIand7, nIand31, nIshr, nIle, nIlt, nIeq, nIc, vpI, nIm1, m1nI, m1lt, nIlm, m1le, nIlem, nIneg, u2_ss, u2_nn, u2_kk])
    unfold bothF at h
    repeat (first | rw [if_pos (by assumption)] at h | rw [if_neg (by assumption)] at h)
    exact h
  · (try simp (disch := omega) only [nlit, natrem, nIrm, nIam, nIam',  nI_add, pk_mul, nIsub, nIrem, nIdiv, nIand1, nIand3, nIand7, nIand31, nIshr, nIle, nIlt, nIeq, nIc, vpI, nIm1, m1nI, m1lt, nIlm, m1le, nIlem, nIneg, u2_ss, u2_nn, u2_kk] at c1 c2); (try simp (disch := omega) only [nlit, natrem, nIrm, nIam, nIam',  nI_add, pk_mul, nIsub, nIrem, nIdiv, nIand1, nIand3, nIand7, nIand31, nIshr, nIle, nIlt, nIeq, nIc, vpI, nIm1, m1nI, m1lt, nIlm, m1le, nIlem, nIneg, u2_ss, u2_nn, u2_kk])
    unfold bothF at h
    repeat (first | rw [if_pos (by assumption)] at h | rw [if_neg (by assumption)] at h)
    exact h
  · (try simp (disch := omega) only [nlit, natrem, nIrm, nIam, nIam',  nI_add, pk_mul, nIsub, nIrem, nIdiv, nIand1, nIand3, nIand7, nIand31, nIshr, nIle, nIlt, nIeq, nIc, vpI, nIm1, m1nI, m1lt, nIlm, m1le, nIlem, nIneg, u2_ss, u2_nn, u2_kk] at c1 c2 c3); (try simp (disch := omega) only [nlit, natrem, nIrm, nIam, nIam',  nI_add, pk_mul, nIsub, nIrem, nIdiv, nIand1, nIand3, nIand7, nIand31, nIshr, nIle, nIlt, nIeq, nIc, vpI, nIm1, m1nI, m1lt, nIlm, m1le, nIlem, nIneg, u2_ss, u2_nn, u2_kk])
    unfold bothF at h
    repeat (first | rw [if_pos (by assumption)] at h | rw [if_neg (by assumption)] at h)
    exact h
  · (try simp (disch := omega) only [nlit, natrem, nIrm, nIam, nIam',  nI_add, pk_mul, nIsub, nIrem, nIdiv, nIand1, nIand3, nIand7, nIand31, nIshr, nIle, nIlt, nIeq, nIc, vpI, nIm1, m1nI, m1lt, nIlm, m1le, nIlem, nIneg, u2_ss, u2_nn, u2_kk] at c1 c2 c3 c4 c5); (try simp (disch := omega) only [nlit, natrem, nIrm, nIam, nIam',  nI_add, pk_mul, nIsub, nIrem, nIdiv, nIand1, nIand3, nIand7, nIand31, nIshr, nIle, nIlt, nIeq, nIc, vpI, nIm1, m1nI, m1lt, nIlm, m1le, nIlem, nIneg, u2_ss, u2_nn, u2_kk])
    unfold bothF at h
    repeat (first | rw [if_pos (by assumption)] at h | rw [if_neg (by assumption)] at h)
    exact h
  · (try simp (disch := omega) only [nlit, natrem, nIrm, nIam, nIam',  nI_add, pk_mul, nIsub, nIrem, nIdiv, nIand1, nIand3, nIand7, nIand31, nIshr, nIle, nIlt, nIeq, nIc, vpI, nIm1, m1nI, m1lt, nIlm, m1le, nIlem, nIneg, u2_ss, u2_nn, u2_kk] at c1 c2 c3 c4 c5); (try simp (disch := omega) only [nlit, natrem, nIrm, nIam, nIam',  nI_add, pk_mul, nIsub, nIrem, nIdiv, nIand1, nIand3, nIand7, nIand31, nIshr, nIle, nIlt, nIeq, nIc, vpI, nIm1, m1nI, m1lt, nIlm, m1le, nIlem, nIneg, u2_ss, u2_nn, u2_kk])
    unfold bothF at h
    repeat (first | rw [if_pos (by assumption)] at h | rw [if_neg (by assumption)] at h)
    exact h
  · (try simp (disch := omega) only [nlit, natrem, nIrm, nIam, nIam',  nI_add, pk_mul, nIsub, nIrem, nIdiv, nIand1, nIand3, nIand7, nIand31, nIshr, nIle, nIlt, nIeq, nIc, vpI, nIm1, m1nI, m1lt, nIlm, m1le, nIlem, nIneg, u2_ss, u2_nn, u2_kk] at c1 c2 c3 c4 c5 c6); (try simp (disch := omega) only [nlit, natrem, nIrm, nIam, nIam',  nI_add, pk_mul, nIsub, nIrem, nIdiv, nIand1, nIand3, nIand7, nIand31, nIshr, nIle, nIlt, nIeq, nIc, vpI, nIm1, m1nI, m1lt, nIlm, m1le, nIlem, nIneg, u2_ss, u2_nn, u2_kk])
    unfold bothF at h
    repeat (first | rw [if_pos (by assumption)] at h | rw [if_neg (by assumption)] at h)
    exact h
  · (try simp (disch := omega) only [nlit, natrem, nIrm, nIam, nIam',  nI_add, pk_mul, nIsub, nIrem, nIdiv, nIand1, nIand3, nIand7, nIand31, nIshr, nIle, nIlt, nIeq, nIc, vpI, nIm1, m1nI, m1lt, nIlm, m1le, nIlem, nIneg, u2_ss, u2_nn, u2_kk] at c1 c2 c3 c4 c5 c6); (try simp (disch := omega) only [nlit, natrem, nIrm, nIam, nIam',  nI_add, pk_mul, nIsub, nIrem, nIdiv, nIand1, nIand3, nIand7, nIand31, nIshr, nIle, nIlt, nIeq, nIc, vpI, nIm1, m1nI, m1lt, nIlm, m1le, nIlem, nIneg, u2_ss, u2_nn, u2_kk])
    unfold bothF at h
    repeat (first | rw [if_pos (by assumption)] at h | rw [if_neg (by assumption)] at h)
    exact h
  · (try simp (disch := omega) only [nlit, natrem, nIrm, nIam, nIam',  nI_add, pk_mul, nIsub, nIrem, nIdiv, nIand1, nIand3, nIand7, nIand31, nIshr, nIle, nIlt, nIeq, nIc, vpI, nIm1, m1nI, m1lt, nIlm, m1le, nIlem, nIneg, u2_ss, u2_nn, u2_kk] at c1 c2 c3 c4 c5 c6 c7); (try simp (disch := omega) only [nlit, natrem, nIrm, nIam, nIam',  nI_add, pk_mul, nIsub, nIrem, nIdiv, nIand1, nIand3, nIand7, nIand31, nIshr, nIle, nIlt, nIeq, nIc, vpI, nIm1, m1nI, m1lt, nIlm, m1le, nIlem, nIneg, u2_ss, u2_nn, u2_kk])
    unfold bothF at h
    repeat (first | rw [if_pos (by assumption)] at h | rw [if_neg (by assumption)] at h)
    exact h
  · (try simp (disch := omega) only [nlit, natrem, nIrm, nIam, nIam',  nI_add, pk_mul, nIsub, nIrem, nIdiv, nIand1, nIand3, nIand7, nIand31, nIshr, nIle, nIlt, nIeq, nIc, vpI, nIm1, m1nI, m1lt, nIlm, m1le, nIlem, nIneg, u2_ss, u2_nn, u2_kk] at c1 c2 c3 c4 c5 c6 c7 c8); (try simp (disch := omega) only [nlit, natrem, nIrm, nIam, nIam',  nI_add, pk_mul, nIsub, nIrem, nIdiv, nIand1, nIand3, nIand7, nIand31, nIshr, nIle, nIlt, nIeq, nIc, vpI, nIm1, m1nI, m1lt, nIlm, m1le, nIlem, nIneg, u2_ss, u2_nn, u2_kk])
    unfold bothF at h
    repeat (first | rw [if_pos (by assumption)] at h | rw [if_neg (by assumption)] at h)
    exact h
  · (try simp (disch := omega) only [nlit, natrem, nIrm, nIam, nIam',  nI_add, pk_mul, nIsub, nIrem, nIdiv, nIand1, nIand3, nIand7, nIand31, nIshr, nIle, nIlt, nIeq, nIc, vpI, nIm1, m1nI, m1lt, nIlm, m1le, nIlem, nIneg, u2_ss, u2_nn, u2_kk] at c1 c2 c3 c4 c5 c6 c7 c8); (try simp (disch := omega) only [nlit, natrem, nIrm, nIam, nIam',  nI_add, pk_mul, nIsub, nIrem, nIdiv, nIand1, nIand3, nIand7, nIand31, nIshr, nIle, nIlt, nIeq, nIc, vpI, nIm1, m1nI, m1lt, nIlm, m1le, nIlem, nIneg, u2_ss, u2_nn, u2_kk])
    unfold bothF at h
    repeat (first | rw [if_pos (by assumption)] at h | rw [if_neg (by assumption)] at h)
    exact h
  · (try simp (disch := omega) only [nlit, natrem, nIrm, nIam, nIam',  nI_add, pk_mul, nIsub, nIrem, nIdiv, nIand1, nIand3, nIand7, nIand31, nIshr, nIle, nIlt, nIeq, nIc, vpI, nIm1, m1nI, m1lt, nIlm, m1le, nIlem, nIneg, u2_ss, u2_nn, u2_kk] at c1 c2 c3 c4 c5 c6 c7); (try simp (disch := omega) only [nlit, natrem, nIrm, nIam, nIam',  nI_add, pk_mul, nIsub, nIrem, nIdiv, nIand1, nIand3, nIand7, nIand31, nIshr, nIle, nIlt, nIeq, nIc, vpI, nIm1, m1nI, m1lt, nIlm, m1le, nIlem, nIneg, u2_ss, u2_nn, u2_kk])
    unfold bothF at h
    repeat (first | rw [if_pos (by assumption)] at h | rw [if_neg (by assumption)] at h)
    exact h
  · (try simp (disch := omega) only [nlit, natrem, nIrm, nIam, nIam',  nI_add, pk_mul, nIsub, nIrem, nIdiv, nIand1, nIand3, nIand7, nIand31, nIshr, nIle, nIlt, nIeq, nIc, vpI, nIm1, m1nI, m1lt, nIlm, m1le, nIlem, nIneg, u2_ss, u2_nn, u2_kk] at c1 c2 c3 c4 c5 c6 c7 c8); (try simp (disch := omega) only [nlit, natrem, nIrm, nIam, nIam',  nI_add, pk_mul, nIsub, nIrem, nIdiv, nIand1, nIand3, nIand7, nIand31, nIshr, nIle, nIlt, nIeq, nIc, vpI, nIm1, m1nI, m1lt, nIlm, m1le, nIlem, nIneg, u2_ss, u2_nn, u2_kk])
    unfold bothF at h
    repeat (first | rw [if_pos (by assumption)] at h | rw [if_neg (by assumption)] at h)
    exact h
  · (try simp (disch := omega) only [nlit, natrem, nIrm, nIam, nIam',  nI_add, pk_mul, nIsub, nIrem, nIdiv, nIand1, nIand3, nIand7, nIand31, nIshr, nIle, nIlt, nIeq, nIc, vpI, nIm1, m1nI, m1lt, nIlm, m1le, nIlem, nIneg, u2_ss, u2_nn, u2_kk] at c1 c2 c3 c4 c5 c6 c7 c8); (try simp (disch := omega) only [nlit, natrem, nIrm, nIam, nIam',  nI_add, pk_mul, nIsub, nIrem, nIdiv, nIand1, nIand3, nIand7, nIand31, nIshr, nIle, nIlt, nIeq, nIc, vpI, nIm1, m1nI, m1lt, nIlm, m1le, nIlem, nIneg, u2_ss, u2_nn, u2_kk])
    unfold bothF at h
    repeat (first | rw [if_pos (by assumption)] at h | rw [if_neg (by assumption)] at h)
    exact h
theorem worthAt_lp {d : Nat} {sx : Sx} {L : Lngs} {R : Rfs} {q : Q3} {I0 : Ints} {f : Nat → Int32} (hf : ∀ k, k < 4 → I0 104 k = f k) :
    ∀ (l : List (Nat × Nat)) (i n : Nat) (st : List Int32) (I : Ints), cdA I0 i l → i + l.length < 2200 → okL l n → st.length = n → n ≤ 60 → Fr [105] [] I0 I → pilR I 105 st →
      (∀ J v, evL f l st = [v] → Fr [105] [] I0 J → q (some (.int v)) J L R) →
      Y mX12_worthAt (d + 2) sx 4 [(0, .ref 92), (2, .int (nI n)), (3, .int (nI i))] [] I L R q := by
  intro l
  induction l with
  | nil =>
    intro i n st I hc hi ho hn h60 hF hp h
    have e9 : I 99 i = nI 0 := (hF.ar 99 rfl rfl i).trans hc
    simp only [List.length_nil] at hi
    refine RX12_worthAt_4  ⟨?_, ⟨fun c1 => ?_, fun c1 => ⟨?_, ⟨fun c2 => ⟨?_, ⟨?_, ?_⟩⟩, fun c2 => ⟨fun c3 => ⟨fun c4 => ⟨?_, ⟨?_, ?_⟩⟩, fun c4 => ⟨?_, ⟨fun c5 => ⟨?_, ?_⟩, fun c5 => ⟨?_, ?_⟩⟩⟩⟩, fun c3 => ⟨?_, ⟨?_, ⟨?_, ?_⟩⟩⟩⟩⟩⟩⟩⟩
    · (try simp (disch := omega) only [nlit, natrem, nIrm, nIam, nIam',  nI_add, pk_mul, nIsub, nIrem, nIdiv, nIand1, nIand3, nIand7, nIand31, nIshr, nIle, nIlt, nIeq, nIc, vpI, nIm1, m1nI, m1lt, nIlm, m1le, nIlem, nIneg, u2_ss, u2_nn, u2_kk, e9]); (first | omega | trivial)
    · (try simp (disch := omega) only [nlit, natrem, nIrm, nIam, nIam',  nI_add, pk_mul, nIsub, nIrem, nIdiv, nIand1, nIand3, nIand7, nIand31, nIshr, nIle, nIlt, nIeq, nIc, vpI, nIm1, m1nI, m1lt, nIlm, m1le, nIlem, nIneg, u2_ss, u2_nn, u2_kk, e9] at c1); (try simp (disch := omega) only [nlit, natrem, nIrm, nIam, nIam',  nI_add, pk_mul, nIsub, nIrem, nIdiv, nIand1, nIand3, nIand7, nIand31, nIshr, nIle, nIlt, nIeq, nIc, vpI, nIm1, m1nI, m1lt, nIlm, m1le, nIlem, nIneg, u2_ss, u2_nn, u2_kk, e9])
      have : n = 1 := ho
      match st, hn, hp, h with
      | [v], _, hp, h =>
        rw [show I 105 0 = v from hp.1]
        exact h I v rfl hF
      | [], hn, _, _ => simp at hn; omega
      | _ :: _ :: _, hn, _, _ => simp at hn; omega
    · (try simp (disch := omega) only [nlit, natrem, nIrm, nIam, nIam',  nI_add, pk_mul, nIsub, nIrem, nIdiv, nIand1, nIand3, nIand7, nIand31, nIshr, nIle, nIlt, nIeq, nIc, vpI, nIm1, m1nI, m1lt, nIlm, m1le, nIlem, nIneg, u2_ss, u2_nn, u2_kk, e9] at c1); (try simp (disch := omega) only [nlit, natrem, nIrm, nIam, nIam',  nI_add, pk_mul, nIsub, nIrem, nIdiv, nIand1, nIand3, nIand7, nIand31, nIshr, nIle, nIlt, nIeq, nIc, vpI, nIm1, m1nI, m1lt, nIlm, m1le, nIlem, nIneg, u2_ss, u2_nn, u2_kk, e9]); (first | omega | trivial)
    · (try simp (disch := omega) only [nlit, natrem, nIrm, nIam, nIam',  nI_add, pk_mul, nIsub, nIrem, nIdiv, nIand1, nIand3, nIand7, nIand31, nIshr, nIle, nIlt, nIeq, nIc, vpI, nIm1, m1nI, m1lt, nIlm, m1le, nIlem, nIneg, u2_ss, u2_nn, u2_kk, e9] at c1 c2); (try simp (disch := omega) only [nlit, natrem, nIrm, nIam, nIam',  nI_add, pk_mul, nIsub, nIrem, nIdiv, nIand1, nIand3, nIand7, nIand31, nIshr, nIle, nIlt, nIeq, nIc, vpI, nIm1, m1nI, m1lt, nIlm, m1le, nIlem, nIneg, u2_ss, u2_nn, u2_kk, e9]); (first | omega | trivial)
    · (try simp (disch := omega) only [nlit, natrem, nIrm, nIam, nIam',  nI_add, pk_mul, nIsub, nIrem, nIdiv, nIand1, nIand3, nIand7, nIand31, nIshr, nIle, nIlt, nIeq, nIc, vpI, nIm1, m1nI, m1lt, nIlm, m1le, nIlem, nIneg, u2_ss, u2_nn, u2_kk, e9] at c1 c2); (try simp (disch := omega) only [nlit, natrem, nIrm, nIam, nIam',  nI_add, pk_mul, nIsub, nIrem, nIdiv, nIand1, nIand3, nIand7, nIand31, nIshr, nIle, nIlt, nIeq, nIc, vpI, nIm1, m1nI, m1lt, nIlm, m1le, nIlem, nIneg, u2_ss, u2_nn, u2_kk, e9]); (first | omega | trivial)
    · (try simp (disch := omega) only [nlit, natrem, nIrm, nIam, nIam',  nI_add, pk_mul, nIsub, nIrem, nIdiv, nIand1, nIand3, nIand7, nIand31, nIshr, nIle, nIlt, nIeq, nIc, vpI, nIm1, m1nI, m1lt, nIlm, m1le, nIlem, nIneg, u2_ss, u2_nn, u2_kk, e9] at c1 c2); (first | omega | exact absurd rfl c1 | exact absurd trivial c1)
    · (try simp (disch := omega) only [nlit, natrem, nIrm, nIam, nIam',  nI_add, pk_mul, nIsub, nIrem, nIdiv, nIand1, nIand3, nIand7, nIand31, nIshr, nIle, nIlt, nIeq, nIc, vpI, nIm1, m1nI, m1lt, nIlm, m1le, nIlem, nIneg, u2_ss, u2_nn, u2_kk, e9] at c1 c2 c3 c4); (try simp (disch := omega) only [nlit, natrem, nIrm, nIam, nIam',  nI_add, pk_mul, nIsub, nIrem, nIdiv, nIand1, nIand3, nIand7, nIand31, nIshr, nIle, nIlt, nIeq, nIc, vpI, nIm1, m1nI, m1lt, nIlm, m1le, nIlem, nIneg, u2_ss, u2_nn, u2_kk, e9]); (first | omega | trivial)
    · (try simp (disch := omega) only [nlit, natrem, nIrm, nIam, nIam',  nI_add, pk_mul, nIsub, nIrem, nIdiv, nIand1, nIand3, nIand7, nIand31, nIshr, nIle, nIlt, nIeq, nIc, vpI, nIm1, m1nI, m1lt, nIlm, m1le, nIlem, nIneg, u2_ss, u2_nn, u2_kk, e9] at c1 c2 c3 c4); (try simp (disch := omega) only [nlit, natrem, nIrm, nIam, nIam',  nI_add, pk_mul, nIsub, nIrem, nIdiv, nIand1, nIand3, nIand7, nIand31, nIshr, nIle, nIlt, nIeq, nIc, vpI, nIm1, m1nI, m1lt, nIlm, m1le, nIlem, nIneg, u2_ss, u2_nn, u2_kk, e9]); (first | omega | trivial)
    · (try simp (disch := omega) only [nlit, natrem, nIrm, nIam, nIam',  nI_add, pk_mul, nIsub, nIrem, nIdiv, nIand1, nIand3, nIand7, nIand31, nIshr, nIle, nIlt, nIeq, nIc, vpI, nIm1, m1nI, m1lt, nIlm, m1le, nIlem, nIneg, u2_ss, u2_nn, u2_kk, e9] at c1 c2 c3 c4); (first | omega | exact absurd rfl c1 | exact absurd trivial c1)
    · (try simp (disch := omega) only [nlit, natrem, nIrm, nIam, nIam',  nI_add, pk_mul, nIsub, nIrem, nIdiv, nIand1, nIand3, nIand7, nIand31, nIshr, nIle, nIlt, nIeq, nIc, vpI, nIm1, m1nI, m1lt, nIlm, m1le, nIlem, nIneg, u2_ss, u2_nn, u2_kk, e9] at c1 c2 c3 c4); (try simp (disch := omega) only [nlit, natrem, nIrm, nIam, nIam',  nI_add, pk_mul, nIsub, nIrem, nIdiv, nIand1, nIand3, nIand7, nIand31, nIshr, nIle, nIlt, nIeq, nIc, vpI, nIm1, m1nI, m1lt, nIlm, m1le, nIlem, nIneg, u2_ss, u2_nn, u2_kk, e9]); (first | omega | trivial)
    · (try simp (disch := omega) only [nlit, natrem, nIrm, nIam, nIam',  nI_add, pk_mul, nIsub, nIrem, nIdiv, nIand1, nIand3, nIand7, nIand31, nIshr, nIle, nIlt, nIeq, nIc, vpI, nIm1, m1nI, m1lt, nIlm, m1le, nIlem, nIneg, u2_ss, u2_nn, u2_kk, e9] at c1 c2 c3 c4 c5); (try simp (disch := omega) only [nlit, natrem, nIrm, nIam, nIam',  nI_add, pk_mul, nIsub, nIrem, nIdiv, nIand1, nIand3, nIand7, nIand31, nIshr, nIle, nIlt, nIeq, nIc, vpI, nIm1, m1nI, m1lt, nIlm, m1le, nIlem, nIneg, u2_ss, u2_nn, u2_kk, e9]); (first | omega | trivial)
    · (try simp (disch := omega) only [nlit, natrem, nIrm, nIam, nIam',  nI_add, pk_mul, nIsub, nIrem, nIdiv, nIand1, nIand3, nIand7, nIand31, nIshr, nIle, nIlt, nIeq, nIc, vpI, nIm1, m1nI, m1lt, nIlm, m1le, nIlem, nIneg, u2_ss, u2_nn, u2_kk, e9] at c1 c2 c3 c4 c5); (first | omega | exact absurd rfl c1 | exact absurd trivial c1)
    · (try simp (disch := omega) only [nlit, natrem, nIrm, nIam, nIam',  nI_add, pk_mul, nIsub, nIrem, nIdiv, nIand1, nIand3, nIand7, nIand31, nIshr, nIle, nIlt, nIeq, nIc, vpI, nIm1, m1nI, m1lt, nIlm, m1le, nIlem, nIneg, u2_ss, u2_nn, u2_kk, e9] at c1 c2 c3 c4 c5); (try simp (disch := omega) only [nlit, natrem, nIrm, nIam, nIam',  nI_add, pk_mul, nIsub, nIrem, nIdiv, nIand1, nIand3, nIand7, nIand31, nIshr, nIle, nIlt, nIeq, nIc, vpI, nIm1, m1nI, m1lt, nIlm, m1le, nIlem, nIneg, u2_ss, u2_nn, u2_kk, e9]); (first | omega | trivial)
    · (try simp (disch := omega) only [nlit, natrem, nIrm, nIam, nIam',  nI_add, pk_mul, nIsub, nIrem, nIdiv, nIand1, nIand3, nIand7, nIand31, nIshr, nIle, nIlt, nIeq, nIc, vpI, nIm1, m1nI, m1lt, nIlm, m1le, nIlem, nIneg, u2_ss, u2_nn, u2_kk, e9] at c1 c2 c3 c4 c5); (first | omega | exact absurd rfl c1 | exact absurd trivial c1)
    · (try simp (disch := omega) only [nlit, natrem, nIrm, nIam, nIam',  nI_add, pk_mul, nIsub, nIrem, nIdiv, nIand1, nIand3, nIand7, nIand31, nIshr, nIle, nIlt, nIeq, nIc, vpI, nIm1, m1nI, m1lt, nIlm, m1le, nIlem, nIneg, u2_ss, u2_nn, u2_kk, e9] at c1 c2 c3); (try simp (disch := omega) only [nlit, natrem, nIrm, nIam, nIam',  nI_add, pk_mul, nIsub, nIrem, nIdiv, nIand1, nIand3, nIand7, nIand31, nIshr, nIle, nIlt, nIeq, nIc, vpI, nIm1, m1nI, m1lt, nIlm, m1le, nIlem, nIneg, u2_ss, u2_nn, u2_kk, e9]); (first | omega | trivial)
    · (try simp (disch := omega) only [nlit, natrem, nIrm, nIam, nIam',  nI_add, pk_mul, nIsub, nIrem, nIdiv, nIand1, nIand3, nIand7, nIand31, nIshr, nIle, nIlt, nIeq, nIc, vpI, nIm1, m1nI, m1lt, nIlm, m1le, nIlem, nIneg, u2_ss, u2_nn, u2_kk, e9] at c1 c2 c3); (try simp (disch := omega) only [nlit, natrem, nIrm, nIam, nIam',  nI_add, pk_mul, nIsub, nIrem, nIdiv, nIand1, nIand3, nIand7, nIand31, nIshr, nIle, nIlt, nIeq, nIc, vpI, nIm1, m1nI, m1lt, nIlm, m1le, nIlem, nIneg, u2_ss, u2_nn, u2_kk, e9]); (first | omega | trivial)
    · (try simp (disch := omega) only [nlit, natrem, nIrm, nIam, nIam',  nI_add, pk_mul, nIsub, nIrem, nIdiv, nIand1, nIand3, nIand7, nIand31, nIshr, nIle, nIlt, nIeq, nIc, vpI, nIm1, m1nI, m1lt, nIlm, m1le, nIlem, nIneg, u2_ss, u2_nn, u2_kk, e9] at c1 c2 c3); (try simp (disch := omega) only [nlit, natrem, nIrm, nIam, nIam',  nI_add, pk_mul, nIsub, nIrem, nIdiv, nIand1, nIand3, nIand7, nIand31, nIshr, nIle, nIlt, nIeq, nIc, vpI, nIm1, m1nI, m1lt, nIlm, m1le, nIlem, nIneg, u2_ss, u2_nn, u2_kk, e9]); (first | omega | trivial)
    · (try simp (disch := omega) only [nlit, natrem, nIrm, nIam, nIam',  nI_add, pk_mul, nIsub, nIrem, nIdiv, nIand1, nIand3, nIand7, nIand31, nIshr, nIle, nIlt, nIeq, nIc, vpI, nIm1, m1nI, m1lt, nIlm, m1le, nIlem, nIneg, u2_ss, u2_nn, u2_kk, e9] at c1 c2 c3); (first | omega | exact absurd rfl c1 | exact absurd trivial c1)
  | cons ov l ih =>
    obtain ⟨o, v⟩ := ov
    intro i n st I hc hi ho hn h60 hF hp h
    have e9 := (hF.ar 99 rfl rfl i).trans hc.1
    have e10 := (hF.ar 100 rfl rfl i).trans hc.2.1
    simp only [List.length_cons] at hi
    have ho1 : 1 ≤ o ∧ o ≤ 10 := by rcases ho with ⟨h, _⟩ | ⟨h, _⟩ | ⟨h, h2, _⟩ <;> omega
    have hv : o ≤ 2 → v < 10000 := by rcases ho with ⟨h, _⟩ | ⟨h, _⟩ | ⟨h, h2, _⟩ <;> omega
    have hv2 : o = 2 → v < 4 := by rcases ho with ⟨h, _⟩ | ⟨h, _⟩ | ⟨h, h2, _⟩ <;> omega
    have hn1 : 3 ≤ o → 1 ≤ n := by rcases ho with ⟨h, _⟩ | ⟨h, h2, _⟩ | ⟨h, h2, h3, _⟩ <;> omega
    have hn2 : 4 ≤ o → 2 ≤ n := by rcases ho with ⟨h, _⟩ | ⟨h, h2, _⟩ | ⟨h, h2, h3, _⟩ <;> omega
    have hn3 : o ≤ 2 → n < 60 ∧ okL l (n + 1) := by rcases ho with ⟨h, h2⟩ | ⟨h, h2, _⟩ | ⟨h, h2, h3, _⟩ <;> first | (intro; exact h2) | omega
    have hn4 : o = 3 → okL l n := by rcases ho with ⟨h, h2⟩ | ⟨h, h2, h3⟩ | ⟨h, h2, h3, _⟩ <;> first | (intro; exact h3) | omega
    have hn5 : 4 ≤ o → okL l (n - 1) := by rcases ho with ⟨h, h2⟩ | ⟨h, h2, h3⟩ | ⟨h, h2, h3, h4⟩ <;> first | (intro; exact h4) | omega
    refine RX12_worthAt_4  ⟨?_, ⟨fun c1 => ?_, fun c1 => ⟨?_, ⟨fun c2 => ⟨?_, ⟨?_, ?_⟩⟩, fun c2 => ⟨fun c3 => ⟨fun c4 => ⟨?_, ⟨?_, ?_⟩⟩, fun c4 => ⟨?_, ⟨fun c5 => ⟨?_, ?_⟩, fun c5 => ⟨?_, ?_⟩⟩⟩⟩, fun c3 => ⟨?_, ⟨?_, ⟨?_, ?_⟩⟩⟩⟩⟩⟩⟩⟩
    · (try simp (disch := omega) only [nlit, natrem, nIrm, nIam, nIam',  nI_add, pk_mul, nIsub, nIrem, nIdiv, nIand1, nIand3, nIand7, nIand31, nIshr, nIle, nIlt, nIeq, nIc, vpI, nIm1, m1nI, m1lt, nIlm, m1le, nIlem, nIneg, u2_ss, u2_nn, u2_kk, e9, e10]); (first | omega | trivial)
    · (try simp (disch := omega) only [nlit, natrem, nIrm, nIam, nIam',  nI_add, pk_mul, nIsub, nIrem, nIdiv, nIand1, nIand3, nIand7, nIand31, nIshr, nIle, nIlt, nIeq, nIc, vpI, nIm1, m1nI, m1lt, nIlm, m1le, nIlem, nIneg, u2_ss, u2_nn, u2_kk, e9, e10] at c1); (try simp (disch := omega) only [nlit, natrem, nIrm, nIam, nIam',  nI_add, pk_mul, nIsub, nIrem, nIdiv, nIand1, nIand3, nIand7, nIand31, nIshr, nIle, nIlt, nIeq, nIc, vpI, nIm1, m1nI, m1lt, nIlm, m1le, nIlem, nIneg, u2_ss, u2_nn, u2_kk, e9, e10])
      omega
    · (try simp (disch := omega) only [nlit, natrem, nIrm, nIam, nIam',  nI_add, pk_mul, nIsub, nIrem, nIdiv, nIand1, nIand3, nIand7, nIand31, nIshr, nIle, nIlt, nIeq, nIc, vpI, nIm1, m1nI, m1lt, nIlm, m1le, nIlem, nIneg, u2_ss, u2_nn, u2_kk, e9, e10] at c1); (try simp (disch := omega) only [nlit, natrem, nIrm, nIam, nIam',  nI_add, pk_mul, nIsub, nIrem, nIdiv, nIand1, nIand3, nIand7, nIand31, nIshr, nIle, nIlt, nIeq, nIc, vpI, nIm1, m1nI, m1lt, nIlm, m1le, nIlem, nIneg, u2_ss, u2_nn, u2_kk, e9, e10]); (first | omega | trivial)
    · (try simp (disch := omega) only [nlit, natrem, nIrm, nIam, nIam',  nI_add, pk_mul, nIsub, nIrem, nIdiv, nIand1, nIand3, nIand7, nIand31, nIshr, nIle, nIlt, nIeq, nIc, vpI, nIm1, m1nI, m1lt, nIlm, m1le, nIlem, nIneg, u2_ss, u2_nn, u2_kk, e9, e10] at c1 c2); (try simp (disch := omega) only [nlit, natrem, nIrm, nIam, nIam',  nI_add, pk_mul, nIsub, nIrem, nIdiv, nIand1, nIand3, nIand7, nIand31, nIshr, nIle, nIlt, nIeq, nIc, vpI, nIm1, m1nI, m1lt, nIlm, m1le, nIlem, nIneg, u2_ss, u2_nn, u2_kk, e9, e10]); (first | omega | trivial)
    · (try simp (disch := omega) only [nlit, natrem, nIrm, nIam, nIam',  nI_add, pk_mul, nIsub, nIrem, nIdiv, nIand1, nIand3, nIand7, nIand31, nIshr, nIle, nIlt, nIeq, nIc, vpI, nIm1, m1nI, m1lt, nIlm, m1le, nIlem, nIneg, u2_ss, u2_nn, u2_kk, e9, e10] at c1 c2); (try simp (disch := omega) only [nlit, natrem, nIrm, nIam, nIam',  nI_add, pk_mul, nIsub, nIrem, nIdiv, nIand1, nIand3, nIand7, nIand31, nIshr, nIle, nIlt, nIeq, nIc, vpI, nIm1, m1nI, m1lt, nIlm, m1le, nIlem, nIneg, u2_ss, u2_nn, u2_kk, e9, e10]); (first | omega | trivial)
    · (try simp (disch := omega) only [nlit, natrem, nIrm, nIam, nIam',  nI_add, pk_mul, nIsub, nIrem, nIdiv, nIand1, nIand3, nIand7, nIand31, nIshr, nIle, nIlt, nIeq, nIc, vpI, nIm1, m1nI, m1lt, nIlm, m1le, nIlem, nIneg, u2_ss, u2_nn, u2_kk, e9, e10] at c1 c2); (try simp (disch := omega) only [nlit, natrem, nIrm, nIam, nIam',  nI_add, pk_mul, nIsub, nIrem, nIdiv, nIand1, nIand3, nIand7, nIand31, nIshr, nIle, nIlt, nIeq, nIc, vpI, nIm1, m1nI, m1lt, nIlm, m1le, nIlem, nIneg, u2_ss, u2_nn, u2_kk, e9, e10])
      have h3 := hn3 (by omega)
      refine ih (i + 1) (n + 1) (nI v :: st) _ hc.2.2 (by omega) h3.2 (by simp; exact hn) (by omega) (hF.ua rfl) (pilR_push hp hn.symm) (fun J v' e hJ => h J v' ?_ hJ)
      show evL f l (ev1 f o v st) = [v']
      unfold ev1
      rw [if_pos (by omega)]
      exact e
    · (try simp (disch := omega) only [nlit, natrem, nIrm, nIam, nIam',  nI_add, pk_mul, nIsub, nIrem, nIdiv, nIand1, nIand3, nIand7, nIand31, nIshr, nIle, nIlt, nIeq, nIc, vpI, nIm1, m1nI, m1lt, nIlm, m1le, nIlem, nIneg, u2_ss, u2_nn, u2_kk, e9, e10] at c1 c2 c3 c4); (try simp (disch := omega) only [nlit, natrem, nIrm, nIam, nIam',  nI_add, pk_mul, nIsub, nIrem, nIdiv, nIand1, nIand3, nIand7, nIand31, nIshr, nIle, nIlt, nIeq, nIc, vpI, nIm1, m1nI, m1lt, nIlm, m1le, nIlem, nIneg, u2_ss, u2_nn, u2_kk, e9, e10]); (first | omega | trivial)
    · (try simp (disch := omega) only [nlit, natrem, nIrm, nIam, nIam',  nI_add, pk_mul, nIsub, nIrem, nIdiv, nIand1, nIand3, nIand7, nIand31, nIshr, nIle, nIlt, nIeq, nIc, vpI, nIm1, m1nI, m1lt, nIlm, m1le, nIlem, nIneg, u2_ss, u2_nn, u2_kk, e9, e10] at c1 c2 c3 c4); (try simp (disch := omega) only [nlit, natrem, nIrm, nIam, nIam',  nI_add, pk_mul, nIsub, nIrem, nIdiv, nIand1, nIand3, nIand7, nIand31, nIshr, nIle, nIlt, nIeq, nIc, vpI, nIm1, m1nI, m1lt, nIlm, m1le, nIlem, nIneg, u2_ss, u2_nn, u2_kk, e9, e10]); (first | omega | trivial)
    · (try simp (disch := omega) only [nlit, natrem, nIrm, nIam, nIam',  nI_add, pk_mul, nIsub, nIrem, nIdiv, nIand1, nIand3, nIand7, nIand31, nIshr, nIle, nIlt, nIeq, nIc, vpI, nIm1, m1nI, m1lt, nIlm, m1le, nIlem, nIneg, u2_ss, u2_nn, u2_kk, e9, e10] at c1 c2 c3 c4); (try simp (disch := omega) only [nlit, natrem, nIrm, nIam, nIam',  nI_add, pk_mul, nIsub, nIrem, nIdiv, nIand1, nIand3, nIand7, nIand31, nIshr, nIle, nIlt, nIeq, nIc, vpI, nIm1, m1nI, m1lt, nIlm, m1le, nIlem, nIneg, u2_ss, u2_nn, u2_kk, e9, e10])
      have h3 := hn2 (by omega)
      match st, hn, hp, h with
      | x :: y :: st', hn, hp, h =>
        simp only [List.length_cons] at hn
        rw [show I 105 (n - 1) = x by rw [show n - 1 = (y :: st').length by simp; omega]; exact hp.1]
        rw [show I 105 (n - 1 - 1) = y by rw [show n - 1 - 1 = st'.length by omega]; exact hp.2.1]
        refine both_ok (by omega) ?_
        refine RX12_worthAt_133  ⟨?_, ?_⟩
        · (try simp (disch := omega) only [nlit, natrem, nIrm, nIam, nIam',  nI_add, pk_mul, nIsub, nIrem, nIdiv, nIand1, nIand3, nIand7, nIand31, nIshr, nIle, nIlt, nIeq, nIc, vpI, nIm1, m1nI, m1lt, nIlm, m1le, nIlem, nIneg, u2_ss, u2_nn, u2_kk]); (first | omega | trivial)
        · (try simp (disch := omega) only [nlit, natrem, nIrm, nIam, nIam',  nI_add, pk_mul, nIsub, nIrem, nIdiv, nIand1, nIand3, nIand7, nIand31, nIshr, nIle, nIlt, nIeq, nIc, vpI, nIm1, m1nI, m1lt, nIlm, m1le, nIlem, nIneg, u2_ss, u2_nn, u2_kk])
          refine ih (i + 1) (n - 1) (bothF o y x :: st') _ hc.2.2 (by omega) (hn5 (by omega)) (by simp; omega) (by omega) (hF.ua rfl) (pilR_push hp.2.2 (by omega)) (fun J v' e hJ => h J v' ?_ hJ)
          show evL f l (ev1 f o v (x :: y :: st')) = [v']
          unfold ev1
          rw [if_neg (by omega), if_neg (by omega)]
          show evL f l (if o = 3 then _ else bothF o y x :: st') = [v']
          rw [if_neg (by omega)]
          exact e
      | [x], hn, _, _ => simp at hn; omega
      | [], hn, _, _ => simp at hn; omega
    · (try simp (disch := omega) only [nlit, natrem, nIrm, nIam, nIam',  nI_add, pk_mul, nIsub, nIrem, nIdiv, nIand1, nIand3, nIand7, nIand31, nIshr, nIle, nIlt, nIeq, nIc, vpI, nIm1, m1nI, m1lt, nIlm, m1le, nIlem, nIneg, u2_ss, u2_nn, u2_kk, e9, e10] at c1 c2 c3 c4); (try simp (disch := omega) only [nlit, natrem, nIrm, nIam, nIam',  nI_add, pk_mul, nIsub, nIrem, nIdiv, nIand1, nIand3, nIand7, nIand31, nIshr, nIle, nIlt, nIeq, nIc, vpI, nIm1, m1nI, m1lt, nIlm, m1le, nIlem, nIneg, u2_ss, u2_nn, u2_kk, e9, e10]); (first | omega | trivial)
    · (try simp (disch := omega) only [nlit, natrem, nIrm, nIam, nIam',  nI_add, pk_mul, nIsub, nIrem, nIdiv, nIand1, nIand3, nIand7, nIand31, nIshr, nIle, nIlt, nIeq, nIc, vpI, nIm1, m1nI, m1lt, nIlm, m1le, nIlem, nIneg, u2_ss, u2_nn, u2_kk, e9, e10] at c1 c2 c3 c4 c5); (try simp (disch := omega) only [nlit, natrem, nIrm, nIam, nIam',  nI_add, pk_mul, nIsub, nIrem, nIdiv, nIand1, nIand3, nIand7, nIand31, nIshr, nIle, nIlt, nIeq, nIc, vpI, nIm1, m1nI, m1lt, nIlm, m1le, nIlem, nIneg, u2_ss, u2_nn, u2_kk, e9, e10]); (first | omega | trivial)
    · (try simp (disch := omega) only [nlit, natrem, nIrm, nIam, nIam',  nI_add, pk_mul, nIsub, nIrem, nIdiv, nIand1, nIand3, nIand7, nIand31, nIshr, nIle, nIlt, nIeq, nIc, vpI, nIm1, m1nI, m1lt, nIlm, m1le, nIlem, nIneg, u2_ss, u2_nn, u2_kk, e9, e10] at c1 c2 c3 c4 c5); (try simp (disch := omega) only [nlit, natrem, nIrm, nIam, nIam',  nI_add, pk_mul, nIsub, nIrem, nIdiv, nIand1, nIand3, nIand7, nIand31, nIshr, nIle, nIlt, nIeq, nIc, vpI, nIm1, m1nI, m1lt, nIlm, m1le, nIlem, nIneg, u2_ss, u2_nn, u2_kk, e9, e10])
      match st, hn, hp, h with
      | x :: st', hn, hp, h =>
        simp only [List.length_cons] at hn
        have ex : I 105 (n - 1) = x := by rw [show n - 1 = st'.length by omega]; exact hp.1
        have := hn1 (by omega)
        simp (disch := omega) only [nlit, natrem, nIrm, nIam, nIam',  nI_add, pk_mul, nIsub, nIrem, nIdiv, nIand1, nIand3, nIand7, nIand31, nIshr, nIle, nIlt, nIeq, nIc, vpI, nIm1, m1nI, m1lt, nIlm, m1le, nIlem, nIneg, u2_ss, u2_nn, u2_kk] at c5
        rw [ex] at c5
        refine ih (i + 1) n (nI 0 :: st') _ hc.2.2 (by omega) (hn4 (by omega)) (by simp; omega) (by omega) (hF.ua rfl) (pilR_push hp.2 (by omega)) (fun J v' e hJ => h J v' ?_ hJ)
        show evL f l (ev1 f o v (x :: st')) = [v']
        unfold ev1
        rw [if_neg (by omega), if_neg (by omega)]
        show evL f l (if o = 3 then _ else _) = [v']
        rw [if_pos (by omega), if_neg c5]
        exact e
      | [], hn, _, _ => simp at hn; omega
    · (try simp (disch := omega) only [nlit, natrem, nIrm, nIam, nIam',  nI_add, pk_mul, nIsub, nIrem, nIdiv, nIand1, nIand3, nIand7, nIand31, nIshr, nIle, nIlt, nIeq, nIc, vpI, nIm1, m1nI, m1lt, nIlm, m1le, nIlem, nIneg, u2_ss, u2_nn, u2_kk, e9, e10] at c1 c2 c3 c4 c5); (try simp (disch := omega) only [nlit, natrem, nIrm, nIam, nIam',  nI_add, pk_mul, nIsub, nIrem, nIdiv, nIand1, nIand3, nIand7, nIand31, nIshr, nIle, nIlt, nIeq, nIc, vpI, nIm1, m1nI, m1lt, nIlm, m1le, nIlem, nIneg, u2_ss, u2_nn, u2_kk, e9, e10]); (first | omega | trivial)
    · (try simp (disch := omega) only [nlit, natrem, nIrm, nIam, nIam',  nI_add, pk_mul, nIsub, nIrem, nIdiv, nIand1, nIand3, nIand7, nIand31, nIshr, nIle, nIlt, nIeq, nIc, vpI, nIm1, m1nI, m1lt, nIlm, m1le, nIlem, nIneg, u2_ss, u2_nn, u2_kk, e9, e10] at c1 c2 c3 c4 c5); (try simp (disch := omega) only [nlit, natrem, nIrm, nIam, nIam',  nI_add, pk_mul, nIsub, nIrem, nIdiv, nIand1, nIand3, nIand7, nIand31, nIshr, nIle, nIlt, nIeq, nIc, vpI, nIm1, m1nI, m1lt, nIlm, m1le, nIlem, nIneg, u2_ss, u2_nn, u2_kk, e9, e10])
      match st, hn, hp, h with
      | x :: st', hn, hp, h =>
        simp only [List.length_cons] at hn
        have ex : I 105 (n - 1) = x := by rw [show n - 1 = st'.length by omega]; exact hp.1
        have := hn1 (by omega)
        simp (disch := omega) only [nlit, natrem, nIrm, nIam, nIam',  nI_add, pk_mul, nIsub, nIrem, nIdiv, nIand1, nIand3, nIand7, nIand31, nIshr, nIle, nIlt, nIeq, nIc, vpI, nIm1, m1nI, m1lt, nIlm, m1le, nIlem, nIneg, u2_ss, u2_nn, u2_kk] at c5
        rw [ex] at c5
        refine ih (i + 1) n (nI 1 :: st') _ hc.2.2 (by omega) (hn4 (by omega)) (by simp; omega) (by omega) (hF.ua rfl) (pilR_push hp.2 (by omega)) (fun J v' e hJ => h J v' ?_ hJ)
        show evL f l (ev1 f o v (x :: st')) = [v']
        unfold ev1
        rw [if_neg (by omega), if_neg (by omega)]
        show evL f l (if o = 3 then _ else _) = [v']
        rw [if_pos (by omega), if_pos c5]
        exact e
      | [], hn, _, _ => simp at hn; omega
    · (try simp (disch := omega) only [nlit, natrem, nIrm, nIam, nIam',  nI_add, pk_mul, nIsub, nIrem, nIdiv, nIand1, nIand3, nIand7, nIand31, nIshr, nIle, nIlt, nIeq, nIc, vpI, nIm1, m1nI, m1lt, nIlm, m1le, nIlem, nIneg, u2_ss, u2_nn, u2_kk, e9, e10] at c1 c2 c3); (try simp (disch := omega) only [nlit, natrem, nIrm, nIam, nIam',  nI_add, pk_mul, nIsub, nIrem, nIdiv, nIand1, nIand3, nIand7, nIand31, nIshr, nIle, nIlt, nIeq, nIc, vpI, nIm1, m1nI, m1lt, nIlm, m1le, nIlem, nIneg, u2_ss, u2_nn, u2_kk, e9, e10]); (first | omega | trivial)
    · (try simp (disch := omega) only [nlit, natrem, nIrm, nIam, nIam',  nI_add, pk_mul, nIsub, nIrem, nIdiv, nIand1, nIand3, nIand7, nIand31, nIshr, nIle, nIlt, nIeq, nIc, vpI, nIm1, m1nI, m1lt, nIlm, m1le, nIlem, nIneg, u2_ss, u2_nn, u2_kk, e9, e10] at c1 c2 c3); (try simp (disch := omega) only [nlit, natrem, nIrm, nIam, nIam',  nI_add, pk_mul, nIsub, nIrem, nIdiv, nIand1, nIand3, nIand7, nIand31, nIshr, nIle, nIlt, nIeq, nIc, vpI, nIm1, m1nI, m1lt, nIlm, m1le, nIlem, nIneg, u2_ss, u2_nn, u2_kk, e9, e10]); (first | omega | trivial)
    · (try simp (disch := omega) only [nlit, natrem, nIrm, nIam, nIam',  nI_add, pk_mul, nIsub, nIrem, nIdiv, nIand1, nIand3, nIand7, nIand31, nIshr, nIle, nIlt, nIeq, nIc, vpI, nIm1, m1nI, m1lt, nIlm, m1le, nIlem, nIneg, u2_ss, u2_nn, u2_kk, e9, e10] at c1 c2 c3); (try simp (disch := omega) only [nlit, natrem, nIrm, nIam, nIam',  nI_add, pk_mul, nIsub, nIrem, nIdiv, nIand1, nIand3, nIand7, nIand31, nIshr, nIle, nIlt, nIeq, nIc, vpI, nIm1, m1nI, m1lt, nIlm, m1le, nIlem, nIneg, u2_ss, u2_nn, u2_kk, e9, e10]); (first | omega | trivial)
    · (try simp (disch := omega) only [nlit, natrem, nIrm, nIam, nIam',  nI_add, pk_mul, nIsub, nIrem, nIdiv, nIand1, nIand3, nIand7, nIand31, nIshr, nIle, nIlt, nIeq, nIc, vpI, nIm1, m1nI, m1lt, nIlm, m1le, nIlem, nIneg, u2_ss, u2_nn, u2_kk, e9, e10] at c1 c2 c3); (try simp (disch := omega) only [nlit, natrem, nIrm, nIam, nIam',  nI_add, pk_mul, nIsub, nIrem, nIdiv, nIand1, nIand3, nIand7, nIand31, nIshr, nIle, nIlt, nIeq, nIc, vpI, nIm1, m1nI, m1lt, nIlm, m1le, nIlem, nIneg, u2_ss, u2_nn, u2_kk, e9, e10])
      have h3 := hn3 (by omega)
      rw [hF.ar 104 rfl rfl, hf v (by omega)]
      refine ih (i + 1) (n + 1) (f v :: st) _ hc.2.2 (by omega) h3.2 (by simp; exact hn) (by omega) (hF.ua rfl) (pilR_push hp hn.symm) (fun J v' e hJ => h J v' ?_ hJ)
      show evL f l (ev1 f o v st) = [v']
      unfold ev1
      rw [if_neg (by omega), if_pos (by omega)]
      exact e
/-! what the law says of a step -/
def fct (gl s ag dr : Nat) (k : Nat) : Int32 := if k = 0 then nI gl else if k = 1 then nI s else if k = 2 then nI ag else nI dr
def lost (lc : List (Nat × Nat)) (gl s ag dr : Nat) : Bool := match lc with
  | [] => false
  | _ :: _ => decide (¬ (evL (fct gl s ag dr) lc []).headD 0 = nI 0)
def LawM (lc : List (Nat × Nat)) (I : Ints) : Prop := (lc = [] ∧ I 98 6 = -1) ∨ (lc ≠ [] ∧ okL lc 0 ∧ lc.length < 1100 ∧ I 98 6 = nI 0 ∧ cdA I 0 lc)
theorem cdA.fr {I J : Ints} (h1 : ∀ i, J 99 i = I 99 i) (h2 : ∀ i, J 100 i = I 100 i) : ∀ (l : List (Nat × Nat)) (i : Nat), cdA I i l → cdA J i l
  | [], i, h => (h1 i).trans h
  | (_, _) :: l, i, h => ⟨(h1 i).trans h.1, (h2 i).trans h.2.1, cdA.fr h1 h2 l _ h.2.2⟩
theorem LawM.fr {lc : List (Nat × Nat)} {I J : Ints} {As : List Nat} {Fs : List (Nat × Nat)} (h : LawM lc I) (hF : Fr As Fs I J) (h1 : As.contains 98 = false) (h2 : As.contains 99 = false) (h3 : As.contains 100 = false) (h4 : (Fs.all fun x => x.1 != 98 && x.1 != 99 && x.1 != 100) = true) : LawM lc J := by
  have g1 : (Fs.all fun x => x.1 != 98) = true := List.all_eq_true.mpr fun x hx => by have := List.all_eq_true.mp h4 x hx; simp only [Bool.and_eq_true] at this; exact this.1.1
  have g2 : (Fs.all fun x => x.1 != 99) = true := List.all_eq_true.mpr fun x hx => by have := List.all_eq_true.mp h4 x hx; simp only [Bool.and_eq_true] at this; exact this.1.2
  have g3 : (Fs.all fun x => x.1 != 100) = true := List.all_eq_true.mpr fun x hx => by have := List.all_eq_true.mp h4 x hx; simp only [Bool.and_eq_true] at this; exact this.2
  rcases h with ⟨e, h⟩ | ⟨e, ho, hl, h, hc⟩
  · exact Or.inl ⟨e, (hF.ar 98 h1 g1 6).trans h⟩
  · exact Or.inr ⟨e, ho, hl, (hF.ar 98 h1 g1 6).trans h, cdA.fr (hF.ar 99 h2 g2) (hF.ar 100 h3 g3) _ _ hc⟩
theorem lost_eq {lc : List (Nat × Nat)} {gl s ag dr : Nat} {v : Int32} (hl : lc ≠ []) (h : evL (fct gl s ag dr) lc [] = [v]) : (lost lc gl s ag dr = true ↔ ¬ v = nI 0) := by
  match lc, hl, h with
  | x :: l, _, h =>
    unfold lost
    simp only [h, List.headD_cons, decide_eq_true_eq]
theorem m1ge : ¬ ((0 : Int32) ≤ -1) := by decide
theorem isLost_ok {d : Nat} {sx : Sx} {I : Ints} {L : Lngs} {R : Rfs} {q : Q3} {a : Ce} {lc : List (Nat × Nat)} (hM : CelM a I) (hl : LawM lc I) {g gl s dr : Nat} (hg : g < 6)
    (h : ∀ J, Fr [104, 105] [] I J → q (some (.int (if lost lc gl s (gA a g).val dr then nI 1 else nI 0))) J L R) : E0 mX12_isLost (d + 3) sx [.ref 92, .int (nI g), .int (nI gl), .int (nI s), .int (nI dr)] I L R q := by
  rcases hl with ⟨rfl, e⟩ | ⟨hne, ho, hln, e, hc⟩
  · refine EX12_isLost ⟨fun c1 => ?_, fun c1 => ?_⟩
    · rw [e] at c1; exact absurd c1 m1ge
    · exact h I Fr.rf
  · refine EX12_isLost ⟨fun c1 => ?_, fun c1 => ?_⟩
    · refine guestA_ok (a := a) ?_ hg ?_
      · exact CelM.fr (As := [104]) (Fs := []) hM ((Fr.rf.ua rfl).ua rfl) rfl rfl
      · refine RX12_isLost_37 ⟨?_, ?_⟩
        · simp (disch := omega) only [nlit, natrem, nIrm, nIam, nIam',  nI_add, pk_mul, nIsub, nIrem, nIdiv, nIand1, nIand3, nIand7, nIand31, nIshr, nIle, nIlt, nIeq, nIc, vpI, nIm1, m1nI, m1lt, nIlm, m1le, nIlem, nIneg, u2_ss, u2_nn, u2_kk]; omega
        · have hF : Fr [104] [] I (u2 (u2 (u2 (u2 I 104 0 (nI gl)) 104 1 (nI s)) 104 2 (nI (gA a g).val)) 104 3 (nI dr)) := (((Fr.rf.ua rfl).ua rfl).ua rfl).ua rfl
          simp (disch := omega) only [nlit, natrem, nIrm, nIam, nIam',  nI_add, pk_mul, nIsub, nIrem, nIdiv, nIand1, nIand3, nIand7, nIand31, nIshr, nIle, nIlt, nIeq, nIc, vpI, nIm1, m1nI, m1lt, nIlm, m1le, nIlem, nIneg, u2_ss, u2_nn, u2_kk]
          rw [e]
          refine EX12_worthAt ?_
          refine worthAt_lp (f := fct gl s (gA a g).val dr) ?_ lc 0 0 [] _ (cdA.fr (hF.ar 99 rfl rfl) (hF.ar 100 rfl rfl) _ _ hc) (by omega) ho rfl (by omega) Fr.rf trivial ?_
          · intro k hk
            match k, hk with
            | 0, _ => simp [u2, fct]
            | 1, _ => simp [u2, fct]
            | 2, _ => simp [u2, fct]
            | 3, _ => simp [u2, fct]
          · intro J v hv hJ
            have hz := lost_eq hne hv
            have hFJ : Fr [104, 105] [] I J := (hF.mn rfl rfl).tr (hJ.mn rfl rfl)
            refine RX12_isLost_57 ⟨fun c => ?_, fun c => ?_⟩
            · have hh := h J hFJ
              rw [if_neg (fun w => hz.mp w c)] at hh
              exact hh
            · have hh := h J hFJ
              rw [if_pos (hz.mpr c)] at hh
              exact hh
    · rw [e] at c1; exact absurd (by decide) c1
