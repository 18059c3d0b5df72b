/-! a dance read by those who danced it -/
def dgs : Nat → Nat → List Nat
  | 0, _ => []
  | k + 1, n => dgs k (n / 5) ++ [n % 5]
theorem dgs_len : ∀ k n, (dgs k n).length = k
  | 0, _ => rfl
  | k + 1, n => by show (dgs k (n / 5) ++ [_]).length = _; rw [List.length_append, dgs_len k, List.length_singleton]
theorem dgs_le : ∀ k n, ∀ x ∈ dgs k n, x ≤ 4
  | 0, _, x, hx => absurd hx List.not_mem_nil
  | k + 1, n, x, hx => by
    rcases List.mem_append.mp hx with h | h
    · exact dgs_le k _ x h
    · rw [List.mem_singleton.mp h]; omega
theorem dgs_s {k n s : Nat} (hs : s < 5) : dgs (k + 1) (n * 5 + s) = dgs k n ++ [s] := by
  show dgs k ((n * 5 + s) / 5) ++ [(n * 5 + s) % 5] = _
  rw [show (n * 5 + s) / 5 = n by omega, show (n * 5 + s) % 5 = s by omega]
abbrev hitL (a : Ce) (sn : Nat → Nat) (l : List Nat) : Prop := ∀ g, g < (a 4).val → sn g = 0 ∨ wk a (clP a) (gK a g).val l (hom a g) / 4 + 1 = sn g
abbrev Ss : Type := Nat × Option Nat
def sc1 (p : Nat → Prop) [DecidablePred p] (wv : Int32) (s : Ss) (n : Nat) : Ss := match s.2 with
  | some _ => s
  | none => if p n then (s.1 + 1, if nI s.1 = wv then some n else none) else s
def scR (p : Nat → Prop) [DecidablePred p] (wv : Int32) (lo : Nat) (s : Ss) : Nat → Ss
  | 0 => s
  | n + 1 => sc1 p wv (scR p wv lo s n) (lo + n)
theorem scR_add {p : Nat → Prop} [DecidablePred p] {wv : Int32} {lo : Nat} {s : Ss} (m : Nat) : ∀ n, scR p wv lo s (m + n) = scR p wv (lo + m) (scR p wv lo s m) n
  | 0 => rfl
  | n + 1 => by
    show sc1 p wv (scR p wv lo s (m + n)) (lo + (m + n)) = sc1 p wv (scR p wv (lo + m) (scR p wv lo s m) n) (lo + m + n)
    rw [scR_add m n, Nat.add_assoc]
theorem scR_done {p : Nat → Prop} [DecidablePred p] {wv : Int32} {lo : Nat} {s : Ss} (h : s.2 ≠ none) : ∀ n, scR p wv lo s n = s
  | 0 => rfl
  | n + 1 => by
    show sc1 p wv (scR p wv lo s n) (lo + n) = s
    rw [scR_done h n]
    unfold sc1
    match hs : s.2 with
    | none => exact absurd hs h
    | some _ => rfl
theorem scR_le {p : Nat → Prop} [DecidablePred p] {wv : Int32} {lo : Nat} {s : Ss} : ∀ n, (scR p wv lo s n).1 ≤ s.1 + n
  | 0 => Nat.le_refl _
  | n + 1 => by
    have := scR_le (p := p) (wv := wv) (lo := lo) (s := s) n
    show (sc1 p wv (scR p wv lo s n) (lo + n)).1 ≤ _
    generalize scR p wv lo s n = t at *
    unfold sc1
    match t.2 with
    | none => simp only; split <;> simp <;> omega
    | some _ => simp only; omega
theorem scR_wr {p : Nat → Prop} [DecidablePred p] {wv : Int32} {lo : Nat} {s : Ss} (h : s.2 = none) : ∀ n w, (scR p wv lo s n).2 = some w → w < lo + n
  | 0, w, hw => by rw [show (scR p wv lo s 0).2 = s.2 from rfl, h] at hw; cases hw
  | n + 1, w, hw => by
    have ih := scR_wr (p := p) (wv := wv) (lo := lo) h n
    have hw : (sc1 p wv (scR p wv lo s n) (lo + n)).2 = some w := hw
    generalize scR p wv lo s n = t at *
    unfold sc1 at hw
    match ht : t.2 with
    | none =>
      rw [ht] at hw
      simp only at hw
      split at hw
      · simp only at hw
        split at hw
        · cases hw; omega
        · cases hw
      · rw [ht] at hw; cases hw
    | some v =>
      rw [ht] at hw
      simp only [ht] at hw
      have := ih v ht
      have : v = w := Option.some.inj hw
      omega
def wrV (w : Option Nat) : Int32 := match w with
  | none => -1
  | some n => nI n
def RdC (a : Ce) (c n : Nat) (wv : Int32) (s : Ss) (J : Ints) : Prop := J 58 0 = nI s.1 ∧ J 58 1 = wrV s.2 ∧ J 58 2 = wv ∧ J 58 3 = nI n
def PzC (a : Ce) (k : Nat) (l : List Nat) (J : Ints) : Prop := ∀ g, g < (a 4).val → J 59 (k * 6 + g) = nI (wk a (clP a) (gK a g).val l (hom a g))
theorem allThere_ok {d : Nat} {sx : Sx} {I : Ints} {L : Lngs} {R : Rfs} {q : Q3} {a : Ce} {lc : List (Nat × Nat)} {lf : Nat → Nat} {gl : Nat → List Nat} {sn : Nat → Nat} {c n : Nat} (hc : isCel c) (hW : WFc a) (hE : WFe a lf gl sn) (hR4 : R 58 4 = some c) (hR5 : R 58 5 = some 37) (hC : CelC a lc c I L) (h37 : ∀ g, g < 6 → I 37 g = snV (sn g)) (h3 : I 58 3 = nI n) (hn : n ≤ 5) {l : List Nat} (hP : PzC a n l I)
    (ht : hitL a sn l → q (some (.int 1)) I L R) (hf : ¬ hitL a sn l → q (some (.int 0)) I L R) : E0 mX6_allThere (d + 1) sx [.ref 58] I L R q := by
  have w4 := hW.2.2.2.2.1
  have e11 := hC.1.2.2.2.2.2
  have hlp : ∀ m g : Nat, m = (a 4).val - g → g ≤ (a 4).val → (∀ x, x < g → sn x = 0 ∨ wk a (clP a) (gK a x).val l (hom a x) / 4 + 1 = sn x) → Y mX6_allThere (d + 1) sx 2 [(0, .ref 58), (1, .int (nI g))] [] I L R q := by
    intro m
    induction m with
    | zero =>
      intro g hm hg hx
      refine RX6_allThere_2 hc hR4 (show S0[37]? = some (Sum.inr (.int, 6)) from rfl) hR5 ⟨fun c1 => ?_, fun c1 => ⟨?_, ⟨fun c2 => ?_, fun c2 => ⟨?_, ⟨?_, ⟨fun c3 => ?_, fun c3 => ?_⟩⟩⟩⟩⟩⟩
      · (try simp (disch := omega) only [nlit, natrem, nIrm, nIam, nIam',  nI_add, pk_mul, nIsub, nIrem, nIdiv, nIand1, nIand3, nIand7, nIand31, nIshr, nIle, nIlt, nIeq, nIc, vpI, nIm1, m1nI, m1lt, nIlm, m1le, nIlem, nIneg, u2_ss, u2_nn, u2_kk, nIm1n, m1nIn, m1ltn, nIlmn, m1len, nIlemn, e11] at c1); (try simp (disch := omega) only [nlit, natrem, nIrm, nIam, nIam',  nI_add, pk_mul, nIsub, nIrem, nIdiv, nIand1, nIand3, nIand7, nIand31, nIshr, nIle, nIlt, nIeq, nIc, vpI, nIm1, m1nI, m1lt, nIlm, m1le, nIlem, nIneg, u2_ss, u2_nn, u2_kk, nIm1n, m1nIn, m1ltn, nIlmn, m1len, nIlemn, e11])
        exact ht (fun x hxx => hx x (by omega))
      · (try simp (disch := omega) only [nlit, natrem, nIrm, nIam, nIam',  nI_add, pk_mul, nIsub, nIrem, nIdiv, nIand1, nIand3, nIand7, nIand31, nIshr, nIle, nIlt, nIeq, nIc, vpI, nIm1, m1nI, m1lt, nIlm, m1le, nIlem, nIneg, u2_ss, u2_nn, u2_kk, nIm1n, m1nIn, m1ltn, nIlmn, m1len, nIlemn, e11] at c1) <;> (try simp (disch := omega) only [nlit, natrem, nIrm, nIam, nIam',  nI_add, pk_mul, nIsub, nIrem, nIdiv, nIand1, nIand3, nIand7, nIand31, nIshr, nIle, nIlt, nIeq, nIc, vpI, nIm1, m1nI, m1lt, nIlm, m1le, nIlem, nIneg, u2_ss, u2_nn, u2_kk, nIm1n, m1nIn, m1ltn, nIlmn, m1len, nIlemn, e11]) <;> (first | omega | trivial)
      · (try simp (disch := omega) only [nlit, natrem, nIrm, nIam, nIam',  nI_add, pk_mul, nIsub, nIrem, nIdiv, nIand1, nIand3, nIand7, nIand31, nIshr, nIle, nIlt, nIeq, nIc, vpI, nIm1, m1nI, m1lt, nIlm, m1le, nIlem, nIneg, u2_ss, u2_nn, u2_kk, nIm1n, m1nIn, m1ltn, nIlmn, m1len, nIlemn, e11] at c1 c2) <;> (first | omega | exact absurd rfl c1 | exact absurd trivial c1 | exact absurd rfl c2 | exact absurd trivial c2)
      · (try simp (disch := omega) only [nlit, natrem, nIrm, nIam, nIam',  nI_add, pk_mul, nIsub, nIrem, nIdiv, nIand1, nIand3, nIand7, nIand31, nIshr, nIle, nIlt, nIeq, nIc, vpI, nIm1, m1nI, m1lt, nIlm, m1le, nIlem, nIneg, u2_ss, u2_nn, u2_kk, nIm1n, m1nIn, m1ltn, nIlmn, m1len, nIlemn, e11] at c1 c2) <;> (try simp (disch := omega) only [nlit, natrem, nIrm, nIam, nIam',  nI_add, pk_mul, nIsub, nIrem, nIdiv, nIand1, nIand3, nIand7, nIand31, nIshr, nIle, nIlt, nIeq, nIc, vpI, nIm1, m1nI, m1lt, nIlm, m1le, nIlem, nIneg, u2_ss, u2_nn, u2_kk, nIm1n, m1nIn, m1ltn, nIlmn, m1len, nIlemn, e11]) <;> (first | omega | trivial)
      · (try simp (disch := omega) only [nlit, natrem, nIrm, nIam, nIam',  nI_add, pk_mul, nIsub, nIrem, nIdiv, nIand1, nIand3, nIand7, nIand31, nIshr, nIle, nIlt, nIeq, nIc, vpI, nIm1, m1nI, m1lt, nIlm, m1le, nIlem, nIneg, u2_ss, u2_nn, u2_kk, nIm1n, m1nIn, m1ltn, nIlmn, m1len, nIlemn, e11] at c1 c2) <;> (try simp (disch := omega) only [nlit, natrem, nIrm, nIam, nIam',  nI_add, pk_mul, nIsub, nIrem, nIdiv, nIand1, nIand3, nIand7, nIand31, nIshr, nIle, nIlt, nIeq, nIc, vpI, nIm1, m1nI, m1lt, nIlm, m1le, nIlem, nIneg, u2_ss, u2_nn, u2_kk, nIm1n, m1nIn, m1ltn, nIlmn, m1len, nIlemn, e11]) <;> (first | omega | trivial)
      · (try simp (disch := omega) only [nlit, natrem, nIrm, nIam, nIam',  nI_add, pk_mul, nIsub, nIrem, nIdiv, nIand1, nIand3, nIand7, nIand31, nIshr, nIle, nIlt, nIeq, nIc, vpI, nIm1, m1nI, m1lt, nIlm, m1le, nIlem, nIneg, u2_ss, u2_nn, u2_kk, nIm1n, m1nIn, m1ltn, nIlmn, m1len, nIlemn, e11] at c1 c2 c3) <;> (first | omega | exact absurd rfl c1 | exact absurd trivial c1 | exact absurd rfl c2 | exact absurd trivial c2 | exact absurd rfl c3 | exact absurd trivial c3)
      · (try simp (disch := omega) only [nlit, natrem, nIrm, nIam, nIam',  nI_add, pk_mul, nIsub, nIrem, nIdiv, nIand1, nIand3, nIand7, nIand31, nIshr, nIle, nIlt, nIeq, nIc, vpI, nIm1, m1nI, m1lt, nIlm, m1le, nIlem, nIneg, u2_ss, u2_nn, u2_kk, nIm1n, m1nIn, m1ltn, nIlmn, m1len, nIlemn, e11] at c1 c2 c3) <;> (first | omega | exact absurd rfl c1 | exact absurd trivial c1 | exact absurd rfl c2 | exact absurd trivial c2 | exact absurd rfl c3 | exact absurd trivial c3)
    | succ m ih =>
      intro g hm hg hx
      have e37 := h37 g (by omega)
      have ep := hP g (by omega)
      have hlt := wk_lt (cl := clP a) (kd := (gK a g).val) hW.1.2 hW.2.1.2 l _ (hom_lt hW (g := g) (by omega))
      have hs64 := hE.2.2.1 g (by omega)
      by_cases h0 : sn g = 0
      · have e38 : I 37 g = -nI 1 := by rw [e37, snV_0 h0]; rfl
        refine RX6_allThere_2 hc hR4 (show S0[37]? = some (Sum.inr (.int, 6)) from rfl) hR5 ⟨fun c1 => ?_, fun c1 => ⟨?_, ⟨fun c2 => ?_, fun c2 => ⟨?_, ⟨?_, ⟨fun c3 => ?_, fun c3 => ?_⟩⟩⟩⟩⟩⟩
        · (try simp (disch := omega) only [nlit, natrem, nIrm, nIam, nIam',  nI_add, pk_mul, nIsub, nIrem, nIdiv, nIand1, nIand3, nIand7, nIand31, nIshr, nIle, nIlt, nIeq, nIc, vpI, nIm1, m1nI, m1lt, nIlm, m1le, nIlem, nIneg, u2_ss, u2_nn, u2_kk, nIm1n, m1nIn, m1ltn, nIlmn, m1len, nIlemn, e11, e38] at c1); (try simp (disch := omega) only [nlit, natrem, nIrm, nIam, nIam',  nI_add, pk_mul, nIsub, nIrem, nIdiv, nIand1, nIand3, nIand7, nIand31, nIshr, nIle, nIlt, nIeq, nIc, vpI, nIm1, m1nI, m1lt, nIlm, m1le, nIlem, nIneg, u2_ss, u2_nn, u2_kk, nIm1n, m1nIn, m1ltn, nIlmn, m1len, nIlemn, e11, e38])
          omega
        · (try simp (disch := omega) only [nlit, natrem, nIrm, nIam, nIam',  nI_add, pk_mul, nIsub, nIrem, nIdiv, nIand1, nIand3, nIand7, nIand31, nIshr, nIle, nIlt, nIeq, nIc, vpI, nIm1, m1nI, m1lt, nIlm, m1le, nIlem, nIneg, u2_ss, u2_nn, u2_kk, nIm1n, m1nIn, m1ltn, nIlmn, m1len, nIlemn, e11, e38] at c1) <;> (try simp (disch := omega) only [nlit, natrem, nIrm, nIam, nIam',  nI_add, pk_mul, nIsub, nIrem, nIdiv, nIand1, nIand3, nIand7, nIand31, nIshr, nIle, nIlt, nIeq, nIc, vpI, nIm1, m1nI, m1lt, nIlm, m1le, nIlem, nIneg, u2_ss, u2_nn, u2_kk, nIm1n, m1nIn, m1ltn, nIlmn, m1len, nIlemn, e11, e38]) <;> (first | omega | trivial)
        · (try simp (disch := omega) only [nlit, natrem, nIrm, nIam, nIam',  nI_add, pk_mul, nIsub, nIrem, nIdiv, nIand1, nIand3, nIand7, nIand31, nIshr, nIle, nIlt, nIeq, nIc, vpI, nIm1, m1nI, m1lt, nIlm, m1le, nIlem, nIneg, u2_ss, u2_nn, u2_kk, nIm1n, m1nIn, m1ltn, nIlmn, m1len, nIlemn, e11, e38] at c1 c2); (try simp (disch := omega) only [nlit, natrem, nIrm, nIam, nIam',  nI_add, pk_mul, nIsub, nIrem, nIdiv, nIand1, nIand3, nIand7, nIand31, nIshr, nIle, nIlt, nIeq, nIc, vpI, nIm1, m1nI, m1lt, nIlm, m1le, nIlem, nIneg, u2_ss, u2_nn, u2_kk, nIm1n, m1nIn, m1ltn, nIlmn, m1len, nIlemn, e11, e38])
          refine ih (g + 1) (by omega) (by omega) (fun x hxx => ?_)
          by_cases e : x = g
          · rw [e]; exact Or.inl h0
          · exact hx x (by omega)
        · (try simp (disch := omega) only [nlit, natrem, nIrm, nIam, nIam',  nI_add, pk_mul, nIsub, nIrem, nIdiv, nIand1, nIand3, nIand7, nIand31, nIshr, nIle, nIlt, nIeq, nIc, vpI, nIm1, m1nI, m1lt, nIlm, m1le, nIlem, nIneg, u2_ss, u2_nn, u2_kk, nIm1n, m1nIn, m1ltn, nIlmn, m1len, nIlemn, e11, e38] at c1 c2) <;> (try simp (disch := omega) only [nlit, natrem, nIrm, nIam, nIam',  nI_add, pk_mul, nIsub, nIrem, nIdiv, nIand1, nIand3, nIand7, nIand31, nIshr, nIle, nIlt, nIeq, nIc, vpI, nIm1, m1nI, m1lt, nIlm, m1le, nIlem, nIneg, u2_ss, u2_nn, u2_kk, nIm1n, m1nIn, m1ltn, nIlmn, m1len, nIlemn, e11, e38]) <;> (first | omega | trivial)
        · (try simp (disch := omega) only [nlit, natrem, nIrm, nIam, nIam',  nI_add, pk_mul, nIsub, nIrem, nIdiv, nIand1, nIand3, nIand7, nIand31, nIshr, nIle, nIlt, nIeq, nIc, vpI, nIm1, m1nI, m1lt, nIlm, m1le, nIlem, nIneg, u2_ss, u2_nn, u2_kk, nIm1n, m1nIn, m1ltn, nIlmn, m1len, nIlemn, e11, e38] at c1 c2) <;> (try simp (disch := omega) only [nlit, natrem, nIrm, nIam, nIam',  nI_add, pk_mul, nIsub, nIrem, nIdiv, nIand1, nIand3, nIand7, nIand31, nIshr, nIle, nIlt, nIeq, nIc, vpI, nIm1, m1nI, m1lt, nIlm, m1le, nIlem, nIneg, u2_ss, u2_nn, u2_kk, nIm1n, m1nIn, m1ltn, nIlmn, m1len, nIlemn, e11, e38]) <;> (first | omega | trivial)
        · (try simp (disch := omega) only [nlit, natrem, nIrm, nIam, nIam',  nI_add, pk_mul, nIsub, nIrem, nIdiv, nIand1, nIand3, nIand7, nIand31, nIshr, nIle, nIlt, nIeq, nIc, vpI, nIm1, m1nI, m1lt, nIlm, m1le, nIlem, nIneg, u2_ss, u2_nn, u2_kk, nIm1n, m1nIn, m1ltn, nIlmn, m1len, nIlemn, e11, e38] at c1 c2 c3) <;> (first | omega | exact absurd rfl c1 | exact absurd trivial c1 | exact absurd rfl c2 | exact absurd trivial c2 | exact absurd rfl c3 | exact absurd trivial c3)
        · (try simp (disch := omega) only [nlit, natrem, nIrm, nIam, nIam',  nI_add, pk_mul, nIsub, nIrem, nIdiv, nIand1, nIand3, nIand7, nIand31, nIshr, nIle, nIlt, nIeq, nIc, vpI, nIm1, m1nI, m1lt, nIlm, m1le, nIlem, nIneg, u2_ss, u2_nn, u2_kk, nIm1n, m1nIn, m1ltn, nIlmn, m1len, nIlemn, e11, e38] at c1 c2 c3) <;> (first | omega | exact absurd rfl c1 | exact absurd trivial c1 | exact absurd rfl c2 | exact absurd trivial c2 | exact absurd rfl c3 | exact absurd trivial c3)
      · have e38 : I 37 g = nI (sn g - 1) := by rw [e37, snV_1 h0]
        refine RX6_allThere_2 hc hR4 (show S0[37]? = some (Sum.inr (.int, 6)) from rfl) hR5 ⟨fun c1 => ?_, fun c1 => ⟨?_, ⟨fun c2 => ?_, fun c2 => ⟨?_, ⟨?_, ⟨fun c3 => ?_, fun c3 => ?_⟩⟩⟩⟩⟩⟩
        · (try simp (disch := omega) only [nlit, natrem, nIrm, nIam, nIam',  nI_add, pk_mul, nIsub, nIrem, nIdiv, nIand1, nIand3, nIand7, nIand31, nIshr, nIle, nIlt, nIeq, nIc, vpI, nIm1, m1nI, m1lt, nIlm, m1le, nIlem, nIneg, u2_ss, u2_nn, u2_kk, nIm1n, m1nIn, m1ltn, nIlmn, m1len, nIlemn, e11, e38, h3, ep, Nat.reduceMod, Nat.reducePow] at c1); (try simp (disch := omega) only [nlit, natrem, nIrm, nIam, nIam',  nI_add, pk_mul, nIsub, nIrem, nIdiv, nIand1, nIand3, nIand7, nIand31, nIshr, nIle, nIlt, nIeq, nIc, vpI, nIm1, m1nI, m1lt, nIlm, m1le, nIlem, nIneg, u2_ss, u2_nn, u2_kk, nIm1n, m1nIn, m1ltn, nIlmn, m1len, nIlemn, e11, e38, h3, ep, Nat.reduceMod, Nat.reducePow])
          omega
        · (try simp (disch := omega) only [nlit, natrem, nIrm, nIam, nIam',  nI_add, pk_mul, nIsub, nIrem, nIdiv, nIand1, nIand3, nIand7, nIand31, nIshr, nIle, nIlt, nIeq, nIc, vpI, nIm1, m1nI, m1lt, nIlm, m1le, nIlem, nIneg, u2_ss, u2_nn, u2_kk, nIm1n, m1nIn, m1ltn, nIlmn, m1len, nIlemn, e11, e38, h3, ep, Nat.reduceMod, Nat.reducePow] at c1) <;> (try simp (disch := omega) only [nlit, natrem, nIrm, nIam, nIam',  nI_add, pk_mul, nIsub, nIrem, nIdiv, nIand1, nIand3, nIand7, nIand31, nIshr, nIle, nIlt, nIeq, nIc, vpI, nIm1, m1nI, m1lt, nIlm, m1le, nIlem, nIneg, u2_ss, u2_nn, u2_kk, nIm1n, m1nIn, m1ltn, nIlmn, m1len, nIlemn, e11, e38, h3, ep, Nat.reduceMod, Nat.reducePow]) <;> (first | omega | trivial)
        · (try simp (disch := omega) only [nlit, natrem, nIrm, nIam, nIam',  nI_add, pk_mul, nIsub, nIrem, nIdiv, nIand1, nIand3, nIand7, nIand31, nIshr, nIle, nIlt, nIeq, nIc, vpI, nIm1, m1nI, m1lt, nIlm, m1le, nIlem, nIneg, u2_ss, u2_nn, u2_kk, nIm1n, m1nIn, m1ltn, nIlmn, m1len, nIlemn, e11, e38, h3, ep, Nat.reduceMod, Nat.reducePow] at c1 c2) <;> (first | omega | exact absurd rfl c1 | exact absurd trivial c1 | exact absurd rfl c2 | exact absurd trivial c2)
        · (try simp (disch := omega) only [nlit, natrem, nIrm, nIam, nIam',  nI_add, pk_mul, nIsub, nIrem, nIdiv, nIand1, nIand3, nIand7, nIand31, nIshr, nIle, nIlt, nIeq, nIc, vpI, nIm1, m1nI, m1lt, nIlm, m1le, nIlem, nIneg, u2_ss, u2_nn, u2_kk, nIm1n, m1nIn, m1ltn, nIlmn, m1len, nIlemn, e11, e38, h3, ep, Nat.reduceMod, Nat.reducePow] at c1 c2) <;> (try simp (disch := omega) only [nlit, natrem, nIrm, nIam, nIam',  nI_add, pk_mul, nIsub, nIrem, nIdiv, nIand1, nIand3, nIand7, nIand31, nIshr, nIle, nIlt, nIeq, nIc, vpI, nIm1, m1nI, m1lt, nIlm, m1le, nIlem, nIneg, u2_ss, u2_nn, u2_kk, nIm1n, m1nIn, m1ltn, nIlmn, m1len, nIlemn, e11, e38, h3, ep, Nat.reduceMod, Nat.reducePow]) <;> (first | omega | trivial)
        · (try simp (disch := omega) only [nlit, natrem, nIrm, nIam, nIam',  nI_add, pk_mul, nIsub, nIrem, nIdiv, nIand1, nIand3, nIand7, nIand31, nIshr, nIle, nIlt, nIeq, nIc, vpI, nIm1, m1nI, m1lt, nIlm, m1le, nIlem, nIneg, u2_ss, u2_nn, u2_kk, nIm1n, m1nIn, m1ltn, nIlmn, m1len, nIlemn, e11, e38, h3, ep, Nat.reduceMod, Nat.reducePow] at c1 c2) <;> (try simp (disch := omega) only [nlit, natrem, nIrm, nIam, nIam',  nI_add, pk_mul, nIsub, nIrem, nIdiv, nIand1, nIand3, nIand7, nIand31, nIshr, nIle, nIlt, nIeq, nIc, vpI, nIm1, m1nI, m1lt, nIlm, m1le, nIlem, nIneg, u2_ss, u2_nn, u2_kk, nIm1n, m1nIn, m1ltn, nIlmn, m1len, nIlemn, e11, e38, h3, ep, Nat.reduceMod, Nat.reducePow]) <;> (first | omega | trivial)
        · (try simp (disch := omega) only [nlit, natrem, nIrm, nIam, nIam',  nI_add, pk_mul, nIsub, nIrem, nIdiv, nIand1, nIand3, nIand7, nIand31, nIshr, nIle, nIlt, nIeq, nIc, vpI, nIm1, m1nI, m1lt, nIlm, m1le, nIlem, nIneg, u2_ss, u2_nn, u2_kk, nIm1n, m1nIn, m1ltn, nIlmn, m1len, nIlemn, e11, e38, h3, ep, Nat.reduceMod, Nat.reducePow] at c1 c2 c3); (try simp (disch := omega) only [nlit, natrem, nIrm, nIam, nIam',  nI_add, pk_mul, nIsub, nIrem, nIdiv, nIand1, nIand3, nIand7, nIand31, nIshr, nIle, nIlt, nIeq, nIc, vpI, nIm1, m1nI, m1lt, nIlm, m1le, nIlem, nIneg, u2_ss, u2_nn, u2_kk, nIm1n, m1nIn, m1ltn, nIlmn, m1len, nIlemn, e11, e38, h3, ep, Nat.reduceMod, Nat.reducePow])
          refine ih (g + 1) (by omega) (by omega) (fun x hxx => ?_)
          by_cases e : x = g
          · rw [e]; exact Or.inr (by omega)
          · exact hx x (by omega)
        · (try simp (disch := omega) only [nlit, natrem, nIrm, nIam, nIam',  nI_add, pk_mul, nIsub, nIrem, nIdiv, nIand1, nIand3, nIand7, nIand31, nIshr, nIle, nIlt, nIeq, nIc, vpI, nIm1, m1nI, m1lt, nIlm, m1le, nIlem, nIneg, u2_ss, u2_nn, u2_kk, nIm1n, m1nIn, m1ltn, nIlmn, m1len, nIlemn, e11, e38, h3, ep, Nat.reduceMod, Nat.reducePow] at c1 c2 c3); (try simp (disch := omega) only [nlit, natrem, nIrm, nIam, nIam',  nI_add, pk_mul, nIsub, nIrem, nIdiv, nIand1, nIand3, nIand7, nIand31, nIshr, nIle, nIlt, nIeq, nIc, vpI, nIm1, m1nI, m1lt, nIlm, m1le, nIlem, nIneg, u2_ss, u2_nn, u2_kk, nIm1n, m1nIn, m1ltn, nIlmn, m1len, nIlemn, e11, e38, h3, ep, Nat.reduceMod, Nat.reducePow])
          refine hf (fun w => ?_)
          rcases w g (by omega) with w | w
          · exact h0 w
          · omega
  exact EX6_allThere (hlp _ 0 rfl (Nat.zero_le _) (fun x hx => absurd hx (Nat.not_lt_zero _)))
theorem tryFrom_ok {a : Ce} {lc : List (Nat × Nat)} {lf : Nat → Nat} {gl : Nat → List Nat} {sn : Nat → Nat} {c n : Nat} {wv : Int32} {R : Rfs} {L : Lngs} {sx : Sx} (hc : isCel c) (hW : WFc a) (hE : WFe a lf gl sn) (hR4 : R 58 4 = some c) (hR5 : R 58 5 = some 37) {I0 : Ints} (hC : CelC a lc c I0 L) (h37 : ∀ g, g < 6 → I0 37 g = snV (sn g)) (hn : n ≤ 5) :
    ∀ (rem : Nat) (d k dg : Nat) (s : Ss) (I : Ints) (q : Q3), k + rem = n → dg < 5 ^ k → s.1 + 5 ^ rem ≤ 4000 → s.2 = none → RdC a c n wv s I → PzC a k (dgs k dg) I → Kp (fun k => k ≠ 58 ∧ k ≠ 59) I0 I →
      (∀ J, RdC a c n wv (scR (fun m => hitL a sn (dgs n m)) wv (dg * 5 ^ rem) s (5 ^ rem)) J → (∀ i, i < k * 6 + 6 → J 59 i = I 59 i) → Kp (fun k => k ≠ 58 ∧ k ≠ 59) I0 J → q none J L R) →
      E0 mX6_tryFrom (d + rem + 4) sx [.ref 58, .int (nI k), .int (nI dg)] I L R q := by
  have w4 := hW.2.2.2.2.1
  have w0 := hW.1.2
  have w1 := hW.2.1.2
  have hc' : c = 2 ∨ c = 14 := hc
  intro rem
  induction rem with
  | zero =>
    intro d k dg s I q hk hdg hs hs2 hRd hP hF h
    have hkn : k = n := by omega
    subst hkn
    obtain ⟨r0, r1, r2, r3⟩ := hRd
    have hCI : CelC a lc c I L := hC.fr (fun x h1 h2 => hF x ⟨by omega, by omega⟩) rfl
    have h37I : ∀ g, g < 6 → I 37 g = snV (sn g) := fun g hg => by rw [hF 37 (by decide)]; exact h37 g hg
    have hsc : scR (fun m => hitL a sn (dgs k m)) wv (dg * 5 ^ 0) s (5 ^ 0) = if hitL a sn (dgs k dg) then (s.1 + 1, if nI s.1 = wv then some dg else none) else s := by
      show sc1 _ wv s (dg * 1 + 0) = _
      unfold sc1
      rw [hs2]
      simp only [Nat.mul_one, Nat.add_zero]
    rw [hsc] at h
    rw [hs2] at r1
    have r1 : I 58 1 = -nI 1 := r1
    simp only [Nat.pow_zero] at hs
    refine EX6_tryFrom  ⟨fun c1 => ?_, fun c1 => ?_⟩
    · (try simp (disch := omega) only [nlit, natrem, nIrm, nIam, nIam',  nI_add, pk_mul, nIsub, nIrem, nIdiv, nIand1, nIand3, nIand7, nIand31, nIshr, nIle, nIlt, nIeq, nIc, vpI, nIm1, m1nI, m1lt, nIlm, m1le, nIlem, nIneg, u2_ss, u2_nn, u2_kk, nIm1n, m1nIn, m1ltn, nIlmn, m1len, nIlemn, r3] at c1); (try simp (disch := omega) only [nlit, natrem, nIrm, nIam, nIam',  nI_add, pk_mul, nIsub, nIrem, nIdiv, nIand1, nIand3, nIand7, nIand31, nIshr, nIle, nIlt, nIeq, nIc, vpI, nIm1, m1nI, m1lt, nIlm, m1le, nIlem, nIneg, u2_ss, u2_nn, u2_kk, nIm1n, m1nIn, m1ltn, nIlmn, m1len, nIlemn, r3])
      omega
    · (try simp (disch := omega) only [nlit, natrem, nIrm, nIam, nIam',  nI_add, pk_mul, nIsub, nIrem, nIdiv, nIand1, nIand3, nIand7, nIand31, nIshr, nIle, nIlt, nIeq, nIc, vpI, nIm1, m1nI, m1lt, nIlm, m1le, nIlem, nIneg, u2_ss, u2_nn, u2_kk, nIm1n, m1nIn, m1ltn, nIlmn, m1len, nIlemn, r3] at c1); (try simp (disch := omega) only [nlit, natrem, nIrm, nIam, nIam',  nI_add, pk_mul, nIsub, nIrem, nIdiv, nIand1, nIand3, nIand7, nIand31, nIshr, nIle, nIlt, nIeq, nIc, vpI, nIm1, m1nI, m1lt, nIlm, m1le, nIlem, nIneg, u2_ss, u2_nn, u2_kk, nIm1n, m1nIn, m1ltn, nIlmn, m1len, nIlemn, r3])
      refine allThere_ok (lf := lf) (gl := gl) hc hW hE hR4 hR5 hCI h37I r3 (by omega) hP (fun ht => ?_) (fun hf => ?_)
      · rw [if_pos ht] at h
        refine RX6_tryFrom_12 ⟨fun w => absurd w (by decide), fun _ => ⟨fun cc => ?_, fun cc => ?_⟩⟩
        · rw [r0, r2] at cc
          rw [if_neg cc] at h
          refine h _ ⟨?_, ?_, ?_, ?_⟩ (fun i hi => by rw [u2_nn _ _ _ _ (by decide), u2_nn _ _ _ _ (by decide)]) ((hF.up (by simp)).up (by simp))
          · rw [u2_ss, r0]; exact nI_add _ 1
          · rw [u2_kk _ _ _ _ (by decide), u2_ss, r1]; rfl
          · rw [u2_kk _ _ _ _ (by decide), u2_kk _ _ _ _ (by decide)]; exact r2
          · rw [u2_kk _ _ _ _ (by decide), u2_kk _ _ _ _ (by decide)]; exact r3
        · rw [r0, r2] at cc
          rw [if_pos cc] at h
          refine h _ ⟨?_, ?_, ?_, ?_⟩ (fun i hi => by rw [u2_nn _ _ _ _ (by decide), u2_nn _ _ _ _ (by decide)]) ((hF.up (by simp)).up (by simp))
          · rw [u2_ss, r0]; exact nI_add _ 1
          · rw [u2_kk _ _ _ _ (by decide), u2_ss]; rfl
          · rw [u2_kk _ _ _ _ (by decide), u2_kk _ _ _ _ (by decide)]; exact r2
          · rw [u2_kk _ _ _ _ (by decide), u2_kk _ _ _ _ (by decide)]; exact r3
      · rw [if_neg hf] at h
        exact RX6_tryFrom_12 ⟨fun _ => h I ⟨r0, by rw [hs2]; exact r1, r2, r3⟩ (fun i _ => rfl) hF, fun w => absurd rfl w⟩
  | succ rem ih =>
    intro d k dg s I q hk hdg hs hs2 hRd hP hF h
    rw [show d + (rem + 1) + 4 = (d + rem + 4) + 1 by omega]
    have hp5 : 5 ^ (rem + 1) = 5 * 5 ^ rem := by rw [Nat.pow_succ, Nat.mul_comm]
    have hd5 : dg < 3125 := Nat.lt_of_lt_of_le hdg (Nat.le_trans (Nat.pow_le_pow_right (by decide) (show k ≤ 5 by omega)) (by decide))
    have hpk : 5 ^ (k + 1) = 5 * 5 ^ k := by rw [Nat.pow_succ, Nat.mul_comm]
    have hlp : ∀ m st : Nat, ∀ J, m = 5 - st → st ≤ 5 → RdC a c n wv (scR (fun m => hitL a sn (dgs n m)) wv (dg * 5 ^ (rem + 1)) s (st * 5 ^ rem)) J → (∀ i, i < k * 6 + 6 → J 59 i = I 59 i) → Kp (fun k => k ≠ 58 ∧ k ≠ 59) I0 J → Y mX6_tryFrom ((d + rem + 4) + 1) sx 51 [(0, .ref 58), (1, .int (nI k)), (2, .int (nI dg)), (3, .int (nI st))] [] J L R q := by
      intro m
      induction m with
      | zero =>
        intro st J hm hst hR h59 hFJ
        have e : st = 5 := by omega
        subst e
        rw [← hp5] at hR
        refine RX6_tryFrom_51  ⟨fun c1 => ?_, fun c1 => ⟨fun c2 => ?_, fun c2 => ?_⟩⟩
        · (try simp (disch := omega) only [nlit, natrem, nIrm, nIam, nIam',  nI_add, pk_mul, nIsub, nIrem, nIdiv, nIand1, nIand3, nIand7, nIand31, nIshr, nIle, nIlt, nIeq, nIc, vpI, nIm1, m1nI, m1lt, nIlm, m1le, nIlem, nIneg, u2_ss, u2_nn, u2_kk, nIm1n, m1nIn, m1ltn, nIlmn, m1len, nIlemn] at c1); (try simp (disch := omega) only [nlit, natrem, nIrm, nIam, nIam',  nI_add, pk_mul, nIsub, nIrem, nIdiv, nIand1, nIand3, nIand7, nIand31, nIshr, nIle, nIlt, nIeq, nIc, vpI, nIm1, m1nI, m1lt, nIlm, m1le, nIlem, nIneg, u2_ss, u2_nn, u2_kk, nIm1n, m1nIn, m1ltn, nIlmn, m1len, nIlemn])
          exact h J hR h59 hFJ
        · (try simp (disch := omega) only [nlit, natrem, nIrm, nIam, nIam',  nI_add, pk_mul, nIsub, nIrem, nIdiv, nIand1, nIand3, nIand7, nIand31, nIshr, nIle, nIlt, nIeq, nIc, vpI, nIm1, m1nI, m1lt, nIlm, m1le, nIlem, nIneg, u2_ss, u2_nn, u2_kk, nIm1n, m1nIn, m1ltn, nIlmn, m1len, nIlemn] at c1 c2) <;> (first | omega | exact absurd rfl c1 | exact absurd trivial c1 | exact absurd rfl c2 | exact absurd trivial c2)
        · (try simp (disch := omega) only [nlit, natrem, nIrm, nIam, nIam',  nI_add, pk_mul, nIsub, nIrem, nIdiv, nIand1, nIand3, nIand7, nIand31, nIshr, nIle, nIlt, nIeq, nIc, vpI, nIm1, m1nI, m1lt, nIlm, m1le, nIlem, nIneg, u2_ss, u2_nn, u2_kk, nIm1n, m1nIn, m1ltn, nIlmn, m1len, nIlemn] at c1 c2) <;> (first | omega | exact absurd rfl c1 | exact absurd trivial c1 | exact absurd rfl c2 | exact absurd trivial c2)
      | succ m ihm =>
        intro st J hm hst hR h59 hFJ
        have hcnt := scR_le (p := fun m => hitL a sn (dgs n m)) (wv := wv) (lo := dg * 5 ^ (rem + 1)) (s := s) (st * 5 ^ rem)
        have hmono : (st + 1) * 5 ^ rem ≤ 5 * 5 ^ rem := Nat.mul_le_mul_right _ (by omega)
        have hsplit : (st + 1) * 5 ^ rem = st * 5 ^ rem + 5 ^ rem := Nat.succ_mul _ _
        have hnext : scR (fun m => hitL a sn (dgs n m)) wv (dg * 5 ^ (rem + 1)) s ((st + 1) * 5 ^ rem) = scR (fun m => hitL a sn (dgs n m)) wv ((dg * 5 + st) * 5 ^ rem) (scR (fun m => hitL a sn (dgs n m)) wv (dg * 5 ^ (rem + 1)) s (st * 5 ^ rem)) (5 ^ rem) := by
          rw [hsplit, scR_add, show dg * 5 ^ (rem + 1) + st * 5 ^ rem = (dg * 5 + st) * 5 ^ rem by rw [hp5, Nat.add_mul, Nat.mul_assoc]]
        have hrest := scR_add (p := fun m => hitL a sn (dgs n m)) (wv := wv) (lo := dg * 5 ^ (rem + 1)) (s := s) (st * 5 ^ rem) (5 ^ (rem + 1) - st * 5 ^ rem)
        rw [show st * 5 ^ rem + (5 ^ (rem + 1) - st * 5 ^ rem) = 5 ^ (rem + 1) by omega] at hrest
        have hwr := scR_wr (p := fun m => hitL a sn (dgs n m)) (wv := wv) (lo := dg * 5 ^ (rem + 1)) (s := s) hs2 (st * 5 ^ rem)
        have hbig : dg * 5 ^ (rem + 1) + st * 5 ^ rem ≤ 3125 := by
          have h1 : (dg + 1) * 5 ^ (rem + 1) ≤ 5 ^ k * 5 ^ (rem + 1) := Nat.mul_le_mul_right _ hdg
          rw [← Nat.pow_add, hk, Nat.succ_mul] at h1
          have h2 : 5 ^ n ≤ 5 ^ 5 := Nat.pow_le_pow_right (by decide) hn
          omega
        generalize scR (fun m => hitL a sn (dgs n m)) wv (dg * 5 ^ (rem + 1)) s (st * 5 ^ rem) = t at *
        obtain ⟨r0, r1, r2, r3⟩ := hR
        match ht : t.2 with
        | some w =>
          rw [ht] at r1
          have hdone : scR (fun m => hitL a sn (dgs n m)) wv (dg * 5 ^ (rem + 1)) s (5 ^ (rem + 1)) = t := by rw [hrest]; exact scR_done (by rw [ht]; simp) _
          rw [hdone] at h
          have hq := h J ⟨r0, by rw [ht]; exact r1, r2, r3⟩ h59 hFJ
          refine RX6_tryFrom_51 ⟨fun _ => hq, fun _ => ⟨fun _ => hq, fun cc => ?_⟩⟩
          exfalso
          rw [r1] at cc
          exact m1_ne (Nat.lt_of_lt_of_le (hwr w ht) (by omega)) cc
        | none =>
          rw [ht] at r1
          have r1' : J 58 1 = -nI 1 := r1
          have hin : ∀ m g : Nat, ∀ M, m = (a 4).val - g → g ≤ (a 4).val → (∀ i, i < k * 6 + 6 → M 59 i = I 59 i) → (∀ x, x < g → M 59 ((k + 1) * 6 + x) = nI (wk a (clP a) (gK a x).val (dgs (k + 1) (dg * 5 + st)) (hom a x))) → RdC a c n wv t M → Kp (fun k => k ≠ 58 ∧ k ≠ 59) I0 M → Y mX6_tryFrom ((d + rem + 4) + 1) sx 67 [(0, .ref 58), (1, .int (nI k)), (2, .int (nI dg)), (3, .int (nI st)), (4, .int (nI g))] [] M L R q := by
            intro m'
            induction m' with
            | zero =>
              intro g M hm' hg hM1 hM2 hMR hMF
              have eg : g = (a 4).val := by omega
              have hCM : CelC a lc c M L := hC.fr (fun x h1 h2 => hMF x ⟨by omega, by omega⟩) rfl
              have e11 := hCM.1.2.2.2.2.2
              refine RX6_tryFrom_67 hc hR4 ⟨fun c1 => ?_, fun c1 => ⟨?_, ⟨?_, ?_⟩⟩⟩
              · (try simp (disch := omega) only [nlit, natrem, nIrm, nIam, nIam',  nI_add, pk_mul, nIsub, nIrem, nIdiv, nIand1, nIand3, nIand7, nIand31, nIshr, nIle, nIlt, nIeq, nIc, vpI, nIm1, m1nI, m1lt, nIlm, m1le, nIlem, nIneg, u2_ss, u2_nn, u2_kk, nIm1n, m1nIn, m1ltn, nIlmn, m1len, nIlemn, e11] at c1); (try simp (disch := omega) only [nlit, natrem, nIrm, nIam, nIam',  nI_add, pk_mul, nIsub, nIrem, nIdiv, nIand1, nIand3, nIand7, nIand31, nIshr, nIle, nIlt, nIeq, nIc, vpI, nIm1, m1nI, m1lt, nIlm, m1le, nIlem, nIneg, u2_ss, u2_nn, u2_kk, nIm1n, m1nIn, m1ltn, nIlmn, m1len, nIlemn, e11])
                refine ih d (k + 1) (dg * 5 + st) t M _ (by omega) (by omega) (by omega) ht hMR (fun x hx => hM2 x (by omega)) hMF (fun N hN1 hN2 hN3 => RX6_tryFrom_153 ?_)
                rw [show nI st + 1 = nI (st + 1) from nI_add st 1]
                refine ihm (st + 1) N (by omega) (by omega) (by rw [hnext]; exact hN1) (fun i hi => (hN2 i (by omega)).trans (hM1 i hi)) hN3
              · (try simp (disch := omega) only [nlit, natrem, nIrm, nIam, nIam',  nI_add, pk_mul, nIsub, nIrem, nIdiv, nIand1, nIand3, nIand7, nIand31, nIshr, nIle, nIlt, nIeq, nIc, vpI, nIm1, m1nI, m1lt, nIlm, m1le, nIlem, nIneg, u2_ss, u2_nn, u2_kk, nIm1n, m1nIn, m1ltn, nIlmn, m1len, nIlemn, e11] at c1) <;> (try simp (disch := omega) only [nlit, natrem, nIrm, nIam, nIam',  nI_add, pk_mul, nIsub, nIrem, nIdiv, nIand1, nIand3, nIand7, nIand31, nIshr, nIle, nIlt, nIeq, nIc, vpI, nIm1, m1nI, m1lt, nIlm, m1le, nIlem, nIneg, u2_ss, u2_nn, u2_kk, nIm1n, m1nIn, m1ltn, nIlmn, m1len, nIlemn, e11]) <;> (first | omega | trivial)
              · (try simp (disch := omega) only [nlit, natrem, nIrm, nIam, nIam',  nI_add, pk_mul, nIsub, nIrem, nIdiv, nIand1, nIand3, nIand7, nIand31, nIshr, nIle, nIlt, nIeq, nIc, vpI, nIm1, m1nI, m1lt, nIlm, m1le, nIlem, nIneg, u2_ss, u2_nn, u2_kk, nIm1n, m1nIn, m1ltn, nIlmn, m1len, nIlemn, e11] at c1) <;> (try simp (disch := omega) only [nlit, natrem, nIrm, nIam, nIam',  nI_add, pk_mul, nIsub, nIrem, nIdiv, nIand1, nIand3, nIand7, nIand31, nIshr, nIle, nIlt, nIeq, nIc, vpI, nIm1, m1nI, m1lt, nIlm, m1le, nIlem, nIneg, u2_ss, u2_nn, u2_kk, nIm1n, m1nIn, m1ltn, nIlmn, m1len, nIlemn, e11]) <;> (first | omega | trivial)
              · (try simp (disch := omega) only [nlit, natrem, nIrm, nIam, nIam',  nI_add, pk_mul, nIsub, nIrem, nIdiv, nIand1, nIand3, nIand7, nIand31, nIshr, nIle, nIlt, nIeq, nIc, vpI, nIm1, m1nI, m1lt, nIlm, m1le, nIlem, nIneg, u2_ss, u2_nn, u2_kk, nIm1n, m1nIn, m1ltn, nIlmn, m1len, nIlemn, e11] at c1) <;> (first | omega | exact absurd rfl c1 | exact absurd trivial c1)
            | succ m' ihg =>
              intro g M hm' hg hM1 hM2 hMR hMF
              have hCM : CelC a lc c M L := hC.fr (fun x h1 h2 => hMF x ⟨by omega, by omega⟩) rfl
              have e11 := hCM.1.2.2.2.2.2
              have e59 : M 59 (k * 6 + g) = nI (wk a (clP a) (gK a g).val (dgs k dg) (hom a g)) := by rw [hM1 _ (by omega)]; exact hP g (by omega)
              have eK := (hCM.2.2.2.2.1 g (by omega)).1
              have hk4 := (hW.2.2.2.2.2.2.2.2.2.1 g (by omega)).1
              have hlt := wk_lt (cl := clP a) (kd := (gK a g).val) w0 w1 (dgs k dg) _ (hom_lt hW (g := g) (by omega))
              refine RX6_tryFrom_67 hc hR4 ⟨fun c1 => ?_, fun c1 => ⟨?_, ⟨?_, ?_⟩⟩⟩
              · (try simp (disch := omega) only [nlit, natrem, nIrm, nIam, nIam',  nI_add, pk_mul, nIsub, nIrem, nIdiv, nIand1, nIand3, nIand7, nIand31, nIshr, nIle, nIlt, nIeq, nIc, vpI, nIm1, m1nI, m1lt, nIlm, m1le, nIlem, nIneg, u2_ss, u2_nn, u2_kk, nIm1n, m1nIn, m1ltn, nIlmn, m1len, nIlemn, e11, e59, eK] at c1); (try simp (disch := omega) only [nlit, natrem, nIrm, nIam, nIam',  nI_add, pk_mul, nIsub, nIrem, nIdiv, nIand1, nIand3, nIand7, nIand31, nIshr, nIle, nIlt, nIeq, nIc, vpI, nIm1, m1nI, m1lt, nIlm, m1le, nIlem, nIneg, u2_ss, u2_nn, u2_kk, nIm1n, m1nIn, m1ltn, nIlmn, m1len, nIlemn, e11, e59, eK])
                omega
              · (try simp (disch := omega) only [nlit, natrem, nIrm, nIam, nIam',  nI_add, pk_mul, nIsub, nIrem, nIdiv, nIand1, nIand3, nIand7, nIand31, nIshr, nIle, nIlt, nIeq, nIc, vpI, nIm1, m1nI, m1lt, nIlm, m1le, nIlem, nIneg, u2_ss, u2_nn, u2_kk, nIm1n, m1nIn, m1ltn, nIlmn, m1len, nIlemn, e11, e59, eK] at c1) <;> (try simp (disch := omega) only [nlit, natrem, nIrm, nIam, nIam',  nI_add, pk_mul, nIsub, nIrem, nIdiv, nIand1, nIand3, nIand7, nIand31, nIshr, nIle, nIlt, nIeq, nIc, vpI, nIm1, m1nI, m1lt, nIlm, m1le, nIlem, nIneg, u2_ss, u2_nn, u2_kk, nIm1n, m1nIn, m1ltn, nIlmn, m1len, nIlemn, e11, e59, eK]) <;> (first | omega | trivial)
              · (try simp (disch := omega) only [nlit, natrem, nIrm, nIam, nIam',  nI_add, pk_mul, nIsub, nIrem, nIdiv, nIand1, nIand3, nIand7, nIand31, nIshr, nIle, nIlt, nIeq, nIc, vpI, nIm1, m1nI, m1lt, nIlm, m1le, nIlem, nIneg, u2_ss, u2_nn, u2_kk, nIm1n, m1nIn, m1ltn, nIlmn, m1len, nIlemn, e11, e59, eK] at c1) <;> (try simp (disch := omega) only [nlit, natrem, nIrm, nIam, nIam',  nI_add, pk_mul, nIsub, nIrem, nIdiv, nIand1, nIand3, nIand7, nIand31, nIshr, nIle, nIlt, nIeq, nIc, vpI, nIm1, m1nI, m1lt, nIlm, m1le, nIlem, nIneg, u2_ss, u2_nn, u2_kk, nIm1n, m1nIn, m1ltn, nIlmn, m1len, nIlemn, e11, e59, eK]) <;> (first | omega | trivial)
              · (try simp (disch := omega) only [nlit, natrem, nIrm, nIam, nIam',  nI_add, pk_mul, nIsub, nIrem, nIdiv, nIand1, nIand3, nIand7, nIand31, nIshr, nIle, nIlt, nIeq, nIc, vpI, nIm1, m1nI, m1lt, nIlm, m1le, nIlem, nIneg, u2_ss, u2_nn, u2_kk, nIm1n, m1nIn, m1ltn, nIlmn, m1len, nIlemn, e11, e59, eK] at c1); (try simp (disch := omega) only [nlit, natrem, nIrm, nIam, nIam',  nI_add, pk_mul, nIsub, nIrem, nIdiv, nIand1, nIand3, nIand7, nIand31, nIshr, nIle, nIlt, nIeq, nIc, vpI, nIm1, m1nI, m1lt, nIlm, m1le, nIlem, nIneg, u2_ss, u2_nn, u2_kk, nIm1n, m1nIn, m1ltn, nIlmn, m1len, nIlemn, e11, e59, eK])
                refine after_ok (cl := clP a) hc hCM.1.1 hCM.1.2.1 w0 w1 hCM.2.1 hlt (by omega) hk4 ?_
                refine RX6_tryFrom_134  ⟨?_, ?_⟩
                · (try simp (disch := omega) only [nlit, natrem, nIrm, nIam, nIam',  nI_add, pk_mul, nIsub, nIrem, nIdiv, nIand1, nIand3, nIand7, nIand31, nIshr, nIle, nIlt, nIeq, nIc, vpI, nIm1, m1nI, m1lt, nIlm, m1le, nIlem, nIneg, u2_ss, u2_nn, u2_kk, nIm1n, m1nIn, m1ltn, nIlmn, m1len, nIlemn]) <;> (first | omega | trivial)
                · (try simp (disch := omega) only [nlit, natrem, nIrm, nIam, nIam',  nI_add, pk_mul, nIsub, nIrem, nIdiv, nIand1, nIand3, nIand7, nIand31, nIshr, nIle, nIlt, nIeq, nIc, vpI, nIm1, m1nI, m1lt, nIlm, m1le, nIlem, nIneg, u2_ss, u2_nn, u2_kk, nIm1n, m1nIn, m1ltn, nIlmn, m1len, nIlemn])
                  have ew : wk a (clP a) (gK a g).val (dgs (k + 1) (dg * 5 + st)) (hom a g) = aft a (clP a) (gK a g).val (wk a (clP a) (gK a g).val (dgs k dg) (hom a g)) st := by
                    rw [dgs_s (by omega)]
                    unfold wk
                    rw [List.foldl_append]
                    rfl
                  refine ihg (g + 1) _ (by omega) (by omega) (fun i hi => ?_) (fun x hx => ?_) ⟨?_, ?_, ?_, ?_⟩ (hMF.up (by simp))
                  · rw [u2_kk _ _ _ _ (by omega)]; exact hM1 i hi
                  · by_cases e : x = g
                    · rw [e, ew, show (k + 1) * 6 + g = k * 6 + 6 + g by omega, u2_ss]
                    · rw [u2_kk _ _ _ _ (by omega)]; exact hM2 x (by omega)
                  · rw [u2_nn _ _ _ _ (by decide)]; exact hMR.1
                  · rw [u2_nn _ _ _ _ (by decide)]; exact hMR.2.1
                  · rw [u2_nn _ _ _ _ (by decide)]; exact hMR.2.2.1
                  · rw [u2_nn _ _ _ _ (by decide)]; exact hMR.2.2.2
          refine RX6_tryFrom_51  ⟨fun c1 => ?_, fun c1 => ⟨fun c2 => ?_, fun c2 => ?_⟩⟩
          · (try simp (disch := omega) only [nlit, natrem, nIrm, nIam, nIam',  nI_add, pk_mul, nIsub, nIrem, nIdiv, nIand1, nIand3, nIand7, nIand31, nIshr, nIle, nIlt, nIeq, nIc, vpI, nIm1, m1nI, m1lt, nIlm, m1le, nIlem, nIneg, u2_ss, u2_nn, u2_kk, nIm1n, m1nIn, m1ltn, nIlmn, m1len, nIlemn, r1'] at c1); (try simp (disch := omega) only [nlit, natrem, nIrm, nIam, nIam',  nI_add, pk_mul, nIsub, nIrem, nIdiv, nIand1, nIand3, nIand7, nIand31, nIshr, nIle, nIlt, nIeq, nIc, vpI, nIm1, m1nI, m1lt, nIlm, m1le, nIlem, nIneg, u2_ss, u2_nn, u2_kk, nIm1n, m1nIn, m1ltn, nIlmn, m1len, nIlemn, r1'])
            omega
          · (try simp (disch := omega) only [nlit, natrem, nIrm, nIam, nIam',  nI_add, pk_mul, nIsub, nIrem, nIdiv, nIand1, nIand3, nIand7, nIand31, nIshr, nIle, nIlt, nIeq, nIc, vpI, nIm1, m1nI, m1lt, nIlm, m1le, nIlem, nIneg, u2_ss, u2_nn, u2_kk, nIm1n, m1nIn, m1ltn, nIlmn, m1len, nIlemn, r1'] at c1 c2) <;> (first | omega | exact absurd rfl c1 | exact absurd trivial c1 | exact absurd rfl c2 | exact absurd trivial c2)
          · (try simp (disch := omega) only [nlit, natrem, nIrm, nIam, nIam',  nI_add, pk_mul, nIsub, nIrem, nIdiv, nIand1, nIand3, nIand7, nIand31, nIshr, nIle, nIlt, nIeq, nIc, vpI, nIm1, m1nI, m1lt, nIlm, m1le, nIlem, nIneg, u2_ss, u2_nn, u2_kk, nIm1n, m1nIn, m1ltn, nIlmn, m1len, nIlemn, r1'] at c1 c2); (try simp (disch := omega) only [nlit, natrem, nIrm, nIam, nIam',  nI_add, pk_mul, nIsub, nIrem, nIdiv, nIand1, nIand3, nIand7, nIand31, nIshr, nIle, nIlt, nIeq, nIc, vpI, nIm1, m1nI, m1lt, nIlm, m1le, nIlem, nIneg, u2_ss, u2_nn, u2_kk, nIm1n, m1nIn, m1ltn, nIlmn, m1len, nIlemn, r1'])
            exact hin _ 0 J rfl (Nat.zero_le _) h59 (fun x hx => absurd hx (Nat.not_lt_zero _)) ⟨r0, by rw [ht]; exact r1, r2, r3⟩ hFJ
    obtain ⟨r0, r1, r2, r3⟩ := hRd
    refine EX6_tryFrom  ⟨fun c1 => ?_, fun c1 => ?_⟩
    · (try simp (disch := omega) only [nlit, natrem, nIrm, nIam, nIam',  nI_add, pk_mul, nIsub, nIrem, nIdiv, nIand1, nIand3, nIand7, nIand31, nIshr, nIle, nIlt, nIeq, nIc, vpI, nIm1, m1nI, m1lt, nIlm, m1le, nIlem, nIneg, u2_ss, u2_nn, u2_kk, nIm1n, m1nIn, m1ltn, nIlmn, m1len, nIlemn, r3] at c1); (try simp (disch := omega) only [nlit, natrem, nIrm, nIam, nIam',  nI_add, pk_mul, nIsub, nIrem, nIdiv, nIand1, nIand3, nIand7, nIand31, nIshr, nIle, nIlt, nIeq, nIc, vpI, nIm1, m1nI, m1lt, nIlm, m1le, nIlem, nIneg, u2_ss, u2_nn, u2_kk, nIm1n, m1nIn, m1ltn, nIlmn, m1len, nIlemn, r3])
      refine hlp _ 0 I rfl (by decide) ⟨?_, ?_, r2, r3⟩ (fun i _ => rfl) hF
      · rw [Nat.zero_mul]; exact r0
      · rw [Nat.zero_mul]; exact r1
    · (try simp (disch := omega) only [nlit, natrem, nIrm, nIam, nIam',  nI_add, pk_mul, nIsub, nIrem, nIdiv, nIand1, nIand3, nIand7, nIand31, nIshr, nIle, nIlt, nIeq, nIc, vpI, nIm1, m1nI, m1lt, nIlm, m1le, nIlem, nIneg, u2_ss, u2_nn, u2_kk, nIm1n, m1nIn, m1ltn, nIlmn, m1len, nIlemn, r3] at c1); (try simp (disch := omega) only [nlit, natrem, nIrm, nIam, nIam',  nI_add, pk_mul, nIsub, nIrem, nIdiv, nIand1, nIand3, nIand7, nIand31, nIshr, nIle, nIlt, nIeq, nIc, vpI, nIm1, m1nI, m1lt, nIlm, m1le, nIlem, nIneg, u2_ss, u2_nn, u2_kk, nIm1n, m1nIn, m1ltn, nIlmn, m1len, nIlemn, r3])
      omega
