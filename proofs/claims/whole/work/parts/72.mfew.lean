/-! fewest -/
def fwA (o : Option (List Nat)) (z : Int32) : Int32 := match o with
  | none => -1
  | some r => if z = -1 then nI r.length else if nI r.length ≤ z then -1 else nI (r.getD z.toNatClampNeg 0)
abbrev okF (a : Ce) (g x y z : Int32) : Prop := inR g (a 4).val ∧ (inR x (a 0).val ∧ inR y (a 1).val) ∧ -1 ≤ z
def spFewest (a : Ce) (lc : List (Nat × Nat)) (lf : Nat → Nat) (g x y z : Int32) : Int32 := if okF a g x y z then fwA (fwS a lc lf g.toNatClampNeg (y.toNatClampNeg * 8 + x.toNatClampNeg)) z else -1
theorem c_fewest {d : Nat} {sx : Sx} {I : Ints} {L : Lngs} {R : Rfs} {q : Q3} {a : Ce} {lc : List (Nat × Nat)} {lf : Nat → Nat} {gl : Nat → List Nat} {sn : Nat → Nat} {c : Nat} (hC : CC a lc lf gl sn c I L R) (hRo : RoC a lc lf I) {g x y z : Int32} (h : ∀ J T, CRq a lc lf gl sn c I J L R T → RoC a lc lf J → q (some (.int (spFewest a lc lf g x y z))) J L T) : E0 mX11_fewest (d + 14) sx [.ref 0, .int g, .int x, .int y, .int z] I L R q := by
  have hCC := hC
  obtain ⟨hc, hR, hW, hE, hCl, hEv, hRt⟩ := hC
  have w0 := hW.1.2
  have w1 := hW.2.1.2
  have hno : ¬ okF a g x y z → q (some (.int (-1))) I L R := by
    intro hn
    have h := h I R ⟨hCC, Kp.rf, Kp.rf⟩ hRo
    unfold spFewest at h
    rw [if_neg hn] at h
    exact h
  refine EX11_fewest hc hR (isGuestC_ok hc hCl (fun n hn e => ?_) (fun hn => RX11_fewest_8 hc hR ⟨fun _ => hno (fun w => hn w.1), fun w => absurd rfl w⟩))
  refine RX11_fewest_8 hc hR ⟨fun w => absurd w (by decide), fun _ => ?_⟩
  refine isCellV hc hCl.1.1 hCl.1.2.1 (fun m k hm hk e1 e2 => ?_) (fun hnn => RX11_fewest_20 hc hR ⟨fun _ => hno (fun w => hnn w.2.1), fun w => absurd rfl w⟩)
  subst e; subst e1; subst e2
  refine RX11_fewest_20 hc hR ⟨fun w => absurd w (by decide), fun _ => ⟨fun c3 => ?_, fun c3 => hno (fun w => c3 w.2.2)⟩⟩
  have hok : okF a (nI n) (nI m) (nI k) z := ⟨(inR_nI (by omega) (by omega)).mpr hn, ⟨(inR_nI (by omega) (by omega)).mpr hm, (inR_nI (by omega) (by omega)).mpr hk⟩, c3⟩
  rw [show nI k * 8 + nI m = nI (k * 8 + m) by rw [show (8 : Int32) = nI 8 from rfl, pk_mul, nI_add]]
  refine shortest_ok hCC hn (by omega) hRo (fun J T hF hT hRJ hA => ?_)
  have h := h J T ⟨hCC.rwf hF hT, hF, hT⟩ hRJ
  unfold spFewest at h
  rw [if_pos hok, nIc (by omega), nIc (by omega), nIc (by omega)] at h
  match ho : fwS a lc lf n (k * 8 + m), hA, h with
  | none, hA, h =>
    refine RX11_fewest_56 ⟨fun c5 => ⟨fun c6 => h, fun c6 => absurd c3 c6⟩, fun c5 => h⟩
  | some r, hA, h =>
    obtain ⟨h6, hAr⟩ := hA r rfl
    unfold fwA at h
    simp only at h
    refine RX11_fewest_56 ⟨fun c5 => ⟨fun c6 => ?_, fun c6 => ⟨?_, ?_⟩⟩, fun c5 => ?_⟩
    · have c6 : nI r.length ≤ z := c6
      rw [if_neg c5, if_pos c6] at h
      exact h
    · have hz0 : ¬ z < 0 := fun hz => c5 (z_m1 hz c3)
      obtain ⟨h3, h4⟩ := i32_nn hz0
      have c6 : ¬ nI r.length ≤ z := c6
      rw [h4, nIle (by omega) h3] at c6
      rw [h4]
      simp (disch := omega) only [nlit, natrem, nIrm, nIam, nIam',  nI_add, pk_mul, nIsub, nIrem, nIdiv, nIand1, nIand3, nIand7, nIand31, nIshr, nIle, nIlt, nIeq, nIc, vpI, nIm1, m1nI, m1lt, nIlm, m1le, nIlem, nIneg, u2_ss, u2_nn, u2_kk, nIm1n, m1nIn, m1ltn, nIlmn, m1len, nIlemn]
      omega
    · have hz0 : ¬ z < 0 := fun hz => c5 (z_m1 hz c3)
      obtain ⟨h3, h4⟩ := i32_nn hz0
      have c6 : ¬ nI r.length ≤ z := c6
      have c6' := c6
      rw [h4, nIle (by omega) h3] at c6
      have hg9 := hAr z.toNatClampNeg (by omega)
      rw [Nat.zero_add] at hg9
      rw [if_neg c5, if_neg c6'] at h
      rw [hg9]
      exact h
    · rw [if_pos c5] at h
      exact h
/-! the model's -/
def cPr (ws : List Nat) (x : Nat) : Nat → Nat
  | 0 => 0
  | n + 1 => cPr ws x n + (if ws.getD n 0 = x then 1 else 0)
theorem cPr_le (ws : List Nat) (x : Nat) : ∀ n, cPr ws x n ≤ n
  | 0 => Nat.le_refl 0
  | n + 1 => by have := cPr_le ws x n; show cPr ws x n + (if _ then 1 else 0) ≤ _; split <;> omega
theorem cPr_take {ws : List Nat} {x : Nat} : ∀ n, n ≤ ws.length → cPr ws x n = (ws.take n).count x
  | 0, _ => by simp [cPr]
  | n + 1, h => by
    show cPr ws x n + (if _ then 1 else 0) = _
    rw [cPr_take n (by omega), List.take_succ_eq_append_getElem (by omega), List.count_append, List.getD_eq_getElem?_getD, List.getElem?_eq_getElem (by omega), Option.getD_some]
    congr 1
    by_cases e : ws[n] = x
    · rw [if_pos e, e, List.count_singleton_self]
    · rw [if_neg e, List.count_eq_zero.mpr (fun hm => e (List.mem_singleton.mp hm).symm)]
theorem cPr_all {ws : List Nat} {x : Nat} : cPr ws x ws.length = ws.count x := by rw [cPr_take _ (Nat.le_refl _), List.take_length]
def asM (lf : Nat → Nat) (ws : List Nat) : Prop := ∀ i, i < ws.length → ws.count (ws.getD i 0) ≤ lf (ws.getD i 0)
theorem asM_s {lf : Nat → Nat} {ws : List Nat} (h : asM lf ws) {w : Nat} : asM lf (ws ++ [w]) ↔ ws.count w < lf w := by
  have hcw : ∀ x, (ws ++ [w]).count x = ws.count x + (if x = w then 1 else 0) := by
    intro x
    rw [List.count_append]
    congr 1
    by_cases e : x = w
    · rw [if_pos e, e, List.count_singleton_self]
    · rw [if_neg e, List.count_eq_zero.mpr (fun hm => e (List.mem_singleton.mp hm))]
  constructor
  · intro hh
    have := hh ws.length (by rw [List.length_append]; exact Nat.lt_succ_self _)
    rw [getD_r (Nat.le_refl _), Nat.sub_self] at this
    have this : (ws ++ [w]).count w ≤ lf w := this
    rw [hcw, if_pos rfl] at this
    omega
  · intro hh i hi
    rw [List.length_append, List.length_singleton] at hi
    rw [hcw]
    by_cases e : i = ws.length
    · rw [e, getD_r (Nat.le_refl _), Nat.sub_self]
      show ws.count w + (if w = w then 1 else 0) ≤ lf w
      rw [if_pos rfl]
      omega
    · rw [getD_l (by omega)]
      have := h i (by omega)
      split
      · rename_i e2; rw [e2] at this ⊢; omega
      · exact this
theorem isAsMany_ok {d : Nat} {sx : Sx} {I : Ints} {L : Lngs} {R : Rfs} {q : Q3} {a : Ce} {lc : List (Nat × Nat)} {lf : Nat → Nat} {gl : Nat → List Nat} {sn : Nat → Nat} {ws : List Nat} (hM : MC a lc lf gl sn I) (hws : wsOk a ws) (hA : ALo I 109 0 ws) (ht : asM lf ws → q (some (.int 1)) I L R) (hf : ¬ asM lf ws → q (some (.int 0)) I L R) : E0 mX12_isAsMany (d + 1) sx [.ref 92, .int (nI ws.length)] I L R q := by
  obtain ⟨hW, hE, hM, hl, hEv, hS⟩ := hM
  have w3 := hW.2.2.2.1
  have h6 := hws.1
  have hout : ∀ m i f : Nat, m = ws.length - i → i ≤ ws.length → (f = 1 ∧ ∀ j, j < i → ws.count (ws.getD j 0) ≤ lf (ws.getD j 0)) ∨ (f = 0 ∧ ¬ asM lf ws) → Y mX12_isAsMany (d + 1) sx 4 [(0, .ref 92), (1, .int (nI ws.length)), (2, .int (nI f)), (3, .int (nI i))] [] I L R q := by
    intro m
    induction m with
    | zero =>
      intro i f hm hi hff
      refine RX12_isAsMany_4 ⟨fun _ => ⟨?_, ?_⟩, fun cc => ?_⟩
      · rcases hff with ⟨rfl, _⟩ | ⟨rfl, _⟩ <;> decide
      · rcases hff with ⟨rfl, h1⟩ | ⟨rfl, h1⟩
        · exact ht (fun j hj => h1 j (by omega))
        · exact hf h1
      · exfalso
        rw [nIle (by omega) (by omega)] at cc
        omega
    | succ m ih =>
      intro i f hm hi hff
      have hwi := hws.2 i (by omega)
      have e9 := hA i (by omega)
      rw [Nat.zero_add] at e9
      have elf := hEv.lef (w := ws.getD i 0) (by omega)
      have h99 := hE.1 (ws.getD i 0) (by omega)
      have hin : ∀ m2 e : Nat, m2 = ws.length - e → e ≤ ws.length → Y mX12_isAsMany (d + 1) sx 15 [(0, .ref 92), (1, .int (nI ws.length)), (2, .int (nI f)), (3, .int (nI i)), (4, .int (nI (cPr ws (ws.getD i 0) e))), (5, .int (nI e))] [] I L R q := by
        intro m2
        induction m2 with
        | zero =>
          intro e hm2 he
          have ee : e = ws.length := by omega
          subst ee
          have hcl := cPr_le ws (ws.getD i 0) ws.length
          rw [cPr_all] at hcl ⊢
          have hf1 : f = 0 ∨ f = 1 := by rcases hff with ⟨h, _⟩ | ⟨h, _⟩ <;> omega
          refine RX12_isAsMany_15  ⟨fun c1 => ⟨fun c2 => ?_, fun c2 => ⟨?_, ⟨?_, ⟨fun c3 => ?_, fun c3 => ?_⟩⟩⟩⟩, fun c1 => ⟨?_, ⟨?_, ⟨fun c2 => ?_, fun c2 => ?_⟩⟩⟩⟩
          · (try simp (disch := omega) only [nlit, natrem, nIrm, nIam, nIam',  nI_add, pk_mul, nIsub, nIrem, nIdiv, nIand1, nIand3, nIand7, nIand31, nIshr, nIle, nIlt, nIeq, nIc, vpI, nIm1, m1nI, m1lt, nIlm, m1le, nIlem, nIneg, u2_ss, u2_nn, u2_kk, nIm1n, m1nIn, m1ltn, nIlmn, m1len, nIlemn, e9, elf] at c1 c2); (try simp (disch := omega) only [nlit, natrem, nIrm, nIam, nIam',  nI_add, pk_mul, nIsub, nIrem, nIdiv, nIand1, nIand3, nIand7, nIand31, nIshr, nIle, nIlt, nIeq, nIc, vpI, nIm1, m1nI, m1lt, nIlm, m1le, nIlem, nIneg, u2_ss, u2_nn, u2_kk, nIm1n, m1nIn, m1ltn, nIlmn, m1len, nIlemn, e9, elf])
            rcases hff with ⟨h1, _⟩ | ⟨_, h1⟩
            · omega
            · exact ih (i + 1) 0 (by omega) (by omega) (Or.inr ⟨rfl, h1⟩)
          · (try simp (disch := omega) only [nlit, natrem, nIrm, nIam, nIam',  nI_add, pk_mul, nIsub, nIrem, nIdiv, nIand1, nIand3, nIand7, nIand31, nIshr, nIle, nIlt, nIeq, nIc, vpI, nIm1, m1nI, m1lt, nIlm, m1le, nIlem, nIneg, u2_ss, u2_nn, u2_kk, nIm1n, m1nIn, m1ltn, nIlmn, m1len, nIlemn, e9, elf] at c1 c2) <;> (try simp (disch := omega) only [nlit, natrem, nIrm, nIam, nIam',  nI_add, pk_mul, nIsub, nIrem, nIdiv, nIand1, nIand3, nIand7, nIand31, nIshr, nIle, nIlt, nIeq, nIc, vpI, nIm1, m1nI, m1lt, nIlm, m1le, nIlem, nIneg, u2_ss, u2_nn, u2_kk, nIm1n, m1nIn, m1ltn, nIlmn, m1len, nIlemn, e9, elf]) <;> (first | omega | trivial)
          · (try simp (disch := omega) only [nlit, natrem, nIrm, nIam, nIam',  nI_add, pk_mul, nIsub, nIrem, nIdiv, nIand1, nIand3, nIand7, nIand31, nIshr, nIle, nIlt, nIeq, nIc, vpI, nIm1, m1nI, m1lt, nIlm, m1le, nIlem, nIneg, u2_ss, u2_nn, u2_kk, nIm1n, m1nIn, m1ltn, nIlmn, m1len, nIlemn, e9, elf] at c1 c2) <;> (try simp (disch := omega) only [nlit, natrem, nIrm, nIam, nIam',  nI_add, pk_mul, nIsub, nIrem, nIdiv, nIand1, nIand3, nIand7, nIand31, nIshr, nIle, nIlt, nIeq, nIc, vpI, nIm1, m1nI, m1lt, nIlm, m1le, nIlem, nIneg, u2_ss, u2_nn, u2_kk, nIm1n, m1nIn, m1ltn, nIlmn, m1len, nIlemn, e9, elf]) <;> (first | omega | trivial)
          · (try simp (disch := omega) only [nlit, natrem, nIrm, nIam, nIam',  nI_add, pk_mul, nIsub, nIrem, nIdiv, nIand1, nIand3, nIand7, nIand31, nIshr, nIle, nIlt, nIeq, nIc, vpI, nIm1, m1nI, m1lt, nIlm, m1le, nIlem, nIneg, u2_ss, u2_nn, u2_kk, nIm1n, m1nIn, m1ltn, nIlmn, m1len, nIlemn, e9, elf] at c1 c2 c3); (try simp (disch := omega) only [nlit, natrem, nIrm, nIam, nIam',  nI_add, pk_mul, nIsub, nIrem, nIdiv, nIand1, nIand3, nIand7, nIand31, nIshr, nIle, nIlt, nIeq, nIc, vpI, nIm1, m1nI, m1lt, nIlm, m1le, nIlem, nIneg, u2_ss, u2_nn, u2_kk, nIm1n, m1nIn, m1ltn, nIlmn, m1len, nIlemn, e9, elf])
            exact ih (i + 1) 0 (by omega) (by omega) (Or.inr ⟨rfl, fun w => by have := w i (by omega); omega⟩)
          · (try simp (disch := omega) only [nlit, natrem, nIrm, nIam, nIam',  nI_add, pk_mul, nIsub, nIrem, nIdiv, nIand1, nIand3, nIand7, nIand31, nIshr, nIle, nIlt, nIeq, nIc, vpI, nIm1, m1nI, m1lt, nIlm, m1le, nIlem, nIneg, u2_ss, u2_nn, u2_kk, nIm1n, m1nIn, m1ltn, nIlmn, m1len, nIlemn, e9, elf] at c1 c2 c3); (try simp (disch := omega) only [nlit, natrem, nIrm, nIam, nIam',  nI_add, pk_mul, nIsub, nIrem, nIdiv, nIand1, nIand3, nIand7, nIand31, nIshr, nIle, nIlt, nIeq, nIc, vpI, nIm1, m1nI, m1lt, nIlm, m1le, nIlem, nIneg, u2_ss, u2_nn, u2_kk, nIm1n, m1nIn, m1ltn, nIlmn, m1len, nIlemn, e9, elf])
            rcases hff with ⟨_, h1⟩ | ⟨h1, _⟩
            · refine ih (i + 1) 1 (by omega) (by omega) (Or.inl ⟨rfl, fun j hj => ?_⟩)
              by_cases ej : j = i
              · rw [ej]; omega
              · exact h1 j (by omega)
            · omega
          · (try simp (disch := omega) only [nlit, natrem, nIrm, nIam, nIam',  nI_add, pk_mul, nIsub, nIrem, nIdiv, nIand1, nIand3, nIand7, nIand31, nIshr, nIle, nIlt, nIeq, nIc, vpI, nIm1, m1nI, m1lt, nIlm, m1le, nIlem, nIneg, u2_ss, u2_nn, u2_kk, nIm1n, m1nIn, m1ltn, nIlmn, m1len, nIlemn, e9, elf] at c1) <;> (try simp (disch := omega) only [nlit, natrem, nIrm, nIam, nIam',  nI_add, pk_mul, nIsub, nIrem, nIdiv, nIand1, nIand3, nIand7, nIand31, nIshr, nIle, nIlt, nIeq, nIc, vpI, nIm1, m1nI, m1lt, nIlm, m1le, nIlem, nIneg, u2_ss, u2_nn, u2_kk, nIm1n, m1nIn, m1ltn, nIlmn, m1len, nIlemn, e9, elf]) <;> (first | omega | trivial)
          · (try simp (disch := omega) only [nlit, natrem, nIrm, nIam, nIam',  nI_add, pk_mul, nIsub, nIrem, nIdiv, nIand1, nIand3, nIand7, nIand31, nIshr, nIle, nIlt, nIeq, nIc, vpI, nIm1, m1nI, m1lt, nIlm, m1le, nIlem, nIneg, u2_ss, u2_nn, u2_kk, nIm1n, m1nIn, m1ltn, nIlmn, m1len, nIlemn, e9, elf] at c1) <;> (try simp (disch := omega) only [nlit, natrem, nIrm, nIam, nIam',  nI_add, pk_mul, nIsub, nIrem, nIdiv, nIand1, nIand3, nIand7, nIand31, nIshr, nIle, nIlt, nIeq, nIc, vpI, nIm1, m1nI, m1lt, nIlm, m1le, nIlem, nIneg, u2_ss, u2_nn, u2_kk, nIm1n, m1nIn, m1ltn, nIlmn, m1len, nIlemn, e9, elf]) <;> (first | omega | trivial)
          · (try simp (disch := omega) only [nlit, natrem, nIrm, nIam, nIam',  nI_add, pk_mul, nIsub, nIrem, nIdiv, nIand1, nIand3, nIand7, nIand31, nIshr, nIle, nIlt, nIeq, nIc, vpI, nIm1, m1nI, m1lt, nIlm, m1le, nIlem, nIneg, u2_ss, u2_nn, u2_kk, nIm1n, m1nIn, m1ltn, nIlmn, m1len, nIlemn, e9, elf] at c1 c2) <;> (first | omega | exact absurd rfl c1 | exact absurd trivial c1 | exact absurd rfl c2 | exact absurd trivial c2)
          · (try simp (disch := omega) only [nlit, natrem, nIrm, nIam, nIam',  nI_add, pk_mul, nIsub, nIrem, nIdiv, nIand1, nIand3, nIand7, nIand31, nIshr, nIle, nIlt, nIeq, nIc, vpI, nIm1, m1nI, m1lt, nIlm, m1le, nIlem, nIneg, u2_ss, u2_nn, u2_kk, nIm1n, m1nIn, m1ltn, nIlmn, m1len, nIlemn, e9, elf] at c1 c2) <;> (first | omega | exact absurd rfl c1 | exact absurd trivial c1 | exact absurd rfl c2 | exact absurd trivial c2)
        | succ m2 ih2 =>
          intro e hm2 he
          have hwe := hws.2 e (by omega)
          have e9e := hA e (by omega)
          rw [Nat.zero_add] at e9e
          have hcl := cPr_le ws (ws.getD i 0) e
          refine RX12_isAsMany_15  ⟨fun c1 => ⟨fun c2 => ?_, fun c2 => ⟨?_, ⟨?_, ⟨fun c3 => ?_, fun c3 => ?_⟩⟩⟩⟩, fun c1 => ⟨?_, ⟨?_, ⟨fun c2 => ?_, fun c2 => ?_⟩⟩⟩⟩
          · (try simp (disch := omega) only [nlit, natrem, nIrm, nIam, nIam',  nI_add, pk_mul, nIsub, nIrem, nIdiv, nIand1, nIand3, nIand7, nIand31, nIshr, nIle, nIlt, nIeq, nIc, vpI, nIm1, m1nI, m1lt, nIlm, m1le, nIlem, nIneg, u2_ss, u2_nn, u2_kk, nIm1n, m1nIn, m1ltn, nIlmn, m1len, nIlemn, e9, e9e, Nat.add_zero] at c1 c2); (try simp (disch := omega) only [nlit, natrem, nIrm, nIam, nIam',  nI_add, pk_mul, nIsub, nIrem, nIdiv, nIand1, nIand3, nIand7, nIand31, nIshr, nIle, nIlt, nIeq, nIc, vpI, nIm1, m1nI, m1lt, nIlm, m1le, nIlem, nIneg, u2_ss, u2_nn, u2_kk, nIm1n, m1nIn, m1ltn, nIlmn, m1len, nIlemn, e9, e9e, Nat.add_zero])
            omega
          · (try simp (disch := omega) only [nlit, natrem, nIrm, nIam, nIam',  nI_add, pk_mul, nIsub, nIrem, nIdiv, nIand1, nIand3, nIand7, nIand31, nIshr, nIle, nIlt, nIeq, nIc, vpI, nIm1, m1nI, m1lt, nIlm, m1le, nIlem, nIneg, u2_ss, u2_nn, u2_kk, nIm1n, m1nIn, m1ltn, nIlmn, m1len, nIlemn, e9, e9e, Nat.add_zero] at c1 c2) <;> (try simp (disch := omega) only [nlit, natrem, nIrm, nIam, nIam',  nI_add, pk_mul, nIsub, nIrem, nIdiv, nIand1, nIand3, nIand7, nIand31, nIshr, nIle, nIlt, nIeq, nIc, vpI, nIm1, m1nI, m1lt, nIlm, m1le, nIlem, nIneg, u2_ss, u2_nn, u2_kk, nIm1n, m1nIn, m1ltn, nIlmn, m1len, nIlemn, e9, e9e, Nat.add_zero]) <;> (first | omega | trivial)
          · (try simp (disch := omega) only [nlit, natrem, nIrm, nIam, nIam',  nI_add, pk_mul, nIsub, nIrem, nIdiv, nIand1, nIand3, nIand7, nIand31, nIshr, nIle, nIlt, nIeq, nIc, vpI, nIm1, m1nI, m1lt, nIlm, m1le, nIlem, nIneg, u2_ss, u2_nn, u2_kk, nIm1n, m1nIn, m1ltn, nIlmn, m1len, nIlemn, e9, e9e, Nat.add_zero] at c1 c2) <;> (try simp (disch := omega) only [nlit, natrem, nIrm, nIam, nIam',  nI_add, pk_mul, nIsub, nIrem, nIdiv, nIand1, nIand3, nIand7, nIand31, nIshr, nIle, nIlt, nIeq, nIc, vpI, nIm1, m1nI, m1lt, nIlm, m1le, nIlem, nIneg, u2_ss, u2_nn, u2_kk, nIm1n, m1nIn, m1ltn, nIlmn, m1len, nIlemn, e9, e9e, Nat.add_zero]) <;> (first | omega | trivial)
          · (try simp (disch := omega) only [nlit, natrem, nIrm, nIam, nIam',  nI_add, pk_mul, nIsub, nIrem, nIdiv, nIand1, nIand3, nIand7, nIand31, nIshr, nIle, nIlt, nIeq, nIc, vpI, nIm1, m1nI, m1lt, nIlm, m1le, nIlem, nIneg, u2_ss, u2_nn, u2_kk, nIm1n, m1nIn, m1ltn, nIlmn, m1len, nIlemn, e9, e9e, Nat.add_zero] at c1 c2 c3); (try simp (disch := omega) only [nlit, natrem, nIrm, nIam, nIam',  nI_add, pk_mul, nIsub, nIrem, nIdiv, nIand1, nIand3, nIand7, nIand31, nIshr, nIle, nIlt, nIeq, nIc, vpI, nIm1, m1nI, m1lt, nIlm, m1le, nIlem, nIneg, u2_ss, u2_nn, u2_kk, nIm1n, m1nIn, m1ltn, nIlmn, m1len, nIlemn, e9, e9e, Nat.add_zero])
            omega
          · (try simp (disch := omega) only [nlit, natrem, nIrm, nIam, nIam',  nI_add, pk_mul, nIsub, nIrem, nIdiv, nIand1, nIand3, nIand7, nIand31, nIshr, nIle, nIlt, nIeq, nIc, vpI, nIm1, m1nI, m1lt, nIlm, m1le, nIlem, nIneg, u2_ss, u2_nn, u2_kk, nIm1n, m1nIn, m1ltn, nIlmn, m1len, nIlemn, e9, e9e, Nat.add_zero] at c1 c2 c3); (try simp (disch := omega) only [nlit, natrem, nIrm, nIam, nIam',  nI_add, pk_mul, nIsub, nIrem, nIdiv, nIand1, nIand3, nIand7, nIand31, nIshr, nIle, nIlt, nIeq, nIc, vpI, nIm1, m1nI, m1lt, nIlm, m1le, nIlem, nIneg, u2_ss, u2_nn, u2_kk, nIm1n, m1nIn, m1ltn, nIlmn, m1len, nIlemn, e9, e9e, Nat.add_zero])
            omega
          · (try simp (disch := omega) only [nlit, natrem, nIrm, nIam, nIam',  nI_add, pk_mul, nIsub, nIrem, nIdiv, nIand1, nIand3, nIand7, nIand31, nIshr, nIle, nIlt, nIeq, nIc, vpI, nIm1, m1nI, m1lt, nIlm, m1le, nIlem, nIneg, u2_ss, u2_nn, u2_kk, nIm1n, m1nIn, m1ltn, nIlmn, m1len, nIlemn, e9, e9e, Nat.add_zero] at c1) <;> (try simp (disch := omega) only [nlit, natrem, nIrm, nIam, nIam',  nI_add, pk_mul, nIsub, nIrem, nIdiv, nIand1, nIand3, nIand7, nIand31, nIshr, nIle, nIlt, nIeq, nIc, vpI, nIm1, m1nI, m1lt, nIlm, m1le, nIlem, nIneg, u2_ss, u2_nn, u2_kk, nIm1n, m1nIn, m1ltn, nIlmn, m1len, nIlemn, e9, e9e, Nat.add_zero]) <;> (first | omega | trivial)
          · (try simp (disch := omega) only [nlit, natrem, nIrm, nIam, nIam',  nI_add, pk_mul, nIsub, nIrem, nIdiv, nIand1, nIand3, nIand7, nIand31, nIshr, nIle, nIlt, nIeq, nIc, vpI, nIm1, m1nI, m1lt, nIlm, m1le, nIlem, nIneg, u2_ss, u2_nn, u2_kk, nIm1n, m1nIn, m1ltn, nIlmn, m1len, nIlemn, e9, e9e, Nat.add_zero] at c1) <;> (try simp (disch := omega) only [nlit, natrem, nIrm, nIam, nIam',  nI_add, pk_mul, nIsub, nIrem, nIdiv, nIand1, nIand3, nIand7, nIand31, nIshr, nIle, nIlt, nIeq, nIc, vpI, nIm1, m1nI, m1lt, nIlm, m1le, nIlem, nIneg, u2_ss, u2_nn, u2_kk, nIm1n, m1nIn, m1ltn, nIlmn, m1len, nIlemn, e9, e9e, Nat.add_zero]) <;> (first | omega | trivial)
          · (try simp (disch := omega) only [nlit, natrem, nIrm, nIam, nIam',  nI_add, pk_mul, nIsub, nIrem, nIdiv, nIand1, nIand3, nIand7, nIand31, nIshr, nIle, nIlt, nIeq, nIc, vpI, nIm1, m1nI, m1lt, nIlm, m1le, nIlem, nIneg, u2_ss, u2_nn, u2_kk, nIm1n, m1nIn, m1ltn, nIlmn, m1len, nIlemn, e9, e9e, Nat.add_zero] at c1 c2); (try simp (disch := omega) only [nlit, natrem, nIrm, nIam, nIam',  nI_add, pk_mul, nIsub, nIrem, nIdiv, nIand1, nIand3, nIand7, nIand31, nIshr, nIle, nIlt, nIeq, nIc, vpI, nIm1, m1nI, m1lt, nIlm, m1le, nIlem, nIneg, u2_ss, u2_nn, u2_kk, nIm1n, m1nIn, m1ltn, nIlmn, m1len, nIlemn, e9, e9e, Nat.add_zero])
            have es : cPr ws (ws.getD i 0) (e + 1) = cPr ws (ws.getD i 0) e := by show _ + (if _ then 1 else 0) = _; rw [if_neg c2]; rfl
            rw [← es]
            exact ih2 (e + 1) (by omega) (by omega)
          · (try simp (disch := omega) only [nlit, natrem, nIrm, nIam, nIam',  nI_add, pk_mul, nIsub, nIrem, nIdiv, nIand1, nIand3, nIand7, nIand31, nIshr, nIle, nIlt, nIeq, nIc, vpI, nIm1, m1nI, m1lt, nIlm, m1le, nIlem, nIneg, u2_ss, u2_nn, u2_kk, nIm1n, m1nIn, m1ltn, nIlmn, m1len, nIlemn, e9, e9e, Nat.add_zero] at c1 c2); (try simp (disch := omega) only [nlit, natrem, nIrm, nIam, nIam',  nI_add, pk_mul, nIsub, nIrem, nIdiv, nIand1, nIand3, nIand7, nIand31, nIshr, nIle, nIlt, nIeq, nIc, vpI, nIm1, m1nI, m1lt, nIlm, m1le, nIlem, nIneg, u2_ss, u2_nn, u2_kk, nIm1n, m1nIn, m1ltn, nIlmn, m1len, nIlemn, e9, e9e, Nat.add_zero])
            have es : cPr ws (ws.getD i 0) (e + 1) = cPr ws (ws.getD i 0) e + 1 := by show _ + (if _ then 1 else 0) = _; rw [if_pos c2]
            rw [← es]
            exact ih2 (e + 1) (by omega) (by omega)
      refine RX12_isAsMany_4 ⟨fun cc => ?_, fun _ => ?_⟩
      · exfalso
        rw [nIle (by omega) (by omega)] at cc
        omega
      · exact hin _ 0 rfl (Nat.zero_le _)
  exact EX12_isAsMany (hout _ 0 1 rfl (Nat.zero_le _) (Or.inl ⟨rfl, fun j hj => absurd hj (Nat.not_lt_zero _)⟩))
def FwM (o : Option (List Nat)) (J : Ints) : Prop := match o with
  | none => J 92 37 = nI 0
  | some r => J 92 37 = nI 1 ∧ r.length ≤ 6 ∧ ALo J 114 0 r
theorem FwM.fr {o : Option (List Nat)} {I J : Ints} (h : FwM o I) (h1 : J 92 37 = I 92 37) (h2 : ∀ i, J 114 i = I 114 i) : FwM o J := by
  match o, h with
  | none, h => exact h1.trans h
  | some r, h => exact ⟨h1.trans h.1, h.2.1, h.2.2.congr h2⟩
theorem or_some {x y : Option (List Nat)} {r : List Nat} (h : x = some r) : x.or y = some r := by rw [h]; rfl
theorem or_none {x y : Option (List Nat)} (h : x = none) : x.or y = y := by rw [h]; rfl
noncomputable def gS (a : Ce) (lc : List (Nat × Nat)) (lf : Nat → Nat) (g ce rem : Nat) (ws : List Nat) : Option (List Nat) := @ite (Option (List Nat)) (asM lf ws) (Classical.propDecidable _) (fS a lc lf g ce rem ws) none
theorem findsRow_ok {a : Ce} {lc : List (Nat × Nat)} {lf : Nat → Nat} {gl : Nat → List Nat} {sn : Nat → Nat} {R : Rfs} {L : Lngs} {sx : Sx} {I0 : Ints} (hM : MC a lc lf gl sn I0) {g ce n : Nat} (hg : g < (a 4).val) (hce : ce < 64) (hn : n ≤ 6) :
    ∀ (rem d : Nat) (ws : List Nat) (o : Option (List Nat)) (I : Ints) (q : Q3), ws.length + rem = n → wsOk a ws → ALo I 109 0 ws → FwM o I → Fr AQ FQ I0 I →
      (∀ J, FwM (o.or (gS a lc lf g ce rem ws)) J → (∀ i, i < ws.length → J 109 i = I 109 i) → Fr AQ FQ I0 J → q none J L R) →
      E0 mX12_findsRow (d + rem + 6) sx [.ref 92, .int (nI g), .int (nI ws.length), .int (nI n), .int (nI ce)] I L R q := by
  have hW := hM.1
  have hMc := hM.2.2.1
  have hl := hM.2.2.2.1
  have w3 := hW.2.2.2.1
  intro rem
  induction rem with
  | zero =>
    intro d ws o I q hln hws hA hO hF h
    have hlen : ws.length = n := by omega
    match o, hO, h with
    | some r, hO, h =>
      refine EX12_findsRow ⟨fun _ => h I hO (fun i _ => rfl) hF, fun cc => ?_⟩
      rw [hO.1] at cc
      exact absurd cc (by decide)
    | none, hO, h =>
      refine EX12_findsRow ⟨fun cc => absurd hO cc, fun _ => ?_⟩
      refine isAsMany_ok (hM.fr hF) hws hA (fun has => ?_) (fun has => RX12_findsRow_12 ⟨fun w => absurd rfl w, fun _ => h I ?_ (fun i _ => rfl) hF⟩)
      · have egs : gS a lc lf g ce 0 ws = if wkA a lc g ws / 4 = ce then some ws else none := by unfold gS; rw [if_pos has]; rfl
        rw [egs] at h
        refine RX12_findsRow_12 ⟨fun _ => ⟨fun cc => absurd (by rw [hlen]) cc, fun _ => ?_⟩, fun w => absurd w (by decide)⟩
        rw [← hlen]
        refine laysSteps_ok (hMc.fr hF rfl rfl) hW (hl.fr hF rfl rfl rfl rfl) hg hws hA (fun J hJ => RX12_findsRow_27 ?_)
        have hFJ : Fr AQ FQ I J := hJ.1.mn rfl rfl
        have hl5 := rt_len hW (lc := lc) (g := g) hws
        refine walks_ok (al := 1) (cl := clP a) (hMc.fr (hF.tr hFJ) rfl rfl) hW hg (by decide) clP_M (by omega) hJ.2.1 hJ.2.2.2 rt_ne (rt_le hW hws) (fun K hK hFK => RX12_findsRow_33 ?_)
        have hK : atP K (wkA a lc g ws) := hK
        have hwk := hK.1
        have hFI : Fr AQ FQ I K := hFJ.tr (hFK.mn rfl rfl)
        have h109 : ∀ i, K 109 i = I 109 i := fun i => by rw [hFK.ar 109 rfl rfl, hJ.1.ar 109 rfl rfl]
        refine cellNow_ok hK ?_
        refine RX12_findsRow_37 ⟨fun cc => ?_, fun cc => ?_⟩
        · rw [nIeq (by omega) (by omega)] at cc
          rw [if_neg cc] at h
          refine h K ?_ (fun i _ => h109 i) (hF.tr hFI)
          show K 92 37 = nI 0
          rw [hFK 92 37 rfl rfl, hJ.1 92 37 rfl rfl]
          exact hO
        · rw [nIeq (by omega) (by omega)] at cc
          rw [if_pos cc] at h
          have hcp : ∀ m j : Nat, ∀ M, m = ws.length - j → j ≤ ws.length → Fr [114] [(92, 37)] K M → M 92 37 = nI 1 → (∀ i, i < j → M 114 i = nI (ws.getD i 0)) → Y mX12_findsRow (d + 6) sx 50 [(0, .ref 92), (3, .int (nI ws.length)), (5, .int (nI j))] [] M L R q := by
            intro m
            induction m with
            | zero =>
              intro j M hm hj hFM h37 hi
              refine RX12_findsRow_50 ⟨fun _ => h M ⟨h37, by omega, fun i hil => ?_⟩ (fun i _ => ?_) (hF.tr (hFI.tr (hFM.mn rfl rfl))), fun c3 => ?_⟩
              · rw [Nat.zero_add]; exact hi i (by omega)
              · rw [hFM.ar 109 rfl rfl]; exact h109 i
              · exfalso
                rw [nIle (by omega) (by omega)] at c3
                omega
            | succ m ih2 =>
              intro j M hm hj hFM h37 hi
              have e9 := hA j (by omega)
              rw [Nat.zero_add, ← h109, ← hFM.ar 109 rfl rfl] at e9
              refine RX12_findsRow_50 ⟨fun c3 => ?_, fun c3 => ⟨?_, ?_, ?_⟩⟩
              · exfalso
                rw [nIle (by omega) (by omega)] at c3
                omega
              · simp (disch := omega) only [nlit, natrem, nIrm, nIam, nIam',  nI_add, pk_mul, nIsub, nIrem, nIdiv, nIand1, nIand3, nIand7, nIand31, nIshr, nIle, nIlt, nIeq, nIc, vpI, nIm1, m1nI, m1lt, nIlm, m1le, nIlem, nIneg, u2_ss, u2_nn, u2_kk, nIm1n, m1nIn, m1ltn, nIlmn, m1len, nIlemn]; omega
              · simp (disch := omega) only [nlit, natrem, nIrm, nIam, nIam',  nI_add, pk_mul, nIsub, nIrem, nIdiv, nIand1, nIand3, nIand7, nIand31, nIshr, nIle, nIlt, nIeq, nIc, vpI, nIm1, m1nI, m1lt, nIlm, m1le, nIlem, nIneg, u2_ss, u2_nn, u2_kk, nIm1n, m1nIn, m1ltn, nIlmn, m1len, nIlemn]; omega
              · rw [nIc (by omega), e9, show nI j + 1 = nI (j + 1) from nI_add j 1]
                refine ih2 (j + 1) _ (by omega) (by omega) (hFM.ua rfl) (by rw [u2_nn _ _ _ _ (by decide)]; exact h37) (fun i hij => ?_)
                by_cases e : i = j
                · rw [e, u2_ss]
                · rw [u2_kk _ _ _ _ e]; exact hi i (by omega)
          exact hcp _ 0 _ rfl (Nat.zero_le _) (Fr.rf.uf rfl) (by rw [u2_ss]; rfl) (fun i hi => absurd hi (Nat.not_lt_zero _))
      · have egs : gS a lc lf g ce 0 ws = none := by unfold gS; rw [if_neg has]
        rw [egs]
        exact hO
  | succ rem ih =>
    intro d ws o I q hln hws hA hO hF h
    rw [show d + (rem + 1) + 6 = (d + rem + 6) + 1 by omega]
    match o, hO, h with
    | some r, hO, h =>
      refine EX12_findsRow ⟨fun _ => h I hO (fun i _ => rfl) hF, fun cc => ?_⟩
      rw [hO.1] at cc
      exact absurd cc (by decide)
    | none, hO, h =>
      refine EX12_findsRow ⟨fun cc => absurd hO cc, fun _ => ?_⟩
      refine isAsMany_ok (hM.fr hF) hws hA (fun has => ?_) (fun has => RX12_findsRow_12 ⟨fun w => absurd rfl w, fun _ => h I ?_ (fun i _ => rfl) hF⟩)
      · have egs : gS a lc lf g ce (rem + 1) ws = fSP a lc lf g ce rem ws (a 3).val := by unfold gS; rw [if_pos has]; rfl
        rw [egs] at h
        have h : ∀ J, FwM (fSP a lc lf g ce rem ws (a 3).val) J → (∀ i, i < ws.length → J 109 i = I 109 i) → Fr AQ FQ I0 J → q none J L R := h
        have hlp : ∀ m w : Nat, ∀ J, m = (a 3).val - w → w ≤ (a 3).val → FwM (fSP a lc lf g ce rem ws w) J → (∀ i, i < ws.length → J 109 i = I 109 i) → Fr AQ FQ I0 J → Y mX12_findsRow ((d + rem + 6) + 1) sx 80 [(0, .ref 92), (1, .int (nI g)), (2, .int (nI ws.length)), (3, .int (nI n)), (4, .int (nI ce)), (5, .int (nI w))] [] J L R q := by
          intro m
          induction m with
          | zero =>
            intro w J hm hw hOJ h9 hFJ
            have e : w = (a 3).val := by omega
            subst e
            refine RX12_findsRow_80 (wines_ok (hMc.fr hFJ rfl rfl) (RX12_findsRow_86 ⟨fun _ => h J hOJ h9 hFJ, fun cc => absurd (Int32.le_refl _) cc⟩))
          | succ m ihm =>
            intro w J hm hw hOJ h9 hFJ
            have hlenw : (ws ++ [w]).length = ws.length + 1 := by rw [List.length_append, List.length_singleton]
            have hstep := fSP_s (a := a) (lc := lc) (lf := lf) (g := g) (ce := ce) (rem := rem) (ws := ws) w
            have egs : gS a lc lf g ce rem (ws ++ [w]) = if ws.count w < lf w then fS a lc lf g ce rem (ws ++ [w]) else none := by
              unfold gS
              by_cases hcc : ws.count w < lf w
              · rw [if_pos hcc, if_pos ((asM_s has).mpr hcc)]
              · rw [if_neg hcc, if_neg (fun z => hcc ((asM_s has).mp z))]
            rw [← egs] at hstep
            refine RX12_findsRow_80 (wines_ok (hMc.fr hFJ rfl rfl) (RX12_findsRow_86 ⟨fun cc => ?_, fun cc => ⟨?_, ?_⟩⟩))
            · exfalso
              rw [nIle (by omega) (by omega)] at cc
              omega
            · simp (disch := omega) only [nlit, natrem, nIrm, nIam, nIam',  nI_add, pk_mul, nIsub, nIrem, nIdiv, nIand1, nIand3, nIand7, nIand31, nIshr, nIle, nIlt, nIeq, nIc, vpI, nIm1, m1nI, m1lt, nIlm, m1le, nIlem, nIneg, u2_ss, u2_nn, u2_kk, nIm1n, m1nIn, m1ltn, nIlmn, m1len, nIlemn]; omega
            · rw [nIc (by omega), show nI ws.length + 1 = nI (ws ++ [w]).length by rw [hlenw]; exact nI_add _ 1]
              refine ih d (ws ++ [w]) (fSP a lc lf g ce rem ws w) _ _ (by rw [hlenw]; omega) ⟨by rw [hlenw]; omega, fun i hi => ?_⟩ ?_ (hOJ.fr (u2_nn _ _ _ _ (by decide)) (fun i => u2_nn _ _ _ _ (by decide))) (hFJ.ua rfl) (fun N hN1 hN2 hN3 => RX12_findsRow_108 ?_)
              · rw [hlenw] at hi
                by_cases e : i = ws.length
                · rw [e, getD_r (Nat.le_refl _), Nat.sub_self]; show w < _; omega
                · rw [getD_l (by omega)]; exact hws.2 i (by omega)
              · refine ALo.push (l := ws) ?_ (by omega)
                intro i hi
                rw [Nat.zero_add, h9 i hi]
                have := hA i hi
                rw [Nat.zero_add] at this
                exact this
              · rw [← hstep] at hN1
                rw [show nI w + 1 = nI (w + 1) from nI_add w 1]
                refine ihm (w + 1) N (by omega) (by omega) hN1 (fun i hi => ?_) hN3
                rw [hN2 i (by rw [hlenw]; omega), u2_kk _ _ _ _ (by omega)]
                exact h9 i hi
        refine RX12_findsRow_12 ⟨fun _ => ⟨fun _ => ?_, fun cc => ?_⟩, fun w => absurd w (by decide)⟩
        · exact hlp _ 0 I rfl (Nat.zero_le _) hO (fun i _ => rfl) hF
        · exfalso
          rw [nIeq (by omega) (by omega)] at cc
          omega
      · have egs : gS a lc lf g ce (rem + 1) ws = none := by unfold gS; rw [if_neg has]
        rw [egs]
        exact hO
theorem m_fewest {d : Nat} {sx : Sx} {I : Ints} {L : Lngs} {R : Rfs} {q : Q3} {a : Ce} {lc : List (Nat × Nat)} {lf : Nat → Nat} {gl : Nat → List Nat} {sn : Nat → Nat} (hM : MC a lc lf gl sn I) {g x y z : Int32} (h : ∀ J, Fr AQ FQ I J → q (some (.int (spFewest a lc lf g x y z))) J L R) : E0 mX12_fewest (d + 14) sx [.ref 92, .int g, .int x, .int y, .int z] I L R q := by
  have hF0 : Fr AQ FQ I (u2 I 92 0 0) := fq0
  have hM1 := hM.fr hF0
  refine EX12_fewest ?_
  generalize u2 I 92 0 0 = I1 at *
  have hMc := hM1.2.2.1
  have hW := hM.1
  have w0 := hW.1.2
  have w1 := hW.2.1.2
  have hno : ¬ okF a g x y z → q (some (.int (-1))) I1 L R := by
    intro hn
    have h := h I1 hF0
    unfold spFewest at h
    rw [if_neg hn] at h
    exact h
  refine isGuestM_ok hMc (fun n hn e => ?_) (fun hn => RX12_fewest_10 ⟨fun _ => hno (fun w => hn w.1), fun w => absurd rfl w⟩)
  refine RX12_fewest_10 ⟨fun w => absurd w (by decide), fun _ => ?_⟩
  refine isInV hMc (fun m k hm hk e1 e2 => ?_) (fun hnn => RX12_fewest_19 ⟨fun _ => hno (fun w => hnn w.2.1), fun w => absurd rfl w⟩)
  subst e; subst e1; subst e2
  refine RX12_fewest_19 ⟨fun w => absurd w (by decide), fun _ => ⟨fun c3 => ?_, fun c3 => hno (fun w => c3 w.2.2)⟩⟩
  have hok : okF a (nI n) (nI m) (nI k) z := ⟨(inR_nI (by omega) (by omega)).mpr hn, ⟨(inR_nI (by omega) (by omega)).mpr hm, (inR_nI (by omega) (by omega)).mpr hk⟩, c3⟩
  have h : ∀ J, Fr AQ FQ I J → q (some (.int (fwA (fwS a lc lf n (k * 8 + m)) z))) J L R := by
    intro J hJ
    have h := h J hJ
    unfold spFewest at h
    rw [if_pos hok, nIc (by omega), nIc (by omega), nIc (by omega)] at h
    exact h
  have hlp : ∀ j i : Nat, ∀ J, j = 7 - i → i ≤ 7 → FwM (fwP a lc lf n (k * 8 + m) i) J → (∀ r, fwP a lc lf n (k * 8 + m) i = some r → r.length + 1 = i) → Fr AQ FQ I J → Y mX12_fewest (d + 14) sx 38 [(0, .ref 92), (1, .int (nI n)), (2, .int (nI m)), (3, .int (nI k)), (4, .int z), (5, .int (nI i))] [] J L R q := by
    intro j
    induction j with
    | zero =>
      intro i J hj hi hO hr hF
      have e : i = 7 := by omega
      subst e
      match hfw : fwP a lc lf n (k * 8 + m) 7, hO, hr with
      | some r, hO, hr =>
        have hrl := hr r rfl
        have hall : fwS a lc lf n (k * 8 + m) = some r := fwP_some hfw 7 (by omega)
        have h := h J hF
        rw [hall] at h
        unfold fwA at h
        simp only at h
        have ev : nI 7 + -1 = nI r.length := by rw [nIam (by omega)]; congr 1; omega
        refine RX12_fewest_38 ⟨fun _ => ⟨fun c5 => ⟨fun c6 => ?_, fun c6 => ⟨?_, ?_⟩⟩, fun c5 => ?_⟩, fun cc => absurd (hO.1.symm.trans cc) (by decide)⟩
        · rw [ev] at c6
          rw [if_neg c5, if_pos c6] at h
          exact h
        · rw [ev] at c6
          have hz0 : ¬ z < 0 := fun hz => c5 (z_m1 hz c3)
          obtain ⟨h3, h4⟩ := i32_nn hz0
          rw [h4, nIle (by omega) h3] at c6
          rw [h4]
          simp (disch := omega) only [nlit, natrem, nIrm, nIam, nIam',  nI_add, pk_mul, nIsub, nIrem, nIdiv, nIand1, nIand3, nIand7, nIand31, nIshr, nIle, nIlt, nIeq, nIc, vpI, nIm1, m1nI, m1lt, nIlm, m1le, nIlem, nIneg, u2_ss, u2_nn, u2_kk, nIm1n, m1nIn, m1ltn, nIlmn, m1len, nIlemn]
          omega
        · rw [ev] at c6
          have hz0 : ¬ z < 0 := fun hz => c5 (z_m1 hz c3)
          obtain ⟨h3, h4⟩ := i32_nn hz0
          have c6' := c6
          rw [h4, nIle (by omega) h3] at c6
          have hg9 := hO.2.2 z.toNatClampNeg (by omega)
          rw [Nat.zero_add] at hg9
          rw [if_neg c5, if_neg c6'] at h
          rw [hg9]
          exact h
        · rw [if_pos c5] at h
          rw [ev]
          exact h
      | none, hO, hr =>
        have hO37 : J 92 37 = nI 0 := hO
        refine RX12_fewest_38 ⟨fun cc => absurd hO37 cc, fun _ => ⟨fun _ => ?_, fun c2 => absurd (by decide) c2⟩⟩
        have h := h J hF
        have hall : fwS a lc lf n (k * 8 + m) = none := hfw
        rw [hall] at h
        exact h
    | succ j ih =>
      intro i J hj hi hO hr hF
      match hfw : fwP a lc lf n (k * 8 + m) i, hO, hr with
      | some r, hO, hr =>
        have hrl := hr r rfl
        have hall : fwS a lc lf n (k * 8 + m) = some r := fwP_some hfw 7 (by omega)
        have h := h J hF
        rw [hall] at h
        unfold fwA at h
        simp only at h
        have ev : nI i + -1 = nI r.length := by rw [nIam (by omega)]; congr 1; omega
        refine RX12_fewest_38 ⟨fun _ => ⟨fun c5 => ⟨fun c6 => ?_, fun c6 => ⟨?_, ?_⟩⟩, fun c5 => ?_⟩, fun cc => absurd (hO.1.symm.trans cc) (by decide)⟩
        · rw [ev] at c6
          rw [if_neg c5, if_pos c6] at h
          exact h
        · rw [ev] at c6
          have hz0 : ¬ z < 0 := fun hz => c5 (z_m1 hz c3)
          obtain ⟨h3, h4⟩ := i32_nn hz0
          rw [h4, nIle (by omega) h3] at c6
          rw [h4]
          simp (disch := omega) only [nlit, natrem, nIrm, nIam, nIam',  nI_add, pk_mul, nIsub, nIrem, nIdiv, nIand1, nIand3, nIand7, nIand31, nIshr, nIle, nIlt, nIeq, nIc, vpI, nIm1, m1nI, m1lt, nIlm, m1le, nIlem, nIneg, u2_ss, u2_nn, u2_kk, nIm1n, m1nIn, m1ltn, nIlmn, m1len, nIlemn]
          omega
        · rw [ev] at c6
          have hz0 : ¬ z < 0 := fun hz => c5 (z_m1 hz c3)
          obtain ⟨h3, h4⟩ := i32_nn hz0
          have c6' := c6
          rw [h4, nIle (by omega) h3] at c6
          have hg9 := hO.2.2 z.toNatClampNeg (by omega)
          rw [Nat.zero_add] at hg9
          rw [if_neg c5, if_neg c6'] at h
          rw [hg9]
          exact h
        · rw [if_pos c5] at h
          rw [ev]
          exact h
      | none, hO, hr =>
        have hO37 : J 92 37 = nI 0 := hO
        refine RX12_fewest_38 ⟨fun cc => absurd hO37 cc, fun _ => ⟨fun c2 => ?_, fun c2 => ?_⟩⟩
        · exfalso
          rw [show (6 : Int32) = nI 6 from rfl, nIlt (by decide) (by omega)] at c2
          omega
        · rw [show (8 : Int32) * nI k + nI m = nI (k * 8 + m) by rw [show (8 : Int32) = nI 8 from rfl, pk_mul, nI_add, Nat.mul_comm]]
          have hstep := fwP_s (a := a) (lc := lc) (lf := lf) (g := n) (ce := k * 8 + m) i
          have hfr := findsRow_ok (L := L) (R := R) (sx := sx) hM hn (ce := k * 8 + m) (n := i) (by omega) (by omega) i (d + 1 + (6 - i)) [] (fwP a lc lf n (k * 8 + m) i) J (fun r J' K' T' => Y mX12_fewest (d + 14) sx 66 [(0, .ref 92), (1, .int (nI n)), (2, .int (nI m)), (3, .int (nI k)), (4, .int z), (5, .int (nI i))] (r.toList ++ []) J' K' T' q) (by simp) ⟨by simp, fun i hi => absurd hi (Nat.not_lt_zero _)⟩ ALo.nil (by rw [hfw]; exact hO37) hF (fun K hK _ hFK => RX12_fewest_66 ?_)
          · rw [show d + 1 + (6 - i) + i + 6 = d + 13 by omega] at hfr
            exact hfr
          · have egs : gS a lc lf n (k * 8 + m) i [] = fS a lc lf n (k * 8 + m) i [] := by
              have h0 : asM lf [] := fun i hi => absurd hi (Nat.not_lt_zero _)
              unfold gS
              rw [if_pos h0]
            rw [egs, ← hstep] at hK
            rw [show nI i + 1 = nI (i + 1) from nI_add i 1]
            refine ih (i + 1) K (by omega) (by omega) hK (fun r hr' => ?_) hFK
            rw [hstep, hfw] at hr'
            have hr' : fS a lc lf n (k * 8 + m) i [] = some r := hr'
            rw [(fS_okR hr').2.2]
  refine hlp _ 0 _ rfl (by decide) (u2_ss _ _ _ _) (fun r hr => by cases hr) (hF0.uf rfl)
