/-! the model's acts -/
theorem WFe.pour {a : Ce} {lf : Nat → Nat} {gl : Nat → List Nat} {sn : Nat → Nat} (hE : WFe a lf gl sn) {g w : Nat} (hg : g < (a 4).val) (h4 : (a 4).val ≤ 6) (hw : w < (a 3).val) (hl6 : (gl g).length < 6) (v : Nat) (hv : v ≤ 99) : WFe a (up1 lf w v) (up1 gl g (gl g ++ [w])) sn := by
  refine ⟨fun w' hw' => ?_, fun x hx => ?_, hE.2.2.1, fun w' hw' h3 => ?_, fun x hx h4 => ?_⟩
  · by_cases e : w' = w
    · rw [e, up1_s]; omega
    · rw [up1_n _ _ e]; exact hE.1 w' hw'
  · by_cases e : x = g
    · rw [e, up1_s]
      refine ⟨by rw [List.length_append]; exact hl6, fun i hi => ?_⟩
      rw [List.length_append, List.length_singleton] at hi
      by_cases ei : i = (gl g).length
      · rw [ei, getD_r (Nat.le_refl _), Nat.sub_self]; exact hw
      · rw [getD_l (by omega)]; exact (hE.2.1 g (by omega)).2 i (by omega)
    · rw [up1_n _ _ e]; exact hE.2.1 x hx
  · rw [up1_n _ _ (by omega)]; exact hE.2.2.2.1 w' hw' h3
  · rw [up1_n _ _ (by omega)]; exact hE.2.2.2.2 x hx h4
theorem WFe.water {a : Ce} {lf : Nat → Nat} {gl : Nat → List Nat} {sn : Nat → Nat} (hE : WFe a lf gl sn) {g : Nat} (hg : g < (a 4).val) (h4 : (a 4).val ≤ 6) : WFe a lf (up1 gl g (gl g).dropLast) sn := by
  refine ⟨hE.1, fun x hx => ?_, hE.2.2.1, hE.2.2.2.1, fun x hx h4 => ?_⟩
  · by_cases e : x = g
    · rw [e, up1_s]
      have h1 := hE.2.1 g (by omega)
      rcases l_last (gl g) with h0 | ⟨l, w, hlw⟩
      · rw [h0]; exact ⟨Nat.zero_le _, fun i hi => absurd hi (Nat.not_lt_zero _)⟩
      · rw [hlw] at h1 ⊢
        rw [show (l ++ [w]).dropLast = l by simp]
        refine ⟨by have := h1.1; rw [List.length_append] at this; omega, fun i hi => ?_⟩
        have h2 := h1.2 i (by rw [List.length_append]; omega)
        rw [getD_l hi] at h2
        exact h2
    · rw [up1_n _ _ e]; exact hE.2.1 x hx
  · rw [up1_n _ _ (by omega)]; exact hE.2.2.2.2 x hx h4
def UnM (I : Ints) : List Es → Prop
  | [] => True
  | p :: us => EvL (56 * (5 + us.length)) p.1 p.2 I ∧ UnM I us
def MU (us : List Es) (I : Ints) : Prop := I 92 22 = nI us.length ∧ us.length ≤ 20 ∧ UnM I us
def MkM (mk : Mk) (I : Ints) : Prop := ∀ m, m < 4 → (mk m = none ∧ I 107 m = nI 0) ∨ ∃ e, mk m = some e ∧ I 107 m = nI 1 ∧ EvL (56 * (1 + m)) e.1.1 e.1.2 I ∧ EvS (56 * (1 + m)) e.2 I
def MA (a : Ce) (lc : List (Nat × Nat)) (lf : Nat → Nat) (gl : Nat → List Nat) (sn : Nat → Nat) (us : List Es) (mk : Mk) (I : Ints) : Prop := MC a lc lf gl sn I ∧ (∀ p ∈ us, WFe a p.1 p.2 (fun _ => 0)) ∧ (∀ m, m < 4 → ∀ e, mk m = some e → WFe a e.1.1 e.1.2 e.2) ∧ MU us I ∧ MkM mk I
/-- copied to another place -/
theorem EvL.cp {b b' : Nat} {lf : Nat → Nat} {gl : Nat → List Nat} {I J : Ints} (h : EvL b lf gl I) (hlx : ∀ x, x < 6 → (gl x).length ≤ 6) (e : ∀ k, k < 48 → J 106 (b' + k) = I 106 (b + k)) : EvL b' lf gl J := by
  refine ⟨fun w hw => (e w (by omega)).trans (h.1 w hw), fun g hg => ⟨(e _ (by omega)).trans (h.2 g hg).1, fun i hi => (e _ ?_).trans ((h.2 g hg).2 i hi)⟩⟩
  have := hlx g hg
  omega
theorem EvS.cp {b b' : Nat} {sn : Nat → Nat} {I J : Ints} (h : EvS b sn I) (e : ∀ k, k < 54 → J 106 (b' + k) = I 106 (b + k)) : EvS b' sn J := fun g hg => (e _ (by omega)).trans (h g hg)
theorem UnM.cp {a : Ce} {I J : Ints} : ∀ us : List Es, (∀ p ∈ us, WFe a p.1 p.2 (fun _ => 0)) → UnM I us → (∀ i, 280 ≤ i → i < 56 * (5 + us.length) → J 106 i = I 106 i) → UnM J us
  | [], _, _, _ => trivial
  | p :: us, hw, h, e => by
    simp only [List.length_cons] at e
    exact ⟨h.1.cp (fun x hx => ((hw p (List.mem_cons_self ..)).2.1 x hx).1) (fun k hk => e _ (by omega) (by omega)), UnM.cp us (fun q hq => hw q (List.mem_cons_of_mem _ hq)) h.2 (fun i h1 h2 => e i h1 (by omega))⟩
theorem UnM.drop {a : Ce} {I J : Ints} : ∀ us : List Es, (∀ p ∈ us, WFe a p.1 p.2 (fun _ => 0)) → UnM I us → (∀ b k, 5 ≤ b → b + 1 < 5 + us.length → k < 48 → J 106 (56 * b + k) = I 106 (56 * (b + 1) + k)) → UnM J us.dropLast
  | [], _, _, _ => trivial
  | [_], _, _, _ => trivial
  | p :: p2 :: us, hw, h, e => by
    simp only [List.length_cons] at e
    refine ⟨EvL.cp h.1 (fun x hx => ((hw p (List.mem_cons_self ..)).2.1 x hx).1) (fun k hk => ?_), UnM.drop (p2 :: us) (fun q hq => hw q (List.mem_cons_of_mem _ hq)) h.2 (fun b k h1 h2 h3 => e b k h1 (by simp at h2; omega) h3)⟩
    rw [List.length_dropLast]
    simp only [List.length_cons, Nat.add_sub_cancel]
    exact e _ k (by omega) (by omega) hk
theorem copies_ok {d : Nat} {sx : Sx} {I : Ints} {L : Lngs} {R : Rfs} {q : Q3} {f t n : Nat} (hf : f < 25) (ht : t < 25) (hne : f ≠ t) (hn : n ≤ 56)
    (h : ∀ J, (∀ k, k < n → J 106 (56 * t + k) = I 106 (56 * f + k)) → (∀ i, i < 56 * t ∨ 56 * t + n ≤ i → J 106 i = I 106 i) → Fr [106] [] I J → q none J L R) : E0 mX12_copies (d + 1) sx [.ref 92, .int (nI f), .int (nI t), .int (nI n)] I L R q := by
  have hlp : ∀ m k : Nat, ∀ J, m = n - k → k ≤ n → (∀ j, j < k → J 106 (56 * t + j) = I 106 (56 * f + j)) → (∀ i, i < 56 * t ∨ 56 * t + k ≤ i → J 106 i = I 106 i) → Fr [106] [] I J → Y mX12_copies (d + 1) sx 3 [(0, .ref 92), (1, .int (nI f)), (2, .int (nI t)), (3, .int (nI n)), (4, .int (nI k))] [] J L R q := by
    intro m
    induction m with
    | zero =>
      intro k J hm hk h1 h2 h3
      have e : k = n := by omega
      subst e
      refine RX12_copies_3  ⟨fun c1 => ?_, fun c1 => ⟨?_, ⟨?_, ?_⟩⟩⟩
      · (try simp (disch := omega) only [nlit, natrem, nIrm, nIam, nIam',  nI_add, pk_mul, nIsub, nIrem, nIdiv, nIand1, nIand3, nIand7, nIand31, nIshr, nIle, nIlt, nIeq, nIc, vpI, nIm1, m1nI, m1lt, nIlm, m1le, nIlem, nIneg, u2_ss, u2_nn, u2_kk] at c1); (try simp (disch := omega) only [nlit, natrem, nIrm, nIam, nIam',  nI_add, pk_mul, nIsub, nIrem, nIdiv, nIand1, nIand3, nIand7, nIand31, nIshr, nIle, nIlt, nIeq, nIc, vpI, nIm1, m1nI, m1lt, nIlm, m1le, nIlem, nIneg, u2_ss, u2_nn, u2_kk])
        exact h J h1 h2 h3
      · (try simp (disch := omega) only [nlit, natrem, nIrm, nIam, nIam',  nI_add, pk_mul, nIsub, nIrem, nIdiv, nIand1, nIand3, nIand7, nIand31, nIshr, nIle, nIlt, nIeq, nIc, vpI, nIm1, m1nI, m1lt, nIlm, m1le, nIlem, nIneg, u2_ss, u2_nn, u2_kk] at c1) <;> (try simp (disch := omega) only [nlit, natrem, nIrm, nIam, nIam',  nI_add, pk_mul, nIsub, nIrem, nIdiv, nIand1, nIand3, nIand7, nIand31, nIshr, nIle, nIlt, nIeq, nIc, vpI, nIm1, m1nI, m1lt, nIlm, m1le, nIlem, nIneg, u2_ss, u2_nn, u2_kk]) <;> (first | omega | trivial)
      · (try simp (disch := omega) only [nlit, natrem, nIrm, nIam, nIam',  nI_add, pk_mul, nIsub, nIrem, nIdiv, nIand1, nIand3, nIand7, nIand31, nIshr, nIle, nIlt, nIeq, nIc, vpI, nIm1, m1nI, m1lt, nIlm, m1le, nIlem, nIneg, u2_ss, u2_nn, u2_kk] at c1) <;> (try simp (disch := omega) only [nlit, natrem, nIrm, nIam, nIam',  nI_add, pk_mul, nIsub, nIrem, nIdiv, nIand1, nIand3, nIand7, nIand31, nIshr, nIle, nIlt, nIeq, nIc, vpI, nIm1, m1nI, m1lt, nIlm, m1le, nIlem, nIneg, u2_ss, u2_nn, u2_kk]) <;> (first | omega | trivial)
      · (try simp (disch := omega) only [nlit, natrem, nIrm, nIam, nIam',  nI_add, pk_mul, nIsub, nIrem, nIdiv, nIand1, nIand3, nIand7, nIand31, nIshr, nIle, nIlt, nIeq, nIc, vpI, nIm1, m1nI, m1lt, nIlm, m1le, nIlem, nIneg, u2_ss, u2_nn, u2_kk] at c1) <;> (first | omega | exact absurd rfl c1 | exact absurd trivial c1)
    | succ m ih =>
      intro k J hm hk h1 h2 h3
      have e1 : J 106 (56 * f + k) = I 106 (56 * f + k) := h2 _ (by omega)
      refine RX12_copies_3  ⟨fun c1 => ?_, fun c1 => ⟨?_, ⟨?_, ?_⟩⟩⟩
      · (try simp (disch := omega) only [nlit, natrem, nIrm, nIam, nIam',  nI_add, pk_mul, nIsub, nIrem, nIdiv, nIand1, nIand3, nIand7, nIand31, nIshr, nIle, nIlt, nIeq, nIc, vpI, nIm1, m1nI, m1lt, nIlm, m1le, nIlem, nIneg, u2_ss, u2_nn, u2_kk, e1] at c1); (try simp (disch := omega) only [nlit, natrem, nIrm, nIam, nIam',  nI_add, pk_mul, nIsub, nIrem, nIdiv, nIand1, nIand3, nIand7, nIand31, nIshr, nIle, nIlt, nIeq, nIc, vpI, nIm1, m1nI, m1lt, nIlm, m1le, nIlem, nIneg, u2_ss, u2_nn, u2_kk, e1])
        omega
      · (try simp (disch := omega) only [nlit, natrem, nIrm, nIam, nIam',  nI_add, pk_mul, nIsub, nIrem, nIdiv, nIand1, nIand3, nIand7, nIand31, nIshr, nIle, nIlt, nIeq, nIc, vpI, nIm1, m1nI, m1lt, nIlm, m1le, nIlem, nIneg, u2_ss, u2_nn, u2_kk, e1] at c1) <;> (try simp (disch := omega) only [nlit, natrem, nIrm, nIam, nIam',  nI_add, pk_mul, nIsub, nIrem, nIdiv, nIand1, nIand3, nIand7, nIand31, nIshr, nIle, nIlt, nIeq, nIc, vpI, nIm1, m1nI, m1lt, nIlm, m1le, nIlem, nIneg, u2_ss, u2_nn, u2_kk, e1]) <;> (first | omega | trivial)
      · (try simp (disch := omega) only [nlit, natrem, nIrm, nIam, nIam',  nI_add, pk_mul, nIsub, nIrem, nIdiv, nIand1, nIand3, nIand7, nIand31, nIshr, nIle, nIlt, nIeq, nIc, vpI, nIm1, m1nI, m1lt, nIlm, m1le, nIlem, nIneg, u2_ss, u2_nn, u2_kk, e1] at c1) <;> (try simp (disch := omega) only [nlit, natrem, nIrm, nIam, nIam',  nI_add, pk_mul, nIsub, nIrem, nIdiv, nIand1, nIand3, nIand7, nIand31, nIshr, nIle, nIlt, nIeq, nIc, vpI, nIm1, m1nI, m1lt, nIlm, m1le, nIlem, nIneg, u2_ss, u2_nn, u2_kk, e1]) <;> (first | omega | trivial)
      · (try simp (disch := omega) only [nlit, natrem, nIrm, nIam, nIam',  nI_add, pk_mul, nIsub, nIrem, nIdiv, nIand1, nIand3, nIand7, nIand31, nIshr, nIle, nIlt, nIeq, nIc, vpI, nIm1, m1nI, m1lt, nIlm, m1le, nIlem, nIneg, u2_ss, u2_nn, u2_kk, e1] at c1); (try simp (disch := omega) only [nlit, natrem, nIrm, nIam, nIam',  nI_add, pk_mul, nIsub, nIrem, nIdiv, nIand1, nIand3, nIand7, nIand31, nIshr, nIle, nIlt, nIeq, nIc, vpI, nIm1, m1nI, m1lt, nIlm, m1le, nIlem, nIneg, u2_ss, u2_nn, u2_kk, e1])
        refine ih (k + 1) _ (by omega) (by omega) (fun j hj => ?_) (fun i hi => ?_) (h3.ua rfl)
        · by_cases e : j = k
          · rw [e, u2_ss]
          · rw [u2_kk _ _ _ _ (by omega)]; exact h1 j (by omega)
        · rw [u2_kk _ _ _ _ (by omega)]; exact h2 i (by omega)
  exact EX12_copies (hlp _ 0 I rfl (Nat.zero_le _) (fun j hj => absurd hj (Nat.not_lt_zero _)) (fun i _ => rfl) Fr.rf)
theorem push20_le {us : List Es} {x : Es} (h : us.length ≤ 20) : (push20 us x).length ≤ 20 := by
  unfold push20
  split
  · simp; omega
  · simp; omega
theorem push20_mem {us : List Es} {x p : Es} (h : p ∈ push20 us x) : p = x ∨ p ∈ us := by
  unfold push20 at h
  split at h
  · exact List.mem_cons.mp h
  · rcases List.mem_cons.mp h with h | h
    · exact Or.inl h
    · exact Or.inr ((List.dropLast_sublist us).subset h)
/-- what the model keeps for an undoing -/
theorem keeps_ok {d : Nat} {sx : Sx} {I : Ints} {L : Lngs} {R : Rfs} {q : Q3} {a : Ce} {lf : Nat → Nat} {gl : Nat → List Nat} {sn : Nat → Nat} {us : List Es} (hWe : WFe a lf gl sn) (hU : ∀ p ∈ us, WFe a p.1 p.2 (fun _ => 0)) (hM : MU us I) (hE : EvL 0 lf gl I)
    (h : ∀ J, MU (push20 us (lf, gl)) J → (∀ i, i < 280 → J 106 i = I 106 i) → Fr [106] [(92, 22)] I J → q none J L R) : E0 mX12_keeps (d + 2) sx [.ref 92] I L R q := by
  obtain ⟨m1, m2, m3⟩ := hM
  have hlx : ∀ x, x < 6 → (gl x).length ≤ 6 := fun x hx => (hWe.2.1 x hx).1
  by_cases h20 : us.length = 20
  · have hdl : us.dropLast.length = 19 := by rw [List.length_dropLast]; omega
    have hlp : ∀ m k : Nat, ∀ J, m = 20 - k → 1 ≤ k → k ≤ 20 → (∀ b j, 5 ≤ b → b < 4 + k → j < 48 → J 106 (56 * b + j) = I 106 (56 * (b + 1) + j)) → (∀ i, i < 280 ∨ 56 * (4 + k) ≤ i → J 106 i = I 106 i) → Fr [106] [] I J → Y mX12_keeps (d + 2) sx 11 [(0, .ref 92), (1, .int (nI k))] [] J L R q := by
      intro m
      induction m with
      | zero =>
        intro k J hm hk1 hk h1 h2 h3
        have e : k = 20 := by omega
        subst e
        have e22 : J 92 22 = nI 20 := by rw [h3.ar 92 rfl rfl, m1, h20]
        refine RX12_keeps_11  ⟨fun c1 => ?_, fun c1 => ?_⟩
        · (try simp (disch := omega) only [nlit, natrem, nIrm, nIam, nIam',  nI_add, pk_mul, nIsub, nIrem, nIdiv, nIand1, nIand3, nIand7, nIand31, nIshr, nIle, nIlt, nIeq, nIc, vpI, nIm1, m1nI, m1lt, nIlm, m1le, nIlem, nIneg, u2_ss, u2_nn, u2_kk, e22, Nat.reduceSub, Nat.reduceAdd] at c1); (try simp (disch := omega) only [nlit, natrem, nIrm, nIam, nIam',  nI_add, pk_mul, nIsub, nIrem, nIdiv, nIand1, nIand3, nIand7, nIand31, nIshr, nIle, nIlt, nIeq, nIc, vpI, nIm1, m1nI, m1lt, nIlm, m1le, nIlem, nIneg, u2_ss, u2_nn, u2_kk, e22, Nat.reduceSub, Nat.reduceAdd])
          refine copies_ok (f := 0) (t := 24) (n := 48) (by decide) (by decide) (by decide) (by decide) (fun K k1 k2 k3 => RX12_keeps_60 ?_)
          have e22 : K 92 22 = nI 19 := by rw [k3.ar 92 rfl rfl, u2_ss]
          simp (disch := omega) only [nlit, natrem, nIrm, nIam, nIam',  nI_add, pk_mul, nIsub, nIrem, nIdiv, nIand1, nIand3, nIand7, nIand31, nIshr, nIle, nIlt, nIeq, nIc, vpI, nIm1, m1nI, m1lt, nIlm, m1le, nIlem, nIneg, u2_ss, u2_nn, u2_kk, e22, Nat.reduceAdd]
          refine h _ ?_ (fun i hi => ?_) ?_
          · unfold push20
            rw [if_neg (by omega)]
            refine ⟨by rw [u2_ss, List.length_cons, hdl], by simp; omega, ?_, ?_⟩
            · refine hE.cp (b' := 56 * (5 + us.dropLast.length)) hlx (fun k hk => ?_)
              rw [hdl, u2_nn _ _ _ _ (by decide), k1 k hk, u2_nn _ _ _ _ (by decide)]
              exact h2 _ (by omega)
            · refine UnM.drop us hU m3 (fun b k hb1 hb2 hk => ?_)
              rw [u2_nn _ _ _ _ (by decide), k2 _ (by omega), u2_nn _ _ _ _ (by decide)]
              exact h1 b k hb1 (by omega) hk
          · rw [u2_nn _ _ _ _ (by decide), k2 i (by omega), u2_nn _ _ _ _ (by decide)]
            exact h2 i (by omega)
          · exact ((((h3.mn rfl rfl).uf (o := 92) (k := 22) (v := nI 19) rfl).tr (k3.mn rfl rfl)).uf rfl)
        · (try simp (disch := omega) only [nlit, natrem, nIrm, nIam, nIam',  nI_add, pk_mul, nIsub, nIrem, nIdiv, nIand1, nIand3, nIand7, nIand31, nIshr, nIle, nIlt, nIeq, nIc, vpI, nIm1, m1nI, m1lt, nIlm, m1le, nIlem, nIneg, u2_ss, u2_nn, u2_kk, e22, Nat.reduceSub, Nat.reduceAdd] at c1) <;> (first | omega | exact absurd rfl c1 | exact absurd trivial c1)
      | succ m ih =>
        intro k J hm hk1 hk h1 h2 h3
        refine RX12_keeps_11  ⟨fun c1 => ?_, fun c1 => ?_⟩
        · (try simp (disch := omega) only [nlit, natrem, nIrm, nIam, nIam',  nI_add, pk_mul, nIsub, nIrem, nIdiv, nIand1, nIand3, nIand7, nIand31, nIshr, nIle, nIlt, nIeq, nIc, vpI, nIm1, m1nI, m1lt, nIlm, m1le, nIlem, nIneg, u2_ss, u2_nn, u2_kk, show 5 + k - 1 = 4 + k by omega] at c1); (try simp (disch := omega) only [nlit, natrem, nIrm, nIam, nIam',  nI_add, pk_mul, nIsub, nIrem, nIdiv, nIand1, nIand3, nIand7, nIand31, nIshr, nIle, nIlt, nIeq, nIc, vpI, nIm1, m1nI, m1lt, nIlm, m1le, nIlem, nIneg, u2_ss, u2_nn, u2_kk, show 5 + k - 1 = 4 + k by omega])
          omega
        · (try simp (disch := omega) only [nlit, natrem, nIrm, nIam, nIam',  nI_add, pk_mul, nIsub, nIrem, nIdiv, nIand1, nIand3, nIand7, nIand31, nIshr, nIle, nIlt, nIeq, nIc, vpI, nIm1, m1nI, m1lt, nIlm, m1le, nIlem, nIneg, u2_ss, u2_nn, u2_kk, show 5 + k - 1 = 4 + k by omega] at c1); (try simp (disch := omega) only [nlit, natrem, nIrm, nIam, nIam',  nI_add, pk_mul, nIsub, nIrem, nIdiv, nIand1, nIand3, nIand7, nIand31, nIshr, nIle, nIlt, nIeq, nIc, vpI, nIm1, m1nI, m1lt, nIlm, m1le, nIlem, nIneg, u2_ss, u2_nn, u2_kk, show 5 + k - 1 = 4 + k by omega])
          refine copies_ok (by omega) (by omega) (by omega) (by decide) (fun K k1 k2 k3 => RX12_keeps_31 ?_)
          rw [show nI k + 1 = nI (k + 1) from nI_add k 1]
          refine ih (k + 1) K (by omega) (by omega) (by omega) (fun b j hb1 hb2 hj => ?_) (fun i hi => ?_) (h3.tr k3)
          · by_cases e : b = 4 + k
            · subst e
              rw [k1 j hj, h2 _ (by omega)]
              congr 1; omega
            · rw [k2 _ (by omega)]; exact h1 b j hb1 (by omega) hj
          · rw [k2 _ (by omega)]; exact h2 i (by omega)
    rw [h20] at m1
    refine EX12_keeps  ⟨fun c1 => ?_, fun c1 => ?_⟩
    · (try simp (disch := omega) only [nlit, natrem, nIrm, nIam, nIam',  nI_add, pk_mul, nIsub, nIrem, nIdiv, nIand1, nIand3, nIand7, nIand31, nIshr, nIle, nIlt, nIeq, nIc, vpI, nIm1, m1nI, m1lt, nIlm, m1le, nIlem, nIneg, u2_ss, u2_nn, u2_kk, m1] at c1) <;> (first | omega | exact absurd rfl c1 | exact absurd trivial c1)
    · (try simp (disch := omega) only [nlit, natrem, nIrm, nIam, nIam',  nI_add, pk_mul, nIsub, nIrem, nIdiv, nIand1, nIand3, nIand7, nIand31, nIshr, nIle, nIlt, nIeq, nIc, vpI, nIm1, m1nI, m1lt, nIlm, m1le, nIlem, nIneg, u2_ss, u2_nn, u2_kk, m1] at c1); (try simp (disch := omega) only [nlit, natrem, nIrm, nIam, nIam',  nI_add, pk_mul, nIsub, nIrem, nIdiv, nIand1, nIand3, nIand7, nIand31, nIshr, nIle, nIlt, nIeq, nIc, vpI, nIm1, m1nI, m1lt, nIlm, m1le, nIlem, nIneg, u2_ss, u2_nn, u2_kk, m1])
      exact hlp _ 1 I rfl (by decide) (by decide) (fun b j h1 h2 => by omega) (fun i _ => rfl) Fr.rf
  · skip
    refine EX12_keeps  ⟨fun c1 => ?_, fun c1 => ?_⟩
    · (try simp (disch := omega) only [nlit, natrem, nIrm, nIam, nIam',  nI_add, pk_mul, nIsub, nIrem, nIdiv, nIand1, nIand3, nIand7, nIand31, nIshr, nIle, nIlt, nIeq, nIc, vpI, nIm1, m1nI, m1lt, nIlm, m1le, nIlem, nIneg, u2_ss, u2_nn, u2_kk, m1] at c1); (try simp (disch := omega) only [nlit, natrem, nIrm, nIam, nIam',  nI_add, pk_mul, nIsub, nIrem, nIdiv, nIand1, nIand3, nIand7, nIand31, nIshr, nIle, nIlt, nIeq, nIc, vpI, nIm1, m1nI, m1lt, nIlm, m1le, nIlem, nIneg, u2_ss, u2_nn, u2_kk, m1])
      refine copies_ok (f := 0) (n := 48) (by decide) (by omega) (by omega) (by decide) (fun K k1 k2 k3 => RX12_keeps_60 ?_)
      have e22 : K 92 22 = nI us.length := by rw [k3.ar 92 rfl rfl]; exact m1
      simp (disch := omega) only [nlit, natrem, nIrm, nIam, nIam',  nI_add, pk_mul, nIsub, nIrem, nIdiv, nIand1, nIand3, nIand7, nIand31, nIshr, nIle, nIlt, nIeq, nIc, vpI, nIm1, m1nI, m1lt, nIlm, m1le, nIlem, nIneg, u2_ss, u2_nn, u2_kk, e22]
      refine h _ ?_ (fun i hi => ?_) ((k3.mn rfl rfl).uf rfl)
      · unfold push20
        rw [if_pos (by omega)]
        refine ⟨by rw [u2_ss]; rfl, by simp; omega, ?_, ?_⟩
        · refine hE.cp (b' := 56 * (5 + us.length)) hlx (fun k hk => ?_)
          rw [u2_nn _ _ _ _ (by decide), k1 k hk]
        · refine UnM.cp us hU m3 (fun i h1 h2 => ?_)
          rw [u2_nn _ _ _ _ (by decide), k2 i (by omega)]
      · rw [u2_nn _ _ _ _ (by decide), k2 i (by omega)]
    · (try simp (disch := omega) only [nlit, natrem, nIrm, nIam, nIam',  nI_add, pk_mul, nIsub, nIrem, nIdiv, nIand1, nIand3, nIand7, nIand31, nIshr, nIle, nIlt, nIeq, nIc, vpI, nIm1, m1nI, m1lt, nIlm, m1le, nIlem, nIneg, u2_ss, u2_nn, u2_kk, m1] at c1) <;> (first | omega | exact absurd rfl c1 | exact absurd trivial c1)
