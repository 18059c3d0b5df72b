/-! which cells may be reached -/
theorem bt_or2 (b e i : Nat) : bt (b ||| e) i = 1 ↔ bt b i = 1 ∨ bt e i = 1 := by
  rw [bt_tb, bt_tb, bt_tb, Nat.testBit_or]
  cases b.testBit i <;> cases e.testBit i <;> simp
theorem fillI_ok {d : Nat} {sx : Sx} {I : Ints} {L : Lngs} {R : Rfs} {q : Q3} (h : ∀ J, (∀ i, i < 256 → J 53 i = nI 0) → Kp (fun k => k ≠ 53) I J → q none J L R) : E0 mJ7_fill_53178 (d + 1) sx [.ref 53, .int 0] I L R q := by
  have hs : S0[53]? = some (Sum.inr (.int, 256)) := rfl
  have hlp : ∀ m n : Nat, ∀ J, m = 256 - n → n ≤ 256 → (∀ i, i < n → J 53 i = nI 0) → Kp (fun k => k ≠ 53) I J → Y mJ7_fill_53178 (d + 1) sx 5 [(0, .ref 53), (1, .int 0), (2, .int (nI n)), (3, .int (nI 256))] [] J L R q := by
    intro m
    induction m with
    | zero =>
      intro n J hm hn hi hF
      refine RJ7_fill_53178_5 hs ⟨fun c1 => ?_, fun c1 => ⟨?_, ?_⟩⟩
      · (try simp (disch := omega) only [nlit, natrem, nIrm, nIam, nIam',  nI_add, pk_mul, nIsub, nIrem, nIdiv, nIand1, nIand3, nIand7, nIand31, nIshr, nIle, nIlt, nIeq, nIc, vpI, nIm1, m1nI, m1lt, nIlm, m1le, nIlem, nIneg, u2_ss, u2_nn, u2_kk, nIm1n, m1nIn, m1ltn, nIlmn, m1len, nIlemn] at c1); (try simp (disch := omega) only [nlit, natrem, nIrm, nIam, nIam',  nI_add, pk_mul, nIsub, nIrem, nIdiv, nIand1, nIand3, nIand7, nIand31, nIshr, nIle, nIlt, nIeq, nIc, vpI, nIm1, m1nI, m1lt, nIlm, m1le, nIlem, nIneg, u2_ss, u2_nn, u2_kk, nIm1n, m1nIn, m1ltn, nIlmn, m1len, nIlemn])
        exact h J (fun i hi2 => hi i (by omega)) hF
      · (try simp (disch := omega) only [nlit, natrem, nIrm, nIam, nIam',  nI_add, pk_mul, nIsub, nIrem, nIdiv, nIand1, nIand3, nIand7, nIand31, nIshr, nIle, nIlt, nIeq, nIc, vpI, nIm1, m1nI, m1lt, nIlm, m1le, nIlem, nIneg, u2_ss, u2_nn, u2_kk, nIm1n, m1nIn, m1ltn, nIlmn, m1len, nIlemn] at c1) <;> (try simp (disch := omega) only [nlit, natrem, nIrm, nIam, nIam',  nI_add, pk_mul, nIsub, nIrem, nIdiv, nIand1, nIand3, nIand7, nIand31, nIshr, nIle, nIlt, nIeq, nIc, vpI, nIm1, m1nI, m1lt, nIlm, m1le, nIlem, nIneg, u2_ss, u2_nn, u2_kk, nIm1n, m1nIn, m1ltn, nIlmn, m1len, nIlemn]) <;> (first | omega | trivial)
      · (try simp (disch := omega) only [nlit, natrem, nIrm, nIam, nIam',  nI_add, pk_mul, nIsub, nIrem, nIdiv, nIand1, nIand3, nIand7, nIand31, nIshr, nIle, nIlt, nIeq, nIc, vpI, nIm1, m1nI, m1lt, nIlm, m1le, nIlem, nIneg, u2_ss, u2_nn, u2_kk, nIm1n, m1nIn, m1ltn, nIlmn, m1len, nIlemn] at c1) <;> (first | omega | exact absurd rfl c1 | exact absurd trivial c1)
    | succ m ih =>
      intro n J hm hn hi hF
      refine RJ7_fill_53178_5 hs ⟨fun c1 => ?_, fun c1 => ⟨?_, ?_⟩⟩
      · (try simp (disch := omega) only [nlit, natrem, nIrm, nIam, nIam',  nI_add, pk_mul, nIsub, nIrem, nIdiv, nIand1, nIand3, nIand7, nIand31, nIshr, nIle, nIlt, nIeq, nIc, vpI, nIm1, m1nI, m1lt, nIlm, m1le, nIlem, nIneg, u2_ss, u2_nn, u2_kk, nIm1n, m1nIn, m1ltn, nIlmn, m1len, nIlemn] at c1); (try simp (disch := omega) only [nlit, natrem, nIrm, nIam, nIam',  nI_add, pk_mul, nIsub, nIrem, nIdiv, nIand1, nIand3, nIand7, nIand31, nIshr, nIle, nIlt, nIeq, nIc, vpI, nIm1, m1nI, m1lt, nIlm, m1le, nIlem, nIneg, u2_ss, u2_nn, u2_kk, nIm1n, m1nIn, m1ltn, nIlmn, m1len, nIlemn])
        omega
      · (try simp (disch := omega) only [nlit, natrem, nIrm, nIam, nIam',  nI_add, pk_mul, nIsub, nIrem, nIdiv, nIand1, nIand3, nIand7, nIand31, nIshr, nIle, nIlt, nIeq, nIc, vpI, nIm1, m1nI, m1lt, nIlm, m1le, nIlem, nIneg, u2_ss, u2_nn, u2_kk, nIm1n, m1nIn, m1ltn, nIlmn, m1len, nIlemn] at c1) <;> (try simp (disch := omega) only [nlit, natrem, nIrm, nIam, nIam',  nI_add, pk_mul, nIsub, nIrem, nIdiv, nIand1, nIand3, nIand7, nIand31, nIshr, nIle, nIlt, nIeq, nIc, vpI, nIm1, m1nI, m1lt, nIlm, m1le, nIlem, nIneg, u2_ss, u2_nn, u2_kk, nIm1n, m1nIn, m1ltn, nIlmn, m1len, nIlemn]) <;> (first | omega | trivial)
      · (try simp (disch := omega) only [nlit, natrem, nIrm, nIam, nIam',  nI_add, pk_mul, nIsub, nIrem, nIdiv, nIand1, nIand3, nIand7, nIand31, nIshr, nIle, nIlt, nIeq, nIc, vpI, nIm1, m1nI, m1lt, nIlm, m1le, nIlem, nIneg, u2_ss, u2_nn, u2_kk, nIm1n, m1nIn, m1ltn, nIlmn, m1len, nIlemn] at c1); (try simp (disch := omega) only [nlit, natrem, nIrm, nIam, nIam',  nI_add, pk_mul, nIsub, nIrem, nIdiv, nIand1, nIand3, nIand7, nIand31, nIshr, nIle, nIlt, nIeq, nIc, vpI, nIm1, m1nI, m1lt, nIlm, m1le, nIlem, nIneg, u2_ss, u2_nn, u2_kk, nIm1n, m1nIn, m1ltn, nIlmn, m1len, nIlemn])
        refine ih (n + 1) _ (by omega) (by omega) (fun i hi2 => ?_) (hF.up (by simp))
        by_cases e : i = n
        · rw [e, u2_ss]
        · rw [u2_kk _ _ _ _ e]; exact hi i (by omega)
  exact EJ7_fill_53178 hs (hlp _ 0 I rfl (by decide) (fun i hi => absurd hi (Nat.not_lt_zero _)) Kp.rf)
def RvC (rv : Nat → Nat) (J : Ints) : Prop := ∀ p, p < 256 → J 53 p = nI (rv p) ∧ rv p < 256
def Mono (rv rv' : Nat → Nat) : Prop := ∀ p i, bt (rv p) i = 1 → bt (rv' p) i = 1
def okR (a : Ce) (lf : Nat → Nat) (n : Nat) (ws : List Nat) : Prop := ws.length = n ∧ ∀ i, i < n → ws.getD i 0 < (a 3).val ∧ 0 < lf (ws.getD i 0)
theorem reachBehind_ok {d : Nat} {sx : Sx} {I : Ints} {L : Lngs} {R : Rfs} {q : Q3} {a : Ce} {lc : List (Nat × Nat)} {lf : Nat → Nat} {gl : Nat → List Nat} {sn : Nat → Nat} {c g many n p : Nat} (hc : isCel c) (hW : WFc a) (hg : g < (a 4).val) (hE : WFe a lf gl sn) (hR6 : R 48 6 = some c) {I0 : Ints} (hC : CelC a lc c I0 L) (hm : many ≤ 6) (hn : n < many) (hp : p < 256) (hF : RwF c I0 I) (hI : RwI a lc g many I) (hL : LfC a lf [] I) {rv : Nat → Nat} (hv : RvC rv I)
    (h : ∀ J rv', RvC rv' J → Mono rv rv' → (∀ w, w < (a 3).val → 0 < lf w → bt (rv' (bh a lc g many (dor a g many n) w p)) (n + 1) = 1) → RwI a lc g many J → Kp (fun k => k ≠ 52 ∧ k ≠ 53) I J → q none J L R) : E0 mX8_reachBehind (d + 4) sx [.ref 48, .int (nI n), .int (nI p)] I L R q := by
  have w3 := hW.2.2.2.1
  have hd := dor_lt (a := a) (g := g) hn
  have hlp : ∀ m w : Nat, ∀ J rv', m = (a 3).val - w → w ≤ (a 3).val → RvC rv' J → Mono rv rv' → (∀ x, x < w → 0 < lf x → bt (rv' (bh a lc g many (dor a g many n) x p)) (n + 1) = 1) → RwI a lc g many J → Kp (fun k => k ≠ 52 ∧ k ≠ 53) I J → Y mX8_reachBehind (d + 4) sx 2 [(0, .ref 48), (1, .int (nI n)), (2, .int (nI p)), (3, .int (nI w))] [] J L R q := by
    intro m
    induction m with
    | zero =>
      intro w J rv' hm' hw h1 h2 h3 h4 h5
      have hFJ : RwF c I0 J := Kp.tr hF (h5.mn (fun k hk => by omega))
      have e7 := (hFJ.cel hc hC).1.2.2.2.2.1
      refine RX8_reachBehind_2 hc hR6 ⟨fun c1 => ?_, fun c1 => ⟨?_, ⟨fun c2 => ?_, fun c2 => ?_⟩⟩⟩
      · (try simp (disch := omega) only [nlit, natrem, nIrm, nIam, nIam',  nI_add, pk_mul, nIsub, nIrem, nIdiv, nIand1, nIand3, nIand7, nIand31, nIshr, nIle, nIlt, nIeq, nIc, vpI, nIm1, m1nI, m1lt, nIlm, m1le, nIlem, nIneg, u2_ss, u2_nn, u2_kk, nIm1n, m1nIn, m1ltn, nIlmn, m1len, nIlemn, e7] at c1); (try simp (disch := omega) only [nlit, natrem, nIrm, nIam, nIam',  nI_add, pk_mul, nIsub, nIrem, nIdiv, nIand1, nIand3, nIand7, nIand31, nIshr, nIle, nIlt, nIeq, nIc, vpI, nIm1, m1nI, m1lt, nIlm, m1le, nIlem, nIneg, u2_ss, u2_nn, u2_kk, nIm1n, m1nIn, m1ltn, nIlmn, m1len, nIlemn, e7])
        exact h J rv' h1 h2 (fun x hx => h3 x (by omega)) h4 h5
      · (try simp (disch := omega) only [nlit, natrem, nIrm, nIam, nIam',  nI_add, pk_mul, nIsub, nIrem, nIdiv, nIand1, nIand3, nIand7, nIand31, nIshr, nIle, nIlt, nIeq, nIc, vpI, nIm1, m1nI, m1lt, nIlm, m1le, nIlem, nIneg, u2_ss, u2_nn, u2_kk, nIm1n, m1nIn, m1ltn, nIlmn, m1len, nIlemn, e7] at c1) <;> (try simp (disch := omega) only [nlit, natrem, nIrm, nIam, nIam',  nI_add, pk_mul, nIsub, nIrem, nIdiv, nIand1, nIand3, nIand7, nIand31, nIshr, nIle, nIlt, nIeq, nIc, vpI, nIm1, m1nI, m1lt, nIlm, m1le, nIlem, nIneg, u2_ss, u2_nn, u2_kk, nIm1n, m1nIn, m1ltn, nIlmn, m1len, nIlemn, e7]) <;> (first | omega | trivial)
      · (try simp (disch := omega) only [nlit, natrem, nIrm, nIam, nIam',  nI_add, pk_mul, nIsub, nIrem, nIdiv, nIand1, nIand3, nIand7, nIand31, nIshr, nIle, nIlt, nIeq, nIc, vpI, nIm1, m1nI, m1lt, nIlm, m1le, nIlem, nIneg, u2_ss, u2_nn, u2_kk, nIm1n, m1nIn, m1ltn, nIlmn, m1len, nIlemn, e7] at c1 c2) <;> (first | omega | exact absurd rfl c1 | exact absurd trivial c1 | exact absurd rfl c2 | exact absurd trivial c2)
      · (try simp (disch := omega) only [nlit, natrem, nIrm, nIam, nIam',  nI_add, pk_mul, nIsub, nIrem, nIdiv, nIand1, nIand3, nIand7, nIand31, nIshr, nIle, nIlt, nIeq, nIc, vpI, nIm1, m1nI, m1lt, nIlm, m1le, nIlem, nIneg, u2_ss, u2_nn, u2_kk, nIm1n, m1nIn, m1ltn, nIlmn, m1len, nIlemn, e7] at c1 c2) <;> (first | omega | exact absurd rfl c1 | exact absurd trivial c1 | exact absurd rfl c2 | exact absurd trivial c2)
    | succ m ih =>
      intro w J rv' hm' hw h1 h2 h3 h4 h5
      have hFJ : RwF c I0 J := Kp.tr hF (h5.mn (fun k hk => by omega))
      have hCJ := hFJ.cel hc hC
      have e7 := hCJ.1.2.2.2.2.1
      have h99 := hE.1 w (by omega)
      have e50 : J 50 w = nI (lf w) := by rw [h5 50 (by decide)]; exact hL w (by omega)
      refine RX8_reachBehind_2 hc hR6 ⟨fun c1 => ?_, fun c1 => ⟨?_, ⟨fun c2 => ?_, fun c2 => ?_⟩⟩⟩
      · (try simp (disch := omega) only [nlit, natrem, nIrm, nIam, nIam',  nI_add, pk_mul, nIsub, nIrem, nIdiv, nIand1, nIand3, nIand7, nIand31, nIshr, nIle, nIlt, nIeq, nIc, vpI, nIm1, m1nI, m1lt, nIlm, m1le, nIlem, nIneg, u2_ss, u2_nn, u2_kk, nIm1n, m1nIn, m1ltn, nIlmn, m1len, nIlemn, e7, e50] at c1); (try simp (disch := omega) only [nlit, natrem, nIrm, nIam, nIam',  nI_add, pk_mul, nIsub, nIrem, nIdiv, nIand1, nIand3, nIand7, nIand31, nIshr, nIle, nIlt, nIeq, nIc, vpI, nIm1, m1nI, m1lt, nIlm, m1le, nIlem, nIneg, u2_ss, u2_nn, u2_kk, nIm1n, m1nIn, m1ltn, nIlmn, m1len, nIlemn, e7, e50])
        omega
      · (try simp (disch := omega) only [nlit, natrem, nIrm, nIam, nIam',  nI_add, pk_mul, nIsub, nIrem, nIdiv, nIand1, nIand3, nIand7, nIand31, nIshr, nIle, nIlt, nIeq, nIc, vpI, nIm1, m1nI, m1lt, nIlm, m1le, nIlem, nIneg, u2_ss, u2_nn, u2_kk, nIm1n, m1nIn, m1ltn, nIlmn, m1len, nIlemn, e7, e50] at c1) <;> (try simp (disch := omega) only [nlit, natrem, nIrm, nIam, nIam',  nI_add, pk_mul, nIsub, nIrem, nIdiv, nIand1, nIand3, nIand7, nIand31, nIshr, nIle, nIlt, nIeq, nIc, vpI, nIm1, m1nI, m1lt, nIlm, m1le, nIlem, nIneg, u2_ss, u2_nn, u2_kk, nIm1n, m1nIn, m1ltn, nIlmn, m1len, nIlemn, e7, e50]) <;> (first | omega | trivial)
      · (try simp (disch := omega) only [nlit, natrem, nIrm, nIam, nIam',  nI_add, pk_mul, nIsub, nIrem, nIdiv, nIand1, nIand3, nIand7, nIand31, nIshr, nIle, nIlt, nIeq, nIc, vpI, nIm1, m1nI, m1lt, nIlm, m1le, nIlem, nIneg, u2_ss, u2_nn, u2_kk, nIm1n, m1nIn, m1ltn, nIlmn, m1len, nIlemn, e7, e50] at c1 c2); (try simp (disch := omega) only [nlit, natrem, nIrm, nIam, nIam',  nI_add, pk_mul, nIsub, nIrem, nIdiv, nIand1, nIand3, nIand7, nIand31, nIshr, nIle, nIlt, nIeq, nIc, vpI, nIm1, m1nI, m1lt, nIlm, m1le, nIlem, nIneg, u2_ss, u2_nn, u2_kk, nIm1n, m1nIn, m1ltn, nIlmn, m1len, nIlemn, e7, e50])
        refine ih (w + 1) J rv' (by omega) (by omega) h1 h2 (fun x hx hx0 => ?_) h4 h5
        by_cases e : x = w
        · subst e; omega
        · exact h3 x (by omega) hx0
      · (try simp (disch := omega) only [nlit, natrem, nIrm, nIam, nIam',  nI_add, pk_mul, nIsub, nIrem, nIdiv, nIand1, nIand3, nIand7, nIand31, nIshr, nIle, nIlt, nIeq, nIc, vpI, nIm1, m1nI, m1lt, nIlm, m1le, nIlem, nIneg, u2_ss, u2_nn, u2_kk, nIm1n, m1nIn, m1ltn, nIlmn, m1len, nIlemn, e7, e50] at c1 c2); (try simp (disch := omega) only [nlit, natrem, nIrm, nIam, nIam',  nI_add, pk_mul, nIsub, nIrem, nIdiv, nIand1, nIand3, nIand7, nIand31, nIshr, nIle, nIlt, nIeq, nIc, vpI, nIm1, m1nI, m1lt, nIlm, m1le, nIlem, nIneg, u2_ss, u2_nn, u2_kk, nIm1n, m1nIn, m1ltn, nIlmn, m1len, nIlemn, e7, e50])
        refine danced_ok hc hW hg hR6 hCJ h4.1 h4.2.1 hm hn (RX8_reachBehind_32 ?_)
        refine behindGlass_ok hc hW hg hR6 hCJ h4 hm hd (by omega) hp (fun K hK hFK => ?_)
        have hbl := bh_lt hW (lc := lc) (g := g) (many := many) (gl := dor a g many n) (w := w) hp
        have e53 : ∀ i, K 53 i = J 53 i := fun i => by rw [hFK 53 (by decide)]
        generalize hte : bh a lc g many (dor a g many n) w p = t at *
        have e53t := (e53 t).trans (h1 t hbl).1
        have hrt := (h1 t hbl).2
        have hio := i_or (b := rv' t) (h := n + 1) (by omega)
        refine RX8_reachBehind_37  ⟨?_, ⟨?_, ?_⟩⟩
        · (try simp (disch := omega) only [nlit, natrem, nIrm, nIam, nIam',  nI_add, pk_mul, nIsub, nIrem, nIdiv, nIand1, nIand3, nIand7, nIand31, nIshr, nIle, nIlt, nIeq, nIc, vpI, nIm1, m1nI, m1lt, nIlm, m1le, nIlem, nIneg, u2_ss, u2_nn, u2_kk, nIm1n, m1nIn, m1ltn, nIlmn, m1len, nIlemn, e53t, hio]) <;> (first | omega | trivial)
        · (try simp (disch := omega) only [nlit, natrem, nIrm, nIam, nIam',  nI_add, pk_mul, nIsub, nIrem, nIdiv, nIand1, nIand3, nIand7, nIand31, nIshr, nIle, nIlt, nIeq, nIc, vpI, nIm1, m1nI, m1lt, nIlm, m1le, nIlem, nIneg, u2_ss, u2_nn, u2_kk, nIm1n, m1nIn, m1ltn, nIlmn, m1len, nIlemn, e53t, hio]) <;> (first | omega | trivial)
        · (try simp (disch := omega) only [nlit, natrem, nIrm, nIam, nIam',  nI_add, pk_mul, nIsub, nIrem, nIdiv, nIand1, nIand3, nIand7, nIand31, nIshr, nIle, nIlt, nIeq, nIc, vpI, nIm1, m1nI, m1lt, nIlm, m1le, nIlem, nIneg, u2_ss, u2_nn, u2_kk, nIm1n, m1nIn, m1ltn, nIlmn, m1len, nIlemn, e53t, hio])
          refine ih (w + 1) _ (up1 rv' t (rv' t ||| 2 ^ (n + 1))) (by omega) (by omega) (fun x hx => ?_) (fun x i hx => ?_) (fun x hx hx0 => ?_) (hK.fr (u2_nn _ _ _ _ (by decide)) (u2_nn _ _ _ _ (by decide)) (fun i => u2_nn _ _ _ _ (by decide)) (fun i => u2_nn _ _ _ _ (by decide))) ((Kp.tr h5 (hFK.mn (fun k hk => hk.1))).up (by simp))
          · by_cases e : x = t
            · subst e; rw [up1_s, u2_ss]; exact ⟨rfl, or_lt8 hrt (by omega)⟩
            · rw [up1_n _ _ e, u2_kk _ _ _ _ e, e53]; exact h1 x hx
          · by_cases e : x = t
            · subst e; rw [up1_s, bt_or2]; exact Or.inl (h2 _ _ hx)
            · rw [up1_n _ _ e]; exact h2 _ _ hx
          · by_cases e : x = w
            · rw [e, hte, up1_s, bt_or2]
              refine Or.inr ?_
              have := bt_or (b := 0) (g := n + 1) (h := n + 1)
              rw [Nat.zero_or, if_pos rfl] at this
              exact this
            · by_cases e2 : bh a lc g many (dor a g many n) x p = t
              · rw [e2, up1_s, bt_or2]
                have := h3 x (by omega) hx0
                rw [e2] at this
                exact Or.inl this
              · rw [up1_n _ _ e2]; exact h3 x (by omega) hx0
  exact EX8_reachBehind (hlp _ 0 I rv rfl (Nat.zero_le _) hv (fun _ _ hx => hx) (fun x hx => absurd hx (Nat.not_lt_zero _)) hI Kp.rf)
theorem mayReach_ok {d : Nat} {sx : Sx} {I : Ints} {L : Lngs} {R : Rfs} {q : Q3} {a : Ce} {lc : List (Nat × Nat)} {lf : Nat → Nat} {gl : Nat → List Nat} {sn : Nat → Nat} {c g many ce : Nat} (hc : isCel c) (hW : WFc a) (hg : g < (a 4).val) (hE : WFe a lf gl sn) (hR6 : R 48 6 = some c) {I0 : Ints} (hC : CelC a lc c I0 L) (hm : many ≤ 6) (hce : ce < 64) (hF : RwF c I0 I) (hI : RwI a lc g many I) (hL : LfC a lf [] I) (h5 : I 48 5 = nI ce)
    (ht : ∀ J, RwI a lc g many J → Kp (fun k => k ≠ 52 ∧ k ≠ 53) I J → q (some (.int 1)) J L R) (hf : (∀ ws, okR a lf many ws → wkA a lc g ws / 4 ≠ ce) → ∀ J, RwI a lc g many J → Kp (fun k => k ≠ 52 ∧ k ≠ 53) I J → q (some (.int 0)) J L R) : E0 mX8_mayReach (d + 5) sx [.ref 48] I L R q := by
  have w4 := hW.2.2.2.2.1
  have hh := hom_lt hW hg
  refine EX8_mayReach (fillI_ok (fun J hJ hFJ => ?_))
  have hFJ' : Kp (fun k => k ≠ 52 ∧ k ≠ 53) I J := hFJ.mn (fun k hk => hk.2)
  have hIJ : RwI a lc g many J := hI.fr (by rw [hFJ 48 (by decide)]) (by rw [hFJ 48 (by decide)]) (fun i => by rw [hFJ 51 (by decide)]) (fun i => by rw [hFJ 52 (by decide)])
  have hRJ : RwF c I0 J := Kp.tr hF (hFJ.mn (fun k hk => by omega))
  have hCJ := hRJ.cel hc hC
  have e7 := hIJ.1
  have eH := (hCJ.2.2.2.2.1 g hg).2.1
  have hout : ∀ m n : Nat, ∀ K rv, m = many - n → n ≤ many → RvC rv K → (∀ ws, okR a lf many ws → bt (rv (eB a lc g ws n)) n = 1) → RwI a lc g many K → Kp (fun k => k ≠ 52 ∧ k ≠ 53) I K → Y mX8_mayReach (d + 5) sx 28 [(0, .ref 48), (1, .int (nI n))] [] K L R q := by
    intro m
    induction m with
    | zero =>
      intro n K rv hm' hn h1 h2 h3 h4
      have e : n = many := by omega
      subst e
      have e1 := h3.2.1
      have e5 : K 48 5 = nI ce := by rw [h4 48 (by decide)]; exact h5
      have hen : ∀ m2 v e : Nat, m2 = 4 - v → v ≤ 4 → e < 256 → (∀ x, x < v → ∀ i, bt (rv (ce * 4 + x)) i = 1 → bt e i = 1) → Y mX8_mayReach (d + 5) sx 80 [(0, .ref 48), (1, .int (nI e)), (2, .int (nI v))] [] K L R q := by
        intro m2
        induction m2 with
        | zero =>
          intro v e hm2 hv he hx
          have ev : v = 4 := by omega
          subst ev
          have hbl := bt_le e n
          refine RX8_mayReach_80  ⟨fun c1 => ⟨fun c2 => ?_, fun c2 => ?_⟩, fun c1 => ⟨?_, ?_⟩⟩
          · (try simp (disch := omega) only [nlit, natrem, nIrm, nIam, nIam',  nI_add, pk_mul, nIsub, nIrem, nIdiv, nIand1, nIand3, nIand7, nIand31, nIshr, nIle, nIlt, nIeq, nIc, vpI, nIm1, m1nI, m1lt, nIlm, m1le, nIlem, nIneg, u2_ss, u2_nn, u2_kk, nIm1n, m1nIn, m1ltn, nIlmn, m1len, nIlemn, e1, bt_m] at c1 c2); (try simp (disch := omega) only [nlit, natrem, nIrm, nIam, nIam',  nI_add, pk_mul, nIsub, nIrem, nIdiv, nIand1, nIand3, nIand7, nIand31, nIshr, nIle, nIlt, nIeq, nIc, vpI, nIm1, m1nI, m1lt, nIlm, m1le, nIlem, nIneg, u2_ss, u2_nn, u2_kk, nIm1n, m1nIn, m1ltn, nIlmn, m1len, nIlemn, e1, bt_m])
            refine hf (fun ws hws hcc => ?_) K h3 h4
            have hb := h2 ws hws
            rw [← hws.1, eB_wkA] at hb
            have := hx (wkA a lc g ws % 4) (by omega) ws.length (by rw [show ce * 4 + wkA a lc g ws % 4 = wkA a lc g ws by omega]; exact hb)
            rw [hws.1] at this
            exact absurd (this.symm.trans c2) (by decide)
          · (try simp (disch := omega) only [nlit, natrem, nIrm, nIam, nIam',  nI_add, pk_mul, nIsub, nIrem, nIdiv, nIand1, nIand3, nIand7, nIand31, nIshr, nIle, nIlt, nIeq, nIc, vpI, nIm1, m1nI, m1lt, nIlm, m1le, nIlem, nIneg, u2_ss, u2_nn, u2_kk, nIm1n, m1nIn, m1ltn, nIlmn, m1len, nIlemn, e1, bt_m] at c1 c2); (try simp (disch := omega) only [nlit, natrem, nIrm, nIam, nIam',  nI_add, pk_mul, nIsub, nIrem, nIdiv, nIand1, nIand3, nIand7, nIand31, nIshr, nIle, nIlt, nIeq, nIc, vpI, nIm1, m1nI, m1lt, nIlm, m1le, nIlem, nIneg, u2_ss, u2_nn, u2_kk, nIm1n, m1nIn, m1ltn, nIlmn, m1len, nIlemn, e1, bt_m])
            exact ht K h3 h4
          · (try simp (disch := omega) only [nlit, natrem, nIrm, nIam, nIam',  nI_add, pk_mul, nIsub, nIrem, nIdiv, nIand1, nIand3, nIand7, nIand31, nIshr, nIle, nIlt, nIeq, nIc, vpI, nIm1, m1nI, m1lt, nIlm, m1le, nIlem, nIneg, u2_ss, u2_nn, u2_kk, nIm1n, m1nIn, m1ltn, nIlmn, m1len, nIlemn, e1, bt_m] at c1) <;> (try simp (disch := omega) only [nlit, natrem, nIrm, nIam, nIam',  nI_add, pk_mul, nIsub, nIrem, nIdiv, nIand1, nIand3, nIand7, nIand31, nIshr, nIle, nIlt, nIeq, nIc, vpI, nIm1, m1nI, m1lt, nIlm, m1le, nIlem, nIneg, u2_ss, u2_nn, u2_kk, nIm1n, m1nIn, m1ltn, nIlmn, m1len, nIlemn, e1, bt_m]) <;> (first | omega | trivial)
          · (try simp (disch := omega) only [nlit, natrem, nIrm, nIam, nIam',  nI_add, pk_mul, nIsub, nIrem, nIdiv, nIand1, nIand3, nIand7, nIand31, nIshr, nIle, nIlt, nIeq, nIc, vpI, nIm1, m1nI, m1lt, nIlm, m1le, nIlem, nIneg, u2_ss, u2_nn, u2_kk, nIm1n, m1nIn, m1ltn, nIlmn, m1len, nIlemn, e1, bt_m] at c1) <;> (first | omega | exact absurd rfl c1 | exact absurd trivial c1)
        | succ m2 ih2 =>
          intro v e hm2 hv he hx
          obtain ⟨e53, hrv⟩ := h1 (ce * 4 + v) (by omega)
          have hor : nI e ||| nI (rv (ce * 4 + v)) = nI (e ||| rv (ce * 4 + v)) := nIor _ _
          refine RX8_mayReach_80  ⟨fun c1 => ⟨fun c2 => ?_, fun c2 => ?_⟩, fun c1 => ⟨?_, ?_⟩⟩
          · (try simp (disch := omega) only [nlit, natrem, nIrm, nIam, nIam',  nI_add, pk_mul, nIsub, nIrem, nIdiv, nIand1, nIand3, nIand7, nIand31, nIshr, nIle, nIlt, nIeq, nIc, vpI, nIm1, m1nI, m1lt, nIlm, m1le, nIlem, nIneg, u2_ss, u2_nn, u2_kk, nIm1n, m1nIn, m1ltn, nIlmn, m1len, nIlemn, e5, e53, hor] at c1 c2) <;> (first | omega | exact absurd rfl c1 | exact absurd trivial c1 | exact absurd rfl c2 | exact absurd trivial c2)
          · (try simp (disch := omega) only [nlit, natrem, nIrm, nIam, nIam',  nI_add, pk_mul, nIsub, nIrem, nIdiv, nIand1, nIand3, nIand7, nIand31, nIshr, nIle, nIlt, nIeq, nIc, vpI, nIm1, m1nI, m1lt, nIlm, m1le, nIlem, nIneg, u2_ss, u2_nn, u2_kk, nIm1n, m1nIn, m1ltn, nIlmn, m1len, nIlemn, e5, e53, hor] at c1 c2) <;> (first | omega | exact absurd rfl c1 | exact absurd trivial c1 | exact absurd rfl c2 | exact absurd trivial c2)
          · (try simp (disch := omega) only [nlit, natrem, nIrm, nIam, nIam',  nI_add, pk_mul, nIsub, nIrem, nIdiv, nIand1, nIand3, nIand7, nIand31, nIshr, nIle, nIlt, nIeq, nIc, vpI, nIm1, m1nI, m1lt, nIlm, m1le, nIlem, nIneg, u2_ss, u2_nn, u2_kk, nIm1n, m1nIn, m1ltn, nIlmn, m1len, nIlemn, e5, e53, hor] at c1) <;> (try simp (disch := omega) only [nlit, natrem, nIrm, nIam, nIam',  nI_add, pk_mul, nIsub, nIrem, nIdiv, nIand1, nIand3, nIand7, nIand31, nIshr, nIle, nIlt, nIeq, nIc, vpI, nIm1, m1nI, m1lt, nIlm, m1le, nIlem, nIneg, u2_ss, u2_nn, u2_kk, nIm1n, m1nIn, m1ltn, nIlmn, m1len, nIlemn, e5, e53, hor]) <;> (first | omega | trivial)
          · (try simp (disch := omega) only [nlit, natrem, nIrm, nIam, nIam',  nI_add, pk_mul, nIsub, nIrem, nIdiv, nIand1, nIand3, nIand7, nIand31, nIshr, nIle, nIlt, nIeq, nIc, vpI, nIm1, m1nI, m1lt, nIlm, m1le, nIlem, nIneg, u2_ss, u2_nn, u2_kk, nIm1n, m1nIn, m1ltn, nIlmn, m1len, nIlemn, e5, e53, hor] at c1); (try simp (disch := omega) only [nlit, natrem, nIrm, nIam, nIam',  nI_add, pk_mul, nIsub, nIrem, nIdiv, nIand1, nIand3, nIand7, nIand31, nIshr, nIle, nIlt, nIeq, nIc, vpI, nIm1, m1nI, m1lt, nIlm, m1le, nIlem, nIneg, u2_ss, u2_nn, u2_kk, nIm1n, m1nIn, m1ltn, nIlmn, m1len, nIlemn, e5, e53, hor])
            refine ih2 (v + 1) (e ||| rv (ce * 4 + v)) (by omega) (by omega) (Nat.or_lt_two_pow (n := 8) he hrv) (fun x hxv i hi => ?_)
            rw [bt_or2]
            by_cases ex : x = v
            · rw [ex] at hi; exact Or.inr hi
            · exact Or.inl (hx x (by omega) i hi)
      refine RX8_mayReach_28  ⟨fun c1 => ?_, fun c1 => ?_⟩
      · (try simp (disch := omega) only [nlit, natrem, nIrm, nIam, nIam',  nI_add, pk_mul, nIsub, nIrem, nIdiv, nIand1, nIand3, nIand7, nIand31, nIshr, nIle, nIlt, nIeq, nIc, vpI, nIm1, m1nI, m1lt, nIlm, m1le, nIlem, nIneg, u2_ss, u2_nn, u2_kk, nIm1n, m1nIn, m1ltn, nIlmn, m1len, nIlemn, e1] at c1); (try simp (disch := omega) only [nlit, natrem, nIrm, nIam, nIam',  nI_add, pk_mul, nIsub, nIrem, nIdiv, nIand1, nIand3, nIand7, nIand31, nIshr, nIle, nIlt, nIeq, nIc, vpI, nIm1, m1nI, m1lt, nIlm, m1le, nIlem, nIneg, u2_ss, u2_nn, u2_kk, nIm1n, m1nIn, m1ltn, nIlmn, m1len, nIlemn, e1])
        exact hen _ 0 0 rfl (by decide) (by decide) (fun x hx => absurd hx (Nat.not_lt_zero _))
      · (try simp (disch := omega) only [nlit, natrem, nIrm, nIam, nIam',  nI_add, pk_mul, nIsub, nIrem, nIdiv, nIand1, nIand3, nIand7, nIand31, nIshr, nIle, nIlt, nIeq, nIc, vpI, nIm1, m1nI, m1lt, nIlm, m1le, nIlem, nIneg, u2_ss, u2_nn, u2_kk, nIm1n, m1nIn, m1ltn, nIlmn, m1len, nIlemn, e1] at c1) <;> (first | omega | exact absurd rfl c1 | exact absurd trivial c1)
    | succ m ih =>
      intro n K rv hm' hn h1 h2 h3 h4
      have e1 := h3.2.1
      have hin : ∀ m2 p : Nat, ∀ M rw', m2 = 256 - p → p ≤ 256 → RvC rw' M → (∀ ws, okR a lf many ws → bt (rw' (eB a lc g ws n)) n = 1) → (∀ ws, okR a lf many ws → eB a lc g ws n < p → bt (rw' (eB a lc g ws (n + 1))) (n + 1) = 1) → RwI a lc g many M → Kp (fun k => k ≠ 52 ∧ k ≠ 53) I M → Y mX8_mayReach (d + 5) sx 38 [(0, .ref 48), (1, .int (nI n)), (2, .int (nI p))] [] M L R q := by
        intro m2
        induction m2 with
        | zero =>
          intro p M rw' hm2 hp g1 g2 g3 g4 g5
          have e : p = 256 := by omega
          subst e
          refine RX8_mayReach_38  ⟨fun c1 => ?_, fun c1 => ⟨?_, ⟨fun c2 => ?_, fun c2 => ?_⟩⟩⟩
          · (try simp (disch := omega) only [nlit, natrem, nIrm, nIam, nIam',  nI_add, pk_mul, nIsub, nIrem, nIdiv, nIand1, nIand3, nIand7, nIand31, nIshr, nIle, nIlt, nIeq, nIc, vpI, nIm1, m1nI, m1lt, nIlm, m1le, nIlem, nIneg, u2_ss, u2_nn, u2_kk, nIm1n, m1nIn, m1ltn, nIlmn, m1len, nIlemn] at c1); (try simp (disch := omega) only [nlit, natrem, nIrm, nIam, nIam',  nI_add, pk_mul, nIsub, nIrem, nIdiv, nIand1, nIand3, nIand7, nIand31, nIshr, nIle, nIlt, nIeq, nIc, vpI, nIm1, m1nI, m1lt, nIlm, m1le, nIlem, nIneg, u2_ss, u2_nn, u2_kk, nIm1n, m1nIn, m1ltn, nIlmn, m1len, nIlemn])
            exact ih (n + 1) M rw' (by omega) (by omega) g1 (fun ws hws => g3 ws hws (eB_lt hW hg n)) g4 g5
          · (try simp (disch := omega) only [nlit, natrem, nIrm, nIam, nIam',  nI_add, pk_mul, nIsub, nIrem, nIdiv, nIand1, nIand3, nIand7, nIand31, nIshr, nIle, nIlt, nIeq, nIc, vpI, nIm1, m1nI, m1lt, nIlm, m1le, nIlem, nIneg, u2_ss, u2_nn, u2_kk, nIm1n, m1nIn, m1ltn, nIlmn, m1len, nIlemn] at c1) <;> (try simp (disch := omega) only [nlit, natrem, nIrm, nIam, nIam',  nI_add, pk_mul, nIsub, nIrem, nIdiv, nIand1, nIand3, nIand7, nIand31, nIshr, nIle, nIlt, nIeq, nIc, vpI, nIm1, m1nI, m1lt, nIlm, m1le, nIlem, nIneg, u2_ss, u2_nn, u2_kk, nIm1n, m1nIn, m1ltn, nIlmn, m1len, nIlemn]) <;> (first | omega | trivial)
          · (try simp (disch := omega) only [nlit, natrem, nIrm, nIam, nIam',  nI_add, pk_mul, nIsub, nIrem, nIdiv, nIand1, nIand3, nIand7, nIand31, nIshr, nIle, nIlt, nIeq, nIc, vpI, nIm1, m1nI, m1lt, nIlm, m1le, nIlem, nIneg, u2_ss, u2_nn, u2_kk, nIm1n, m1nIn, m1ltn, nIlmn, m1len, nIlemn] at c1 c2) <;> (first | omega | exact absurd rfl c1 | exact absurd trivial c1 | exact absurd rfl c2 | exact absurd trivial c2)
          · (try simp (disch := omega) only [nlit, natrem, nIrm, nIam, nIam',  nI_add, pk_mul, nIsub, nIrem, nIdiv, nIand1, nIand3, nIand7, nIand31, nIshr, nIle, nIlt, nIeq, nIc, vpI, nIm1, m1nI, m1lt, nIlm, m1le, nIlem, nIneg, u2_ss, u2_nn, u2_kk, nIm1n, m1nIn, m1ltn, nIlmn, m1len, nIlemn] at c1 c2) <;> (first | omega | exact absurd rfl c1 | exact absurd trivial c1 | exact absurd rfl c2 | exact absurd trivial c2)
        | succ m2 ih2 =>
          intro p M rw' hm2 hp g1 g2 g3 g4 g5
          obtain ⟨e53, hrv⟩ := g1 p (by omega)
          have hbl := bt_le (rw' p) n
          have hFM : RwF c I0 M := Kp.tr hF (g5.mn (fun k hk => by omega))
          refine RX8_mayReach_38  ⟨fun c1 => ?_, fun c1 => ⟨?_, ⟨fun c2 => ?_, fun c2 => ?_⟩⟩⟩
          · (try simp (disch := omega) only [nlit, natrem, nIrm, nIam, nIam',  nI_add, pk_mul, nIsub, nIrem, nIdiv, nIand1, nIand3, nIand7, nIand31, nIshr, nIle, nIlt, nIeq, nIc, vpI, nIm1, m1nI, m1lt, nIlm, m1le, nIlem, nIneg, u2_ss, u2_nn, u2_kk, nIm1n, m1nIn, m1ltn, nIlmn, m1len, nIlemn, e53, bt_m] at c1); (try simp (disch := omega) only [nlit, natrem, nIrm, nIam, nIam',  nI_add, pk_mul, nIsub, nIrem, nIdiv, nIand1, nIand3, nIand7, nIand31, nIshr, nIle, nIlt, nIeq, nIc, vpI, nIm1, m1nI, m1lt, nIlm, m1le, nIlem, nIneg, u2_ss, u2_nn, u2_kk, nIm1n, m1nIn, m1ltn, nIlmn, m1len, nIlemn, e53, bt_m])
            omega
          · (try simp (disch := omega) only [nlit, natrem, nIrm, nIam, nIam',  nI_add, pk_mul, nIsub, nIrem, nIdiv, nIand1, nIand3, nIand7, nIand31, nIshr, nIle, nIlt, nIeq, nIc, vpI, nIm1, m1nI, m1lt, nIlm, m1le, nIlem, nIneg, u2_ss, u2_nn, u2_kk, nIm1n, m1nIn, m1ltn, nIlmn, m1len, nIlemn, e53, bt_m] at c1) <;> (try simp (disch := omega) only [nlit, natrem, nIrm, nIam, nIam',  nI_add, pk_mul, nIsub, nIrem, nIdiv, nIand1, nIand3, nIand7, nIand31, nIshr, nIle, nIlt, nIeq, nIc, vpI, nIm1, m1nI, m1lt, nIlm, m1le, nIlem, nIneg, u2_ss, u2_nn, u2_kk, nIm1n, m1nIn, m1ltn, nIlmn, m1len, nIlemn, e53, bt_m]) <;> (first | omega | trivial)
          · (try simp (disch := omega) only [nlit, natrem, nIrm, nIam, nIam',  nI_add, pk_mul, nIsub, nIrem, nIdiv, nIand1, nIand3, nIand7, nIand31, nIshr, nIle, nIlt, nIeq, nIc, vpI, nIm1, m1nI, m1lt, nIlm, m1le, nIlem, nIneg, u2_ss, u2_nn, u2_kk, nIm1n, m1nIn, m1ltn, nIlmn, m1len, nIlemn, e53, bt_m] at c1 c2); (try simp (disch := omega) only [nlit, natrem, nIrm, nIam, nIam',  nI_add, pk_mul, nIsub, nIrem, nIdiv, nIand1, nIand3, nIand7, nIand31, nIshr, nIle, nIlt, nIeq, nIc, vpI, nIm1, m1nI, m1lt, nIlm, m1le, nIlem, nIneg, u2_ss, u2_nn, u2_kk, nIm1n, m1nIn, m1ltn, nIlmn, m1len, nIlemn, e53, bt_m])
            refine ih2 (p + 1) M rw' (by omega) (by omega) g1 g2 (fun ws hws hlt => ?_) g4 g5
            by_cases e : eB a lc g ws n = p
            · have := g2 ws hws
              rw [e] at this
              omega
            · exact g3 ws hws (by omega)
          · (try simp (disch := omega) only [nlit, natrem, nIrm, nIam, nIam',  nI_add, pk_mul, nIsub, nIrem, nIdiv, nIand1, nIand3, nIand7, nIand31, nIshr, nIle, nIlt, nIeq, nIc, vpI, nIm1, m1nI, m1lt, nIlm, m1le, nIlem, nIneg, u2_ss, u2_nn, u2_kk, nIm1n, m1nIn, m1ltn, nIlmn, m1len, nIlemn, e53, bt_m] at c1 c2); (try simp (disch := omega) only [nlit, natrem, nIrm, nIam, nIam',  nI_add, pk_mul, nIsub, nIrem, nIdiv, nIand1, nIand3, nIand7, nIand31, nIshr, nIle, nIlt, nIeq, nIc, vpI, nIm1, m1nI, m1lt, nIlm, m1le, nIlem, nIneg, u2_ss, u2_nn, u2_kk, nIm1n, m1nIn, m1ltn, nIlmn, m1len, nIlemn, e53, bt_m])
            refine reachBehind_ok (lf := lf) (gl := gl) (sn := sn) hc hW hg hE hR6 hC hm (by omega) (by omega) hFM g4 (fun w hw => by rw [g5 50 (by decide)]; exact hL w hw) g1 (fun N rv' n1 n2 n3 n4 n5 => RX8_mayReach_64 ?_)
            rw [show nI p + 1 = nI (p + 1) from nI_add p 1]
            refine ih2 (p + 1) N rv' (by omega) (by omega) n1 (fun ws hws => n2 _ _ (g2 ws hws)) (fun ws hws hlt => ?_) n4 (g5.tr n5)
            by_cases e : eB a lc g ws n = p
            · have hdl := dor_lt (a := a) (g := g) (many := many) (n := n) (by omega)
              obtain ⟨k1, k2⟩ := hws.2 _ hdl
              have := n3 _ k1 k2
              show bt (rv' (bh a lc g ws.length (dor a g ws.length n) (ws.getD (dor a g ws.length n) 0) (eB a lc g ws n))) (n + 1) = 1
              rw [hws.1, e]
              exact this
            · exact n2 _ _ (g3 ws hws (by omega))
      refine RX8_mayReach_28  ⟨fun c1 => ?_, fun c1 => ?_⟩
      · (try simp (disch := omega) only [nlit, natrem, nIrm, nIam, nIam',  nI_add, pk_mul, nIsub, nIrem, nIdiv, nIand1, nIand3, nIand7, nIand31, nIshr, nIle, nIlt, nIeq, nIc, vpI, nIm1, m1nI, m1lt, nIlm, m1le, nIlem, nIneg, u2_ss, u2_nn, u2_kk, nIm1n, m1nIn, m1ltn, nIlmn, m1len, nIlemn, e1] at c1); (try simp (disch := omega) only [nlit, natrem, nIrm, nIam, nIam',  nI_add, pk_mul, nIsub, nIrem, nIdiv, nIand1, nIand3, nIand7, nIand31, nIshr, nIle, nIlt, nIeq, nIc, vpI, nIm1, m1nI, m1lt, nIlm, m1le, nIlem, nIneg, u2_ss, u2_nn, u2_kk, nIm1n, m1nIn, m1ltn, nIlmn, m1len, nIlemn, e1])
        omega
      · (try simp (disch := omega) only [nlit, natrem, nIrm, nIam, nIam',  nI_add, pk_mul, nIsub, nIrem, nIdiv, nIand1, nIand3, nIand7, nIand31, nIshr, nIle, nIlt, nIeq, nIc, vpI, nIm1, m1nI, m1lt, nIlm, m1le, nIlem, nIneg, u2_ss, u2_nn, u2_kk, nIm1n, m1nIn, m1ltn, nIlmn, m1len, nIlemn, e1] at c1); (try simp (disch := omega) only [nlit, natrem, nIrm, nIam, nIam',  nI_add, pk_mul, nIsub, nIrem, nIdiv, nIand1, nIand3, nIand7, nIand31, nIshr, nIle, nIlt, nIeq, nIc, vpI, nIm1, m1nI, m1lt, nIlm, m1le, nIlem, nIneg, u2_ss, u2_nn, u2_kk, nIm1n, m1nIn, m1ltn, nIlmn, m1len, nIlemn, e1])
        exact hin _ 0 K rv rfl (by decide) h1 h2 (fun ws _ hlt => absurd hlt (Nat.not_lt_zero _)) h3 h4
  refine RX8_mayReach_8 hc hR6 ⟨?_, ⟨?_, ?_⟩⟩
  · (try simp (disch := omega) only [nlit, natrem, nIrm, nIam, nIam',  nI_add, pk_mul, nIsub, nIrem, nIdiv, nIand1, nIand3, nIand7, nIand31, nIshr, nIle, nIlt, nIeq, nIc, vpI, nIm1, m1nI, m1lt, nIlm, m1le, nIlem, nIneg, u2_ss, u2_nn, u2_kk, nIm1n, m1nIn, m1ltn, nIlmn, m1len, nIlemn, e7, eH]) <;> (first | omega | trivial)
  · (try simp (disch := omega) only [nlit, natrem, nIrm, nIam, nIam',  nI_add, pk_mul, nIsub, nIrem, nIdiv, nIand1, nIand3, nIand7, nIand31, nIshr, nIle, nIlt, nIeq, nIc, vpI, nIm1, m1nI, m1lt, nIlm, m1le, nIlem, nIneg, u2_ss, u2_nn, u2_kk, nIm1n, m1nIn, m1ltn, nIlmn, m1len, nIlemn, e7, eH]) <;> (first | omega | trivial)
  · (try simp (disch := omega) only [nlit, natrem, nIrm, nIam, nIam',  nI_add, pk_mul, nIsub, nIrem, nIdiv, nIand1, nIand3, nIand7, nIand31, nIshr, nIle, nIlt, nIeq, nIc, vpI, nIm1, m1nI, m1lt, nIlm, m1le, nIlem, nIneg, u2_ss, u2_nn, u2_kk, nIm1n, m1nIn, m1ltn, nIlmn, m1len, nIlemn, e7, eH])
    refine hout _ 0 _ (up1 (fun _ => 0) (hom a g) 1) rfl (Nat.zero_le _) (fun p hp => ?_) (fun ws hws => ?_) (hIJ.fr (u2_nn _ _ _ _ (by decide)) (u2_nn _ _ _ _ (by decide)) (fun i => u2_nn _ _ _ _ (by decide)) (fun i => u2_nn _ _ _ _ (by decide))) (hFJ'.up (by simp))
    · by_cases e : p = hom a g
      · rw [e, up1_s, u2_ss]; exact ⟨rfl, by decide⟩
      · rw [up1_n _ _ e, u2_kk _ _ _ _ e]; exact ⟨hJ p hp, by decide⟩
    · show bt (up1 (fun _ => 0) (hom a g) 1 (hom a g)) 0 = 1
      rw [up1_s]
      rfl
