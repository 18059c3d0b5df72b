/-! rows of wines -/
def gst (a : Ce) (lc : List (Nat × Nat)) (g many gl w : Nat) : Nat → List Nat
  | 0 => []
  | s + 1 => gst a lc g many gl w s ++ [if lost lc gl s (gA a g).val many then 4 else wS a w s]
theorem gst_gs {a : Ce} {lc : List (Nat × Nat)} {g : Nat} {ws : List Nat} {gl : Nat} : ∀ s, gsP a lc g ws gl s = gst a lc g ws.length gl (ws.getD gl 0) s
  | 0 => rfl
  | s + 1 => by show gsP a lc g ws gl s ++ [_] = gst a lc g _ gl _ s ++ [_]; rw [gst_gs s]; rfl
def bh (a : Ce) (lc : List (Nat × Nat)) (g many gl w p : Nat) : Nat := wk a (clP a) (gK a g).val (gst a lc g many gl w (wL a w)) p
def eB (a : Ce) (lc : List (Nat × Nat)) (g : Nat) (ws : List Nat) : Nat → Nat
  | 0 => hom a g
  | n + 1 => bh a lc g ws.length (dor a g ws.length n) (ws.getD (dor a g ws.length n) 0) (eB a lc g ws n)
theorem wk_app {a : Ce} {cl : Nat → Bool} {kd : Nat} (l m : List Nat) (p : Nat) : wk a cl kd (l ++ m) p = wk a cl kd m (wk a cl kd l p) := by unfold wk; rw [List.foldl_append]
theorem eB_rtP {a : Ce} {lc : List (Nat × Nat)} {g : Nat} {ws : List Nat} : ∀ n, eB a lc g ws n = wk a (clP a) (gK a g).val (rtP a lc g ws n) (hom a g)
  | 0 => rfl
  | n + 1 => by
    show bh a lc g _ _ _ (eB a lc g ws n) = wk a _ _ (rtP a lc g ws n ++ gsP a lc g ws _ _) _
    rw [wk_app, eB_rtP n, gst_gs]
    rfl
theorem eB_wkA {a : Ce} {lc : List (Nat × Nat)} {g : Nat} {ws : List Nat} : eB a lc g ws ws.length = wkA a lc g ws := by
  rw [eB_rtP]
  unfold wkA rt
  by_cases h : (gK a g).val = 1
  · rw [if_pos h, h, wk_w, wk_w]
  · rw [if_neg h]
theorem bh_lt {a : Ce} (hW : WFc a) {lc : List (Nat × Nat)} {g many gl w p : Nat} (hp : p < 256) : bh a lc g many gl w p < 256 := wk_lt hW.1.2 hW.2.1.2 _ _ hp
theorem eB_lt {a : Ce} (hW : WFc a) {lc : List (Nat × Nat)} {g : Nat} (hg : g < (a 4).val) {ws : List Nat} : ∀ n, eB a lc g ws n < 256
  | 0 => hom_lt hW hg
  | n + 1 => bh_lt hW (eB_lt hW hg n)
/-- what ready leaves -/
def RwL (a : Ce) (lc : List (Nat × Nat)) (g many : Nat) (J : Ints) : Prop := ∀ gl w s, gl < many → w < (a 3).val → s < wL a w → J 51 (gl * 96 + s) = if lost lc gl s (gA a g).val many then nI 1 else nI 0
def RwB (a : Ce) (lc : List (Nat × Nat)) (g many : Nat) (J : Ints) : Prop := ∀ gl w p, gl < many → w < (a 3).val → p < 256 → J 52 ((gl * 6 + w) * 256 + p) = -1 ∨ J 52 ((gl * 6 + w) * 256 + p) = nI (bh a lc g many gl w p)
def RwI (a : Ce) (lc : List (Nat × Nat)) (g many : Nat) (J : Ints) : Prop := J 48 7 = nI g ∧ J 48 1 = nI many ∧ RwL a lc g many J ∧ RwB a lc g many J
theorem nar_s : ∀ p, p < 256 → vp_nar .short ((Int32.toInt16 (nI p)).toInt32) = nI p := by decide +kernel
theorem RwI.fr {a : Ce} {lc : List (Nat × Nat)} {g many : Nat} {I J : Ints} (h : RwI a lc g many I) (h1 : J 48 7 = I 48 7) (h2 : J 48 1 = I 48 1) (h3 : ∀ i, J 51 i = I 51 i) (h4 : ∀ i, J 52 i = I 52 i) : RwI a lc g many J :=
  ⟨h1.trans h.1, h2.trans h.2.1, fun gl w s a1 a2 a3 => (h3 _).trans (h.2.2.1 gl w s a1 a2 a3), fun gl w p a1 a2 a3 => by rw [h4]; exact h.2.2.2 gl w p a1 a2 a3⟩
theorem behindGlass_ok {d : Nat} {sx : Sx} {I : Ints} {L : Lngs} {R : Rfs} {q : Q3} {a : Ce} {lc : List (Nat × Nat)} {c g many gl w p : Nat} (hc : isCel c) (hW : WFc a) (hg : g < (a 4).val) (hR6 : R 48 6 = some c) (hC : CelC a lc c I L) (hI : RwI a lc g many I) (hm : many ≤ 6) (hgl : gl < many) (hw : w < (a 3).val) (hp : p < 256)
    (h : ∀ J, RwI a lc g many J → Kp (fun k => k ≠ 52) I J → q (some (.int (nI (bh a lc g many gl w p)))) J L R) : E0 mX8_behindGlass (d + 3) sx [.ref 48, .int (nI gl), .int (nI w), .int (nI p)] I L R q := by
  obtain ⟨i1, i2, i3, i4⟩ := hI
  have hc' : c = 2 ∨ c = 14 := hc
  have w3 := hW.2.2.2.1
  have w4 := hW.2.2.2.2.1
  have w0 := hW.1.2
  have w1 := hW.2.1.2
  have hL := wL_le hW hw
  have eL := (hC.2.2.2.1 w hw).2.1
  have eK := (hC.2.2.2.2.1 g hg).1
  have hk4 := (hW.2.2.2.2.2.2.2.2.2.1 g hg).1
  have hbl := bh_lt hW (lc := lc) (g := g) (many := many) (gl := gl) (w := w) hp
  have hnar := nar_s _ hbl
  have hend : ∀ v, v = nI (bh a lc g many gl w p) → q (some (.int v)) (u2 I 52 ((gl * 6 + w) * 256 + p) v) L R := by
    intro v hv
    rw [hv]
    refine h _ ⟨?_, ?_, fun gl' w' s b1 b2 b3 => ?_, fun gl' w' p' b1 b2 b3 => ?_⟩ (Kp.rf.up (by simp))
    · rw [u2_nn _ _ _ _ (by decide)]; exact i1
    · rw [u2_nn _ _ _ _ (by decide)]; exact i2
    · rw [u2_nn _ _ _ _ (by decide)]; exact i3 gl' w' s b1 b2 b3
    · by_cases e : (gl' * 6 + w') * 256 + p' = (gl * 6 + w) * 256 + p
      · have e1 : gl' = gl := by omega
        have e2 : w' = w := by omega
        have e3 : p' = p := by omega
        rw [e, u2_ss, e1, e2, e3]
        exact Or.inr rfl
      · rw [u2_kk _ _ _ _ e]; exact i4 gl' w' p' b1 b2 b3
  have hlp : ∀ n s : Nat, n = wL a w - s → s ≤ wL a w → Y mX8_behindGlass (d + 3) sx 31 [(0, .ref 48), (1, .int (nI gl)), (2, .int (nI w)), (4, .int (nI ((gl * 6 + w) * 256 + p))), (5, .int (nI (wk a (clP a) (gK a g).val (gst a lc g many gl w s) p))), (6, .int (nI s))] [] I L R q := by
    intro n
    induction n with
    | zero =>
      intro s hn hs
      have e : s = wL a w := by omega
      subst e
      have eb : wk a (clP a) (gK a g).val (gst a lc g many gl w (wL a w)) p = bh a lc g many gl w p := rfl
      rw [eb]
      refine RX8_behindGlass_31 hc hR6 ⟨?_, ⟨fun c1 => ⟨?_, ⟨?_, ?_⟩⟩, fun c1 => ⟨?_, ⟨fun c2 => ?_, fun c2 => ⟨?_, ⟨?_, ?_⟩⟩⟩⟩⟩⟩
      · (try simp (disch := omega) only [nlit, natrem, nIrm, nIam, nIam',  nI_add, pk_mul, nIsub, nIrem, nIdiv, nIand1, nIand3, nIand7, nIand31, nIshr, nIle, nIlt, nIeq, nIc, vpI, nIm1, m1nI, m1lt, nIlm, m1le, nIlem, nIneg, u2_ss, u2_nn, u2_kk, nIm1n, m1nIn, m1ltn, nIlmn, m1len, nIlemn, eL]) <;> (first | omega | trivial)
      · (try simp (disch := omega) only [nlit, natrem, nIrm, nIam, nIam',  nI_add, pk_mul, nIsub, nIrem, nIdiv, nIand1, nIand3, nIand7, nIand31, nIshr, nIle, nIlt, nIeq, nIc, vpI, nIm1, m1nI, m1lt, nIlm, m1le, nIlem, nIneg, u2_ss, u2_nn, u2_kk, nIm1n, m1nIn, m1ltn, nIlmn, m1len, nIlemn, eL] at c1) <;> (try simp (disch := omega) only [nlit, natrem, nIrm, nIam, nIam',  nI_add, pk_mul, nIsub, nIrem, nIdiv, nIand1, nIand3, nIand7, nIand31, nIshr, nIle, nIlt, nIeq, nIc, vpI, nIm1, m1nI, m1lt, nIlm, m1le, nIlem, nIneg, u2_ss, u2_nn, u2_kk, nIm1n, m1nIn, m1ltn, nIlmn, m1len, nIlemn, eL]) <;> (first | omega | trivial)
      · (try simp (disch := omega) only [nlit, natrem, nIrm, nIam, nIam',  nI_add, pk_mul, nIsub, nIrem, nIdiv, nIand1, nIand3, nIand7, nIand31, nIshr, nIle, nIlt, nIeq, nIc, vpI, nIm1, m1nI, m1lt, nIlm, m1le, nIlem, nIneg, u2_ss, u2_nn, u2_kk, nIm1n, m1nIn, m1ltn, nIlmn, m1len, nIlemn, eL] at c1) <;> (try simp (disch := omega) only [nlit, natrem, nIrm, nIam, nIam',  nI_add, pk_mul, nIsub, nIrem, nIdiv, nIand1, nIand3, nIand7, nIand31, nIshr, nIle, nIlt, nIeq, nIc, vpI, nIm1, m1nI, m1lt, nIlm, m1le, nIlem, nIneg, u2_ss, u2_nn, u2_kk, nIm1n, m1nIn, m1ltn, nIlmn, m1len, nIlemn, eL]) <;> (first | omega | trivial)
      · (try simp (disch := omega) only [nlit, natrem, nIrm, nIam, nIam',  nI_add, pk_mul, nIsub, nIrem, nIdiv, nIand1, nIand3, nIand7, nIand31, nIshr, nIle, nIlt, nIeq, nIc, vpI, nIm1, m1nI, m1lt, nIlm, m1le, nIlem, nIneg, u2_ss, u2_nn, u2_kk, nIm1n, m1nIn, m1ltn, nIlmn, m1len, nIlemn, eL] at c1); (try simp (disch := omega) only [nlit, natrem, nIrm, nIam, nIam',  nI_add, pk_mul, nIsub, nIrem, nIdiv, nIand1, nIand3, nIand7, nIand31, nIshr, nIle, nIlt, nIeq, nIc, vpI, nIm1, m1nI, m1lt, nIlm, m1le, nIlem, nIneg, u2_ss, u2_nn, u2_kk, nIm1n, m1nIn, m1ltn, nIlmn, m1len, nIlemn, eL])
        rw [hnar]
        exact hend _ rfl
      · (try simp (disch := omega) only [nlit, natrem, nIrm, nIam, nIam',  nI_add, pk_mul, nIsub, nIrem, nIdiv, nIand1, nIand3, nIand7, nIand31, nIshr, nIle, nIlt, nIeq, nIc, vpI, nIm1, m1nI, m1lt, nIlm, m1le, nIlem, nIneg, u2_ss, u2_nn, u2_kk, nIm1n, m1nIn, m1ltn, nIlmn, m1len, nIlemn, eL] at c1) <;> (try simp (disch := omega) only [nlit, natrem, nIrm, nIam, nIam',  nI_add, pk_mul, nIsub, nIrem, nIdiv, nIand1, nIand3, nIand7, nIand31, nIshr, nIle, nIlt, nIeq, nIc, vpI, nIm1, m1nI, m1lt, nIlm, m1le, nIlem, nIneg, u2_ss, u2_nn, u2_kk, nIm1n, m1nIn, m1ltn, nIlmn, m1len, nIlemn, eL]) <;> (first | omega | trivial)
      · (try simp (disch := omega) only [nlit, natrem, nIrm, nIam, nIam',  nI_add, pk_mul, nIsub, nIrem, nIdiv, nIand1, nIand3, nIand7, nIand31, nIshr, nIle, nIlt, nIeq, nIc, vpI, nIm1, m1nI, m1lt, nIlm, m1le, nIlem, nIneg, u2_ss, u2_nn, u2_kk, nIm1n, m1nIn, m1ltn, nIlmn, m1len, nIlemn, eL] at c1 c2) <;> (first | omega | exact absurd rfl c1 | exact absurd trivial c1 | exact absurd rfl c2 | exact absurd trivial c2)
      · (try simp (disch := omega) only [nlit, natrem, nIrm, nIam, nIam',  nI_add, pk_mul, nIsub, nIrem, nIdiv, nIand1, nIand3, nIand7, nIand31, nIshr, nIle, nIlt, nIeq, nIc, vpI, nIm1, m1nI, m1lt, nIlm, m1le, nIlem, nIneg, u2_ss, u2_nn, u2_kk, nIm1n, m1nIn, m1ltn, nIlmn, m1len, nIlemn, eL] at c1 c2) <;> (try simp (disch := omega) only [nlit, natrem, nIrm, nIam, nIam',  nI_add, pk_mul, nIsub, nIrem, nIdiv, nIand1, nIand3, nIand7, nIand31, nIshr, nIle, nIlt, nIeq, nIc, vpI, nIm1, m1nI, m1lt, nIlm, m1le, nIlem, nIneg, u2_ss, u2_nn, u2_kk, nIm1n, m1nIn, m1ltn, nIlmn, m1len, nIlemn, eL]) <;> (first | omega | trivial)
      · (try simp (disch := omega) only [nlit, natrem, nIrm, nIam, nIam',  nI_add, pk_mul, nIsub, nIrem, nIdiv, nIand1, nIand3, nIand7, nIand31, nIshr, nIle, nIlt, nIeq, nIc, vpI, nIm1, m1nI, m1lt, nIlm, m1le, nIlem, nIneg, u2_ss, u2_nn, u2_kk, nIm1n, m1nIn, m1ltn, nIlmn, m1len, nIlemn, eL] at c1 c2) <;> (try simp (disch := omega) only [nlit, natrem, nIrm, nIam, nIam',  nI_add, pk_mul, nIsub, nIrem, nIdiv, nIand1, nIand3, nIand7, nIand31, nIshr, nIle, nIlt, nIeq, nIc, vpI, nIm1, m1nI, m1lt, nIlm, m1le, nIlem, nIneg, u2_ss, u2_nn, u2_kk, nIm1n, m1nIn, m1ltn, nIlmn, m1len, nIlemn, eL]) <;> (first | omega | trivial)
      · (try simp (disch := omega) only [nlit, natrem, nIrm, nIam, nIam',  nI_add, pk_mul, nIsub, nIrem, nIdiv, nIand1, nIand3, nIand7, nIand31, nIshr, nIle, nIlt, nIeq, nIc, vpI, nIm1, m1nI, m1lt, nIlm, m1le, nIlem, nIneg, u2_ss, u2_nn, u2_kk, nIm1n, m1nIn, m1ltn, nIlmn, m1len, nIlemn, eL] at c1 c2) <;> (first | omega | exact absurd rfl c1 | exact absurd trivial c1 | exact absurd rfl c2 | exact absurd trivial c2)
    | succ n ih =>
      intro s hn hs
      have e51 := i3 gl w s hgl hw (by omega)
      have e5 := (hC.2.2.2.1 w hw).2.2 s (by omega)
      have hws := wS_le hW hw s
      have hlt := wk_lt (cl := clP a) (kd := (gK a g).val) w0 w1 (gst a lc g many gl w s) p hp
      have hnx := ih (s + 1) (by omega) (by omega)
      have es : wk a (clP a) (gK a g).val (gst a lc g many gl w (s + 1)) p = aft a (clP a) (gK a g).val (wk a (clP a) (gK a g).val (gst a lc g many gl w s) p) (if lost lc gl s (gA a g).val many then 4 else wS a w s) := by
        show wk a _ _ (gst a lc g many gl w s ++ [_]) p = _
        rw [wk_app]
        rfl
      rw [es] at hnx
      by_cases hlo : lost lc gl s (gA a g).val many = true
      · rw [if_pos hlo] at e51 hnx
        rw [show aft a (clP a) (gK a g).val (wk a (clP a) (gK a g).val (gst a lc g many gl w s) p) 4 = wk a (clP a) (gK a g).val (gst a lc g many gl w s) p by unfold aft; rw [if_pos (Or.inl rfl)]] at hnx
        refine RX8_behindGlass_31 hc hR6 ⟨?_, ⟨fun c1 => ⟨?_, ⟨?_, ?_⟩⟩, fun c1 => ⟨?_, ⟨fun c2 => ?_, fun c2 => ⟨?_, ⟨?_, ?_⟩⟩⟩⟩⟩⟩
        · (try simp (disch := omega) only [nlit, natrem, nIrm, nIam, nIam',  nI_add, pk_mul, nIsub, nIrem, nIdiv, nIand1, nIand3, nIand7, nIand31, nIshr, nIle, nIlt, nIeq, nIc, vpI, nIm1, m1nI, m1lt, nIlm, m1le, nIlem, nIneg, u2_ss, u2_nn, u2_kk, nIm1n, m1nIn, m1ltn, nIlmn, m1len, nIlemn, eL, e51]) <;> (first | omega | trivial)
        · (try simp (disch := omega) only [nlit, natrem, nIrm, nIam, nIam',  nI_add, pk_mul, nIsub, nIrem, nIdiv, nIand1, nIand3, nIand7, nIand31, nIshr, nIle, nIlt, nIeq, nIc, vpI, nIm1, m1nI, m1lt, nIlm, m1le, nIlem, nIneg, u2_ss, u2_nn, u2_kk, nIm1n, m1nIn, m1ltn, nIlmn, m1len, nIlemn, eL, e51] at c1) <;> (try simp (disch := omega) only [nlit, natrem, nIrm, nIam, nIam',  nI_add, pk_mul, nIsub, nIrem, nIdiv, nIand1, nIand3, nIand7, nIand31, nIshr, nIle, nIlt, nIeq, nIc, vpI, nIm1, m1nI, m1lt, nIlm, m1le, nIlem, nIneg, u2_ss, u2_nn, u2_kk, nIm1n, m1nIn, m1ltn, nIlmn, m1len, nIlemn, eL, e51]) <;> (first | omega | trivial)
        · (try simp (disch := omega) only [nlit, natrem, nIrm, nIam, nIam',  nI_add, pk_mul, nIsub, nIrem, nIdiv, nIand1, nIand3, nIand7, nIand31, nIshr, nIle, nIlt, nIeq, nIc, vpI, nIm1, m1nI, m1lt, nIlm, m1le, nIlem, nIneg, u2_ss, u2_nn, u2_kk, nIm1n, m1nIn, m1ltn, nIlmn, m1len, nIlemn, eL, e51] at c1) <;> (try simp (disch := omega) only [nlit, natrem, nIrm, nIam, nIam',  nI_add, pk_mul, nIsub, nIrem, nIdiv, nIand1, nIand3, nIand7, nIand31, nIshr, nIle, nIlt, nIeq, nIc, vpI, nIm1, m1nI, m1lt, nIlm, m1le, nIlem, nIneg, u2_ss, u2_nn, u2_kk, nIm1n, m1nIn, m1ltn, nIlmn, m1len, nIlemn, eL, e51]) <;> (first | omega | trivial)
        · (try simp (disch := omega) only [nlit, natrem, nIrm, nIam, nIam',  nI_add, pk_mul, nIsub, nIrem, nIdiv, nIand1, nIand3, nIand7, nIand31, nIshr, nIle, nIlt, nIeq, nIc, vpI, nIm1, m1nI, m1lt, nIlm, m1le, nIlem, nIneg, u2_ss, u2_nn, u2_kk, nIm1n, m1nIn, m1ltn, nIlmn, m1len, nIlemn, eL, e51] at c1); (try simp (disch := omega) only [nlit, natrem, nIrm, nIam, nIam',  nI_add, pk_mul, nIsub, nIrem, nIdiv, nIand1, nIand3, nIand7, nIand31, nIshr, nIle, nIlt, nIeq, nIc, vpI, nIm1, m1nI, m1lt, nIlm, m1le, nIlem, nIneg, u2_ss, u2_nn, u2_kk, nIm1n, m1nIn, m1ltn, nIlmn, m1len, nIlemn, eL, e51])
          omega
        · (try simp (disch := omega) only [nlit, natrem, nIrm, nIam, nIam',  nI_add, pk_mul, nIsub, nIrem, nIdiv, nIand1, nIand3, nIand7, nIand31, nIshr, nIle, nIlt, nIeq, nIc, vpI, nIm1, m1nI, m1lt, nIlm, m1le, nIlem, nIneg, u2_ss, u2_nn, u2_kk, nIm1n, m1nIn, m1ltn, nIlmn, m1len, nIlemn, eL, e51] at c1) <;> (try simp (disch := omega) only [nlit, natrem, nIrm, nIam, nIam',  nI_add, pk_mul, nIsub, nIrem, nIdiv, nIand1, nIand3, nIand7, nIand31, nIshr, nIle, nIlt, nIeq, nIc, vpI, nIm1, m1nI, m1lt, nIlm, m1le, nIlem, nIneg, u2_ss, u2_nn, u2_kk, nIm1n, m1nIn, m1ltn, nIlmn, m1len, nIlemn, eL, e51]) <;> (first | omega | trivial)
        · (try simp (disch := omega) only [nlit, natrem, nIrm, nIam, nIam',  nI_add, pk_mul, nIsub, nIrem, nIdiv, nIand1, nIand3, nIand7, nIand31, nIshr, nIle, nIlt, nIeq, nIc, vpI, nIm1, m1nI, m1lt, nIlm, m1le, nIlem, nIneg, u2_ss, u2_nn, u2_kk, nIm1n, m1nIn, m1ltn, nIlmn, m1len, nIlemn, eL, e51] at c1 c2); (try simp (disch := omega) only [nlit, natrem, nIrm, nIam, nIam',  nI_add, pk_mul, nIsub, nIrem, nIdiv, nIand1, nIand3, nIand7, nIand31, nIshr, nIle, nIlt, nIeq, nIc, vpI, nIm1, m1nI, m1lt, nIlm, m1le, nIlem, nIneg, u2_ss, u2_nn, u2_kk, nIm1n, m1nIn, m1ltn, nIlmn, m1len, nIlemn, eL, e51])
          exact hnx
        · (try simp (disch := omega) only [nlit, natrem, nIrm, nIam, nIam',  nI_add, pk_mul, nIsub, nIrem, nIdiv, nIand1, nIand3, nIand7, nIand31, nIshr, nIle, nIlt, nIeq, nIc, vpI, nIm1, m1nI, m1lt, nIlm, m1le, nIlem, nIneg, u2_ss, u2_nn, u2_kk, nIm1n, m1nIn, m1ltn, nIlmn, m1len, nIlemn, eL, e51] at c1 c2) <;> (try simp (disch := omega) only [nlit, natrem, nIrm, nIam, nIam',  nI_add, pk_mul, nIsub, nIrem, nIdiv, nIand1, nIand3, nIand7, nIand31, nIshr, nIle, nIlt, nIeq, nIc, vpI, nIm1, m1nI, m1lt, nIlm, m1le, nIlem, nIneg, u2_ss, u2_nn, u2_kk, nIm1n, m1nIn, m1ltn, nIlmn, m1len, nIlemn, eL, e51]) <;> (first | omega | trivial)
        · (try simp (disch := omega) only [nlit, natrem, nIrm, nIam, nIam',  nI_add, pk_mul, nIsub, nIrem, nIdiv, nIand1, nIand3, nIand7, nIand31, nIshr, nIle, nIlt, nIeq, nIc, vpI, nIm1, m1nI, m1lt, nIlm, m1le, nIlem, nIneg, u2_ss, u2_nn, u2_kk, nIm1n, m1nIn, m1ltn, nIlmn, m1len, nIlemn, eL, e51] at c1 c2) <;> (try simp (disch := omega) only [nlit, natrem, nIrm, nIam, nIam',  nI_add, pk_mul, nIsub, nIrem, nIdiv, nIand1, nIand3, nIand7, nIand31, nIshr, nIle, nIlt, nIeq, nIc, vpI, nIm1, m1nI, m1lt, nIlm, m1le, nIlem, nIneg, u2_ss, u2_nn, u2_kk, nIm1n, m1nIn, m1ltn, nIlmn, m1len, nIlemn, eL, e51]) <;> (first | omega | trivial)
        · (try simp (disch := omega) only [nlit, natrem, nIrm, nIam, nIam',  nI_add, pk_mul, nIsub, nIrem, nIdiv, nIand1, nIand3, nIand7, nIand31, nIshr, nIle, nIlt, nIeq, nIc, vpI, nIm1, m1nI, m1lt, nIlm, m1le, nIlem, nIneg, u2_ss, u2_nn, u2_kk, nIm1n, m1nIn, m1ltn, nIlmn, m1len, nIlemn, eL, e51] at c1 c2) <;> (first | omega | exact absurd rfl c1 | exact absurd trivial c1 | exact absurd rfl c2 | exact absurd trivial c2)
      · rw [if_neg hlo] at e51 hnx
        refine RX8_behindGlass_31 hc hR6 ⟨?_, ⟨fun c1 => ⟨?_, ⟨?_, ?_⟩⟩, fun c1 => ⟨?_, ⟨fun c2 => ?_, fun c2 => ⟨?_, ⟨?_, ?_⟩⟩⟩⟩⟩⟩
        · (try simp (disch := omega) only [nlit, natrem, nIrm, nIam, nIam',  nI_add, pk_mul, nIsub, nIrem, nIdiv, nIand1, nIand3, nIand7, nIand31, nIshr, nIle, nIlt, nIeq, nIc, vpI, nIm1, m1nI, m1lt, nIlm, m1le, nIlem, nIneg, u2_ss, u2_nn, u2_kk, nIm1n, m1nIn, m1ltn, nIlmn, m1len, nIlemn, eL, e51, e5, i1, eK]) <;> (first | omega | trivial)
        · (try simp (disch := omega) only [nlit, natrem, nIrm, nIam, nIam',  nI_add, pk_mul, nIsub, nIrem, nIdiv, nIand1, nIand3, nIand7, nIand31, nIshr, nIle, nIlt, nIeq, nIc, vpI, nIm1, m1nI, m1lt, nIlm, m1le, nIlem, nIneg, u2_ss, u2_nn, u2_kk, nIm1n, m1nIn, m1ltn, nIlmn, m1len, nIlemn, eL, e51, e5, i1, eK] at c1) <;> (try simp (disch := omega) only [nlit, natrem, nIrm, nIam, nIam',  nI_add, pk_mul, nIsub, nIrem, nIdiv, nIand1, nIand3, nIand7, nIand31, nIshr, nIle, nIlt, nIeq, nIc, vpI, nIm1, m1nI, m1lt, nIlm, m1le, nIlem, nIneg, u2_ss, u2_nn, u2_kk, nIm1n, m1nIn, m1ltn, nIlmn, m1len, nIlemn, eL, e51, e5, i1, eK]) <;> (first | omega | trivial)
        · (try simp (disch := omega) only [nlit, natrem, nIrm, nIam, nIam',  nI_add, pk_mul, nIsub, nIrem, nIdiv, nIand1, nIand3, nIand7, nIand31, nIshr, nIle, nIlt, nIeq, nIc, vpI, nIm1, m1nI, m1lt, nIlm, m1le, nIlem, nIneg, u2_ss, u2_nn, u2_kk, nIm1n, m1nIn, m1ltn, nIlmn, m1len, nIlemn, eL, e51, e5, i1, eK] at c1) <;> (try simp (disch := omega) only [nlit, natrem, nIrm, nIam, nIam',  nI_add, pk_mul, nIsub, nIrem, nIdiv, nIand1, nIand3, nIand7, nIand31, nIshr, nIle, nIlt, nIeq, nIc, vpI, nIm1, m1nI, m1lt, nIlm, m1le, nIlem, nIneg, u2_ss, u2_nn, u2_kk, nIm1n, m1nIn, m1ltn, nIlmn, m1len, nIlemn, eL, e51, e5, i1, eK]) <;> (first | omega | trivial)
        · (try simp (disch := omega) only [nlit, natrem, nIrm, nIam, nIam',  nI_add, pk_mul, nIsub, nIrem, nIdiv, nIand1, nIand3, nIand7, nIand31, nIshr, nIle, nIlt, nIeq, nIc, vpI, nIm1, m1nI, m1lt, nIlm, m1le, nIlem, nIneg, u2_ss, u2_nn, u2_kk, nIm1n, m1nIn, m1ltn, nIlmn, m1len, nIlemn, eL, e51, e5, i1, eK] at c1); (try simp (disch := omega) only [nlit, natrem, nIrm, nIam, nIam',  nI_add, pk_mul, nIsub, nIrem, nIdiv, nIand1, nIand3, nIand7, nIand31, nIshr, nIle, nIlt, nIeq, nIc, vpI, nIm1, m1nI, m1lt, nIlm, m1le, nIlem, nIneg, u2_ss, u2_nn, u2_kk, nIm1n, m1nIn, m1ltn, nIlmn, m1len, nIlemn, eL, e51, e5, i1, eK])
          omega
        · (try simp (disch := omega) only [nlit, natrem, nIrm, nIam, nIam',  nI_add, pk_mul, nIsub, nIrem, nIdiv, nIand1, nIand3, nIand7, nIand31, nIshr, nIle, nIlt, nIeq, nIc, vpI, nIm1, m1nI, m1lt, nIlm, m1le, nIlem, nIneg, u2_ss, u2_nn, u2_kk, nIm1n, m1nIn, m1ltn, nIlmn, m1len, nIlemn, eL, e51, e5, i1, eK] at c1) <;> (try simp (disch := omega) only [nlit, natrem, nIrm, nIam, nIam',  nI_add, pk_mul, nIsub, nIrem, nIdiv, nIand1, nIand3, nIand7, nIand31, nIshr, nIle, nIlt, nIeq, nIc, vpI, nIm1, m1nI, m1lt, nIlm, m1le, nIlem, nIneg, u2_ss, u2_nn, u2_kk, nIm1n, m1nIn, m1ltn, nIlmn, m1len, nIlemn, eL, e51, e5, i1, eK]) <;> (first | omega | trivial)
        · (try simp (disch := omega) only [nlit, natrem, nIrm, nIam, nIam',  nI_add, pk_mul, nIsub, nIrem, nIdiv, nIand1, nIand3, nIand7, nIand31, nIshr, nIle, nIlt, nIeq, nIc, vpI, nIm1, m1nI, m1lt, nIlm, m1le, nIlem, nIneg, u2_ss, u2_nn, u2_kk, nIm1n, m1nIn, m1ltn, nIlmn, m1len, nIlemn, eL, e51, e5, i1, eK] at c1 c2) <;> (first | omega | exact absurd rfl c1 | exact absurd trivial c1 | exact absurd rfl c2 | exact absurd trivial c2)
        · (try simp (disch := omega) only [nlit, natrem, nIrm, nIam, nIam',  nI_add, pk_mul, nIsub, nIrem, nIdiv, nIand1, nIand3, nIand7, nIand31, nIshr, nIle, nIlt, nIeq, nIc, vpI, nIm1, m1nI, m1lt, nIlm, m1le, nIlem, nIneg, u2_ss, u2_nn, u2_kk, nIm1n, m1nIn, m1ltn, nIlmn, m1len, nIlemn, eL, e51, e5, i1, eK] at c1 c2) <;> (try simp (disch := omega) only [nlit, natrem, nIrm, nIam, nIam',  nI_add, pk_mul, nIsub, nIrem, nIdiv, nIand1, nIand3, nIand7, nIand31, nIshr, nIle, nIlt, nIeq, nIc, vpI, nIm1, m1nI, m1lt, nIlm, m1le, nIlem, nIneg, u2_ss, u2_nn, u2_kk, nIm1n, m1nIn, m1ltn, nIlmn, m1len, nIlemn, eL, e51, e5, i1, eK]) <;> (first | omega | trivial)
        · (try simp (disch := omega) only [nlit, natrem, nIrm, nIam, nIam',  nI_add, pk_mul, nIsub, nIrem, nIdiv, nIand1, nIand3, nIand7, nIand31, nIshr, nIle, nIlt, nIeq, nIc, vpI, nIm1, m1nI, m1lt, nIlm, m1le, nIlem, nIneg, u2_ss, u2_nn, u2_kk, nIm1n, m1nIn, m1ltn, nIlmn, m1len, nIlemn, eL, e51, e5, i1, eK] at c1 c2) <;> (try simp (disch := omega) only [nlit, natrem, nIrm, nIam, nIam',  nI_add, pk_mul, nIsub, nIrem, nIdiv, nIand1, nIand3, nIand7, nIand31, nIshr, nIle, nIlt, nIeq, nIc, vpI, nIm1, m1nI, m1lt, nIlm, m1le, nIlem, nIneg, u2_ss, u2_nn, u2_kk, nIm1n, m1nIn, m1ltn, nIlmn, m1len, nIlemn, eL, e51, e5, i1, eK]) <;> (first | omega | trivial)
        · (try simp (disch := omega) only [nlit, natrem, nIrm, nIam, nIam',  nI_add, pk_mul, nIsub, nIrem, nIdiv, nIand1, nIand3, nIand7, nIand31, nIshr, nIle, nIlt, nIeq, nIc, vpI, nIm1, m1nI, m1lt, nIlm, m1le, nIlem, nIneg, u2_ss, u2_nn, u2_kk, nIm1n, m1nIn, m1ltn, nIlmn, m1len, nIlemn, eL, e51, e5, i1, eK] at c1 c2); (try simp (disch := omega) only [nlit, natrem, nIrm, nIam, nIam',  nI_add, pk_mul, nIsub, nIrem, nIdiv, nIand1, nIand3, nIand7, nIand31, nIshr, nIle, nIlt, nIeq, nIc, vpI, nIm1, m1nI, m1lt, nIlm, m1le, nIlem, nIneg, u2_ss, u2_nn, u2_kk, nIm1n, m1nIn, m1ltn, nIlmn, m1len, nIlemn, eL, e51, e5, i1, eK])
          refine after_ok (cl := clP a) hc hC.1.1 hC.1.2.1 w0 w1 hC.2.1 hlt hws hk4 (RX8_behindGlass_107 ?_)
          rw [show nI s + 1 = nI (s + 1) from nI_add s 1]
          exact hnx
  rcases i4 gl w p hgl hw hp with e | e
  · have e : I 52 ((gl * 6 + w) * 256 + p) = -nI 1 := e
    refine EX8_behindGlass  ⟨?_, ⟨fun c1 => ⟨?_, ?_⟩, fun c1 => ?_⟩⟩
    · (try simp (disch := omega) only [nlit, natrem, nIrm, nIam, nIam',  nI_add, pk_mul, nIsub, nIrem, nIdiv, nIand1, nIand3, nIand7, nIand31, nIshr, nIle, nIlt, nIeq, nIc, vpI, nIm1, m1nI, m1lt, nIlm, m1le, nIlem, nIneg, u2_ss, u2_nn, u2_kk, nIm1n, m1nIn, m1ltn, nIlmn, m1len, nIlemn, e]) <;> (first | omega | trivial)
    · (try simp (disch := omega) only [nlit, natrem, nIrm, nIam, nIam',  nI_add, pk_mul, nIsub, nIrem, nIdiv, nIand1, nIand3, nIand7, nIand31, nIshr, nIle, nIlt, nIeq, nIc, vpI, nIm1, m1nI, m1lt, nIlm, m1le, nIlem, nIneg, u2_ss, u2_nn, u2_kk, nIm1n, m1nIn, m1ltn, nIlmn, m1len, nIlemn, e] at c1) <;> (try simp (disch := omega) only [nlit, natrem, nIrm, nIam, nIam',  nI_add, pk_mul, nIsub, nIrem, nIdiv, nIand1, nIand3, nIand7, nIand31, nIshr, nIle, nIlt, nIeq, nIc, vpI, nIm1, m1nI, m1lt, nIlm, m1le, nIlem, nIneg, u2_ss, u2_nn, u2_kk, nIm1n, m1nIn, m1ltn, nIlmn, m1len, nIlemn, e]) <;> (first | omega | trivial)
    · (try simp (disch := omega) only [nlit, natrem, nIrm, nIam, nIam',  nI_add, pk_mul, nIsub, nIrem, nIdiv, nIand1, nIand3, nIand7, nIand31, nIshr, nIle, nIlt, nIeq, nIc, vpI, nIm1, m1nI, m1lt, nIlm, m1le, nIlem, nIneg, u2_ss, u2_nn, u2_kk, nIm1n, m1nIn, m1ltn, nIlmn, m1len, nIlemn, e] at c1) <;> (first | omega | exact absurd rfl c1 | exact absurd trivial c1)
    · (try simp (disch := omega) only [nlit, natrem, nIrm, nIam, nIam',  nI_add, pk_mul, nIsub, nIrem, nIdiv, nIand1, nIand3, nIand7, nIand31, nIshr, nIle, nIlt, nIeq, nIc, vpI, nIm1, m1nI, m1lt, nIlm, m1le, nIlem, nIneg, u2_ss, u2_nn, u2_kk, nIm1n, m1nIn, m1ltn, nIlmn, m1len, nIlemn, e] at c1); (try simp (disch := omega) only [nlit, natrem, nIrm, nIam, nIam',  nI_add, pk_mul, nIsub, nIrem, nIdiv, nIand1, nIand3, nIand7, nIand31, nIshr, nIle, nIlt, nIeq, nIc, vpI, nIm1, m1nI, m1lt, nIlm, m1le, nIlem, nIneg, u2_ss, u2_nn, u2_kk, nIm1n, m1nIn, m1ltn, nIlmn, m1len, nIlemn, e])
      exact hlp _ 0 rfl (Nat.zero_le _)
  · skip
    refine EX8_behindGlass  ⟨?_, ⟨fun c1 => ⟨?_, ?_⟩, fun c1 => ?_⟩⟩
    · (try simp (disch := omega) only [nlit, natrem, nIrm, nIam, nIam',  nI_add, pk_mul, nIsub, nIrem, nIdiv, nIand1, nIand3, nIand7, nIand31, nIshr, nIle, nIlt, nIeq, nIc, vpI, nIm1, m1nI, m1lt, nIlm, m1le, nIlem, nIneg, u2_ss, u2_nn, u2_kk, nIm1n, m1nIn, m1ltn, nIlmn, m1len, nIlemn, e]) <;> (first | omega | trivial)
    · (try simp (disch := omega) only [nlit, natrem, nIrm, nIam, nIam',  nI_add, pk_mul, nIsub, nIrem, nIdiv, nIand1, nIand3, nIand7, nIand31, nIshr, nIle, nIlt, nIeq, nIc, vpI, nIm1, m1nI, m1lt, nIlm, m1le, nIlem, nIneg, u2_ss, u2_nn, u2_kk, nIm1n, m1nIn, m1ltn, nIlmn, m1len, nIlemn, e] at c1) <;> (try simp (disch := omega) only [nlit, natrem, nIrm, nIam, nIam',  nI_add, pk_mul, nIsub, nIrem, nIdiv, nIand1, nIand3, nIand7, nIand31, nIshr, nIle, nIlt, nIeq, nIc, vpI, nIm1, m1nI, m1lt, nIlm, m1le, nIlem, nIneg, u2_ss, u2_nn, u2_kk, nIm1n, m1nIn, m1ltn, nIlmn, m1len, nIlemn, e]) <;> (first | omega | trivial)
    · (try simp (disch := omega) only [nlit, natrem, nIrm, nIam, nIam',  nI_add, pk_mul, nIsub, nIrem, nIdiv, nIand1, nIand3, nIand7, nIand31, nIshr, nIle, nIlt, nIeq, nIc, vpI, nIm1, m1nI, m1lt, nIlm, m1le, nIlem, nIneg, u2_ss, u2_nn, u2_kk, nIm1n, m1nIn, m1ltn, nIlmn, m1len, nIlemn, e] at c1); (try simp (disch := omega) only [nlit, natrem, nIrm, nIam, nIam',  nI_add, pk_mul, nIsub, nIrem, nIdiv, nIand1, nIand3, nIand7, nIand31, nIshr, nIle, nIlt, nIeq, nIc, vpI, nIm1, m1nI, m1lt, nIlm, m1le, nIlem, nIneg, u2_ss, u2_nn, u2_kk, nIm1n, m1nIn, m1ltn, nIlmn, m1len, nIlemn, e])
      exact h I ⟨i1, i2, i3, i4⟩ Kp.rf
    · (try simp (disch := omega) only [nlit, natrem, nIrm, nIam, nIam',  nI_add, pk_mul, nIsub, nIrem, nIdiv, nIand1, nIand3, nIand7, nIand31, nIshr, nIle, nIlt, nIeq, nIc, vpI, nIm1, m1nI, m1lt, nIlm, m1le, nIlem, nIneg, u2_ss, u2_nn, u2_kk, nIm1n, m1nIn, m1ltn, nIlmn, m1len, nIlemn, e] at c1) <;> (first | omega | exact absurd rfl c1 | exact absurd trivial c1)
theorem danced_ok {d : Nat} {sx : Sx} {I : Ints} {L : Lngs} {R : Rfs} {q : Q3} {a : Ce} {lc : List (Nat × Nat)} {c g many n : Nat} (hc : isCel c) (hW : WFc a) (hg : g < (a 4).val) (hR6 : R 48 6 = some c) (hC : CelC a lc c I L) (h7 : I 48 7 = nI g) (h1 : I 48 1 = nI many) (hm : many ≤ 6) (hn : n < many) (h : q (some (.int (nI (dor a g many n)))) I L R) : E0 mX8_danced (d + 1) sx [.ref 48, .int (nI n)] I L R q := by
  have w4 := hW.2.2.2.2.1
  have eK := (hC.2.2.2.2.1 g hg).1
  refine EX8_danced hc hR6 ⟨?_, ⟨fun c1 => ?_, fun c1 => ?_⟩⟩
  · (try simp (disch := omega) only [nlit, natrem, nIrm, nIam, nIam',  nI_add, pk_mul, nIsub, nIrem, nIdiv, nIand1, nIand3, nIand7, nIand31, nIshr, nIle, nIlt, nIeq, nIc, vpI, nIm1, m1nI, m1lt, nIlm, m1le, nIlem, nIneg, u2_ss, u2_nn, u2_kk, nIm1n, m1nIn, m1ltn, nIlmn, m1len, nIlemn, h7, h1, eK]) <;> (first | omega | trivial)
  · (try simp (disch := omega) only [nlit, natrem, nIrm, nIam, nIam',  nI_add, pk_mul, nIsub, nIrem, nIdiv, nIand1, nIand3, nIand7, nIand31, nIshr, nIle, nIlt, nIeq, nIc, vpI, nIm1, m1nI, m1lt, nIlm, m1le, nIlem, nIneg, u2_ss, u2_nn, u2_kk, nIm1n, m1nIn, m1ltn, nIlmn, m1len, nIlemn, h7, h1, eK] at c1); (try simp (disch := omega) only [nlit, natrem, nIrm, nIam, nIam',  nI_add, pk_mul, nIsub, nIrem, nIdiv, nIand1, nIand3, nIand7, nIand31, nIshr, nIle, nIlt, nIeq, nIc, vpI, nIm1, m1nI, m1lt, nIlm, m1le, nIlem, nIneg, u2_ss, u2_nn, u2_kk, nIm1n, m1nIn, m1ltn, nIlmn, m1len, nIlemn, h7, h1, eK])
    unfold dor at h
    rw [if_neg c1] at h
    exact h
  · (try simp (disch := omega) only [nlit, natrem, nIrm, nIam, nIam',  nI_add, pk_mul, nIsub, nIrem, nIdiv, nIand1, nIand3, nIand7, nIand31, nIshr, nIle, nIlt, nIeq, nIc, vpI, nIm1, m1nI, m1lt, nIlm, m1le, nIlem, nIneg, u2_ss, u2_nn, u2_kk, nIm1n, m1nIn, m1ltn, nIlmn, m1len, nIlemn, h7, h1, eK] at c1); (try simp (disch := omega) only [nlit, natrem, nIrm, nIam, nIam',  nI_add, pk_mul, nIsub, nIrem, nIdiv, nIand1, nIand3, nIand7, nIand31, nIshr, nIle, nIlt, nIeq, nIc, vpI, nIm1, m1nI, m1lt, nIlm, m1le, nIlem, nIneg, u2_ss, u2_nn, u2_kk, nIm1n, m1nIn, m1ltn, nIlmn, m1len, nIlemn, h7, h1, eK])
    unfold dor at h
    rw [if_pos c1] at h
    exact h
/-- the pose behind the row -/
theorem endR_ok {d : Nat} {sx : Sx} {I : Ints} {L : Lngs} {R : Rfs} {q : Q3} {a : Ce} {lc : List (Nat × Nat)} {c g : Nat} {ws : List Nat} (hc : isCel c) (hW : WFc a) (hg : g < (a 4).val) (hR6 : R 48 6 = some c) (hC : CelC a lc c I L) (hI : RwI a lc g ws.length I) (hws : wsOk a ws) (hA : ALo I 49 0 ws)
    (h : ∀ J, RwI a lc g ws.length J → Kp (fun k => k ≠ 52) I J → q (some (.int (nI (wkA a lc g ws)))) J L R) : E0 mX8_end (d + 4) sx [.ref 48] I L R q := by
  have hc' : c = 2 ∨ c = 14 := hc
  have w4 := hW.2.2.2.2.1
  have h6 := hws.1
  have eH := (hC.2.2.2.2.1 g hg).2.1
  have hlp : ∀ m n : Nat, ∀ J, m = ws.length - n → n ≤ ws.length → RwI a lc g ws.length J → Kp (fun k => k ≠ 52) I J → Y mX8_end (d + 4) sx 15 [(0, .ref 48), (1, .int (nI (eB a lc g ws n))), (2, .int (nI n))] [] J L R q := by
    intro m
    induction m with
    | zero =>
      intro n J hm hn hJ hF
      have e : n = ws.length := by omega
      have e1 := hJ.2.1
      refine RX8_end_15  ⟨fun c1 => ?_, fun c1 => ?_⟩
      · (try simp (disch := omega) only [nlit, natrem, nIrm, nIam, nIam',  nI_add, pk_mul, nIsub, nIrem, nIdiv, nIand1, nIand3, nIand7, nIand31, nIshr, nIle, nIlt, nIeq, nIc, vpI, nIm1, m1nI, m1lt, nIlm, m1le, nIlem, nIneg, u2_ss, u2_nn, u2_kk, nIm1n, m1nIn, m1ltn, nIlmn, m1len, nIlemn, e1] at c1); (try simp (disch := omega) only [nlit, natrem, nIrm, nIam, nIam',  nI_add, pk_mul, nIsub, nIrem, nIdiv, nIand1, nIand3, nIand7, nIand31, nIshr, nIle, nIlt, nIeq, nIc, vpI, nIm1, m1nI, m1lt, nIlm, m1le, nIlem, nIneg, u2_ss, u2_nn, u2_kk, nIm1n, m1nIn, m1ltn, nIlmn, m1len, nIlemn, e1])
        rw [e, eB_wkA]
        exact h J hJ hF
      · (try simp (disch := omega) only [nlit, natrem, nIrm, nIam, nIam',  nI_add, pk_mul, nIsub, nIrem, nIdiv, nIand1, nIand3, nIand7, nIand31, nIshr, nIle, nIlt, nIeq, nIc, vpI, nIm1, m1nI, m1lt, nIlm, m1le, nIlem, nIneg, u2_ss, u2_nn, u2_kk, nIm1n, m1nIn, m1ltn, nIlmn, m1len, nIlemn, e1] at c1) <;> (first | omega | exact absurd rfl c1 | exact absurd trivial c1)
    | succ m ih =>
      intro n J hm hn hJ hF
      have e1 := hJ.2.1
      have hCJ : CelC a lc c J L := hC.fr (fun k h1 h2 => hF k (by omega)) rfl
      have hd := dor_lt (a := a) (g := g) (many := ws.length) (n := n) (by omega)
      have e9 := hA _ hd
      rw [Nat.zero_add, ← hF 49 (by decide)] at e9
      refine RX8_end_15  ⟨fun c1 => ?_, fun c1 => ?_⟩
      · (try simp (disch := omega) only [nlit, natrem, nIrm, nIam, nIam',  nI_add, pk_mul, nIsub, nIrem, nIdiv, nIand1, nIand3, nIand7, nIand31, nIshr, nIle, nIlt, nIeq, nIc, vpI, nIm1, m1nI, m1lt, nIlm, m1le, nIlem, nIneg, u2_ss, u2_nn, u2_kk, nIm1n, m1nIn, m1ltn, nIlmn, m1len, nIlemn, e1] at c1); (try simp (disch := omega) only [nlit, natrem, nIrm, nIam, nIam',  nI_add, pk_mul, nIsub, nIrem, nIdiv, nIand1, nIand3, nIand7, nIand31, nIshr, nIle, nIlt, nIeq, nIc, vpI, nIm1, m1nI, m1lt, nIlm, m1le, nIlem, nIneg, u2_ss, u2_nn, u2_kk, nIm1n, m1nIn, m1ltn, nIlmn, m1len, nIlemn, e1])
        omega
      · (try simp (disch := omega) only [nlit, natrem, nIrm, nIam, nIam',  nI_add, pk_mul, nIsub, nIrem, nIdiv, nIand1, nIand3, nIand7, nIand31, nIshr, nIle, nIlt, nIeq, nIc, vpI, nIm1, m1nI, m1lt, nIlm, m1le, nIlem, nIneg, u2_ss, u2_nn, u2_kk, nIm1n, m1nIn, m1ltn, nIlmn, m1len, nIlemn, e1] at c1); (try simp (disch := omega) only [nlit, natrem, nIrm, nIam, nIam',  nI_add, pk_mul, nIsub, nIrem, nIdiv, nIand1, nIand3, nIand7, nIand31, nIshr, nIle, nIlt, nIeq, nIc, vpI, nIm1, m1nI, m1lt, nIlm, m1le, nIlem, nIneg, u2_ss, u2_nn, u2_kk, nIm1n, m1nIn, m1ltn, nIlmn, m1len, nIlemn, e1])
        refine danced_ok hc hW hg hR6 hCJ hJ.1 e1 h6 (by omega) ?_
        refine RX8_end_28  ⟨?_, ?_⟩
        · (try simp (disch := omega) only [nlit, natrem, nIrm, nIam, nIam',  nI_add, pk_mul, nIsub, nIrem, nIdiv, nIand1, nIand3, nIand7, nIand31, nIshr, nIle, nIlt, nIeq, nIc, vpI, nIm1, m1nI, m1lt, nIlm, m1le, nIlem, nIneg, u2_ss, u2_nn, u2_kk, nIm1n, m1nIn, m1ltn, nIlmn, m1len, nIlemn, e9]) <;> (first | omega | trivial)
        · (try simp (disch := omega) only [nlit, natrem, nIrm, nIam, nIam',  nI_add, pk_mul, nIsub, nIrem, nIdiv, nIand1, nIand3, nIand7, nIand31, nIshr, nIle, nIlt, nIeq, nIc, vpI, nIm1, m1nI, m1lt, nIlm, m1le, nIlem, nIneg, u2_ss, u2_nn, u2_kk, nIm1n, m1nIn, m1ltn, nIlmn, m1len, nIlemn, e9])
          refine behindGlass_ok hc hW hg hR6 hCJ hJ h6 hd (hws.2 _ hd) (eB_lt hW hg n) (fun K hK hFK => RX8_end_41 ?_)
          rw [show nI n + 1 = nI (n + 1) from nI_add n 1]
          exact ih (n + 1) K (by omega) (by omega) hK (hF.tr hFK)
  have e7 := hI.1
  refine EX8_end hc hR6 ⟨?_, ?_⟩
  · (try simp (disch := omega) only [nlit, natrem, nIrm, nIam, nIam',  nI_add, pk_mul, nIsub, nIrem, nIdiv, nIand1, nIand3, nIand7, nIand31, nIshr, nIle, nIlt, nIeq, nIc, vpI, nIm1, m1nI, m1lt, nIlm, m1le, nIlem, nIneg, u2_ss, u2_nn, u2_kk, nIm1n, m1nIn, m1ltn, nIlmn, m1len, nIlemn, e7, eH]) <;> (first | omega | trivial)
  · (try simp (disch := omega) only [nlit, natrem, nIrm, nIam, nIam',  nI_add, pk_mul, nIsub, nIrem, nIdiv, nIand1, nIand3, nIand7, nIand31, nIshr, nIle, nIlt, nIeq, nIc, vpI, nIm1, m1nI, m1lt, nIlm, m1le, nIlem, nIneg, u2_ss, u2_nn, u2_kk, nIm1n, m1nIn, m1ltn, nIlmn, m1len, nIlemn, e7, eH])
    exact hlp _ 0 I rfl (Nat.zero_le _) hI Kp.rf
/-! ready -/
theorem rangeCheck_ok {d : Nat} {sx : Sx} {I : Ints} {L : Lngs} {R : Rfs} {q : Q3} {n x y : Nat} (h1 : x ≤ y) (h2 : y ≤ n) (hn : n < 2147483648) (h : q none I L R) : E0 mJ7_rangeCheck_23922 (d + 1) sx [.int (nI n), .int (nI x), .int (nI y)] I L R q := by
  refine EJ7_rangeCheck_23922 ⟨fun c1 => ⟨fun c2 => ⟨fun c3 => h, fun c3 => c3 ((nIle (by omega) hn).mpr h2)⟩, fun c2 => c2 ((nIle (by decide) (by omega)).mpr (Nat.zero_le _))⟩, fun c1 => c1 ((nIle (by omega) (by omega)).mpr h1)⟩
theorem nar_m1 : vp_nar .short (-1) = -1 := by decide
theorem fillS_ok {d : Nat} {sx : Sx} {I : Ints} {L : Lngs} {R : Rfs} {q : Q3} {y : Nat} (hy : y ≤ 9216) (h : ∀ J, (∀ i, i < y → J 52 i = -1) → Kp (fun k => k ≠ 52) I J → q none J L R) : E0 mJ7_fill_d734e (d + 2) sx [.ref 52, .int 0, .int (nI y), .int (-1)] I L R q := by
  have hs : S0[52]? = some (Sum.inr (.short, 9216)) := rfl
  have hlp : ∀ m n : Nat, ∀ J, m = y - n → n ≤ y → (∀ i, i < n → J 52 i = -1) → Kp (fun k => k ≠ 52) I J → Y mJ7_fill_d734e (d + 2) sx 10 [(0, .ref 52), (2, .int (nI y)), (3, .int (-1)), (4, .int (nI n))] [] J L R q := by
    intro m
    induction m with
    | zero =>
      intro n J hm hn hi hF
      refine RJ7_fill_d734e_10 hs ⟨fun c1 => ?_, fun c1 => ⟨?_, ?_⟩⟩
      · (try simp (disch := omega) only [nlit, natrem, nIrm, nIam, nIam',  nI_add, pk_mul, nIsub, nIrem, nIdiv, nIand1, nIand3, nIand7, nIand31, nIshr, nIle, nIlt, nIeq, nIc, vpI, nIm1, m1nI, m1lt, nIlm, m1le, nIlem, nIneg, u2_ss, u2_nn, u2_kk, nIm1n, m1nIn, m1ltn, nIlmn, m1len, nIlemn] at c1); (try simp (disch := omega) only [nlit, natrem, nIrm, nIam, nIam',  nI_add, pk_mul, nIsub, nIrem, nIdiv, nIand1, nIand3, nIand7, nIand31, nIshr, nIle, nIlt, nIeq, nIc, vpI, nIm1, m1nI, m1lt, nIlm, m1le, nIlem, nIneg, u2_ss, u2_nn, u2_kk, nIm1n, m1nIn, m1ltn, nIlmn, m1len, nIlemn])
        exact h J (fun i hi2 => hi i (by omega)) hF
      · (try simp (disch := omega) only [nlit, natrem, nIrm, nIam, nIam',  nI_add, pk_mul, nIsub, nIrem, nIdiv, nIand1, nIand3, nIand7, nIand31, nIshr, nIle, nIlt, nIeq, nIc, vpI, nIm1, m1nI, m1lt, nIlm, m1le, nIlem, nIneg, u2_ss, u2_nn, u2_kk, nIm1n, m1nIn, m1ltn, nIlmn, m1len, nIlemn] at c1) <;> (try simp (disch := omega) only [nlit, natrem, nIrm, nIam, nIam',  nI_add, pk_mul, nIsub, nIrem, nIdiv, nIand1, nIand3, nIand7, nIand31, nIshr, nIle, nIlt, nIeq, nIc, vpI, nIm1, m1nI, m1lt, nIlm, m1le, nIlem, nIneg, u2_ss, u2_nn, u2_kk, nIm1n, m1nIn, m1ltn, nIlmn, m1len, nIlemn]) <;> (first | omega | trivial)
      · (try simp (disch := omega) only [nlit, natrem, nIrm, nIam, nIam',  nI_add, pk_mul, nIsub, nIrem, nIdiv, nIand1, nIand3, nIand7, nIand31, nIshr, nIle, nIlt, nIeq, nIc, vpI, nIm1, m1nI, m1lt, nIlm, m1le, nIlem, nIneg, u2_ss, u2_nn, u2_kk, nIm1n, m1nIn, m1ltn, nIlmn, m1len, nIlemn] at c1) <;> (first | omega | exact absurd rfl c1 | exact absurd trivial c1)
    | succ m ih =>
      intro n J hm hn hi hF
      refine RJ7_fill_d734e_10 hs ⟨fun cc => ?_, fun cc => ⟨?_, ?_⟩⟩
      · exfalso
        rw [nIle (by omega) (by omega)] at cc
        omega
      · simp (disch := omega) only [nlit, natrem, nIrm, nIam, nIam',  nI_add, pk_mul, nIsub, nIrem, nIdiv, nIand1, nIand3, nIand7, nIand31, nIshr, nIle, nIlt, nIeq, nIc, vpI, nIm1, m1nI, m1lt, nIlm, m1le, nIlem, nIneg, u2_ss, u2_nn, u2_kk, nIm1n, m1nIn, m1ltn, nIlmn, m1len, nIlemn]; omega
      · rw [nar_m1, nIc (by omega), show nI n + 1 = nI (n + 1) from nI_add n 1]
        refine ih (n + 1) _ (by omega) (by omega) (fun i hi2 => ?_) (hF.up (by simp))
        by_cases e : i = n
        · rw [e, u2_ss]
        · rw [u2_kk _ _ _ _ e]; exact hi i (by omega)
  refine EJ7_fill_d734e hs (rangeCheck_ok (n := 9216) (x := 0) (by omega) hy (by decide) (RJ7_fill_d734e_7 hs ?_))
  exact hlp _ 0 I rfl (Nat.zero_le _) (fun i hi => absurd hi (Nat.not_lt_zero _)) Kp.rf
def mxW (a : Ce) : Nat → Nat
  | 0 => 0
  | w + 1 => max (mxW a w) (wL a w)
theorem mxW_le {a : Ce} (hW : WFc a) : ∀ w, w ≤ (a 3).val → mxW a w ≤ 96
  | 0, _ => Nat.zero_le _
  | w + 1, h => by have := mxW_le hW w (by omega); have := wL_le hW (w := w) (by omega); show max _ _ ≤ _; omega
theorem mxW_ge {a : Ce} : ∀ n w, w < n → wL a w ≤ mxW a n
  | 0, _, h => absurd h (Nat.not_lt_zero _)
  | n + 1, w, h => by
    show _ ≤ max (mxW a n) (wL a n)
    by_cases e : w = n
    · rw [e]; omega
    · have := mxW_ge (a := a) n w (by omega); omega
theorem ready_ok {d : Nat} {sx : Sx} {I : Ints} {L : Lngs} {R : Rfs} {q : Q3} {a : Ce} {lc : List (Nat × Nat)} {c g many : Nat} (hc : isCel c) (hW : WFc a) (hg : g < (a 4).val) (hC : CelC a lc c I L) (hm : many ≤ 6)
    (h : ∀ J, RwI a lc g many J → Kp (fun k => k ≠ 48 ∧ k ≠ 51 ∧ k ≠ 52 ∧ k ≠ c + 11) I J → (∀ i, i ≠ 7 → i ≠ 1 → J 48 i = I 48 i) → q none J L (u2 R 48 6 (some c))) : E0 mX8_ready (d + 4) sx [.ref 48, .ref c, .int (nI g), .int (nI many)] I L R q := by
  have hc' : c = 2 ∨ c = 14 := hc
  have w4 := hW.2.2.2.2.1
  have w3 := hW.2.2.2.1
  have hmx := mxW_le hW _ (Nat.le_refl (a 3).val)
  refine EX8_ready hc ?_
  rw [show nI many * 6 * 256 = nI (many * 6 * 256) by rw [show (6 : Int32) = nI 6 from rfl, pk_mul, show (256 : Int32) = nI 256 from rfl, pk_mul]]
  refine fillS_ok (by omega) (fun J hJ hF => RX8_ready_32 hc ?_)
  have hF1 : Kp (fun k => k ≠ 48 ∧ k ≠ 51 ∧ k ≠ 52 ∧ k ≠ c + 11) I J := Kp.tr ((Kp.rf.up (by simp)).up (by simp)) (hF.mn (fun k hk => hk.2.2.1))
  have h487 : J 48 7 = nI g := by rw [hF 48 (by decide), u2_kk _ _ _ _ (by decide), u2_ss]
  have h481 : J 48 1 = nI many := by rw [hF 48 (by decide), u2_ss]
  have h48 : ∀ i, i ≠ 7 → i ≠ 1 → J 48 i = I 48 i := fun i h7 h1 => by rw [hF 48 (by decide), u2_kk _ _ _ _ h1, u2_kk _ _ _ _ h7]
  have hB : RwB a lc g many J := fun gl w p b1 b2 b3 => Or.inl (hJ _ (by omega))
  have hcel : ∀ K, Kp (fun k => k ≠ 48 ∧ k ≠ 51 ∧ k ≠ 52 ∧ k ≠ c + 11) I K → CelC a lc c K L := fun K hK => hC.fr (fun k h1 h2 => hK k ⟨by omega, by omega, by omega, by omega⟩) rfl
  generalize u2 R 48 6 (some c) = T at *
  have hout : ∀ m n : Nat, ∀ K, m = many - n → n ≤ many → Kp (fun k => k ≠ 51 ∧ k ≠ c + 11) J K → (∀ gl s, gl < n → s < mxW a (a 3).val → K 51 (gl * 96 + s) = if lost lc gl s (gA a g).val many then nI 1 else nI 0) → Y mX8_ready (d + 4) sx 70 [(0, .ref 48), (1, .ref c), (2, .int (nI g)), (3, .int (nI many)), (4, .int (nI (mxW a (a 3).val))), (5, .int (nI n))] [] K L T q := by
    intro m
    induction m with
    | zero =>
      intro n K hm' hn hFK h51
      refine RX8_ready_70 hc ⟨fun c1 => ?_, fun c1 => ?_⟩
      · (try simp (disch := omega) only [nlit, natrem, nIrm, nIam, nIam',  nI_add, pk_mul, nIsub, nIrem, nIdiv, nIand1, nIand3, nIand7, nIand31, nIshr, nIle, nIlt, nIeq, nIc, vpI, nIm1, m1nI, m1lt, nIlm, m1le, nIlem, nIneg, u2_ss, u2_nn, u2_kk, nIm1n, m1nIn, m1ltn, nIlmn, m1len, nIlemn] at c1); (try simp (disch := omega) only [nlit, natrem, nIrm, nIam, nIam',  nI_add, pk_mul, nIsub, nIrem, nIdiv, nIand1, nIand3, nIand7, nIand31, nIshr, nIle, nIlt, nIeq, nIc, vpI, nIm1, m1nI, m1lt, nIlm, m1le, nIlem, nIneg, u2_ss, u2_nn, u2_kk, nIm1n, m1nIn, m1ltn, nIlmn, m1len, nIlemn])
        refine h K ⟨?_, ?_, fun gl w s b1 b2 b3 => h51 gl s (by omega) (Nat.lt_of_lt_of_le b3 (mxW_ge _ w b2)), fun gl w p b1 b2 b3 => ?_⟩ (hF1.tr (hFK.mn (fun k hk => ⟨hk.2.1, hk.2.2.2⟩))) (fun i h7 h1 => ?_)
        · rw [hFK 48 ⟨by omega, by omega⟩]; exact h487
        · rw [hFK 48 ⟨by omega, by omega⟩]; exact h481
        · rw [hFK 52 ⟨by omega, by omega⟩]; exact hB gl w p b1 b2 b3
        · rw [hFK 48 ⟨by omega, by omega⟩]; exact h48 i h7 h1
      · (try simp (disch := omega) only [nlit, natrem, nIrm, nIam, nIam',  nI_add, pk_mul, nIsub, nIrem, nIdiv, nIand1, nIand3, nIand7, nIand31, nIshr, nIle, nIlt, nIeq, nIc, vpI, nIm1, m1nI, m1lt, nIlm, m1le, nIlem, nIneg, u2_ss, u2_nn, u2_kk, nIm1n, m1nIn, m1ltn, nIlmn, m1len, nIlemn] at c1) <;> (first | omega | exact absurd rfl c1 | exact absurd trivial c1)
    | succ m ih =>
      intro n K hm' hn hFK h51
      have hin : ∀ m2 s : Nat, ∀ M, m2 = mxW a (a 3).val - s → s ≤ mxW a (a 3).val → Kp (fun k => k ≠ 51 ∧ k ≠ c + 11) J M → (∀ gl s, gl < n → s < mxW a (a 3).val → M 51 (gl * 96 + s) = if lost lc gl s (gA a g).val many then nI 1 else nI 0) → (∀ x, x < s → M 51 (n * 96 + x) = if lost lc n x (gA a g).val many then nI 1 else nI 0) → Y mX8_ready (d + 4) sx 79 [(0, .ref 48), (1, .ref c), (2, .int (nI g)), (3, .int (nI many)), (4, .int (nI (mxW a (a 3).val))), (5, .int (nI n)), (6, .int (nI s))] [] M L T q := by
        intro m2
        induction m2 with
        | zero =>
          intro s M hm2 hs hFM h1 h2
          refine RX8_ready_79 hc ⟨fun c1 => ?_, fun c1 => ?_⟩
          · (try simp (disch := omega) only [nlit, natrem, nIrm, nIam, nIam',  nI_add, pk_mul, nIsub, nIrem, nIdiv, nIand1, nIand3, nIand7, nIand31, nIshr, nIle, nIlt, nIeq, nIc, vpI, nIm1, m1nI, m1lt, nIlm, m1le, nIlem, nIneg, u2_ss, u2_nn, u2_kk, nIm1n, m1nIn, m1ltn, nIlmn, m1len, nIlemn] at c1); (try simp (disch := omega) only [nlit, natrem, nIrm, nIam, nIam',  nI_add, pk_mul, nIsub, nIrem, nIdiv, nIand1, nIand3, nIand7, nIand31, nIshr, nIle, nIlt, nIeq, nIc, vpI, nIm1, m1nI, m1lt, nIlm, m1le, nIlem, nIneg, u2_ss, u2_nn, u2_kk, nIm1n, m1nIn, m1ltn, nIlmn, m1len, nIlemn])
            refine ih (n + 1) M (by omega) (by omega) hFM (fun gl x b1 b2 => ?_)
            by_cases e : gl = n
            · rw [e]; exact h2 x (by omega)
            · exact h1 gl x (by omega) b2
          · (try simp (disch := omega) only [nlit, natrem, nIrm, nIam, nIam',  nI_add, pk_mul, nIsub, nIrem, nIdiv, nIand1, nIand3, nIand7, nIand31, nIshr, nIle, nIlt, nIeq, nIc, vpI, nIm1, m1nI, m1lt, nIlm, m1le, nIlem, nIneg, u2_ss, u2_nn, u2_kk, nIm1n, m1nIn, m1ltn, nIlmn, m1len, nIlemn] at c1) <;> (first | omega | exact absurd rfl c1 | exact absurd trivial c1)
        | succ m2 ih2 =>
          intro s M hm2 hs hFM h1 h2
          have hCM := hcel M (hF1.tr (hFM.mn (fun k hk => ⟨hk.2.1, hk.2.2.2⟩)))
          refine RX8_ready_79 hc ⟨fun c1 => ?_, fun c1 => ?_⟩
          · (try simp (disch := omega) only [nlit, natrem, nIrm, nIam, nIam',  nI_add, pk_mul, nIsub, nIrem, nIdiv, nIand1, nIand3, nIand7, nIand31, nIshr, nIle, nIlt, nIeq, nIc, vpI, nIm1, m1nI, m1lt, nIlm, m1le, nIlem, nIneg, u2_ss, u2_nn, u2_kk, nIm1n, m1nIn, m1ltn, nIlmn, m1len, nIlemn] at c1); (try simp (disch := omega) only [nlit, natrem, nIrm, nIam, nIam',  nI_add, pk_mul, nIsub, nIrem, nIdiv, nIand1, nIand3, nIand7, nIand31, nIshr, nIle, nIlt, nIeq, nIc, vpI, nIm1, m1nI, m1lt, nIlm, m1le, nIlem, nIneg, u2_ss, u2_nn, u2_kk, nIm1n, m1nIn, m1ltn, nIlmn, m1len, nIlemn])
            omega
          · (try simp (disch := omega) only [nlit, natrem, nIrm, nIam, nIam',  nI_add, pk_mul, nIsub, nIrem, nIdiv, nIand1, nIand3, nIand7, nIand31, nIshr, nIle, nIlt, nIeq, nIc, vpI, nIm1, m1nI, m1lt, nIlm, m1le, nIlem, nIneg, u2_ss, u2_nn, u2_kk, nIm1n, m1nIn, m1ltn, nIlmn, m1len, nIlemn] at c1); (try simp (disch := omega) only [nlit, natrem, nIrm, nIam, nIam',  nI_add, pk_mul, nIsub, nIrem, nIdiv, nIand1, nIand3, nIand7, nIand31, nIshr, nIle, nIlt, nIeq, nIc, vpI, nIm1, m1nI, m1lt, nIlm, m1le, nIlem, nIneg, u2_ss, u2_nn, u2_kk, nIm1n, m1nIn, m1ltn, nIlmn, m1len, nIlemn])
            refine loses_ok hc hCM hg w4 (fun N hN => ?_)
            have en : vp_nar .boolean (if lost lc n s (gA a g).val many then nI 1 else nI 0) = if lost lc n s (gA a g).val many then nI 1 else nI 0 := by split <;> decide
            refine RX8_ready_108 hc ⟨?_, ?_⟩
            · simp (disch := omega) only [nlit, natrem, nIrm, nIam, nIam',  nI_add, pk_mul, nIsub, nIrem, nIdiv, nIand1, nIand3, nIand7, nIand31, nIshr, nIle, nIlt, nIeq, nIc, vpI, nIm1, m1nI, m1lt, nIlm, m1le, nIlem, nIneg, u2_ss, u2_nn, u2_kk, nIm1n, m1nIn, m1ltn, nIlmn, m1len, nIlemn]; omega
            · rw [en]
              simp (disch := omega) only [nlit, natrem, nIrm, nIam, nIam',  nI_add, pk_mul, nIsub, nIrem, nIdiv, nIand1, nIand3, nIand7, nIand31, nIshr, nIle, nIlt, nIeq, nIc, vpI, nIm1, m1nI, m1lt, nIlm, m1le, nIlem, nIneg, u2_ss, u2_nn, u2_kk, nIm1n, m1nIn, m1ltn, nIlmn, m1len, nIlemn]
              have e51 : ∀ i, N 51 i = M 51 i := fun i => by rw [hN 51 (by omega)]
              refine ih2 (s + 1) _ (by omega) (by omega) ((hFM.tr (hN.mn (fun k hk => hk.2))).up (by simp)) (fun gl x b1 b2 => ?_) (fun x hx => ?_)
              · rw [u2_kk _ _ _ _ (by omega), e51]; exact h1 gl x b1 b2
              · by_cases e : x = s
                · rw [e, u2_ss]
                · rw [u2_kk _ _ _ _ (by omega), e51]; exact h2 x (by omega)
      refine RX8_ready_70 hc ⟨fun c1 => ?_, fun c1 => ?_⟩
      · (try simp (disch := omega) only [nlit, natrem, nIrm, nIam, nIam',  nI_add, pk_mul, nIsub, nIrem, nIdiv, nIand1, nIand3, nIand7, nIand31, nIshr, nIle, nIlt, nIeq, nIc, vpI, nIm1, m1nI, m1lt, nIlm, m1le, nIlem, nIneg, u2_ss, u2_nn, u2_kk, nIm1n, m1nIn, m1ltn, nIlmn, m1len, nIlemn] at c1); (try simp (disch := omega) only [nlit, natrem, nIrm, nIam, nIam',  nI_add, pk_mul, nIsub, nIrem, nIdiv, nIand1, nIand3, nIand7, nIand31, nIshr, nIle, nIlt, nIeq, nIc, vpI, nIm1, m1nI, m1lt, nIlm, m1le, nIlem, nIneg, u2_ss, u2_nn, u2_kk, nIm1n, m1nIn, m1ltn, nIlmn, m1len, nIlemn])
        omega
      · (try simp (disch := omega) only [nlit, natrem, nIrm, nIam, nIam',  nI_add, pk_mul, nIsub, nIrem, nIdiv, nIand1, nIand3, nIand7, nIand31, nIshr, nIle, nIlt, nIeq, nIc, vpI, nIm1, m1nI, m1lt, nIlm, m1le, nIlem, nIneg, u2_ss, u2_nn, u2_kk, nIm1n, m1nIn, m1ltn, nIlmn, m1len, nIlemn] at c1); (try simp (disch := omega) only [nlit, natrem, nIrm, nIam, nIam',  nI_add, pk_mul, nIsub, nIrem, nIdiv, nIand1, nIand3, nIand7, nIand31, nIshr, nIle, nIlt, nIeq, nIc, vpI, nIm1, m1nI, m1lt, nIlm, m1le, nIlem, nIneg, u2_ss, u2_nn, u2_kk, nIm1n, m1nIn, m1ltn, nIlmn, m1len, nIlemn])
        exact hin _ 0 K rfl (Nat.zero_le _) hFK h51 (fun x hx => absurd hx (Nat.not_lt_zero _))
  have hmw : ∀ m w : Nat, m = (a 3).val - w → w ≤ (a 3).val → Y mX8_ready (d + 4) sx 38 [(0, .ref 48), (1, .ref c), (2, .int (nI g)), (3, .int (nI many)), (4, .int (nI (mxW a w))), (5, .int (nI w))] [] J L T q := by
    intro m
    have hCJ := hcel J hF1
    have e7 := hCJ.1.2.2.2.2.1
    induction m with
    | zero =>
      intro w hm' hw
      have e : w = (a 3).val := by omega
      subst e
      refine RX8_ready_38 hc ⟨fun c1 => ?_, fun c1 => ⟨?_, ?_⟩⟩
      · (try simp (disch := omega) only [nlit, natrem, nIrm, nIam, nIam',  nI_add, pk_mul, nIsub, nIrem, nIdiv, nIand1, nIand3, nIand7, nIand31, nIshr, nIle, nIlt, nIeq, nIc, vpI, nIm1, m1nI, m1lt, nIlm, m1le, nIlem, nIneg, u2_ss, u2_nn, u2_kk, nIm1n, m1nIn, m1ltn, nIlmn, m1len, nIlemn, e7] at c1); (try simp (disch := omega) only [nlit, natrem, nIrm, nIam, nIam',  nI_add, pk_mul, nIsub, nIrem, nIdiv, nIand1, nIand3, nIand7, nIand31, nIshr, nIle, nIlt, nIeq, nIc, vpI, nIm1, m1nI, m1lt, nIlm, m1le, nIlem, nIneg, u2_ss, u2_nn, u2_kk, nIm1n, m1nIn, m1ltn, nIlmn, m1len, nIlemn, e7])
        exact hout _ 0 J rfl (Nat.zero_le _) Kp.rf (fun gl s b1 => absurd b1 (Nat.not_lt_zero _))
      · (try simp (disch := omega) only [nlit, natrem, nIrm, nIam, nIam',  nI_add, pk_mul, nIsub, nIrem, nIdiv, nIand1, nIand3, nIand7, nIand31, nIshr, nIle, nIlt, nIeq, nIc, vpI, nIm1, m1nI, m1lt, nIlm, m1le, nIlem, nIneg, u2_ss, u2_nn, u2_kk, nIm1n, m1nIn, m1ltn, nIlmn, m1len, nIlemn, e7] at c1) <;> (try simp (disch := omega) only [nlit, natrem, nIrm, nIam, nIam',  nI_add, pk_mul, nIsub, nIrem, nIdiv, nIand1, nIand3, nIand7, nIand31, nIshr, nIle, nIlt, nIeq, nIc, vpI, nIm1, m1nI, m1lt, nIlm, m1le, nIlem, nIneg, u2_ss, u2_nn, u2_kk, nIm1n, m1nIn, m1ltn, nIlmn, m1len, nIlemn, e7]) <;> (first | omega | trivial)
      · (try simp (disch := omega) only [nlit, natrem, nIrm, nIam, nIam',  nI_add, pk_mul, nIsub, nIrem, nIdiv, nIand1, nIand3, nIand7, nIand31, nIshr, nIle, nIlt, nIeq, nIc, vpI, nIm1, m1nI, m1lt, nIlm, m1le, nIlem, nIneg, u2_ss, u2_nn, u2_kk, nIm1n, m1nIn, m1ltn, nIlmn, m1len, nIlemn, e7] at c1) <;> (first | omega | exact absurd rfl c1 | exact absurd trivial c1)
    | succ m ih =>
      intro w hm' hw
      have eL := (hCJ.2.2.2.1 w (by omega)).2.1
      have := wL_le hW (w := w) (by omega)
      have := mxW_le hW w (by omega)
      refine RX8_ready_38 hc ⟨fun c1 => ?_, fun c1 => ⟨?_, ?_⟩⟩
      · (try simp (disch := omega) only [nlit, natrem, nIrm, nIam, nIam',  nI_add, pk_mul, nIsub, nIrem, nIdiv, nIand1, nIand3, nIand7, nIand31, nIshr, nIle, nIlt, nIeq, nIc, vpI, nIm1, m1nI, m1lt, nIlm, m1le, nIlem, nIneg, u2_ss, u2_nn, u2_kk, nIm1n, m1nIn, m1ltn, nIlmn, m1len, nIlemn, e7, eL] at c1); (try simp (disch := omega) only [nlit, natrem, nIrm, nIam, nIam',  nI_add, pk_mul, nIsub, nIrem, nIdiv, nIand1, nIand3, nIand7, nIand31, nIshr, nIle, nIlt, nIeq, nIc, vpI, nIm1, m1nI, m1lt, nIlm, m1le, nIlem, nIneg, u2_ss, u2_nn, u2_kk, nIm1n, m1nIn, m1ltn, nIlmn, m1len, nIlemn, e7, eL])
        omega
      · (try simp (disch := omega) only [nlit, natrem, nIrm, nIam, nIam',  nI_add, pk_mul, nIsub, nIrem, nIdiv, nIand1, nIand3, nIand7, nIand31, nIshr, nIle, nIlt, nIeq, nIc, vpI, nIm1, m1nI, m1lt, nIlm, m1le, nIlem, nIneg, u2_ss, u2_nn, u2_kk, nIm1n, m1nIn, m1ltn, nIlmn, m1len, nIlemn, e7, eL] at c1) <;> (try simp (disch := omega) only [nlit, natrem, nIrm, nIam, nIam',  nI_add, pk_mul, nIsub, nIrem, nIdiv, nIand1, nIand3, nIand7, nIand31, nIshr, nIle, nIlt, nIeq, nIc, vpI, nIm1, m1nI, m1lt, nIlm, m1le, nIlem, nIneg, u2_ss, u2_nn, u2_kk, nIm1n, m1nIn, m1ltn, nIlmn, m1len, nIlemn, e7, eL]) <;> (first | omega | trivial)
      · (try simp (disch := omega) only [nlit, natrem, nIrm, nIam, nIam',  nI_add, pk_mul, nIsub, nIrem, nIdiv, nIand1, nIand3, nIand7, nIand31, nIshr, nIle, nIlt, nIeq, nIc, vpI, nIm1, m1nI, m1lt, nIlm, m1le, nIlem, nIneg, u2_ss, u2_nn, u2_kk, nIm1n, m1nIn, m1ltn, nIlmn, m1len, nIlemn, e7, eL] at c1); (try simp (disch := omega) only [nlit, natrem, nIrm, nIam, nIam',  nI_add, pk_mul, nIsub, nIrem, nIdiv, nIand1, nIand3, nIand7, nIand31, nIshr, nIle, nIlt, nIeq, nIc, vpI, nIm1, m1nI, m1lt, nIlm, m1le, nIlem, nIneg, u2_ss, u2_nn, u2_kk, nIm1n, m1nIn, m1ltn, nIlmn, m1len, nIlemn, e7, eL])
        refine max_ok (by omega) (by omega) (RX8_ready_59 hc ?_)
        rw [show nI w + 1 = nI (w + 1) from nI_add w 1]
        exact ih (w + 1) (by omega) (by omega)
  exact hmw _ 0 rfl (Nat.zero_le _)
