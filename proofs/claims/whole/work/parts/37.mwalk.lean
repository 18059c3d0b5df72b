/-! an evening, as the model has it at the place b of its states -/
def EvL (b : Nat) (lf : Nat → Nat) (gl : Nat → List Nat) (I : Ints) : Prop := (∀ w, w < 6 → I 106 (b + w) = nI (lf w)) ∧ ∀ g, g < 6 → I 106 (b + (6 + 7 * g)) = nI (gl g).length ∧ ∀ i, i < (gl g).length → I 106 (b + (6 + 7 * g + 1 + i)) = nI ((gl g).getD i 0)
def snV (s : Nat) : Int32 := if s = 0 then -1 else nI (s - 1)
def EvS (b : Nat) (sn : Nat → Nat) (I : Ints) : Prop := ∀ g, g < 6 → I 106 (b + (48 + g)) = snV (sn g)
theorem EvL.congr {b : Nat} {lf : Nat → Nat} {gl : Nat → List Nat} {I J : Ints} (h : EvL b lf gl I) (e : ∀ i, J 106 i = I 106 i) : EvL b lf gl J :=
  ⟨fun w hw => (e _).trans (h.1 w hw), fun g hg => ⟨(e _).trans (h.2 g hg).1, fun i hi => (e _).trans ((h.2 g hg).2 i hi)⟩⟩
theorem EvS.congr {b : Nat} {sn : Nat → Nat} {I J : Ints} (h : EvS b sn I) (e : ∀ i, J 106 i = I 106 i) : EvS b sn J := fun g hg => (e _).trans (h g hg)
theorem EvL.had {lf : Nat → Nat} {gl : Nat → List Nat} {I : Ints} (h : EvL 0 lf gl I) {g : Nat} (hg : g < 6) : I 106 (6 + 7 * g) = nI (gl g).length := by
  have := (h.2 g hg).1
  rw [Nat.zero_add] at this
  exact this
theorem EvL.gls {lf : Nat → Nat} {gl : Nat → List Nat} {I : Ints} (h : EvL 0 lf gl I) {g i : Nat} (hg : g < 6) (hi : i < (gl g).length) : I 106 (6 + 7 * g + 1 + i) = nI ((gl g).getD i 0) := by
  have := (h.2 g hg).2 i hi
  rw [Nat.zero_add] at this
  exact this
theorem EvL.lef {lf : Nat → Nat} {gl : Nat → List Nat} {I : Ints} (h : EvL 0 lf gl I) {w : Nat} (hw : w < 6) : I 106 w = nI (lf w) := by
  have := h.1 w hw
  rw [Nat.zero_add] at this
  exact this
theorem drunkBy_ok {d : Nat} {sx : Sx} {I : Ints} {L : Lngs} {R : Rfs} {q : Q3} {lf : Nat → Nat} {gl : Nat → List Nat} (hE : EvL 0 lf gl I) {g : Nat} (hg : g < 6) (h : q (some (.int (nI (gl g).length))) I L R) : E0 mX12_drunkBy (d + 1) sx [.ref 92, .int (nI g)] I L R q := by
  have e := hE.had hg
  refine EX12_drunkBy  ⟨?_, ?_⟩
  · (try simp (disch := omega) only [nlit, natrem, nIrm, nIam, nIam',  nI_add, pk_mul, nIsub, nIrem, nIdiv, nIand1, nIand3, nIand7, nIand31, nIshr, nIle, nIlt, nIeq, nIc, vpI, nIm1, m1nI, m1lt, nIlm, m1le, nIlem, nIneg, u2_ss, u2_nn, u2_kk, e]); (first | omega | trivial)
  · (try simp (disch := omega) only [nlit, natrem, nIrm, nIam, nIam',  nI_add, pk_mul, nIsub, nIrem, nIdiv, nIand1, nIand3, nIand7, nIand31, nIshr, nIle, nIlt, nIeq, nIc, vpI, nIm1, m1nI, m1lt, nIlm, m1le, nIlem, nIneg, u2_ss, u2_nn, u2_kk, e])
    exact h
abbrev AO : List Nat := [104, 105, 108, 109]
def OInv (I0 J : Ints) (l : List Nat) (m : Nat) : Prop := Fr AO FS I0 J ∧ J 92 25 = nI l.length ∧ J 92 26 = nI m ∧ ALo J 108 0 l
theorem laysOwn_ok {d : Nat} {sx : Sx} {I : Ints} {L : Lngs} {R : Rfs} {q : Q3} {a : Ce} {lc : List (Nat × Nat)} (hM : CelM a I) (hW : WFc a) (hl : LawM lc I) {lf : Nat → Nat} {gl : Nat → List Nat} (hE : EvL 0 lf gl I) {g : Nat} (hg : g < (a 4).val) (hw : wsOk a (gl g))
    (h : ∀ J, OInv I J (rt a lc g (gl g)) (rl a lc g (gl g)) → q none J L R) : E0 mX12_laysOwn (d + 5) sx [.ref 92, .int (nI g)] I L R q := by
  have w4 := hW.2.2.2.2.1
  have h6 := hw.1
  have hlp : ∀ n k : Nat, ∀ J, n = (gl g).length - k → k ≤ (gl g).length → Fr [109] [] I J → (∀ j, j < k → J 109 j = nI ((gl g).getD j 0)) → Y mX12_laysOwn (d + 5) sx 2 [(0, .ref 92), (1, .int (nI g)), (2, .int (nI k))] [] J L R q := by
    intro n
    induction n with
    | zero =>
      intro k J hn hk hF hj
      have hEJ := hE.congr (hF.ar 106 rfl rfl)
      refine RX12_laysOwn_2 (drunkBy_ok hEJ (by omega) ?_)
      refine RX12_laysOwn_8  ⟨fun c1 => ?_, fun c1 => ⟨?_, ⟨?_, ?_⟩⟩⟩
      · (try simp (disch := omega) only [nlit, natrem, nIrm, nIam, nIam',  nI_add, pk_mul, nIsub, nIrem, nIdiv, nIand1, nIand3, nIand7, nIand31, nIshr, nIle, nIlt, nIeq, nIc, vpI, nIm1, m1nI, m1lt, nIlm, m1le, nIlem, nIneg, u2_ss, u2_nn, u2_kk] at c1); (try simp (disch := omega) only [nlit, natrem, nIrm, nIam, nIam',  nI_add, pk_mul, nIsub, nIrem, nIdiv, nIand1, nIand3, nIand7, nIand31, nIshr, nIle, nIlt, nIeq, nIc, vpI, nIm1, m1nI, m1lt, nIlm, m1le, nIlem, nIneg, u2_ss, u2_nn, u2_kk])
        refine drunkBy_ok hEJ (by omega) (RX12_laysOwn_46 ?_)
        refine laysSteps_ok (hM.fr hF rfl rfl) hW (hl.fr hF rfl rfl rfl rfl) hg hw (fun j hjl => ?_) (fun K hK => RX12_laysOwn_49 (h K ⟨(hF.mn rfl rfl).tr (hK.1.mn rfl rfl), hK.2⟩))
        rw [Nat.zero_add]
        exact hj j (by omega)
      · (try simp (disch := omega) only [nlit, natrem, nIrm, nIam, nIam',  nI_add, pk_mul, nIsub, nIrem, nIdiv, nIand1, nIand3, nIand7, nIand31, nIshr, nIle, nIlt, nIeq, nIc, vpI, nIm1, m1nI, m1lt, nIlm, m1le, nIlem, nIneg, u2_ss, u2_nn, u2_kk] at c1); (try simp (disch := omega) only [nlit, natrem, nIrm, nIam, nIam',  nI_add, pk_mul, nIsub, nIrem, nIdiv, nIand1, nIand3, nIand7, nIand31, nIshr, nIle, nIlt, nIeq, nIc, vpI, nIm1, m1nI, m1lt, nIlm, m1le, nIlem, nIneg, u2_ss, u2_nn, u2_kk]); (first | omega | trivial)
      · (try simp (disch := omega) only [nlit, natrem, nIrm, nIam, nIam',  nI_add, pk_mul, nIsub, nIrem, nIdiv, nIand1, nIand3, nIand7, nIand31, nIshr, nIle, nIlt, nIeq, nIc, vpI, nIm1, m1nI, m1lt, nIlm, m1le, nIlem, nIneg, u2_ss, u2_nn, u2_kk] at c1); (try simp (disch := omega) only [nlit, natrem, nIrm, nIam, nIam',  nI_add, pk_mul, nIsub, nIrem, nIdiv, nIand1, nIand3, nIand7, nIand31, nIshr, nIle, nIlt, nIeq, nIc, vpI, nIm1, m1nI, m1lt, nIlm, m1le, nIlem, nIneg, u2_ss, u2_nn, u2_kk]); (first | omega | trivial)
      · (try simp (disch := omega) only [nlit, natrem, nIrm, nIam, nIam',  nI_add, pk_mul, nIsub, nIrem, nIdiv, nIand1, nIand3, nIand7, nIand31, nIshr, nIle, nIlt, nIeq, nIc, vpI, nIm1, m1nI, m1lt, nIlm, m1le, nIlem, nIneg, u2_ss, u2_nn, u2_kk] at c1); (first | omega | exact absurd rfl c1 | exact absurd trivial c1)
    | succ n ih =>
      intro k J hn hk hF hj
      have hEJ := hE.congr (hF.ar 106 rfl rfl)
      have e := hEJ.gls (g := g) (i := k) (by omega) (by omega)
      refine RX12_laysOwn_2 (drunkBy_ok hEJ (by omega) ?_)
      refine RX12_laysOwn_8  ⟨fun c1 => ?_, fun c1 => ⟨?_, ⟨?_, ?_⟩⟩⟩
      · (try simp (disch := omega) only [nlit, natrem, nIrm, nIam, nIam',  nI_add, pk_mul, nIsub, nIrem, nIdiv, nIand1, nIand3, nIand7, nIand31, nIshr, nIle, nIlt, nIeq, nIc, vpI, nIm1, m1nI, m1lt, nIlm, m1le, nIlem, nIneg, u2_ss, u2_nn, u2_kk, e] at c1); (try simp (disch := omega) only [nlit, natrem, nIrm, nIam, nIam',  nI_add, pk_mul, nIsub, nIrem, nIdiv, nIand1, nIand3, nIand7, nIand31, nIshr, nIle, nIlt, nIeq, nIc, vpI, nIm1, m1nI, m1lt, nIlm, m1le, nIlem, nIneg, u2_ss, u2_nn, u2_kk, e])
        omega
      · (try simp (disch := omega) only [nlit, natrem, nIrm, nIam, nIam',  nI_add, pk_mul, nIsub, nIrem, nIdiv, nIand1, nIand3, nIand7, nIand31, nIshr, nIle, nIlt, nIeq, nIc, vpI, nIm1, m1nI, m1lt, nIlm, m1le, nIlem, nIneg, u2_ss, u2_nn, u2_kk, e] at c1); (try simp (disch := omega) only [nlit, natrem, nIrm, nIam, nIam',  nI_add, pk_mul, nIsub, nIrem, nIdiv, nIand1, nIand3, nIand7, nIand31, nIshr, nIle, nIlt, nIeq, nIc, vpI, nIm1, m1nI, m1lt, nIlm, m1le, nIlem, nIneg, u2_ss, u2_nn, u2_kk, e]); (first | omega | trivial)
      · (try simp (disch := omega) only [nlit, natrem, nIrm, nIam, nIam',  nI_add, pk_mul, nIsub, nIrem, nIdiv, nIand1, nIand3, nIand7, nIand31, nIshr, nIle, nIlt, nIeq, nIc, vpI, nIm1, m1nI, m1lt, nIlm, m1le, nIlem, nIneg, u2_ss, u2_nn, u2_kk, e] at c1); (try simp (disch := omega) only [nlit, natrem, nIrm, nIam, nIam',  nI_add, pk_mul, nIsub, nIrem, nIdiv, nIand1, nIand3, nIand7, nIand31, nIshr, nIle, nIlt, nIeq, nIc, vpI, nIm1, m1nI, m1lt, nIlm, m1le, nIlem, nIneg, u2_ss, u2_nn, u2_kk, e]); (first | omega | trivial)
      · (try simp (disch := omega) only [nlit, natrem, nIrm, nIam, nIam',  nI_add, pk_mul, nIsub, nIrem, nIdiv, nIand1, nIand3, nIand7, nIand31, nIshr, nIle, nIlt, nIeq, nIc, vpI, nIm1, m1nI, m1lt, nIlm, m1le, nIlem, nIneg, u2_ss, u2_nn, u2_kk, e] at c1); (try simp (disch := omega) only [nlit, natrem, nIrm, nIam, nIam',  nI_add, pk_mul, nIsub, nIrem, nIdiv, nIand1, nIand3, nIand7, nIand31, nIshr, nIle, nIlt, nIeq, nIc, vpI, nIm1, m1nI, m1lt, nIlm, m1le, nIlem, nIneg, u2_ss, u2_nn, u2_kk, e])
        refine ih (k + 1) _ (by omega) (by omega) (hF.ua rfl) (fun j hjk => ?_)
        by_cases e : j = k
        · subst e; rw [u2_ss]
        · rw [u2_kk _ _ _ _ e]; exact hj j (by omega)
  exact EX12_laysOwn (hlp _ 0 I rfl (Nat.zero_le _) Fr.rf (fun j hj => absurd hj (Nat.not_lt_zero _)))
/-! walks -/
def hom (a : Ce) (g : Nat) : Nat := 4 * (gC a g).val + (gW a g).val
def wk (a : Ce) (cl : Nat → Bool) (kd : Nat) (l : List Nat) (p : Nat) : Nat := l.foldl (aft a cl kd) p
theorem hom_lt {a : Ce} (hW : WFc a) {g : Nat} (hg : g < (a 4).val) : hom a g < 256 := by
  have h := hW.2.2.2.2.2.2.2.2.2.1 g hg
  unfold hom
  omega
theorem starts_ok {d : Nat} {sx : Sx} {I : Ints} {L : Lngs} {R : Rfs} {q : Q3} {a : Ce} (hM : CelM a I) (hW : WFc a) {g : Nat} (hg : g < (a 4).val) (h : ∀ J, atP J (hom a g) → Fr [] FP I J → q none J L R) : E0 mX12_starts (d + 2) sx [.ref 92, .int (nI g)] I L R q := by
  have w4 := hW.2.2.2.2.1
  have hh := hW.2.2.2.2.2.2.2.2.2.1 g hg
  refine EX12_starts (guestC_ok hM (by omega) ?_)
  refine RX12_starts_7 ?_
  simp (disch := omega) only [nlit, natrem, nIrm, nIam, nIam',  nI_add, pk_mul, nIsub, nIrem, nIdiv, nIand1, nIand3, nIand7, nIand31, nIshr, nIle, nIlt, nIeq, nIc, vpI, nIm1, m1nI, m1lt, nIlm, m1le, nIlem, nIneg, u2_ss, u2_nn, u2_kk]
  have hF1 : Fr [] FP I (u2 I 92 28 (nI ((gC a g).val % 8))) := Fr.rf.uf rfl
  refine guestC_ok (hM.fr hF1 rfl rfl) (by omega) ?_
  refine RX12_starts_20 ?_
  simp (disch := omega) only [nlit, natrem, nIrm, nIam, nIam',  nI_add, pk_mul, nIsub, nIrem, nIdiv, nIand1, nIand3, nIand7, nIand31, nIshr, nIle, nIlt, nIeq, nIc, vpI, nIm1, m1nI, m1lt, nIlm, m1le, nIlem, nIneg, u2_ss, u2_nn, u2_kk]
  have hF2 : Fr [] FP I (u2 (u2 I 92 28 (nI ((gC a g).val % 8))) 92 29 (nI ((gC a g).val / 8))) := hF1.uf rfl
  refine guestW_ok (hM.fr hF2 rfl rfl) (by omega) ?_
  refine RX12_starts_33 (h _ ⟨hom_lt hW hg, ?_, ?_, ?_⟩ (hF2.uf rfl))
  · unfold hom; simp (disch := omega) only [nlit, natrem, nIrm, nIam, nIam',  nI_add, pk_mul, nIsub, nIrem, nIdiv, nIand1, nIand3, nIand7, nIand31, nIshr, nIle, nIlt, nIeq, nIc, vpI, nIm1, m1nI, m1lt, nIlm, m1le, nIlem, nIneg, u2_ss, u2_nn, u2_kk]; first | omega | (congr 1; omega)
  · unfold hom; simp (disch := omega) only [nlit, natrem, nIrm, nIam, nIam',  nI_add, pk_mul, nIsub, nIrem, nIdiv, nIand1, nIand3, nIand7, nIand31, nIshr, nIle, nIlt, nIeq, nIc, vpI, nIm1, m1nI, m1lt, nIlm, m1le, nIlem, nIneg, u2_ss, u2_nn, u2_kk]; first | omega | (congr 1; omega)
  · unfold hom; simp (disch := omega) only [nlit, natrem, nIrm, nIam, nIam',  nI_add, pk_mul, nIsub, nIrem, nIdiv, nIand1, nIand3, nIand7, nIand31, nIshr, nIle, nIlt, nIeq, nIc, vpI, nIm1, m1nI, m1lt, nIlm, m1le, nIlem, nIneg, u2_ss, u2_nn, u2_kk]; first | omega | (congr 1; omega)
theorem ClM.fr {a : Ce} {I J : Ints} {b al : Nat} {cl : Nat → Bool} (h : ClM a I b al cl) (e : ∀ i, J 110 i = I 110 i) : ClM a J b al cl := by
  intro c hc
  rw [h c hc]
  simp only [e]
theorem aft_lt {a : Ce} {cl : Nat → Bool} {kd p s : Nat} (ha0 : (a 0).val ≤ 8) (ha1 : (a 1).val ≤ 8) (hp : p < 256) : aft a cl kd p s < 256 := by
  unfold aft ahd
  repeat' split
  all_goals omega
theorem wk_lt {a : Ce} {cl : Nat → Bool} {kd : Nat} (ha0 : (a 0).val ≤ 8) (ha1 : (a 1).val ≤ 8) : ∀ (l : List Nat) (p : Nat), p < 256 → wk a cl kd l p < 256
  | [], _, h => h
  | _ :: l, _, h => wk_lt ha0 ha1 l _ (aft_lt ha0 ha1 h)
theorem walks_lp {d : Nat} {sx : Sx} {L : Lngs} {R : Rfs} {q : Q3} {I0 : Ints} {a : Ce} (hM : CelM a I0) (hW : WFc a) {g al : Nat} (hg : g < (a 4).val) (hal : al ≤ 1) {cl : Nat → Bool} (hcl : ClM a I0 g al cl) {l : List Nat} (hln : l.length ≤ 600) (e25 : I0 92 25 = nI l.length) (hA : ALo I0 108 0 l) (hk : l ≠ [] → (gK a g).val ≠ 1) :
    ∀ (l2 l1 : List Nat) (J : Ints) (p : Nat), l = l1 ++ l2 → (∀ x ∈ l2, x ≤ 4) → atP J p → Fr [] FP I0 J → (∀ K, atP K (wk a cl (gK a g).val l2 p) → Fr [] FP I0 K → q none K L R) →
      Y mX12_walks (d + 5) sx 7 [(0, .ref 92), (1, .int (nI g)), (2, .int (nI al)), (3, .int (nI l1.length))] [] J L R q := by
  intro l2
  induction l2 with
  | nil =>
    intro l1 J p e h4 hp hF h
    have e5 := (hF 92 25 rfl rfl).trans e25
    rw [List.append_nil] at e
    rw [e] at e5 hln
    refine RX12_walks_7  ⟨fun c1 => ?_, fun c1 => ⟨?_, ?_⟩⟩
    · (try simp (disch := omega) only [nlit, natrem, nIrm, nIam, nIam',  nI_add, pk_mul, nIsub, nIrem, nIdiv, nIand1, nIand3, nIand7, nIand31, nIshr, nIle, nIlt, nIeq, nIc, vpI, nIm1, m1nI, m1lt, nIlm, m1le, nIlem, nIneg, u2_ss, u2_nn, u2_kk, e5] at c1); (try simp (disch := omega) only [nlit, natrem, nIrm, nIam, nIam',  nI_add, pk_mul, nIsub, nIrem, nIdiv, nIand1, nIand3, nIand7, nIand31, nIshr, nIle, nIlt, nIeq, nIc, vpI, nIm1, m1nI, m1lt, nIlm, m1le, nIlem, nIneg, u2_ss, u2_nn, u2_kk, e5])
      exact h J hp hF
    · (try simp (disch := omega) only [nlit, natrem, nIrm, nIam, nIam',  nI_add, pk_mul, nIsub, nIrem, nIdiv, nIand1, nIand3, nIand7, nIand31, nIshr, nIle, nIlt, nIeq, nIc, vpI, nIm1, m1nI, m1lt, nIlm, m1le, nIlem, nIneg, u2_ss, u2_nn, u2_kk, e5] at c1); (try simp (disch := omega) only [nlit, natrem, nIrm, nIam, nIam',  nI_add, pk_mul, nIsub, nIrem, nIdiv, nIand1, nIand3, nIand7, nIand31, nIshr, nIle, nIlt, nIeq, nIc, vpI, nIm1, m1nI, m1lt, nIlm, m1le, nIlem, nIneg, u2_ss, u2_nn, u2_kk, e5]); (first | omega | trivial)
    · (try simp (disch := omega) only [nlit, natrem, nIrm, nIam, nIam',  nI_add, pk_mul, nIsub, nIrem, nIdiv, nIand1, nIand3, nIand7, nIand31, nIshr, nIle, nIlt, nIeq, nIc, vpI, nIm1, m1nI, m1lt, nIlm, m1le, nIlem, nIneg, u2_ss, u2_nn, u2_kk, e5] at c1); (first | omega | exact absurd rfl c1 | exact absurd trivial c1)
  | cons s l2 ih =>
    intro l1 J p e h4 hp hF h
    have e5 := (hF 92 25 rfl rfl).trans e25
    have hle : l.length = l1.length + (l2.length + 1) := by rw [e, List.length_append, List.length_cons]
    rw [hle] at e5
    have e8 : J 108 l1.length = nI s := by
      have := hA l1.length (by omega)
      rw [Nat.zero_add] at this
      rw [hF.ar 108 rfl rfl, this, e, getD_r (Nat.le_refl _), Nat.sub_self]
      rfl
    have hne : l ≠ [] := by rw [e]; simp
    refine RX12_walks_7  ⟨fun c1 => ?_, fun c1 => ⟨?_, ?_⟩⟩
    · (try simp (disch := omega) only [nlit, natrem, nIrm, nIam, nIam',  nI_add, pk_mul, nIsub, nIrem, nIdiv, nIand1, nIand3, nIand7, nIand31, nIshr, nIle, nIlt, nIeq, nIc, vpI, nIm1, m1nI, m1lt, nIlm, m1le, nIlem, nIneg, u2_ss, u2_nn, u2_kk, e5, e8] at c1); (try simp (disch := omega) only [nlit, natrem, nIrm, nIam, nIam',  nI_add, pk_mul, nIsub, nIrem, nIdiv, nIand1, nIand3, nIand7, nIand31, nIshr, nIle, nIlt, nIeq, nIc, vpI, nIm1, m1nI, m1lt, nIlm, m1le, nIlem, nIneg, u2_ss, u2_nn, u2_kk, e5, e8])
      omega
    · (try simp (disch := omega) only [nlit, natrem, nIrm, nIam, nIam',  nI_add, pk_mul, nIsub, nIrem, nIdiv, nIand1, nIand3, nIand7, nIand31, nIshr, nIle, nIlt, nIeq, nIc, vpI, nIm1, m1nI, m1lt, nIlm, m1le, nIlem, nIneg, u2_ss, u2_nn, u2_kk, e5, e8] at c1); (try simp (disch := omega) only [nlit, natrem, nIrm, nIam, nIam',  nI_add, pk_mul, nIsub, nIrem, nIdiv, nIand1, nIand3, nIand7, nIand31, nIshr, nIle, nIlt, nIeq, nIc, vpI, nIm1, m1nI, m1lt, nIlm, m1le, nIlem, nIneg, u2_ss, u2_nn, u2_kk, e5, e8]); (first | omega | trivial)
    · (try simp (disch := omega) only [nlit, natrem, nIrm, nIam, nIam',  nI_add, pk_mul, nIsub, nIrem, nIdiv, nIand1, nIand3, nIand7, nIand31, nIshr, nIle, nIlt, nIeq, nIc, vpI, nIm1, m1nI, m1lt, nIlm, m1le, nIlem, nIneg, u2_ss, u2_nn, u2_kk, e5, e8] at c1); (try simp (disch := omega) only [nlit, natrem, nIrm, nIam, nIam',  nI_add, pk_mul, nIsub, nIrem, nIdiv, nIand1, nIand3, nIand7, nIand31, nIshr, nIle, nIlt, nIeq, nIc, vpI, nIm1, m1nI, m1lt, nIlm, m1le, nIlem, nIneg, u2_ss, u2_nn, u2_kk, e5, e8])
      refine takesStep_ok (hM.fr hF rfl rfl) hW hg (hk hne) hp (h4 s (List.mem_cons_self ..)) hal (hcl.fr (hF.ar 110 rfl rfl)) (fun K hK hFK => ?_)
      refine RX12_walks_27 ?_
      rw [show nI l1.length + 1 = nI (l1 ++ [s]).length by rw [List.length_append]; exact nI_add _ _]
      exact ih (l1 ++ [s]) K _ (by rw [e]; simp) (fun x hx => h4 x (List.mem_cons_of_mem _ hx)) hK (hF.tr hFK) h
theorem walks_ok {d : Nat} {sx : Sx} {I : Ints} {L : Lngs} {R : Rfs} {q : Q3} {a : Ce} (hM : CelM a I) (hW : WFc a) {g al : Nat} (hg : g < (a 4).val) (hal : al ≤ 1) {cl : Nat → Bool} (hcl : ClM a I g al cl) {l : List Nat} (hln : l.length ≤ 600) (e25 : I 92 25 = nI l.length) (hA : ALo I 108 0 l) (hk : l ≠ [] → (gK a g).val ≠ 1) (h4 : ∀ x ∈ l, x ≤ 4)
    (h : ∀ J, atP J (wk a cl (gK a g).val l (hom a g)) → Fr [] FP I J → q none J L R) : E0 mX12_walks (d + 5) sx [.ref 92, .int (nI g), .int (nI al)] I L R q := by
  refine EX12_walks (starts_ok hM hW hg (fun J hJ hF => RX12_walks_5 ?_))
  exact walks_lp (hM.fr hF rfl rfl) hW hg hal (hcl.fr (hF.ar 110 rfl rfl)) hln ((hF 92 25 rfl rfl).trans e25) (hA.congr (hF.ar 108 rfl rfl)) hk l [] J _ rfl h4 hJ Fr.rf (fun K hK hFK => h K hK (hF.tr hFK))
theorem cellNow_ok {d : Nat} {sx : Sx} {I : Ints} {L : Lngs} {R : Rfs} {q : Q3} {p : Nat} (hp : atP I p) (h : q (some (.int (nI (p / 4)))) I L R) : E0 mX12_cellNow (d + 1) sx [.ref 92] I L R q := by
  obtain ⟨h0, h1, h2, h3⟩ := hp
  refine EX12_cellNow  ?_
  · (try simp (disch := omega) only [nlit, natrem, nIrm, nIam, nIam',  nI_add, pk_mul, nIsub, nIrem, nIdiv, nIand1, nIand3, nIand7, nIand31, nIshr, nIle, nIlt, nIeq, nIc, vpI, nIm1, m1nI, m1lt, nIlm, m1le, nIlem, nIneg, u2_ss, u2_nn, u2_kk, h1, h2])
    rw [show 8 * (p / 32) + p / 4 % 8 = p / 4 by omega]
    exact h
/-- alone: the pillars are closed -/
def clP (a : Ce) (c : Nat) : Bool := decide ((a (7 + c)).val = 1)
theorem clP_M {a : Ce} {I : Ints} {g : Nat} : ClM a I g 1 (clP a) := by
  intro c hc
  simp [clP]
theorem rt_ne {a : Ce} {lc : List (Nat × Nat)} {g : Nat} {ws : List Nat} (h : rt a lc g ws ≠ []) : (gK a g).val ≠ 1 := by
  intro e
  exact h (by unfold rt; rw [if_pos e])
