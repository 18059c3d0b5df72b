/-! a ball of the model -/
def LQ (L K : Lngs) : Prop := ∀ k i, ¬ (k = 92 ∧ i = 33) → K k i = L k i
theorem LQ.rf {L : Lngs} : LQ L L := fun _ _ _ => rfl
theorem LQ.up {L K : Lngs} (h : LQ L K) {v : Int64} : LQ L (u2 K 92 33 v) := by
  intro k i hk
  rw [← h k i hk]
  unfold u2
  by_cases e1 : k = 92
  · by_cases e2 : i = 33
    · exact absurd ⟨e1, e2⟩ hk
    · rw [if_pos e1, if_neg e2]
  · rw [if_neg e1]
def DIn (a : Ce) (rs : Nat → List Nat) (n : Nat) (J : Ints) : Prop := ∀ x, x < n → J 113 x = nI (rs x).length ∧ ALo J 112 (600 * x) (rs x)
theorem DIn.fr {a : Ce} {rs : Nat → List Nat} {n : Nat} {J K : Ints} (h : DIn a rs n J) (h3 : ∀ i, K 113 i = J 113 i) (h2 : ∀ i, K 112 i = J 112 i) : DIn a rs n K := fun x hx => ⟨(h3 x).trans (h x hx).1, (h x hx).2.congr h2⟩
def DBv (a : Ce) (rs : Nat → List Nat) (s : Bs) (I0 J : Ints) (L0 K : Lngs) : Prop := Fr AQ FQ I0 J ∧ LQ L0 K ∧ DIn a rs (a 4).val J ∧ K 92 33 = s.1 ∧ ∀ g, g < (a 4).val → J 110 g = nI (s.2 g / 4) ∧ J 111 g = nI (s.2 g % 4)
theorem hom_d {a : Ce} (hW : WFc a) {g : Nat} (hg : g < (a 4).val) : hom a g / 4 = (gC a g).val ∧ hom a g % 4 = (gW a g).val := by
  have h := hW.2.2.2.2.2.2.2.2.2.1 g hg
  unfold hom
  omega
theorem clB_M {a : Ce} {ps : Nat → Nat} {g : Nat} {I : Ints} (hps : psOk a ps) (h : ∀ x, x < (a 4).val → I 110 x = nI (ps x / 4)) : ClM a I g 0 (clB a ps g) := by
  intro x hx
  unfold clB
  rw [Bool.or_eq_true, othB_iff]
  unfold clP
  rw [decide_eq_true_eq]
  constructor
  · rintro (h1 | ⟨k, k1, k2, k3⟩)
    · exact Or.inl h1
    · exact Or.inr ⟨rfl, k, k1, k2, by rw [h k k1, k3]⟩
  · rintro (h1 | ⟨_, k, k1, k2, k3⟩)
    · exact Or.inl h1
    · refine Or.inr ⟨k, k1, k2, ?_⟩
      have := hps k k1
      rw [h k k1, nIeq (by omega) (by omega)] at k3
      exact k3
theorem dances_ok {d : Nat} {sx : Sx} {I : Ints} {L : Lngs} {R : Rfs} {q : Q3} {a : Ce} {lc : List (Nat × Nat)} {lf : Nat → Nat} {gl : Nat → List Nat} {sn : Nat → Nat} {hic : Nat} (hh8 : hic ≤ 8) (hM : MC a lc lf gl sn I) {sd : Int64} (hsd : L 92 33 = sd)
    (h : ∀ J K, DBv a (fun g => rt a lc g (gl g)) (bB a (fun g => rt a lc g (gl g)) hic (sd, hom a) (mxL (fun g => rt a lc g (gl g)) (a 4).val)) I J L K → q (some (.int (nI (mxL (fun g => rt a lc g (gl g)) (a 4).val)))) J K R) : E0 mX12_dances (d + 6) sx [.ref 92, .int (nI hic)] I L R q := by
  obtain ⟨hW, hE, hM, hl, hEv, hS⟩ := hM
  have w4 := hW.2.2.2.2.1
  have w0 := hW.1.2
  have w1 := hW.2.1.2
  have hlen : ∀ g, g < (a 4).val → ((fun g => rt a lc g (gl g)) g).length ≤ 576 := fun g hg => rt_len hW (hE.2.1 g (by omega))
  have hle4 : ∀ g, g < (a 4).val → ∀ x ∈ (fun g => rt a lc g (gl g)) g, x ≤ 4 := fun g hg => rt_le hW (hE.2.1 g (by omega))
  have hkne : ∀ g, (fun g => rt a lc g (gl g)) g ≠ [] → (gK a g).val ≠ 1 := fun g hg => rt_ne hg
  have hown : ∀ g, g < (a 4).val → ∀ J q', Fr AQ FQ I J → (∀ K, OInv J K ((fun g => rt a lc g (gl g)) g) (rl a lc g (gl g)) → q' none K L R) → E0 mX12_laysOwn (d + 5) sx [.ref 92, .int (nI g)] J L R q' := by
    intro g hg J q' hF hq
    exact laysOwn_ok (hM.fr hF rfl rfl) hW (hl.fr hF rfl rfl rfl rfl) (hEv.congr (hF.ar 106 rfl rfl)) hg (hE.2.1 g (by omega)) hq
  generalize (fun g => rt a lc g (gl g)) = rs at *
  have hmx := mxL_le hlen _ (Nat.le_refl _)
  have hhom : psOk a (hom a) := fun g hg => hom_lt hW hg
  have hin : ∀ n b : Nat, ∀ J K, n = mxL rs (a 4).val - b → b ≤ mxL rs (a 4).val → DBv a rs (bB a rs hic (sd, hom a) b) I J L K → Y mX12_dances (d + 6) sx 114 [(0, .ref 92), (1, .int (nI hic)), (2, .int (nI (mxL rs (a 4).val))), (3, .int (nI b))] [] J K R q := by
    intro n
    induction n with
    | zero =>
      intro b J K hn hb hB
      have e : b = mxL rs (a 4).val := by omega
      refine RX12_dances_114  ⟨fun c1 => ?_, fun c1 => ?_⟩
      · (try simp (disch := omega) only [nlit, natrem, nIrm, nIam, nIam',  nI_add, pk_mul, nIsub, nIrem, nIdiv, nIand1, nIand3, nIand7, nIand31, nIshr, nIle, nIlt, nIeq, nIc, vpI, nIm1, m1nI, m1lt, nIlm, m1le, nIlem, nIneg, u2_ss, u2_nn, u2_kk, nIm1n, m1nIn, m1ltn, nIlmn, m1len, nIlemn] at c1); (try simp (disch := omega) only [nlit, natrem, nIrm, nIam, nIam',  nI_add, pk_mul, nIsub, nIrem, nIdiv, nIand1, nIand3, nIand7, nIand31, nIshr, nIle, nIlt, nIeq, nIc, vpI, nIm1, m1nI, m1lt, nIlm, m1le, nIlem, nIneg, u2_ss, u2_nn, u2_kk, nIm1n, m1nIn, m1ltn, nIlmn, m1len, nIlemn])
        rw [e] at hB
        exact h J K hB
      · (try simp (disch := omega) only [nlit, natrem, nIrm, nIam, nIam',  nI_add, pk_mul, nIsub, nIrem, nIdiv, nIand1, nIand3, nIand7, nIand31, nIshr, nIle, nIlt, nIeq, nIc, vpI, nIm1, m1nI, m1lt, nIlm, m1le, nIlem, nIneg, u2_ss, u2_nn, u2_kk, nIm1n, m1nIn, m1ltn, nIlmn, m1len, nIlemn] at c1) <;> (first | omega | exact absurd rfl c1 | exact absurd trivial c1)
    | succ n ih =>
      intro b J K hn hb hB
      have hpb := bB_ok hW (rs := rs) (hic := hic) (s := (sd, hom a)) hhom b
      have hg : ∀ m g : Nat, ∀ J K, m = (a 4).val - g → g ≤ (a 4).val → DBv a rs (bG a rs hic b (bB a rs hic (sd, hom a) b) g) I J L K → Y mX12_dances (d + 6) sx 122 [(0, .ref 92), (1, .int (nI hic)), (2, .int (nI (mxL rs (a 4).val))), (3, .int (nI b)), (4, .int (nI g))] [] J K R q := by
        intro m
        induction m with
        | zero =>
          intro g J K hm hg hB
          have e : g = (a 4).val := by omega
          refine RX12_dances_122 (guests_ok (hM.fr hB.1 rfl rfl) ?_)
          refine RX12_dances_128  ⟨fun c1 => ?_, fun c1 => ⟨?_, ⟨fun c2 => ?_, fun c2 => ?_⟩⟩⟩
          · (try simp (disch := omega) only [nlit, natrem, nIrm, nIam, nIam',  nI_add, pk_mul, nIsub, nIrem, nIdiv, nIand1, nIand3, nIand7, nIand31, nIshr, nIle, nIlt, nIeq, nIc, vpI, nIm1, m1nI, m1lt, nIlm, m1le, nIlem, nIneg, u2_ss, u2_nn, u2_kk, nIm1n, m1nIn, m1ltn, nIlmn, m1len, nIlemn] at c1); (try simp (disch := omega) only [nlit, natrem, nIrm, nIam, nIam',  nI_add, pk_mul, nIsub, nIrem, nIdiv, nIand1, nIand3, nIand7, nIand31, nIshr, nIle, nIlt, nIeq, nIc, vpI, nIm1, m1nI, m1lt, nIlm, m1le, nIlem, nIneg, u2_ss, u2_nn, u2_kk, nIm1n, m1nIn, m1ltn, nIlmn, m1len, nIlemn])
            rw [e] at hB
            exact ih (b + 1) J K (by omega) (by omega) hB
          · (try simp (disch := omega) only [nlit, natrem, nIrm, nIam, nIam',  nI_add, pk_mul, nIsub, nIrem, nIdiv, nIand1, nIand3, nIand7, nIand31, nIshr, nIle, nIlt, nIeq, nIc, vpI, nIm1, m1nI, m1lt, nIlm, m1le, nIlem, nIneg, u2_ss, u2_nn, u2_kk, nIm1n, m1nIn, m1ltn, nIlmn, m1len, nIlemn] at c1) <;> (try simp (disch := omega) only [nlit, natrem, nIrm, nIam, nIam',  nI_add, pk_mul, nIsub, nIrem, nIdiv, nIand1, nIand3, nIand7, nIand31, nIshr, nIle, nIlt, nIeq, nIc, vpI, nIm1, m1nI, m1lt, nIlm, m1le, nIlem, nIneg, u2_ss, u2_nn, u2_kk, nIm1n, m1nIn, m1ltn, nIlmn, m1len, nIlemn]) <;> (first | omega | trivial)
          · (try simp (disch := omega) only [nlit, natrem, nIrm, nIam, nIam',  nI_add, pk_mul, nIsub, nIrem, nIdiv, nIand1, nIand3, nIand7, nIand31, nIshr, nIle, nIlt, nIeq, nIc, vpI, nIm1, m1nI, m1lt, nIlm, m1le, nIlem, nIneg, u2_ss, u2_nn, u2_kk, nIm1n, m1nIn, m1ltn, nIlmn, m1len, nIlemn] at c1 c2) <;> (first | omega | exact absurd rfl c1 | exact absurd trivial c1 | exact absurd rfl c2 | exact absurd trivial c2)
          · (try simp (disch := omega) only [nlit, natrem, nIrm, nIam, nIam',  nI_add, pk_mul, nIsub, nIrem, nIdiv, nIand1, nIand3, nIand7, nIand31, nIshr, nIle, nIlt, nIeq, nIc, vpI, nIm1, m1nI, m1lt, nIlm, m1le, nIlem, nIneg, u2_ss, u2_nn, u2_kk, nIm1n, m1nIn, m1ltn, nIlmn, m1len, nIlemn] at c1 c2) <;> (first | omega | exact absurd rfl c1 | exact absurd trivial c1 | exact absurd rfl c2 | exact absurd trivial c2)
        | succ m ihg =>
          intro g J K hm hg hB
          have hMJ := hM.fr hB.1 rfl rfl
          obtain ⟨r1, r2⟩ := hB.2.2.1 g (by omega)
          have hl' := hlen g (by omega)
          have hps := bG_ok hW (rs := rs) (hic := hic) (b := b) hpb g hg
          have hcon := ihg (g + 1)
          have eB : bG a rs hic b (bB a rs hic (sd, hom a) b) (g + 1) = b1 a rs hic b (bG a rs hic b (bB a rs hic (sd, hom a) b) g) g := rfl
          rw [eB] at hcon
          generalize bG a rs hic b (bB a rs hic (sd, hom a) b) g = s at *
          refine RX12_dances_122 (guests_ok hMJ ?_)
          refine RX12_dances_128  ⟨fun c1 => ?_, fun c1 => ⟨?_, ⟨fun c2 => ?_, fun c2 => ?_⟩⟩⟩
          · (try simp (disch := omega) only [nlit, natrem, nIrm, nIam, nIam',  nI_add, pk_mul, nIsub, nIrem, nIdiv, nIand1, nIand3, nIand7, nIand31, nIshr, nIle, nIlt, nIeq, nIc, vpI, nIm1, m1nI, m1lt, nIlm, m1le, nIlem, nIneg, u2_ss, u2_nn, u2_kk, nIm1n, m1nIn, m1ltn, nIlmn, m1len, nIlemn, r1] at c1); (try simp (disch := omega) only [nlit, natrem, nIrm, nIam, nIam',  nI_add, pk_mul, nIsub, nIrem, nIdiv, nIand1, nIand3, nIand7, nIand31, nIshr, nIle, nIlt, nIeq, nIc, vpI, nIm1, m1nI, m1lt, nIlm, m1le, nIlem, nIneg, u2_ss, u2_nn, u2_kk, nIm1n, m1nIn, m1ltn, nIlmn, m1len, nIlemn, r1])
            omega
          · (try simp (disch := omega) only [nlit, natrem, nIrm, nIam, nIam',  nI_add, pk_mul, nIsub, nIrem, nIdiv, nIand1, nIand3, nIand7, nIand31, nIshr, nIle, nIlt, nIeq, nIc, vpI, nIm1, m1nI, m1lt, nIlm, m1le, nIlem, nIneg, u2_ss, u2_nn, u2_kk, nIm1n, m1nIn, m1ltn, nIlmn, m1len, nIlemn, r1] at c1) <;> (try simp (disch := omega) only [nlit, natrem, nIrm, nIam, nIam',  nI_add, pk_mul, nIsub, nIrem, nIdiv, nIand1, nIand3, nIand7, nIand31, nIshr, nIle, nIlt, nIeq, nIc, vpI, nIm1, m1nI, m1lt, nIlm, m1le, nIlem, nIneg, u2_ss, u2_nn, u2_kk, nIm1n, m1nIn, m1ltn, nIlmn, m1len, nIlemn, r1]) <;> (first | omega | trivial)
          · (try simp (disch := omega) only [nlit, natrem, nIrm, nIam, nIam',  nI_add, pk_mul, nIsub, nIrem, nIdiv, nIand1, nIand3, nIand7, nIand31, nIshr, nIle, nIlt, nIeq, nIc, vpI, nIm1, m1nI, m1lt, nIlm, m1le, nIlem, nIneg, u2_ss, u2_nn, u2_kk, nIm1n, m1nIn, m1ltn, nIlmn, m1len, nIlemn, r1] at c1 c2); (try simp (disch := omega) only [nlit, natrem, nIrm, nIam, nIam',  nI_add, pk_mul, nIsub, nIrem, nIdiv, nIand1, nIand3, nIand7, nIand31, nIshr, nIle, nIlt, nIeq, nIc, vpI, nIm1, m1nI, m1lt, nIlm, m1le, nIlem, nIneg, u2_ss, u2_nn, u2_kk, nIm1n, m1nIn, m1ltn, nIlmn, m1len, nIlemn, r1])
            have es : b1 a rs hic b s g = s := by unfold b1; rw [if_neg (by omega)]
            rw [es] at hcon
            exact hcon J K (by omega) (by omega) hB
          · (try simp (disch := omega) only [nlit, natrem, nIrm, nIam, nIam',  nI_add, pk_mul, nIsub, nIrem, nIdiv, nIand1, nIand3, nIand7, nIand31, nIshr, nIle, nIlt, nIeq, nIc, vpI, nIm1, m1nI, m1lt, nIlm, m1le, nIlem, nIneg, u2_ss, u2_nn, u2_kk, nIm1n, m1nIn, m1ltn, nIlmn, m1len, nIlemn, r1] at c1 c2); (try simp (disch := omega) only [nlit, natrem, nIrm, nIam, nIam',  nI_add, pk_mul, nIsub, nIrem, nIdiv, nIand1, nIand3, nIand7, nIand31, nIshr, nIle, nIlt, nIeq, nIc, vpI, nIm1, m1nI, m1lt, nIlm, m1le, nIlem, nIneg, u2_ss, u2_nn, u2_kk, nIm1n, m1nIn, m1ltn, nIlmn, m1len, nIlemn, r1])
            have e8 := r2 b (by omega)
            obtain ⟨i1, i2, i3, i4, i5⟩ := hB
            have hx : (rs g).getD b 0 ≤ 4 := by
              rw [List.getD_eq_getElem?_getD, List.getElem?_eq_getElem (by omega)]
              exact hle4 g (by omega) _ (List.getElem_mem _)
            have hne : rs g ≠ [] := by intro e; rw [e] at c2; simp at c2
            obtain ⟨e0, e1⟩ := i5 g (by omega)
            have hpg := hps g (by omega)
            have hgo : ∀ st, st ≤ 4 → st = (if nI hic ≤ drw (nxt s.1) then (rs g).getD b 0 else 4) → E0 mX12_takesStep (d + 5) sx [.ref 92, .int (nI g), .int (nI st), .int (nI 0)] (u2 (u2 (u2 J 92 28 (nI (s.2 g / 4 % 8))) 92 29 (nI (s.2 g / 4 / 8))) 92 30 (nI (s.2 g % 4))) (u2 K 92 33 (nxt s.1)) R (fun r J' K' T' => Y mX12_dances (d + 6) sx 227 [(0, .ref 92), (1, .int (nI hic)), (2, .int (nI (mxL rs (a 4).val))), (3, .int (nI b)), (4, .int (nI g))] (r.toList ++ []) J' K' T' q) := by
              intro st hst est
              have es : b1 a rs hic b s g = (nxt s.1, up1 s.2 g (aft a (clB a s.2 g) (gK a g).val (s.2 g) st)) := by unfold b1; rw [if_pos (by omega), est]
              rw [es] at hcon
              have hF : Fr AQ FQ J (u2 (u2 (u2 J 92 28 (nI (s.2 g / 4 % 8))) 92 29 (nI (s.2 g / 4 / 8))) 92 30 (nI (s.2 g % 4))) := ((Fr.rf.uf rfl).uf rfl).uf rfl
              have hat : atP (u2 (u2 (u2 J 92 28 (nI (s.2 g / 4 % 8))) 92 29 (nI (s.2 g / 4 / 8))) 92 30 (nI (s.2 g % 4))) (s.2 g) := by
                refine ⟨hpg, ?_, ?_, ?_⟩
                · rw [u2_kk _ _ _ _ (by decide), u2_kk _ _ _ _ (by decide), u2_ss]
                · rw [u2_kk _ _ _ _ (by decide), u2_ss]; congr 1; omega
                · rw [u2_ss]
              have e110 : ∀ i, (u2 (u2 (u2 J 92 28 (nI (s.2 g / 4 % 8))) 92 29 (nI (s.2 g / 4 / 8))) 92 30 (nI (s.2 g % 4))) 110 i = J 110 i := fun i => by rw [u2_nn _ _ _ _ (by decide), u2_nn _ _ _ _ (by decide), u2_nn _ _ _ _ (by decide)]
              refine takesStep_ok (al := 0) (cl := clB a s.2 g) (hM.fr (i1.tr hF) rfl rfl) hW (by omega) (hkne g hne) hat hst (by decide) (clB_M hps (fun x hx => (e110 x).trans (i5 x hx).1)) (fun M hM1 hM2 => RX12_dances_227 ?_)
              refine cellNow_ok hM1 ?_
              have hFM : Fr AQ FQ J M := hF.tr (hM2.mn rfl rfl)
              have e30 := hM1.2.2.2
              have hlt := aft_lt (cl := clB a s.2 g) (kd := (gK a g).val) (s := st) w0 w1 hpg
              refine RX12_dances_237  ⟨?_, ⟨?_, ?_⟩⟩
              · (try simp (disch := omega) only [nlit, natrem, nIrm, nIam, nIam',  nI_add, pk_mul, nIsub, nIrem, nIdiv, nIand1, nIand3, nIand7, nIand31, nIshr, nIle, nIlt, nIeq, nIc, vpI, nIm1, m1nI, m1lt, nIlm, m1le, nIlem, nIneg, u2_ss, u2_nn, u2_kk, nIm1n, m1nIn, m1ltn, nIlmn, m1len, nIlemn, e30]) <;> (first | omega | trivial)
              · (try simp (disch := omega) only [nlit, natrem, nIrm, nIam, nIam',  nI_add, pk_mul, nIsub, nIrem, nIdiv, nIand1, nIand3, nIand7, nIand31, nIshr, nIle, nIlt, nIeq, nIc, vpI, nIm1, m1nI, m1lt, nIlm, m1le, nIlem, nIneg, u2_ss, u2_nn, u2_kk, nIm1n, m1nIn, m1ltn, nIlmn, m1len, nIlemn, e30]) <;> (first | omega | trivial)
              · (try simp (disch := omega) only [nlit, natrem, nIrm, nIam, nIam',  nI_add, pk_mul, nIsub, nIrem, nIdiv, nIand1, nIand3, nIand7, nIand31, nIshr, nIle, nIlt, nIeq, nIc, vpI, nIm1, m1nI, m1lt, nIlm, m1le, nIlem, nIneg, u2_ss, u2_nn, u2_kk, nIm1n, m1nIn, m1ltn, nIlmn, m1len, nIlemn, e30])
                refine hcon _ _ (by omega) (by omega) ⟨((i1.tr hFM).ua rfl).ua rfl, i2.up, ?_, u2_ss _ _ _ _, fun x hx => ?_⟩
                · refine i3.fr (fun i => ?_) (fun i => ?_)
                  · rw [u2_nn _ _ _ _ (by decide), u2_nn _ _ _ _ (by decide), hM2.ar 113 rfl rfl, u2_nn _ _ _ _ (by decide), u2_nn _ _ _ _ (by decide), u2_nn _ _ _ _ (by decide)]
                  · rw [u2_nn _ _ _ _ (by decide), u2_nn _ _ _ _ (by decide), hM2.ar 112 rfl rfl, u2_nn _ _ _ _ (by decide), u2_nn _ _ _ _ (by decide), u2_nn _ _ _ _ (by decide)]
                · show _ = nI (up1 s.2 g _ x / 4) ∧ _ = nI (up1 s.2 g _ x % 4)
                  by_cases e : x = g
                  · rw [e, up1_s, u2_ss, u2_nn _ _ _ _ (by decide), u2_ss]; exact ⟨rfl, rfl⟩
                  · rw [up1_n _ _ e]
                    refine ⟨?_, ?_⟩
                    · simp (disch := omega) only [nlit, natrem, nIrm, nIam, nIam',  nI_add, pk_mul, nIsub, nIrem, nIdiv, nIand1, nIand3, nIand7, nIand31, nIshr, nIle, nIlt, nIeq, nIc, vpI, nIm1, m1nI, m1lt, nIlm, m1le, nIlem, nIneg, u2_ss, u2_nn, u2_kk, nIm1n, m1nIn, m1ltn, nIlmn, m1len, nIlemn]
                      rw [hM2.ar 110 rfl rfl, e110]
                      exact (i5 x hx).1
                    · simp (disch := omega) only [nlit, natrem, nIrm, nIam, nIam',  nI_add, pk_mul, nIsub, nIrem, nIdiv, nIand1, nIand3, nIand7, nIand31, nIshr, nIle, nIlt, nIeq, nIc, vpI, nIm1, m1nI, m1lt, nIlm, m1le, nIlem, nIneg, u2_ss, u2_nn, u2_kk, nIm1n, m1nIn, m1ltn, nIlmn, m1len, nIlemn]
                      rw [hM2.ar 111 rfl rfl, u2_nn _ _ _ _ (by decide), u2_nn _ _ _ _ (by decide), u2_nn _ _ _ _ (by decide)]
                      exact (i5 x hx).2
            refine EX12_draw ⟨by decide, ?_⟩
            have ed : ∀ T, T = K 92 33 → (Int64.toInt32 (((((T * 1103515245) + 12345) - ((T * 1103515245) + 12345) / 2147483648 * 2147483648) / 65536) - ((((T * 1103515245) + 12345) - ((T * 1103515245) + 12345) / 2147483648 * 2147483648) / 65536) / (Int32.toInt64 (nI 8)) * (Int32.toInt64 (nI 8)))) = drw (nxt s.1) := by
              intro T hT
              rw [hT, i4, show Int32.toInt64 (nI 8) = 8 by decide]
              rfl
            rw [ed _ rfl]
            have en : ((K 92 33 * 1103515245) + 12345) - ((K 92 33 * 1103515245) + 12345) / 2147483648 * 2147483648 = nxt s.1 := by rw [i4]; rfl
            rw [en]
            refine RX12_dances_148 ⟨fun cc => ⟨?_, ?_, ?_, ?_, ?_⟩, fun cc => ⟨?_, ?_, ?_, ?_⟩⟩
            · simp (disch := omega) only [nlit, natrem, nIrm, nIam, nIam',  nI_add, pk_mul, nIsub, nIrem, nIdiv, nIand1, nIand3, nIand7, nIand31, nIshr, nIle, nIlt, nIeq, nIc, vpI, nIm1, m1nI, m1lt, nIlm, m1le, nIlem, nIneg, u2_ss, u2_nn, u2_kk, nIm1n, m1nIn, m1ltn, nIlmn, m1len, nIlemn]; omega
            · simp (disch := omega) only [nlit, natrem, nIrm, nIam, nIam',  nI_add, pk_mul, nIsub, nIrem, nIdiv, nIand1, nIand3, nIand7, nIand31, nIshr, nIle, nIlt, nIeq, nIc, vpI, nIm1, m1nI, m1lt, nIlm, m1le, nIlem, nIneg, u2_ss, u2_nn, u2_kk, nIm1n, m1nIn, m1ltn, nIlmn, m1len, nIlemn]; omega
            · simp (disch := omega) only [nlit, natrem, nIrm, nIam, nIam',  nI_add, pk_mul, nIsub, nIrem, nIdiv, nIand1, nIand3, nIand7, nIand31, nIshr, nIle, nIlt, nIeq, nIc, vpI, nIm1, m1nI, m1lt, nIlm, m1le, nIlem, nIneg, u2_ss, u2_nn, u2_kk, nIm1n, m1nIn, m1ltn, nIlmn, m1len, nIlemn]; omega
            · simp (disch := omega) only [nlit, natrem, nIrm, nIam, nIam',  nI_add, pk_mul, nIsub, nIrem, nIdiv, nIand1, nIand3, nIand7, nIand31, nIshr, nIle, nIlt, nIeq, nIc, vpI, nIm1, m1nI, m1lt, nIlm, m1le, nIlem, nIneg, u2_ss, u2_nn, u2_kk, nIm1n, m1nIn, m1ltn, nIlmn, m1len, nIlemn]; omega
            · simp (disch := omega) only [nlit, natrem, nIrm, nIam, nIam',  nI_add, pk_mul, nIsub, nIrem, nIdiv, nIand1, nIand3, nIand7, nIand31, nIshr, nIle, nIlt, nIeq, nIc, vpI, nIm1, m1nI, m1lt, nIlm, m1le, nIlem, nIneg, u2_ss, u2_nn, u2_kk, nIm1n, m1nIn, m1ltn, nIlmn, m1len, nIlemn, e0, e1, e8]
              exact hgo _ hx (by rw [if_pos cc])
            · simp (disch := omega) only [nlit, natrem, nIrm, nIam, nIam',  nI_add, pk_mul, nIsub, nIrem, nIdiv, nIand1, nIand3, nIand7, nIand31, nIshr, nIle, nIlt, nIeq, nIc, vpI, nIm1, m1nI, m1lt, nIlm, m1le, nIlem, nIneg, u2_ss, u2_nn, u2_kk, nIm1n, m1nIn, m1ltn, nIlmn, m1len, nIlemn]; omega
            · simp (disch := omega) only [nlit, natrem, nIrm, nIam, nIam',  nI_add, pk_mul, nIsub, nIrem, nIdiv, nIand1, nIand3, nIand7, nIand31, nIshr, nIle, nIlt, nIeq, nIc, vpI, nIm1, m1nI, m1lt, nIlm, m1le, nIlem, nIneg, u2_ss, u2_nn, u2_kk, nIm1n, m1nIn, m1ltn, nIlmn, m1len, nIlemn]; omega
            · simp (disch := omega) only [nlit, natrem, nIrm, nIam, nIam',  nI_add, pk_mul, nIsub, nIrem, nIdiv, nIand1, nIand3, nIand7, nIand31, nIshr, nIle, nIlt, nIeq, nIc, vpI, nIm1, m1nI, m1lt, nIlm, m1le, nIlem, nIneg, u2_ss, u2_nn, u2_kk, nIm1n, m1nIn, m1ltn, nIlmn, m1len, nIlemn]; omega
            · simp (disch := omega) only [nlit, natrem, nIrm, nIam, nIam',  nI_add, pk_mul, nIsub, nIrem, nIdiv, nIand1, nIand3, nIand7, nIand31, nIshr, nIle, nIlt, nIeq, nIc, vpI, nIm1, m1nI, m1lt, nIlm, m1le, nIlem, nIneg, u2_ss, u2_nn, u2_kk, nIm1n, m1nIn, m1ltn, nIlmn, m1len, nIlemn, e0, e1]
              exact hgo 4 (by decide) (by rw [if_neg cc])
      refine RX12_dances_114  ⟨fun c1 => ?_, fun c1 => ?_⟩
      · (try simp (disch := omega) only [nlit, natrem, nIrm, nIam, nIam',  nI_add, pk_mul, nIsub, nIrem, nIdiv, nIand1, nIand3, nIand7, nIand31, nIshr, nIle, nIlt, nIeq, nIc, vpI, nIm1, m1nI, m1lt, nIlm, m1le, nIlem, nIneg, u2_ss, u2_nn, u2_kk, nIm1n, m1nIn, m1ltn, nIlmn, m1len, nIlemn] at c1); (try simp (disch := omega) only [nlit, natrem, nIrm, nIam, nIam',  nI_add, pk_mul, nIsub, nIrem, nIdiv, nIand1, nIand3, nIand7, nIand31, nIshr, nIle, nIlt, nIeq, nIc, vpI, nIm1, m1nI, m1lt, nIlm, m1le, nIlem, nIneg, u2_ss, u2_nn, u2_kk, nIm1n, m1nIn, m1ltn, nIlmn, m1len, nIlemn])
        omega
      · (try simp (disch := omega) only [nlit, natrem, nIrm, nIam, nIam',  nI_add, pk_mul, nIsub, nIrem, nIdiv, nIand1, nIand3, nIand7, nIand31, nIshr, nIle, nIlt, nIeq, nIc, vpI, nIm1, m1nI, m1lt, nIlm, m1le, nIlem, nIneg, u2_ss, u2_nn, u2_kk, nIm1n, m1nIn, m1ltn, nIlmn, m1len, nIlemn] at c1); (try simp (disch := omega) only [nlit, natrem, nIrm, nIam, nIam',  nI_add, pk_mul, nIsub, nIrem, nIdiv, nIand1, nIand3, nIand7, nIand31, nIshr, nIle, nIlt, nIeq, nIc, vpI, nIm1, m1nI, m1lt, nIlm, m1le, nIlem, nIneg, u2_ss, u2_nn, u2_kk, nIm1n, m1nIn, m1ltn, nIlmn, m1len, nIlemn])
        exact hg _ 0 J K rfl (Nat.zero_le _) hB
  have hst : ∀ n g : Nat, ∀ J, n = (a 4).val - g → g ≤ (a 4).val → Fr AQ FQ I J → DIn a rs g J → (∀ x, x < g → J 110 x = nI (hom a x / 4) ∧ J 111 x = nI (hom a x % 4)) → Y mX12_dances (d + 6) sx 4 [(0, .ref 92), (1, .int (nI hic)), (2, .int (nI (mxL rs g))), (3, .int (nI g))] [] J L R q := by
    intro n
    induction n with
    | zero =>
      intro g J hn hg hF hD hp
      have e : g = (a 4).val := by omega
      subst e
      refine RX12_dances_4 (guests_ok (hM.fr hF rfl rfl) ?_)
      refine RX12_dances_9  ⟨fun c1 => ?_, fun c1 => ?_⟩
      · (try simp (disch := omega) only [nlit, natrem, nIrm, nIam, nIam',  nI_add, pk_mul, nIsub, nIrem, nIdiv, nIand1, nIand3, nIand7, nIand31, nIshr, nIle, nIlt, nIeq, nIc, vpI, nIm1, m1nI, m1lt, nIlm, m1le, nIlem, nIneg, u2_ss, u2_nn, u2_kk, nIm1n, m1nIn, m1ltn, nIlmn, m1len, nIlemn] at c1); (try simp (disch := omega) only [nlit, natrem, nIrm, nIam, nIam',  nI_add, pk_mul, nIsub, nIrem, nIdiv, nIand1, nIand3, nIand7, nIand31, nIshr, nIle, nIlt, nIeq, nIc, vpI, nIm1, m1nI, m1lt, nIlm, m1le, nIlem, nIneg, u2_ss, u2_nn, u2_kk, nIm1n, m1nIn, m1ltn, nIlmn, m1len, nIlemn])
        exact hin _ 0 J L rfl (Nat.zero_le _) ⟨hF, LQ.rf, hD, hsd, hp⟩
      · (try simp (disch := omega) only [nlit, natrem, nIrm, nIam, nIam',  nI_add, pk_mul, nIsub, nIrem, nIdiv, nIand1, nIand3, nIand7, nIand31, nIshr, nIle, nIlt, nIeq, nIc, vpI, nIm1, m1nI, m1lt, nIlm, m1le, nIlem, nIneg, u2_ss, u2_nn, u2_kk, nIm1n, m1nIn, m1ltn, nIlmn, m1len, nIlemn] at c1) <;> (first | omega | exact absurd rfl c1 | exact absurd trivial c1)
    | succ n ih =>
      intro g J hn hg hF hD hp
      have hl' := hlen g (by omega)
      have hm := mxL_le hlen g (by omega)
      refine RX12_dances_4 (guests_ok (hM.fr hF rfl rfl) ?_)
      refine RX12_dances_9  ⟨fun c1 => ?_, fun c1 => ?_⟩
      · (try simp (disch := omega) only [nlit, natrem, nIrm, nIam, nIam',  nI_add, pk_mul, nIsub, nIrem, nIdiv, nIand1, nIand3, nIand7, nIand31, nIshr, nIle, nIlt, nIeq, nIc, vpI, nIm1, m1nI, m1lt, nIlm, m1le, nIlem, nIneg, u2_ss, u2_nn, u2_kk, nIm1n, m1nIn, m1ltn, nIlmn, m1len, nIlemn] at c1); (try simp (disch := omega) only [nlit, natrem, nIrm, nIam, nIam',  nI_add, pk_mul, nIsub, nIrem, nIdiv, nIand1, nIand3, nIand7, nIand31, nIshr, nIle, nIlt, nIeq, nIc, vpI, nIm1, m1nI, m1lt, nIlm, m1le, nIlem, nIneg, u2_ss, u2_nn, u2_kk, nIm1n, m1nIn, m1ltn, nIlmn, m1len, nIlemn])
        omega
      · (try simp (disch := omega) only [nlit, natrem, nIrm, nIam, nIam',  nI_add, pk_mul, nIsub, nIrem, nIdiv, nIand1, nIand3, nIand7, nIand31, nIshr, nIle, nIlt, nIeq, nIc, vpI, nIm1, m1nI, m1lt, nIlm, m1le, nIlem, nIneg, u2_ss, u2_nn, u2_kk, nIm1n, m1nIn, m1ltn, nIlmn, m1len, nIlemn] at c1); (try simp (disch := omega) only [nlit, natrem, nIrm, nIam, nIam',  nI_add, pk_mul, nIsub, nIrem, nIdiv, nIand1, nIand3, nIand7, nIand31, nIshr, nIle, nIlt, nIeq, nIc, vpI, nIm1, m1nI, m1lt, nIlm, m1le, nIlem, nIneg, u2_ss, u2_nn, u2_kk, nIm1n, m1nIn, m1ltn, nIlmn, m1len, nIlemn])
        refine hown g (by omega) J _ hF (fun K hK => RX12_dances_17 ?_)
        have hFK : Fr AQ FQ I K := hF.tr (hK.1.mn rfl rfl)
        have hDK : DIn a rs g K := hD.fr (hK.1.ar 113 rfl rfl) (hK.1.ar 112 rfl rfl)
        have hpK : ∀ x, x < g → K 110 x = nI (hom a x / 4) ∧ K 111 x = nI (hom a x % 4) := fun x hx => by rw [hK.1.ar 110 rfl rfl, hK.1.ar 111 rfl rfl]; exact hp x hx
        have e25 := hK.2.1
        have hA := hK.2.2.2
        have hcp : ∀ m k : Nat, ∀ M, m = (rs g).length - k → k ≤ (rs g).length → Fr [112] [] K M → DIn a rs g M → (∀ j, j < k → M 112 (600 * g + j) = nI ((rs g).getD j 0)) → Y mX12_dances (d + 6) sx 20 [(0, .ref 92), (1, .int (nI hic)), (2, .int (nI (mxL rs g))), (3, .int (nI g)), (4, .int (nI k))] [] M L R q := by
          intro m
          induction m with
          | zero =>
            intro k M hm' hk hFM hDM hj
            have e25 := (hFM.ar 92 rfl rfl 25).trans e25
            have hFI : Fr AQ FQ I M := hFK.tr (hFM.mn rfl rfl)
            have htail : ∀ mx, mx = max (mxL rs g) (rs g).length → E0 mX12_guestOf (d + 5) sx [.ref 92, .int (nI g), .int 1] (u2 M 113 g (nI (rs g).length)) L R (fun r J' K' T' => Y mX12_dances (d + 6) sx 93 [(0, .ref 92), (1, .int (nI hic)), (2, .int (nI mx)), (3, .int (nI g))] (r.toList ++ [.int (nI g), .ref 110]) J' K' T' q) := by
              intro mx hmx'
              have hF1 : Fr AQ FQ I (u2 M 113 g (nI (rs g).length)) := hFI.ua rfl
              refine guestC_ok (hM.fr hF1 rfl rfl) (by omega) ?_
              refine RX12_dances_93  ⟨?_, ?_⟩
              · (try simp (disch := omega) only [nlit, natrem, nIrm, nIam, nIam',  nI_add, pk_mul, nIsub, nIrem, nIdiv, nIand1, nIand3, nIand7, nIand31, nIshr, nIle, nIlt, nIeq, nIc, vpI, nIm1, m1nI, m1lt, nIlm, m1le, nIlem, nIneg, u2_ss, u2_nn, u2_kk, nIm1n, m1nIn, m1ltn, nIlmn, m1len, nIlemn]) <;> (first | omega | trivial)
              · (try simp (disch := omega) only [nlit, natrem, nIrm, nIam, nIam',  nI_add, pk_mul, nIsub, nIrem, nIdiv, nIand1, nIand3, nIand7, nIand31, nIshr, nIle, nIlt, nIeq, nIc, vpI, nIm1, m1nI, m1lt, nIlm, m1le, nIlem, nIneg, u2_ss, u2_nn, u2_kk, nIm1n, m1nIn, m1ltn, nIlmn, m1len, nIlemn])
                have hF2 : Fr AQ FQ I (u2 (u2 M 113 g (nI (rs g).length)) 110 g (nI (gC a g).val)) := hF1.ua rfl
                refine guestW_ok (hM.fr hF2 rfl rfl) (by omega) ?_
                refine RX12_dances_105  ⟨?_, ?_⟩
                · (try simp (disch := omega) only [nlit, natrem, nIrm, nIam, nIam',  nI_add, pk_mul, nIsub, nIrem, nIdiv, nIand1, nIand3, nIand7, nIand31, nIshr, nIle, nIlt, nIeq, nIc, vpI, nIm1, m1nI, m1lt, nIlm, m1le, nIlem, nIneg, u2_ss, u2_nn, u2_kk, nIm1n, m1nIn, m1ltn, nIlmn, m1len, nIlemn]) <;> (first | omega | trivial)
                · (try simp (disch := omega) only [nlit, natrem, nIrm, nIam, nIam',  nI_add, pk_mul, nIsub, nIrem, nIdiv, nIand1, nIand3, nIand7, nIand31, nIshr, nIle, nIlt, nIeq, nIc, vpI, nIm1, m1nI, m1lt, nIlm, m1le, nIlem, nIneg, u2_ss, u2_nn, u2_kk, nIm1n, m1nIn, m1ltn, nIlmn, m1len, nIlemn])
                  rw [hmx']
                  refine ih (g + 1) _ (by omega) (by omega) (hF2.ua rfl) (fun x hx => ?_) (fun x hx => ?_)
                  · by_cases e : x = g
                    · subst e
                      refine ⟨by rw [u2_nn _ _ _ _ (by decide), u2_nn _ _ _ _ (by decide), u2_ss], fun j hjl => ?_⟩
                      rw [u2_nn _ _ _ _ (by decide), u2_nn _ _ _ _ (by decide), u2_nn _ _ _ _ (by decide)]
                      exact hj j (by omega)
                    · refine ⟨?_, (hDM x (by omega)).2.congr (fun i => ?_)⟩
                      · rw [u2_nn _ _ _ _ (by decide), u2_nn _ _ _ _ (by decide), u2_kk _ _ _ _ e]; exact (hDM x (by omega)).1
                      · rw [u2_nn _ _ _ _ (by decide), u2_nn _ _ _ _ (by decide), u2_nn _ _ _ _ (by decide)]
                  · by_cases e : x = g
                    · subst e
                      rw [u2_ss, u2_nn _ _ _ _ (by decide), u2_ss, (hom_d hW (by omega)).1, (hom_d hW (by omega)).2]
                      exact ⟨rfl, rfl⟩
                    · refine ⟨?_, ?_⟩
                      · simp (disch := omega) only [nlit, natrem, nIrm, nIam, nIam',  nI_add, pk_mul, nIsub, nIrem, nIdiv, nIand1, nIand3, nIand7, nIand31, nIshr, nIle, nIlt, nIeq, nIc, vpI, nIm1, m1nI, m1lt, nIlm, m1le, nIlem, nIneg, u2_ss, u2_nn, u2_kk, nIm1n, m1nIn, m1ltn, nIlmn, m1len, nIlemn]
                        rw [hFM.ar 110 rfl rfl]
                        exact (hpK x (by omega)).1
                      · simp (disch := omega) only [nlit, natrem, nIrm, nIam, nIam',  nI_add, pk_mul, nIsub, nIrem, nIdiv, nIand1, nIand3, nIand7, nIand31, nIshr, nIle, nIlt, nIeq, nIc, vpI, nIm1, m1nI, m1lt, nIlm, m1le, nIlem, nIneg, u2_ss, u2_nn, u2_kk, nIm1n, m1nIn, m1ltn, nIlmn, m1len, nIlemn]
                        rw [hFM.ar 111 rfl rfl]
                        exact (hpK x (by omega)).2
            refine RX12_dances_20  ⟨fun c1 => ⟨?_, ⟨fun c2 => ?_, fun c2 => ?_⟩⟩, fun c1 => ⟨?_, ⟨?_, ?_⟩⟩⟩
            · (try simp (disch := omega) only [nlit, natrem, nIrm, nIam, nIam',  nI_add, pk_mul, nIsub, nIrem, nIdiv, nIand1, nIand3, nIand7, nIand31, nIshr, nIle, nIlt, nIeq, nIc, vpI, nIm1, m1nI, m1lt, nIlm, m1le, nIlem, nIneg, u2_ss, u2_nn, u2_kk, nIm1n, m1nIn, m1ltn, nIlmn, m1len, nIlemn, e25] at c1) <;> (try simp (disch := omega) only [nlit, natrem, nIrm, nIam, nIam',  nI_add, pk_mul, nIsub, nIrem, nIdiv, nIand1, nIand3, nIand7, nIand31, nIshr, nIle, nIlt, nIeq, nIc, vpI, nIm1, m1nI, m1lt, nIlm, m1le, nIlem, nIneg, u2_ss, u2_nn, u2_kk, nIm1n, m1nIn, m1ltn, nIlmn, m1len, nIlemn, e25]) <;> (first | omega | trivial)
            · (try simp (disch := omega) only [nlit, natrem, nIrm, nIam, nIam',  nI_add, pk_mul, nIsub, nIrem, nIdiv, nIand1, nIand3, nIand7, nIand31, nIshr, nIle, nIlt, nIeq, nIc, vpI, nIm1, m1nI, m1lt, nIlm, m1le, nIlem, nIneg, u2_ss, u2_nn, u2_kk, nIm1n, m1nIn, m1ltn, nIlmn, m1len, nIlemn, e25] at c1 c2); (try simp (disch := omega) only [nlit, natrem, nIrm, nIam, nIam',  nI_add, pk_mul, nIsub, nIrem, nIdiv, nIand1, nIand3, nIand7, nIand31, nIshr, nIle, nIlt, nIeq, nIc, vpI, nIm1, m1nI, m1lt, nIlm, m1le, nIlem, nIneg, u2_ss, u2_nn, u2_kk, nIm1n, m1nIn, m1ltn, nIlmn, m1len, nIlemn, e25])
              exact htail _ (by omega)
            · (try simp (disch := omega) only [nlit, natrem, nIrm, nIam, nIam',  nI_add, pk_mul, nIsub, nIrem, nIdiv, nIand1, nIand3, nIand7, nIand31, nIshr, nIle, nIlt, nIeq, nIc, vpI, nIm1, m1nI, m1lt, nIlm, m1le, nIlem, nIneg, u2_ss, u2_nn, u2_kk, nIm1n, m1nIn, m1ltn, nIlmn, m1len, nIlemn, e25] at c1 c2); (try simp (disch := omega) only [nlit, natrem, nIrm, nIam, nIam',  nI_add, pk_mul, nIsub, nIrem, nIdiv, nIand1, nIand3, nIand7, nIand31, nIshr, nIle, nIlt, nIeq, nIc, vpI, nIm1, m1nI, m1lt, nIlm, m1le, nIlem, nIneg, u2_ss, u2_nn, u2_kk, nIm1n, m1nIn, m1ltn, nIlmn, m1len, nIlemn, e25])
              exact htail _ (by omega)
            · (try simp (disch := omega) only [nlit, natrem, nIrm, nIam, nIam',  nI_add, pk_mul, nIsub, nIrem, nIdiv, nIand1, nIand3, nIand7, nIand31, nIshr, nIle, nIlt, nIeq, nIc, vpI, nIm1, m1nI, m1lt, nIlm, m1le, nIlem, nIneg, u2_ss, u2_nn, u2_kk, nIm1n, m1nIn, m1ltn, nIlmn, m1len, nIlemn, e25] at c1) <;> (try simp (disch := omega) only [nlit, natrem, nIrm, nIam, nIam',  nI_add, pk_mul, nIsub, nIrem, nIdiv, nIand1, nIand3, nIand7, nIand31, nIshr, nIle, nIlt, nIeq, nIc, vpI, nIm1, m1nI, m1lt, nIlm, m1le, nIlem, nIneg, u2_ss, u2_nn, u2_kk, nIm1n, m1nIn, m1ltn, nIlmn, m1len, nIlemn, e25]) <;> (first | omega | trivial)
            · (try simp (disch := omega) only [nlit, natrem, nIrm, nIam, nIam',  nI_add, pk_mul, nIsub, nIrem, nIdiv, nIand1, nIand3, nIand7, nIand31, nIshr, nIle, nIlt, nIeq, nIc, vpI, nIm1, m1nI, m1lt, nIlm, m1le, nIlem, nIneg, u2_ss, u2_nn, u2_kk, nIm1n, m1nIn, m1ltn, nIlmn, m1len, nIlemn, e25] at c1) <;> (try simp (disch := omega) only [nlit, natrem, nIrm, nIam, nIam',  nI_add, pk_mul, nIsub, nIrem, nIdiv, nIand1, nIand3, nIand7, nIand31, nIshr, nIle, nIlt, nIeq, nIc, vpI, nIm1, m1nI, m1lt, nIlm, m1le, nIlem, nIneg, u2_ss, u2_nn, u2_kk, nIm1n, m1nIn, m1ltn, nIlmn, m1len, nIlemn, e25]) <;> (first | omega | trivial)
            · (try simp (disch := omega) only [nlit, natrem, nIrm, nIam, nIam',  nI_add, pk_mul, nIsub, nIrem, nIdiv, nIand1, nIand3, nIand7, nIand31, nIshr, nIle, nIlt, nIeq, nIc, vpI, nIm1, m1nI, m1lt, nIlm, m1le, nIlem, nIneg, u2_ss, u2_nn, u2_kk, nIm1n, m1nIn, m1ltn, nIlmn, m1len, nIlemn, e25] at c1) <;> (first | omega | exact absurd rfl c1 | exact absurd trivial c1)
          | succ m ihm =>
            intro k M hm' hk hFM hDM hj
            have e25 := (hFM.ar 92 rfl rfl 25).trans e25
            have e8 := hA k (by omega)
            rw [Nat.zero_add, ← hFM.ar 108 rfl rfl] at e8
            refine RX12_dances_20  ⟨fun c1 => ⟨?_, ⟨fun c2 => ?_, fun c2 => ?_⟩⟩, fun c1 => ⟨?_, ⟨?_, ?_⟩⟩⟩
            · (try simp (disch := omega) only [nlit, natrem, nIrm, nIam, nIam',  nI_add, pk_mul, nIsub, nIrem, nIdiv, nIand1, nIand3, nIand7, nIand31, nIshr, nIle, nIlt, nIeq, nIc, vpI, nIm1, m1nI, m1lt, nIlm, m1le, nIlem, nIneg, u2_ss, u2_nn, u2_kk, nIm1n, m1nIn, m1ltn, nIlmn, m1len, nIlemn, e25, e8] at c1) <;> (try simp (disch := omega) only [nlit, natrem, nIrm, nIam, nIam',  nI_add, pk_mul, nIsub, nIrem, nIdiv, nIand1, nIand3, nIand7, nIand31, nIshr, nIle, nIlt, nIeq, nIc, vpI, nIm1, m1nI, m1lt, nIlm, m1le, nIlem, nIneg, u2_ss, u2_nn, u2_kk, nIm1n, m1nIn, m1ltn, nIlmn, m1len, nIlemn, e25, e8]) <;> (first | omega | trivial)
            · (try simp (disch := omega) only [nlit, natrem, nIrm, nIam, nIam',  nI_add, pk_mul, nIsub, nIrem, nIdiv, nIand1, nIand3, nIand7, nIand31, nIshr, nIle, nIlt, nIeq, nIc, vpI, nIm1, m1nI, m1lt, nIlm, m1le, nIlem, nIneg, u2_ss, u2_nn, u2_kk, nIm1n, m1nIn, m1ltn, nIlmn, m1len, nIlemn, e25, e8] at c1 c2); (try simp (disch := omega) only [nlit, natrem, nIrm, nIam, nIam',  nI_add, pk_mul, nIsub, nIrem, nIdiv, nIand1, nIand3, nIand7, nIand31, nIshr, nIle, nIlt, nIeq, nIc, vpI, nIm1, m1nI, m1lt, nIlm, m1le, nIlem, nIneg, u2_ss, u2_nn, u2_kk, nIm1n, m1nIn, m1ltn, nIlmn, m1len, nIlemn, e25, e8])
              omega
            · (try simp (disch := omega) only [nlit, natrem, nIrm, nIam, nIam',  nI_add, pk_mul, nIsub, nIrem, nIdiv, nIand1, nIand3, nIand7, nIand31, nIshr, nIle, nIlt, nIeq, nIc, vpI, nIm1, m1nI, m1lt, nIlm, m1le, nIlem, nIneg, u2_ss, u2_nn, u2_kk, nIm1n, m1nIn, m1ltn, nIlmn, m1len, nIlemn, e25, e8] at c1 c2); (try simp (disch := omega) only [nlit, natrem, nIrm, nIam, nIam',  nI_add, pk_mul, nIsub, nIrem, nIdiv, nIand1, nIand3, nIand7, nIand31, nIshr, nIle, nIlt, nIeq, nIc, vpI, nIm1, m1nI, m1lt, nIlm, m1le, nIlem, nIneg, u2_ss, u2_nn, u2_kk, nIm1n, m1nIn, m1ltn, nIlmn, m1len, nIlemn, e25, e8])
              omega
            · (try simp (disch := omega) only [nlit, natrem, nIrm, nIam, nIam',  nI_add, pk_mul, nIsub, nIrem, nIdiv, nIand1, nIand3, nIand7, nIand31, nIshr, nIle, nIlt, nIeq, nIc, vpI, nIm1, m1nI, m1lt, nIlm, m1le, nIlem, nIneg, u2_ss, u2_nn, u2_kk, nIm1n, m1nIn, m1ltn, nIlmn, m1len, nIlemn, e25, e8] at c1) <;> (try simp (disch := omega) only [nlit, natrem, nIrm, nIam, nIam',  nI_add, pk_mul, nIsub, nIrem, nIdiv, nIand1, nIand3, nIand7, nIand31, nIshr, nIle, nIlt, nIeq, nIc, vpI, nIm1, m1nI, m1lt, nIlm, m1le, nIlem, nIneg, u2_ss, u2_nn, u2_kk, nIm1n, m1nIn, m1ltn, nIlmn, m1len, nIlemn, e25, e8]) <;> (first | omega | trivial)
            · (try simp (disch := omega) only [nlit, natrem, nIrm, nIam, nIam',  nI_add, pk_mul, nIsub, nIrem, nIdiv, nIand1, nIand3, nIand7, nIand31, nIshr, nIle, nIlt, nIeq, nIc, vpI, nIm1, m1nI, m1lt, nIlm, m1le, nIlem, nIneg, u2_ss, u2_nn, u2_kk, nIm1n, m1nIn, m1ltn, nIlmn, m1len, nIlemn, e25, e8] at c1) <;> (try simp (disch := omega) only [nlit, natrem, nIrm, nIam, nIam',  nI_add, pk_mul, nIsub, nIrem, nIdiv, nIand1, nIand3, nIand7, nIand31, nIshr, nIle, nIlt, nIeq, nIc, vpI, nIm1, m1nI, m1lt, nIlm, m1le, nIlem, nIneg, u2_ss, u2_nn, u2_kk, nIm1n, m1nIn, m1ltn, nIlmn, m1len, nIlemn, e25, e8]) <;> (first | omega | trivial)
            · (try simp (disch := omega) only [nlit, natrem, nIrm, nIam, nIam',  nI_add, pk_mul, nIsub, nIrem, nIdiv, nIand1, nIand3, nIand7, nIand31, nIshr, nIle, nIlt, nIeq, nIc, vpI, nIm1, m1nI, m1lt, nIlm, m1le, nIlem, nIneg, u2_ss, u2_nn, u2_kk, nIm1n, m1nIn, m1ltn, nIlmn, m1len, nIlemn, e25, e8] at c1); (try simp (disch := omega) only [nlit, natrem, nIrm, nIam, nIam',  nI_add, pk_mul, nIsub, nIrem, nIdiv, nIand1, nIand3, nIand7, nIand31, nIshr, nIle, nIlt, nIeq, nIc, vpI, nIm1, m1nI, m1lt, nIlm, m1le, nIlem, nIneg, u2_ss, u2_nn, u2_kk, nIm1n, m1nIn, m1ltn, nIlmn, m1len, nIlemn, e25, e8])
              refine ihm (k + 1) _ (by omega) (by omega) (hFM.ua rfl) (fun x hx => ⟨?_, fun j hjl => ?_⟩) (fun j hjk => ?_)
              · rw [u2_nn _ _ _ _ (by decide)]; exact (hDM x hx).1
              · have := hlen x (by omega)
                rw [u2_kk _ _ _ _ (by omega)]; exact (hDM x hx).2 j hjl
              · by_cases e : j = k
                · rw [e, u2_ss]
                · rw [u2_kk _ _ _ _ (by omega)]; exact hj j (by omega)
        exact hcp _ 0 K rfl (Nat.zero_le _) Fr.rf hDK (fun j hj => absurd hj (Nat.not_lt_zero _))
  exact EX12_dances (hst _ 0 I rfl (Nat.zero_le _) Fr.rf (fun x hx => absurd hx (Nat.not_lt_zero _)) (fun x hx => absurd hx (Nat.not_lt_zero _)))
theorem m_ball {d : Nat} {sx : Sx} {I : Ints} {L : Lngs} {R : Rfs} {q : Q3} {a : Ce} {lc : List (Nat × Nat)} {lf : Nat → Nat} {gl : Nat → List Nat} {sn : Nat → Nat} (hM : MC a lc lf gl sn I) {x y z : Int32} (h : ∀ J K, Fr AQ FQ I J → LQ L K → q (some (.int (spBall a lc gl x y z))) J K R) : E0 mX12_ball (d + 7) sx [.ref 92, .int x, .int y, .int z] I L R q := by
  refine EX12_ball ?_
  have hF0 : Fr AQ FQ I (u2 I 92 0 0) := fq0
  have hM := hM.fr hF0
  have h : ∀ J K, Fr AQ FQ (u2 I 92 0 0) J → LQ L K → q (some (.int (spBall a lc gl x y z))) J K R := fun J K hJ hK => h J K (hF0.tr hJ) hK
  clear hF0
  generalize u2 I 92 0 0 = I at *
  have hMM := hM
  obtain ⟨hW, hE, hM, hl, hEv, hS⟩ := hM
  have w4 := hW.2.2.2.2.1
  have h0 := h I L Fr.rf LQ.rf
  have hno : ¬ (inR x 9 ∧ inR y 10000 ∧ (z = -1 ∨ inR z (a 4).val)) → q (some (.int (-2))) I L R := by
    intro hn
    have e : spBall a lc gl x y z = -2 := by unfold spBall; rw [if_neg hn]
    rw [e] at h0
    exact h0
  refine within_ok (n := 8) (by decide) (fun m hm e => ?_) (fun hn => RX12_ball_12 ⟨fun _ => hno (fun w => hn w.1), fun w => absurd rfl w⟩)
  have hx1 : inR x 9 := by rw [e]; exact (inR_nI (by omega) (by decide)).mpr hm
  subst e
  refine RX12_ball_12 ⟨fun w => absurd w (by decide), fun _ => ?_⟩
  refine within_ok (n := 9999) (by decide) (fun sd hsd e => ?_) (fun hn => RX12_ball_23 ⟨fun _ => hno (fun w => hn w.2.1), fun w => absurd rfl w⟩)
  have hx2 : inR y 10000 := by rw [e]; exact (inR_nI (by omega) (by decide)).mpr hsd
  have hgo : (z = -1 ∨ inR z (a 4).val) → E0 mX12_dances (d + 6) sx [.ref 92, .int (nI m)] I (u2 L 92 33 y.toInt64) R (fun r J K T => Y mX12_ball (d + 7) sx 53 [(0, .ref 92), (3, .int z)] (r.toList ++ []) J K T q) := by
    intro hx3
    refine dances_ok (sd := y.toInt64) (by omega) hMM (u2_ss _ _ _ _) (fun J K hB => ?_)
    have h := h J K hB.1 (fun k i hk => by rw [hB.2.1 k i hk]; exact (LQ.rf.up) k i hk)
    unfold spBall at h
    rw [if_pos ⟨hx1, hx2, hx3⟩, nIc (by omega)] at h
    have hps := bB_ok hW (rs := fun g => rt a lc g (gl g)) (hic := m) (s := (y.toInt64, hom a)) (fun g hg => hom_lt hW hg) (mxL (fun g => rt a lc g (gl g)) (a 4).val)
    by_cases hz : z = -1
    · rw [if_pos hz] at h
      exact RX12_ball_53 ⟨fun w => absurd hz w, fun _ => h⟩
    · rw [if_neg hz] at h
      have hz3 := hx3.resolve_left hz
      obtain ⟨g, hg, e⟩ := inR_of (by omega) hz3.1 hz3.2
      subst e
      rw [nIc (by omega)] at h
      have ep := (hB.2.2.2.2 g hg).1
      have hp := hps g hg
      refine RX12_ball_53  ⟨fun c1 => ⟨?_, ?_⟩, fun c1 => ?_⟩
      · (try simp (disch := omega) only [nlit, natrem, nIrm, nIam, nIam',  nI_add, pk_mul, nIsub, nIrem, nIdiv, nIand1, nIand3, nIand7, nIand31, nIshr, nIle, nIlt, nIeq, nIc, vpI, nIm1, m1nI, m1lt, nIlm, m1le, nIlem, nIneg, u2_ss, u2_nn, u2_kk, nIm1n, m1nIn, m1ltn, nIlmn, m1len, nIlemn, ep] at c1) <;> (try simp (disch := omega) only [nlit, natrem, nIrm, nIam, nIam',  nI_add, pk_mul, nIsub, nIrem, nIdiv, nIand1, nIand3, nIand7, nIand31, nIshr, nIle, nIlt, nIeq, nIc, vpI, nIm1, m1nI, m1lt, nIlm, m1le, nIlem, nIneg, u2_ss, u2_nn, u2_kk, nIm1n, m1nIn, m1ltn, nIlmn, m1len, nIlemn, ep]) <;> (first | omega | trivial)
      · (try simp (disch := omega) only [nlit, natrem, nIrm, nIam, nIam',  nI_add, pk_mul, nIsub, nIrem, nIdiv, nIand1, nIand3, nIand7, nIand31, nIshr, nIle, nIlt, nIeq, nIc, vpI, nIm1, m1nI, m1lt, nIlm, m1le, nIlem, nIneg, u2_ss, u2_nn, u2_kk, nIm1n, m1nIn, m1ltn, nIlmn, m1len, nIlemn, ep] at c1); (try simp (disch := omega) only [nlit, natrem, nIrm, nIam, nIam',  nI_add, pk_mul, nIsub, nIrem, nIdiv, nIand1, nIand3, nIand7, nIand31, nIshr, nIle, nIlt, nIeq, nIc, vpI, nIm1, m1nI, m1lt, nIlm, m1le, nIlem, nIneg, u2_ss, u2_nn, u2_kk, nIm1n, m1nIn, m1ltn, nIlmn, m1len, nIlemn, ep])
        exact h
      · (try simp (disch := omega) only [nlit, natrem, nIrm, nIam, nIam',  nI_add, pk_mul, nIsub, nIrem, nIdiv, nIand1, nIand3, nIand7, nIand31, nIshr, nIle, nIlt, nIeq, nIc, vpI, nIm1, m1nI, m1lt, nIlm, m1le, nIlem, nIneg, u2_ss, u2_nn, u2_kk, nIm1n, m1nIn, m1ltn, nIlmn, m1len, nIlemn, ep] at c1) <;> (first | omega | exact absurd rfl c1 | exact absurd trivial c1)
  refine RX12_ball_23 ⟨fun w => absurd w (by decide), fun _ => ⟨fun c5 => hgo (Or.inl c5), fun c5 => ?_⟩⟩
  refine isGuestM_ok hM (fun g hg e => RX12_ball_36 ⟨fun _ => hgo (Or.inr (by rw [e]; exact (inR_nI (by omega) (by omega)).mpr hg)), fun w => absurd w (by decide)⟩) (fun hn => RX12_ball_36 ⟨fun w => absurd rfl w, fun _ => hno (fun w => w.2.2.elim c5 hn)⟩)
