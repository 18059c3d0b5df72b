/-! the model sends -/
def clM9 (a : Ce) (s : Gs) (J : Ints) : Prop := ∀ g, g < (a 4).val → (bt s.2 g = 0 → J 110 g = nI (s.1 g)) ∧ (bt s.2 g = 1 → J 110 g = nI 99)
theorem clG_M {a : Ce} {s : Gs} (hs : gsOk a s) {g : Nat} {I : Ints} (h : clM9 a s I) : ClM a I g 0 (clG a s g) := by
  intro x hx
  unfold clG
  rw [Bool.or_eq_true, othG_iff]
  unfold clP
  rw [decide_eq_true_eq]
  constructor
  · rintro (h1 | ⟨k, k1, k2, k3, k4⟩)
    · exact Or.inl h1
    · exact Or.inr ⟨rfl, k, k1, k2, by rw [(h k k1).1 k3, k4]⟩
  · rintro (h1 | ⟨_, k, k1, k2, k3⟩)
    · exact Or.inl h1
    · have hb := bt_le s.2 k
      by_cases e : bt s.2 k = 0
      · rw [(h k k1).1 e, nIeq (by have := hs.1 k k1; omega) (by omega)] at k3
        exact Or.inr ⟨k, k1, k2, e, k3⟩
      · rw [(h k k1).2 (by omega), nIeq (by decide) (by omega)] at k3
        omega
/-- an order's list, in the model's cells -/
def OrM (n : Nat) (o : Nat → Nat) (J : Ints) : Prop := ∀ k, k < n → J 115 k = nI (o k)
def sO (a : Ce) (rs : Nat → List Nat) (o : Nat → Nat) : Nat → Gs
  | 0 => s0G a
  | k + 1 => go1 a rs (sO a rs o k) (o k)
theorem sO_ok {a : Ce} (hW : WFc a) {rs : Nat → List Nat} {o : Nat → Nat} {n : Nat} (hd : ∀ j, j < n → o j < (a 4).val) : ∀ k, k ≤ n → gsOk a (sO a rs o k)
  | 0, _ => s0G_ok hW
  | k + 1, hk => go1_ok hW (sO_ok hW hd k (by omega)) (hd k hk)
theorem sO_bt {a : Ce} {rs : Nat → List Nat} {o : Nat → Nat} : ∀ k h, (∀ j, j < k → o j ≠ h) → bt (sO a rs o k).2 h = 0
  | 0, h, _ => bt_zero h
  | k + 1, h, hj => by
    have ih := sO_bt (a := a) (rs := rs) (o := o) k h (fun j hjk => hj j (by omega))
    show bt (if _ then _ else _) h = 0
    split
    · rw [bt_or, if_neg (fun e => hj k (by omega) e.symm)]; exact ih
    · exact ih
theorem sends_ok {d : Nat} {sx : Sx} {I : Ints} {L : Lngs} {R : Rfs} {q : Q3} {a : Ce} {lc : List (Nat × Nat)} {lf : Nat → Nat} {gl : Nat → List Nat} {sn : Nat → Nat} {o : Nat → Nat} (hM : MC a lc lf gl sn I) (ho : OrM (a 4).val o I) (hd : ∀ j, j < (a 4).val → o j < (a 4).val) (hne : ∀ i j, i < j → j < (a 4).val → o i ≠ o j)
    (h : ∀ J, Fr [104, 105, 108, 109, 110] [(92, 25), (92, 26), (92, 28), (92, 29), (92, 30)] I J → q (some (.int (nI (sO a (fun x => rt a lc x (gl x)) o (a 4).val).2))) J L R) : E0 mX12_sends (d + 6) sx [.ref 92] I L R q := by
  obtain ⟨hW, hE, hM, hl, hEv, hS⟩ := hM
  have w4 := hW.2.2.2.2.1
  have w5 := hW.2.2.2.2.2.1
  have hlp : ∀ n k : Nat, ∀ J, n = (a 4).val - k → k ≤ (a 4).val → Fr [104, 105, 108, 109, 110] [(92, 25), (92, 26), (92, 28), (92, 29), (92, 30)] I J → clM9 a (sO a (fun x => rt a lc x (gl x)) o k) J → Y mX12_sends (d + 6) sx 32 [(0, .ref 92), (1, .int (nI (sO a (fun x => rt a lc x (gl x)) o k).2)), (2, .int (nI k))] [] J L R q := by
    intro n
    induction n with
    | zero =>
      intro k J hn hk hF hC
      have e : k = (a 4).val := by omega
      refine RX12_sends_32 (guests_ok (hM.fr hF rfl rfl) ?_)
      refine RX12_sends_37  ⟨fun c1 => ?_, fun c1 => ⟨?_, ?_⟩⟩
      · (try simp (disch := omega) only [nlit, natrem, nIrm, nIam, nIam',  nI_add, pk_mul, nIsub, nIrem, nIdiv, nIand1, nIand3, nIand7, nIand31, nIshr, nIle, nIlt, nIeq, nIc, vpI, nIm1, m1nI, m1lt, nIlm, m1le, nIlem, nIneg, u2_ss, u2_nn, u2_kk, nIm1n, m1nIn, m1ltn, nIlmn, m1len, nIlemn] at c1); (try simp (disch := omega) only [nlit, natrem, nIrm, nIam, nIam',  nI_add, pk_mul, nIsub, nIrem, nIdiv, nIand1, nIand3, nIand7, nIand31, nIshr, nIle, nIlt, nIeq, nIc, vpI, nIm1, m1nI, m1lt, nIlm, m1le, nIlem, nIneg, u2_ss, u2_nn, u2_kk, nIm1n, m1nIn, m1ltn, nIlmn, m1len, nIlemn])
        rw [e]
        exact h J hF
      · (try simp (disch := omega) only [nlit, natrem, nIrm, nIam, nIam',  nI_add, pk_mul, nIsub, nIrem, nIdiv, nIand1, nIand3, nIand7, nIand31, nIshr, nIle, nIlt, nIeq, nIc, vpI, nIm1, m1nI, m1lt, nIlm, m1le, nIlem, nIneg, u2_ss, u2_nn, u2_kk, nIm1n, m1nIn, m1ltn, nIlmn, m1len, nIlemn] at c1) <;> (try simp (disch := omega) only [nlit, natrem, nIrm, nIam, nIam',  nI_add, pk_mul, nIsub, nIrem, nIdiv, nIand1, nIand3, nIand7, nIand31, nIshr, nIle, nIlt, nIeq, nIc, vpI, nIm1, m1nI, m1lt, nIlm, m1le, nIlem, nIneg, u2_ss, u2_nn, u2_kk, nIm1n, m1nIn, m1ltn, nIlmn, m1len, nIlemn]) <;> (first | omega | trivial)
      · (try simp (disch := omega) only [nlit, natrem, nIrm, nIam, nIam',  nI_add, pk_mul, nIsub, nIrem, nIdiv, nIand1, nIand3, nIand7, nIand31, nIshr, nIle, nIlt, nIeq, nIc, vpI, nIm1, m1nI, m1lt, nIlm, m1le, nIlem, nIneg, u2_ss, u2_nn, u2_kk, nIm1n, m1nIn, m1ltn, nIlmn, m1len, nIlemn] at c1) <;> (first | omega | exact absurd rfl c1 | exact absurd trivial c1)
    | succ n ih =>
      intro k J hn hk hF hC
      have hMJ := hM.fr hF rfl rfl
      have e15 : J 115 k = nI (o k) := by rw [hF.ar 115 rfl rfl]; exact ho k (by omega)
      have hok := hd k (by omega)
      have hsk := sO_ok hW (rs := fun x => rt a lc x (gl x)) hd k (by omega)
      have hbt := sO_bt (a := a) (rs := fun x => rt a lc x (gl x)) (o := o) k (o k) (fun j hj => hne j k hj (by omega))
      have hws := hE.2.1 (o k) (by omega)
      have e5 := hM 5 (by decide) (by decide)
      have hgo : sO a (fun x => rt a lc x (gl x)) o (k + 1) = go1 a (fun x => rt a lc x (gl x)) (sO a (fun x => rt a lc x (gl x)) o k) (o k) := rfl
      have hnx := ih (k + 1)
      rw [hgo] at hnx
      generalize sO a (fun x => rt a lc x (gl x)) o k = s at *
      refine RX12_sends_32 (guests_ok hMJ ?_)
      refine RX12_sends_37  ⟨fun c1 => ?_, fun c1 => ⟨?_, ?_⟩⟩
      · (try simp (disch := omega) only [nlit, natrem, nIrm, nIam, nIam',  nI_add, pk_mul, nIsub, nIrem, nIdiv, nIand1, nIand3, nIand7, nIand31, nIshr, nIle, nIlt, nIeq, nIc, vpI, nIm1, m1nI, m1lt, nIlm, m1le, nIlem, nIneg, u2_ss, u2_nn, u2_kk, nIm1n, m1nIn, m1ltn, nIlmn, m1len, nIlemn, e15] at c1); (try simp (disch := omega) only [nlit, natrem, nIrm, nIam, nIam',  nI_add, pk_mul, nIsub, nIrem, nIdiv, nIand1, nIand3, nIand7, nIand31, nIshr, nIle, nIlt, nIeq, nIc, vpI, nIm1, m1nI, m1lt, nIlm, m1le, nIlem, nIneg, u2_ss, u2_nn, u2_kk, nIm1n, m1nIn, m1ltn, nIlmn, m1len, nIlemn, e15])
        omega
      · (try simp (disch := omega) only [nlit, natrem, nIrm, nIam, nIam',  nI_add, pk_mul, nIsub, nIrem, nIdiv, nIand1, nIand3, nIand7, nIand31, nIshr, nIle, nIlt, nIeq, nIc, vpI, nIm1, m1nI, m1lt, nIlm, m1le, nIlem, nIneg, u2_ss, u2_nn, u2_kk, nIm1n, m1nIn, m1ltn, nIlmn, m1len, nIlemn, e15] at c1) <;> (try simp (disch := omega) only [nlit, natrem, nIrm, nIam, nIam',  nI_add, pk_mul, nIsub, nIrem, nIdiv, nIand1, nIand3, nIand7, nIand31, nIshr, nIle, nIlt, nIeq, nIc, vpI, nIm1, m1nI, m1lt, nIlm, m1le, nIlem, nIneg, u2_ss, u2_nn, u2_kk, nIm1n, m1nIn, m1ltn, nIlmn, m1len, nIlemn, e15]) <;> (first | omega | trivial)
      · (try simp (disch := omega) only [nlit, natrem, nIrm, nIam, nIam',  nI_add, pk_mul, nIsub, nIrem, nIdiv, nIand1, nIand3, nIand7, nIand31, nIshr, nIle, nIlt, nIeq, nIc, vpI, nIm1, m1nI, m1lt, nIlm, m1le, nIlem, nIneg, u2_ss, u2_nn, u2_kk, nIm1n, m1nIn, m1ltn, nIlmn, m1len, nIlemn, e15] at c1); (try simp (disch := omega) only [nlit, natrem, nIrm, nIam, nIam',  nI_add, pk_mul, nIsub, nIrem, nIdiv, nIand1, nIand3, nIand7, nIand31, nIshr, nIle, nIlt, nIeq, nIc, vpI, nIm1, m1nI, m1lt, nIlm, m1le, nIlem, nIneg, u2_ss, u2_nn, u2_kk, nIm1n, m1nIn, m1ltn, nIlmn, m1len, nIlemn, e15])
        refine laysOwn_ok hMJ hW (hl.fr hF rfl rfl rfl rfl) (hEv.congr (hF.ar 106 rfl rfl)) hok hws (fun K hK => RX12_sends_52 ?_)
        have hFK : Fr [104, 105, 108, 109, 110] [(92, 25), (92, 26), (92, 28), (92, 29), (92, 30)] I K := hF.tr (hK.1.mn rfl rfl)
        have hln := rt_len hW (lc := lc) (g := o k) hws
        have hCK : clM9 a s K := fun x hx => by rw [hK.1.ar 110 rfl rfl]; exact hC x hx
        refine walks_ok (al := 0) (cl := clG a s (o k)) (hM.fr hFK rfl rfl) hW hok (by decide) (clG_M hsk hCK) (by omega) hK.2.1 hK.2.2.2 rt_ne (rt_le hW hws) (fun M hM1 hM2 => RX12_sends_58 ?_)
        have hFM : Fr [104, 105, 108, 109, 110] [(92, 25), (92, 26), (92, 28), (92, 29), (92, 30)] I M := hFK.tr (hM2.mn rfl rfl)
        have een : wk a (clG a s (o k)) (gK a (o k)).val (rt a lc (o k) (gl (o k))) (hom a (o k)) / 4 = enG a (fun x => rt a lc x (gl x)) s (o k) := rfl
        have hen := enG_lt hW (rs := fun x => rt a lc x (gl x)) (s := s) hok
        have hCM : clM9 a s M := fun x hx => by rw [hM2.ar 110 rfl rfl]; exact hCK x hx
        have e98 : M 98 5 = nI (a 5).val := by rw [hFM.ar 98 rfl rfl]; exact e5
        have hio := i_or (b := s.2) (h := o k) (by omega)
        refine cellNow_ok hM1 ?_
        rw [een]
        refine RX12_sends_62  ⟨fun c1 => ?_, fun c1 => ⟨?_, ?_⟩⟩
        · (try simp (disch := omega) only [nlit, natrem, nIrm, nIam, nIam',  nI_add, pk_mul, nIsub, nIrem, nIdiv, nIand1, nIand3, nIand7, nIand31, nIshr, nIle, nIlt, nIeq, nIc, vpI, nIm1, m1nI, m1lt, nIlm, m1le, nIlem, nIneg, u2_ss, u2_nn, u2_kk, nIm1n, m1nIn, m1ltn, nIlmn, m1len, nIlemn, e98, hio] at c1); (try simp (disch := omega) only [nlit, natrem, nIrm, nIam, nIam',  nI_add, pk_mul, nIsub, nIrem, nIdiv, nIand1, nIand3, nIand7, nIand31, nIshr, nIle, nIlt, nIeq, nIc, vpI, nIm1, m1nI, m1lt, nIlm, m1le, nIlem, nIneg, u2_ss, u2_nn, u2_kk, nIm1n, m1nIn, m1ltn, nIlmn, m1len, nIlemn, e98, hio])
          have c9 := c1
          refine cellNow_ok hM1 ?_
          rw [een]
          refine RX12_sends_97  ⟨?_, ⟨fun c1 => ?_, fun c1 => ?_⟩⟩
          · (try simp (disch := omega) only [nlit, natrem, nIrm, nIam, nIam',  nI_add, pk_mul, nIsub, nIrem, nIdiv, nIand1, nIand3, nIand7, nIand31, nIshr, nIle, nIlt, nIeq, nIc, vpI, nIm1, m1nI, m1lt, nIlm, m1le, nIlem, nIneg, u2_ss, u2_nn, u2_kk, nIm1n, m1nIn, m1ltn, nIlmn, m1len, nIlemn, i32_or0]) <;> (first | omega | trivial)
          · (try simp (disch := omega) only [nlit, natrem, nIrm, nIam, nIam',  nI_add, pk_mul, nIsub, nIrem, nIdiv, nIand1, nIand3, nIand7, nIand31, nIshr, nIle, nIlt, nIeq, nIc, vpI, nIm1, m1nI, m1lt, nIlm, m1le, nIlem, nIneg, u2_ss, u2_nn, u2_kk, nIm1n, m1nIn, m1ltn, nIlmn, m1len, nIlemn, i32_or0] at c1); (try simp (disch := omega) only [nlit, natrem, nIrm, nIam, nIam',  nI_add, pk_mul, nIsub, nIrem, nIdiv, nIand1, nIand3, nIand7, nIand31, nIshr, nIle, nIlt, nIeq, nIc, vpI, nIm1, m1nI, m1lt, nIlm, m1le, nIlem, nIneg, u2_ss, u2_nn, u2_kk, nIm1n, m1nIn, m1ltn, nIlmn, m1len, nIlemn, i32_or0])
            have e1 : go1 a (fun x => rt a lc x (gl x)) s (o k) = (up1 s.1 (o k) (enG a (fun x => rt a lc x (gl x)) s (o k)), s.2) := by unfold go1; rw [if_neg c9]
            rw [e1] at hnx
            refine hnx _ (by omega) (by omega) (hFM.ua rfl) (fun x hx => ?_)
            show (bt s.2 x = 0 → _ = nI (up1 s.1 (o k) _ x)) ∧ (bt s.2 x = 1 → _)
            by_cases e : x = o k
            · subst e
              rw [up1_s, u2_ss]
              exact ⟨fun _ => rfl, fun w => by omega⟩
            · rw [up1_n _ _ e, u2_kk _ _ _ _ e]; exact hCM x hx
          · (try simp (disch := omega) only [nlit, natrem, nIrm, nIam, nIam',  nI_add, pk_mul, nIsub, nIrem, nIdiv, nIand1, nIand3, nIand7, nIand31, nIshr, nIle, nIlt, nIeq, nIc, vpI, nIm1, m1nI, m1lt, nIlm, m1le, nIlem, nIneg, u2_ss, u2_nn, u2_kk, nIm1n, m1nIn, m1ltn, nIlmn, m1len, nIlemn, i32_or0] at c1) <;> (first | omega | exact absurd rfl c1 | exact absurd trivial c1)
        · (try simp (disch := omega) only [nlit, natrem, nIrm, nIam, nIam',  nI_add, pk_mul, nIsub, nIrem, nIdiv, nIand1, nIand3, nIand7, nIand31, nIshr, nIle, nIlt, nIeq, nIc, vpI, nIm1, m1nI, m1lt, nIlm, m1le, nIlem, nIneg, u2_ss, u2_nn, u2_kk, nIm1n, m1nIn, m1ltn, nIlmn, m1len, nIlemn, e98, hio] at c1) <;> (try simp (disch := omega) only [nlit, natrem, nIrm, nIam, nIam',  nI_add, pk_mul, nIsub, nIrem, nIdiv, nIand1, nIand3, nIand7, nIand31, nIshr, nIle, nIlt, nIeq, nIc, vpI, nIm1, m1nI, m1lt, nIlm, m1le, nIlem, nIneg, u2_ss, u2_nn, u2_kk, nIm1n, m1nIn, m1ltn, nIlmn, m1len, nIlemn, e98, hio]) <;> (first | omega | trivial)
        · (try simp (disch := omega) only [nlit, natrem, nIrm, nIam, nIam',  nI_add, pk_mul, nIsub, nIrem, nIdiv, nIand1, nIand3, nIand7, nIand31, nIshr, nIle, nIlt, nIeq, nIc, vpI, nIm1, m1nI, m1lt, nIlm, m1le, nIlem, nIneg, u2_ss, u2_nn, u2_kk, nIm1n, m1nIn, m1ltn, nIlmn, m1len, nIlemn, e98, hio] at c1); (try simp (disch := omega) only [nlit, natrem, nIrm, nIam, nIam',  nI_add, pk_mul, nIsub, nIrem, nIdiv, nIand1, nIand3, nIand7, nIand31, nIshr, nIle, nIlt, nIeq, nIc, vpI, nIm1, m1nI, m1lt, nIlm, m1le, nIlem, nIneg, u2_ss, u2_nn, u2_kk, nIm1n, m1nIn, m1ltn, nIlmn, m1len, nIlemn, e98, hio])
          have e1 : go1 a (fun x => rt a lc x (gl x)) s (o k) = (up1 s.1 (o k) (enG a (fun x => rt a lc x (gl x)) s (o k)), s.2 ||| 2 ^ (o k)) := by unfold go1; rw [if_pos c1]
          rw [e1] at hnx
          refine hnx _ (by omega) (by omega) (hFM.ua rfl) (fun x hx => ?_)
          show (bt (s.2 ||| 2 ^ (o k)) x = 0 → _ = nI (up1 s.1 (o k) _ x)) ∧ (bt (s.2 ||| 2 ^ (o k)) x = 1 → _)
          rw [bt_or]
          by_cases e : x = o k
          · subst e
            rw [if_pos rfl, u2_ss]
            exact ⟨fun w => by omega, fun _ => rfl⟩
          · rw [if_neg e, up1_n _ _ e, u2_kk _ _ _ _ e]; exact hCM x hx
  have hst : ∀ n g : Nat, ∀ J, n = (a 4).val - g → g ≤ (a 4).val → Fr [110] [] I J → (∀ x, x < g → J 110 x = nI (hom a x / 4)) → Y mX12_sends (d + 6) sx 2 [(0, .ref 92), (1, .int (nI g))] [] J L R q := by
    intro n
    induction n with
    | zero =>
      intro g J hn hg hF hp
      have hFI : Fr [104, 105, 108, 109, 110] [(92, 25), (92, 26), (92, 28), (92, 29), (92, 30)] I J := hF.mn rfl rfl
      refine RX12_sends_2 (guests_ok (hM.fr hF rfl rfl) ?_)
      refine RX12_sends_7  ⟨fun c1 => ?_, fun c1 => ?_⟩
      · (try simp (disch := omega) only [nlit, natrem, nIrm, nIam, nIam',  nI_add, pk_mul, nIsub, nIrem, nIdiv, nIand1, nIand3, nIand7, nIand31, nIshr, nIle, nIlt, nIeq, nIc, vpI, nIm1, m1nI, m1lt, nIlm, m1le, nIlem, nIneg, u2_ss, u2_nn, u2_kk, nIm1n, m1nIn, m1ltn, nIlmn, m1len, nIlemn] at c1); (try simp (disch := omega) only [nlit, natrem, nIrm, nIam, nIam',  nI_add, pk_mul, nIsub, nIrem, nIdiv, nIand1, nIand3, nIand7, nIand31, nIshr, nIle, nIlt, nIeq, nIc, vpI, nIm1, m1nI, m1lt, nIlm, m1le, nIlem, nIneg, u2_ss, u2_nn, u2_kk, nIm1n, m1nIn, m1ltn, nIlmn, m1len, nIlemn])
        refine hlp _ 0 J rfl (Nat.zero_le _) hFI (fun x hx => ⟨fun _ => hp x (by omega), fun w => ?_⟩)
        have w : bt 0 x = 1 := w
        rw [bt_zero] at w
        omega
      · (try simp (disch := omega) only [nlit, natrem, nIrm, nIam, nIam',  nI_add, pk_mul, nIsub, nIrem, nIdiv, nIand1, nIand3, nIand7, nIand31, nIshr, nIle, nIlt, nIeq, nIc, vpI, nIm1, m1nI, m1lt, nIlm, m1le, nIlem, nIneg, u2_ss, u2_nn, u2_kk, nIm1n, m1nIn, m1ltn, nIlmn, m1len, nIlemn] at c1) <;> (first | omega | exact absurd rfl c1 | exact absurd trivial c1)
    | succ n ih =>
      intro g J hn hg hF hp
      have hMJ := hM.fr hF rfl rfl
      refine RX12_sends_2 (guests_ok hMJ ?_)
      refine RX12_sends_7  ⟨fun c1 => ?_, fun c1 => ?_⟩
      · (try simp (disch := omega) only [nlit, natrem, nIrm, nIam, nIam',  nI_add, pk_mul, nIsub, nIrem, nIdiv, nIand1, nIand3, nIand7, nIand31, nIshr, nIle, nIlt, nIeq, nIc, vpI, nIm1, m1nI, m1lt, nIlm, m1le, nIlem, nIneg, u2_ss, u2_nn, u2_kk, nIm1n, m1nIn, m1ltn, nIlmn, m1len, nIlemn] at c1); (try simp (disch := omega) only [nlit, natrem, nIrm, nIam, nIam',  nI_add, pk_mul, nIsub, nIrem, nIdiv, nIand1, nIand3, nIand7, nIand31, nIshr, nIle, nIlt, nIeq, nIc, vpI, nIm1, m1nI, m1lt, nIlm, m1le, nIlem, nIneg, u2_ss, u2_nn, u2_kk, nIm1n, m1nIn, m1ltn, nIlmn, m1len, nIlemn])
        omega
      · (try simp (disch := omega) only [nlit, natrem, nIrm, nIam, nIam',  nI_add, pk_mul, nIsub, nIrem, nIdiv, nIand1, nIand3, nIand7, nIand31, nIshr, nIle, nIlt, nIeq, nIc, vpI, nIm1, m1nI, m1lt, nIlm, m1le, nIlem, nIneg, u2_ss, u2_nn, u2_kk, nIm1n, m1nIn, m1ltn, nIlmn, m1len, nIlemn] at c1); (try simp (disch := omega) only [nlit, natrem, nIrm, nIam, nIam',  nI_add, pk_mul, nIsub, nIrem, nIdiv, nIand1, nIand3, nIand7, nIand31, nIshr, nIle, nIlt, nIeq, nIc, vpI, nIm1, m1nI, m1lt, nIlm, m1le, nIlem, nIneg, u2_ss, u2_nn, u2_kk, nIm1n, m1nIn, m1ltn, nIlmn, m1len, nIlemn])
        refine guestC_ok hMJ (by omega) ?_
        refine RX12_sends_21  ⟨?_, ?_⟩
        · (try simp (disch := omega) only [nlit, natrem, nIrm, nIam, nIam',  nI_add, pk_mul, nIsub, nIrem, nIdiv, nIand1, nIand3, nIand7, nIand31, nIshr, nIle, nIlt, nIeq, nIc, vpI, nIm1, m1nI, m1lt, nIlm, m1le, nIlem, nIneg, u2_ss, u2_nn, u2_kk, nIm1n, m1nIn, m1ltn, nIlmn, m1len, nIlemn]) <;> (first | omega | trivial)
        · (try simp (disch := omega) only [nlit, natrem, nIrm, nIam, nIam',  nI_add, pk_mul, nIsub, nIrem, nIdiv, nIand1, nIand3, nIand7, nIand31, nIshr, nIle, nIlt, nIeq, nIc, vpI, nIm1, m1nI, m1lt, nIlm, m1le, nIlem, nIneg, u2_ss, u2_nn, u2_kk, nIm1n, m1nIn, m1ltn, nIlmn, m1len, nIlemn])
          refine ih (g + 1) _ (by omega) (by omega) (hF.ua rfl) (fun x hx => ?_)
          by_cases e : x = g
          · rw [e, u2_ss, (hom_d hW (by omega)).1]
          · rw [u2_kk _ _ _ _ e]; exact hp x (by omega)
  exact EX12_sends (hst _ 0 I rfl (Nat.zero_le _) Fr.rf (fun x hx => absurd hx (Nat.not_lt_zero _)))
theorem isOrderM_ok {d : Nat} {sx : Sx} {I : Ints} {L : Lngs} {R : Rfs} {q : Q3} {a : Ce} {lc : List (Nat × Nat)} {lf : Nat → Nat} {gl : Nat → List Nat} {sn : Nat → Nat} (hM : MC a lc lf gl sn I) {v : Int32} (ht : spO (a 4).val v → ∀ J, OrM (a 4).val (fun k => v.toNatClampNeg / 8 ^ k % 8) J → Fr [115] [] I J → q (some (.int 1)) J L R) (hf : ¬ spO (a 4).val v → ∀ J, Fr [115] [] I J → q (some (.int 0)) J L R) : E0 mX12_isOrder (d + 3) sx [.ref 92, .int v] I L R q := by
  obtain ⟨hW, hE, hM, hl, hEv, hS⟩ := hM
  have w4 := hW.2.2.2.2.1
  have hdead : ∀ J (r b : Int32) (j : Nat), ¬ spO (a 4).val v → Fr [115] [] I J → Y mX12_isOrder (d + 3) sx 18 [(0, .ref 92), (2, .int r), (3, .int b), (4, .int 0), (5, .int (nI j))] [] J L R q := by
    intro J r b j hno hF
    refine RX12_isOrder_18 (guests_ok (hM.fr hF rfl rfl) (RX12_isOrder_24 ⟨fun _ => ⟨fun _ => hf hno J hF, fun w => absurd rfl w⟩, fun _ => ⟨fun _ => hf hno J hF, fun w => absurd rfl w⟩⟩))
  by_cases hv : v < 0
  · refine EX12_isOrder ⟨fun _ => ?_, fun w => absurd hv w⟩
    exact hdead I v 0 0 (fun w => w.1 hv) Fr.rf
  · obtain ⟨h3, h4⟩ := i32_nn hv
    have hlp : ∀ k j r b : Nat, ∀ J, k = (a 4).val - j → j ≤ (a 4).val → r = v.toNatClampNeg / 8 ^ j → r < 2147483648 → b < 256 → (oS (a 4).val k r b ↔ spO (a 4).val v) → (∀ x, x < j → J 115 x = nI (v.toNatClampNeg / 8 ^ x % 8)) → Fr [115] [] I J → Y mX12_isOrder (d + 3) sx 18 [(0, .ref 92), (2, .int (nI r)), (3, .int (nI b)), (4, .int 1), (5, .int (nI j))] [] J L R q := by
      intro k
      induction k with
      | zero =>
        intro j r b J hk hj hr hr2 hb hiff h15 hF
        refine RX12_isOrder_18 (guests_ok (hM.fr hF rfl rfl) (RX12_isOrder_24 ⟨fun _ => ⟨fun w => absurd w (by decide), fun _ => ⟨fun c2 => ?_, fun c2 => ?_⟩⟩, fun cc => ?_⟩))
        · exact hf (fun w => c2 ((nI_z (by omega)).mpr (hiff.mpr w))) J hF
        · exact ht (hiff.mp ((nI_z (by omega)).mp c2)) J (fun x hx => h15 x (by omega)) hF
        · exfalso
          rw [nIle (by omega) (by omega)] at cc
          omega
      | succ k ih =>
        intro j r b J hk hj hr hr2 hb hiff h15 hF
        have h8 : r % 8 < 8 := Nat.mod_lt _ (by decide)
        have hbl := bt_le b (r % 8)
        have hF2 : Fr [115] [] I (u2 J 115 j (nI (r % 8))) := hF.ua rfl
        have hM2 := hM.fr hF2 rfl rfl
        have e15 : (u2 J 115 j (nI (r % 8))) 115 j = nI (r % 8) := u2_ss _ _ _ _
        have hio := i_or (b := b) (h := r % 8) (by omega)
        have hdv : r / 8 = v.toNatClampNeg / 8 ^ (j + 1) := by rw [hr, Nat.div_div_eq_div_mul, ← Nat.pow_succ]
        have h15' : ∀ x, x < j + 1 → (u2 J 115 j (nI (r % 8))) 115 x = nI (v.toNatClampNeg / 8 ^ x % 8) := by
          intro x hx
          by_cases e : x = j
          · subst e; rw [u2_ss, hr]
          · rw [u2_kk _ _ _ _ e]; exact h15 x (by omega)
        refine RX12_isOrder_18 (guests_ok (hM.fr hF rfl rfl) ?_)
        refine RX12_isOrder_24  ⟨fun c1 => ⟨fun c2 => ?_, fun c2 => ⟨fun c3 => ?_, fun c3 => ?_⟩⟩, fun c1 => ⟨fun c2 => ?_, fun c2 => ⟨?_, ⟨?_, ?_⟩⟩⟩⟩
        · (try simp (disch := omega) only [nlit, natrem, nIrm, nIam, nIam',  nI_add, pk_mul, nIsub, nIrem, nIdiv, nIand1, nIand3, nIand7, nIand31, nIshr, nIle, nIlt, nIeq, nIc, vpI, nIm1, m1nI, m1lt, nIlm, m1le, nIlem, nIneg, u2_ss, u2_nn, u2_kk, nIm1n, m1nIn, m1ltn, nIlmn, m1len, nIlemn] at c1 c2) <;> (first | omega | exact absurd rfl c1 | exact absurd trivial c1 | exact absurd rfl c2 | exact absurd trivial c2)
        · (try simp (disch := omega) only [nlit, natrem, nIrm, nIam, nIam',  nI_add, pk_mul, nIsub, nIrem, nIdiv, nIand1, nIand3, nIand7, nIand31, nIshr, nIle, nIlt, nIeq, nIc, vpI, nIm1, m1nI, m1lt, nIlm, m1le, nIlem, nIneg, u2_ss, u2_nn, u2_kk, nIm1n, m1nIn, m1ltn, nIlmn, m1len, nIlemn] at c1 c2 c3); (try simp (disch := omega) only [nlit, natrem, nIrm, nIam, nIam',  nI_add, pk_mul, nIsub, nIrem, nIdiv, nIand1, nIand3, nIand7, nIand31, nIshr, nIle, nIlt, nIeq, nIc, vpI, nIm1, m1nI, m1lt, nIlm, m1le, nIlem, nIneg, u2_ss, u2_nn, u2_kk, nIm1n, m1nIn, m1ltn, nIlmn, m1len, nIlemn])
          omega
        · (try simp (disch := omega) only [nlit, natrem, nIrm, nIam, nIam',  nI_add, pk_mul, nIsub, nIrem, nIdiv, nIand1, nIand3, nIand7, nIand31, nIshr, nIle, nIlt, nIeq, nIc, vpI, nIm1, m1nI, m1lt, nIlm, m1le, nIlem, nIneg, u2_ss, u2_nn, u2_kk, nIm1n, m1nIn, m1ltn, nIlmn, m1len, nIlemn] at c1 c2 c3); (try simp (disch := omega) only [nlit, natrem, nIrm, nIam, nIam',  nI_add, pk_mul, nIsub, nIrem, nIdiv, nIand1, nIand3, nIand7, nIand31, nIshr, nIle, nIlt, nIeq, nIc, vpI, nIm1, m1nI, m1lt, nIlm, m1le, nIlem, nIneg, u2_ss, u2_nn, u2_kk, nIm1n, m1nIn, m1ltn, nIlmn, m1len, nIlemn])
          omega
        · (try simp (disch := omega) only [nlit, natrem, nIrm, nIam, nIam',  nI_add, pk_mul, nIsub, nIrem, nIdiv, nIand1, nIand3, nIand7, nIand31, nIshr, nIle, nIlt, nIeq, nIc, vpI, nIm1, m1nI, m1lt, nIlm, m1le, nIlem, nIneg, u2_ss, u2_nn, u2_kk, nIm1n, m1nIn, m1ltn, nIlmn, m1len, nIlemn] at c1 c2) <;> (first | omega | exact absurd rfl c1 | exact absurd trivial c1 | exact absurd rfl c2 | exact absurd trivial c2)
        · (try simp (disch := omega) only [nlit, natrem, nIrm, nIam, nIam',  nI_add, pk_mul, nIsub, nIrem, nIdiv, nIand1, nIand3, nIand7, nIand31, nIshr, nIle, nIlt, nIeq, nIc, vpI, nIm1, m1nI, m1lt, nIlm, m1le, nIlem, nIneg, u2_ss, u2_nn, u2_kk, nIm1n, m1nIn, m1ltn, nIlmn, m1len, nIlemn] at c1 c2) <;> (try simp (disch := omega) only [nlit, natrem, nIrm, nIam, nIam',  nI_add, pk_mul, nIsub, nIrem, nIdiv, nIand1, nIand3, nIand7, nIand31, nIshr, nIle, nIlt, nIeq, nIc, vpI, nIm1, m1nI, m1lt, nIlm, m1le, nIlem, nIneg, u2_ss, u2_nn, u2_kk, nIm1n, m1nIn, m1ltn, nIlmn, m1len, nIlemn]) <;> (first | omega | trivial)
        · (try simp (disch := omega) only [nlit, natrem, nIrm, nIam, nIam',  nI_add, pk_mul, nIsub, nIrem, nIdiv, nIand1, nIand3, nIand7, nIand31, nIshr, nIle, nIlt, nIeq, nIc, vpI, nIm1, m1nI, m1lt, nIlm, m1le, nIlem, nIneg, u2_ss, u2_nn, u2_kk, nIm1n, m1nIn, m1ltn, nIlmn, m1len, nIlemn] at c1 c2) <;> (try simp (disch := omega) only [nlit, natrem, nIrm, nIam, nIam',  nI_add, pk_mul, nIsub, nIrem, nIdiv, nIand1, nIand3, nIand7, nIand31, nIshr, nIle, nIlt, nIeq, nIc, vpI, nIm1, m1nI, m1lt, nIlm, m1le, nIlem, nIneg, u2_ss, u2_nn, u2_kk, nIm1n, m1nIn, m1ltn, nIlmn, m1len, nIlemn]) <;> (first | omega | trivial)
        · (try simp (disch := omega) only [nlit, natrem, nIrm, nIam, nIam',  nI_add, pk_mul, nIsub, nIrem, nIdiv, nIand1, nIand3, nIand7, nIand31, nIshr, nIle, nIlt, nIeq, nIc, vpI, nIm1, m1nI, m1lt, nIlm, m1le, nIlem, nIneg, u2_ss, u2_nn, u2_kk, nIm1n, m1nIn, m1ltn, nIlmn, m1len, nIlemn] at c1 c2); (try simp (disch := omega) only [nlit, natrem, nIrm, nIam, nIam',  nI_add, pk_mul, nIsub, nIrem, nIdiv, nIand1, nIand3, nIand7, nIand31, nIshr, nIle, nIlt, nIeq, nIc, vpI, nIm1, m1nI, m1lt, nIlm, m1le, nIlem, nIneg, u2_ss, u2_nn, u2_kk, nIm1n, m1nIn, m1ltn, nIlmn, m1len, nIlemn])
          generalize u2 J 115 j (nI (r % 8)) = M at *
          refine isGuestM_ok hM2 (fun g hg e => ?_) (fun hn => ?_)
          · rw [nIeq (by omega) (by omega)] at e
            have hg8 : r % 8 < (a 4).val := by omega
            refine RX12_isOrder_54  ⟨fun c1 => ⟨?_, ?_⟩, fun c1 => ⟨?_, ⟨fun c2 => ⟨?_, ?_⟩, fun c2 => ⟨?_, ?_⟩⟩⟩⟩
            · (try simp (disch := omega) only [nlit, natrem, nIrm, nIam, nIam',  nI_add, pk_mul, nIsub, nIrem, nIdiv, nIand1, nIand3, nIand7, nIand31, nIshr, nIle, nIlt, nIeq, nIc, vpI, nIm1, m1nI, m1lt, nIlm, m1le, nIlem, nIneg, u2_ss, u2_nn, u2_kk, nIm1n, m1nIn, m1ltn, nIlmn, m1len, nIlemn, e15, bt_m, hio] at c1) <;> (try simp (disch := omega) only [nlit, natrem, nIrm, nIam, nIam',  nI_add, pk_mul, nIsub, nIrem, nIdiv, nIand1, nIand3, nIand7, nIand31, nIshr, nIle, nIlt, nIeq, nIc, vpI, nIm1, m1nI, m1lt, nIlm, m1le, nIlem, nIneg, u2_ss, u2_nn, u2_kk, nIm1n, m1nIn, m1ltn, nIlmn, m1len, nIlemn, e15, bt_m, hio]) <;> (first | omega | trivial)
            · (try simp (disch := omega) only [nlit, natrem, nIrm, nIam, nIam',  nI_add, pk_mul, nIsub, nIrem, nIdiv, nIand1, nIand3, nIand7, nIand31, nIshr, nIle, nIlt, nIeq, nIc, vpI, nIm1, m1nI, m1lt, nIlm, m1le, nIlem, nIneg, u2_ss, u2_nn, u2_kk, nIm1n, m1nIn, m1ltn, nIlmn, m1len, nIlemn, e15, bt_m, hio] at c1) <;> (first | omega | exact absurd rfl c1 | exact absurd trivial c1)
            · (try simp (disch := omega) only [nlit, natrem, nIrm, nIam, nIam',  nI_add, pk_mul, nIsub, nIrem, nIdiv, nIand1, nIand3, nIand7, nIand31, nIshr, nIle, nIlt, nIeq, nIc, vpI, nIm1, m1nI, m1lt, nIlm, m1le, nIlem, nIneg, u2_ss, u2_nn, u2_kk, nIm1n, m1nIn, m1ltn, nIlmn, m1len, nIlemn, e15, bt_m, hio] at c1) <;> (try simp (disch := omega) only [nlit, natrem, nIrm, nIam, nIam',  nI_add, pk_mul, nIsub, nIrem, nIdiv, nIand1, nIand3, nIand7, nIand31, nIshr, nIle, nIlt, nIeq, nIc, vpI, nIm1, m1nI, m1lt, nIlm, m1le, nIlem, nIneg, u2_ss, u2_nn, u2_kk, nIm1n, m1nIn, m1ltn, nIlmn, m1len, nIlemn, e15, bt_m, hio]) <;> (first | omega | trivial)
            · (try simp (disch := omega) only [nlit, natrem, nIrm, nIam, nIam',  nI_add, pk_mul, nIsub, nIrem, nIdiv, nIand1, nIand3, nIand7, nIand31, nIshr, nIle, nIlt, nIeq, nIc, vpI, nIm1, m1nI, m1lt, nIlm, m1le, nIlem, nIneg, u2_ss, u2_nn, u2_kk, nIm1n, m1nIn, m1ltn, nIlmn, m1len, nIlemn, e15, bt_m, hio] at c1 c2) <;> (try simp (disch := omega) only [nlit, natrem, nIrm, nIam, nIam',  nI_add, pk_mul, nIsub, nIrem, nIdiv, nIand1, nIand3, nIand7, nIand31, nIshr, nIle, nIlt, nIeq, nIc, vpI, nIm1, m1nI, m1lt, nIlm, m1le, nIlem, nIneg, u2_ss, u2_nn, u2_kk, nIm1n, m1nIn, m1ltn, nIlmn, m1len, nIlemn, e15, bt_m, hio]) <;> (first | omega | trivial)
            · (try simp (disch := omega) only [nlit, natrem, nIrm, nIam, nIam',  nI_add, pk_mul, nIsub, nIrem, nIdiv, nIand1, nIand3, nIand7, nIand31, nIshr, nIle, nIlt, nIeq, nIc, vpI, nIm1, m1nI, m1lt, nIlm, m1le, nIlem, nIneg, u2_ss, u2_nn, u2_kk, nIm1n, m1nIn, m1ltn, nIlmn, m1len, nIlemn, e15, bt_m, hio] at c1 c2); (try simp (disch := omega) only [nlit, natrem, nIrm, nIam, nIam',  nI_add, pk_mul, nIsub, nIrem, nIdiv, nIand1, nIand3, nIand7, nIand31, nIshr, nIle, nIlt, nIeq, nIc, vpI, nIm1, m1nI, m1lt, nIlm, m1le, nIlem, nIneg, u2_ss, u2_nn, u2_kk, nIm1n, m1nIn, m1ltn, nIlmn, m1len, nIlemn, e15, bt_m, hio])
              exact hdead M _ _ (j + 1) (fun w => c2 ((hiff.mpr w).2.1)) hF2
            · (try simp (disch := omega) only [nlit, natrem, nIrm, nIam, nIam',  nI_add, pk_mul, nIsub, nIrem, nIdiv, nIand1, nIand3, nIand7, nIand31, nIshr, nIle, nIlt, nIeq, nIc, vpI, nIm1, m1nI, m1lt, nIlm, m1le, nIlem, nIneg, u2_ss, u2_nn, u2_kk, nIm1n, m1nIn, m1ltn, nIlmn, m1len, nIlemn, e15, bt_m, hio] at c1 c2) <;> (try simp (disch := omega) only [nlit, natrem, nIrm, nIam, nIam',  nI_add, pk_mul, nIsub, nIrem, nIdiv, nIand1, nIand3, nIand7, nIand31, nIshr, nIle, nIlt, nIeq, nIc, vpI, nIm1, m1nI, m1lt, nIlm, m1le, nIlem, nIneg, u2_ss, u2_nn, u2_kk, nIm1n, m1nIn, m1ltn, nIlmn, m1len, nIlemn, e15, bt_m, hio]) <;> (first | omega | trivial)
            · (try simp (disch := omega) only [nlit, natrem, nIrm, nIam, nIam',  nI_add, pk_mul, nIsub, nIrem, nIdiv, nIand1, nIand3, nIand7, nIand31, nIshr, nIle, nIlt, nIeq, nIc, vpI, nIm1, m1nI, m1lt, nIlm, m1le, nIlem, nIneg, u2_ss, u2_nn, u2_kk, nIm1n, m1nIn, m1ltn, nIlmn, m1len, nIlemn, e15, bt_m, hio] at c1 c2); (try simp (disch := omega) only [nlit, natrem, nIrm, nIam, nIam',  nI_add, pk_mul, nIsub, nIrem, nIdiv, nIand1, nIand3, nIand7, nIand31, nIshr, nIle, nIlt, nIeq, nIc, vpI, nIm1, m1nI, m1lt, nIlm, m1le, nIlem, nIneg, u2_ss, u2_nn, u2_kk, nIm1n, m1nIn, m1ltn, nIlmn, m1len, nIlemn, e15, bt_m, hio])
              refine ih (j + 1) (r / 8) _ M (by omega) (by omega) hdv (by omega) (or_lt8 hb h8) ?_ h15' hF2
              rw [← hiff]
              exact ⟨fun w => ⟨hg8, c2, w⟩, fun w => w.2.2⟩
          · have hng : ¬ r % 8 < (a 4).val := fun w => hn ((inR_nI (by omega) (by omega)).mpr w)
            refine RX12_isOrder_54  ⟨fun c1 => ⟨?_, ?_⟩, fun c1 => ⟨?_, ⟨fun c2 => ⟨?_, ?_⟩, fun c2 => ⟨?_, ?_⟩⟩⟩⟩
            · (try simp (disch := omega) only [nlit, natrem, nIrm, nIam, nIam',  nI_add, pk_mul, nIsub, nIrem, nIdiv, nIand1, nIand3, nIand7, nIand31, nIshr, nIle, nIlt, nIeq, nIc, vpI, nIm1, m1nI, m1lt, nIlm, m1le, nIlem, nIneg, u2_ss, u2_nn, u2_kk, nIm1n, m1nIn, m1ltn, nIlmn, m1len, nIlemn, e15, bt_m, hio] at c1) <;> (try simp (disch := omega) only [nlit, natrem, nIrm, nIam, nIam',  nI_add, pk_mul, nIsub, nIrem, nIdiv, nIand1, nIand3, nIand7, nIand31, nIshr, nIle, nIlt, nIeq, nIc, vpI, nIm1, m1nI, m1lt, nIlm, m1le, nIlem, nIneg, u2_ss, u2_nn, u2_kk, nIm1n, m1nIn, m1ltn, nIlmn, m1len, nIlemn, e15, bt_m, hio]) <;> (first | omega | trivial)
            · (try simp (disch := omega) only [nlit, natrem, nIrm, nIam, nIam',  nI_add, pk_mul, nIsub, nIrem, nIdiv, nIand1, nIand3, nIand7, nIand31, nIshr, nIle, nIlt, nIeq, nIc, vpI, nIm1, m1nI, m1lt, nIlm, m1le, nIlem, nIneg, u2_ss, u2_nn, u2_kk, nIm1n, m1nIn, m1ltn, nIlmn, m1len, nIlemn, e15, bt_m, hio] at c1); (try simp (disch := omega) only [nlit, natrem, nIrm, nIam, nIam',  nI_add, pk_mul, nIsub, nIrem, nIdiv, nIand1, nIand3, nIand7, nIand31, nIshr, nIle, nIlt, nIeq, nIc, vpI, nIm1, m1nI, m1lt, nIlm, m1le, nIlem, nIneg, u2_ss, u2_nn, u2_kk, nIm1n, m1nIn, m1ltn, nIlmn, m1len, nIlemn, e15, bt_m, hio])
              exact hdead M _ _ (j + 1) (fun w => hng (hiff.mpr w).1) hF2
            · (try simp (disch := omega) only [nlit, natrem, nIrm, nIam, nIam',  nI_add, pk_mul, nIsub, nIrem, nIdiv, nIand1, nIand3, nIand7, nIand31, nIshr, nIle, nIlt, nIeq, nIc, vpI, nIm1, m1nI, m1lt, nIlm, m1le, nIlem, nIneg, u2_ss, u2_nn, u2_kk, nIm1n, m1nIn, m1ltn, nIlmn, m1len, nIlemn, e15, bt_m, hio] at c1) <;> (try simp (disch := omega) only [nlit, natrem, nIrm, nIam, nIam',  nI_add, pk_mul, nIsub, nIrem, nIdiv, nIand1, nIand3, nIand7, nIand31, nIshr, nIle, nIlt, nIeq, nIc, vpI, nIm1, m1nI, m1lt, nIlm, m1le, nIlem, nIneg, u2_ss, u2_nn, u2_kk, nIm1n, m1nIn, m1ltn, nIlmn, m1len, nIlemn, e15, bt_m, hio]) <;> (first | omega | trivial)
            · (try simp (disch := omega) only [nlit, natrem, nIrm, nIam, nIam',  nI_add, pk_mul, nIsub, nIrem, nIdiv, nIand1, nIand3, nIand7, nIand31, nIshr, nIle, nIlt, nIeq, nIc, vpI, nIm1, m1nI, m1lt, nIlm, m1le, nIlem, nIneg, u2_ss, u2_nn, u2_kk, nIm1n, m1nIn, m1ltn, nIlmn, m1len, nIlemn, e15, bt_m, hio] at c1 c2) <;> (try simp (disch := omega) only [nlit, natrem, nIrm, nIam, nIam',  nI_add, pk_mul, nIsub, nIrem, nIdiv, nIand1, nIand3, nIand7, nIand31, nIshr, nIle, nIlt, nIeq, nIc, vpI, nIm1, m1nI, m1lt, nIlm, m1le, nIlem, nIneg, u2_ss, u2_nn, u2_kk, nIm1n, m1nIn, m1ltn, nIlmn, m1len, nIlemn, e15, bt_m, hio]) <;> (first | omega | trivial)
            · (try simp (disch := omega) only [nlit, natrem, nIrm, nIam, nIam',  nI_add, pk_mul, nIsub, nIrem, nIdiv, nIand1, nIand3, nIand7, nIand31, nIshr, nIle, nIlt, nIeq, nIc, vpI, nIm1, m1nI, m1lt, nIlm, m1le, nIlem, nIneg, u2_ss, u2_nn, u2_kk, nIm1n, m1nIn, m1ltn, nIlmn, m1len, nIlemn, e15, bt_m, hio] at c1 c2) <;> (first | omega | exact absurd rfl c1 | exact absurd trivial c1 | exact absurd rfl c2 | exact absurd trivial c2)
            · (try simp (disch := omega) only [nlit, natrem, nIrm, nIam, nIam',  nI_add, pk_mul, nIsub, nIrem, nIdiv, nIand1, nIand3, nIand7, nIand31, nIshr, nIle, nIlt, nIeq, nIc, vpI, nIm1, m1nI, m1lt, nIlm, m1le, nIlem, nIneg, u2_ss, u2_nn, u2_kk, nIm1n, m1nIn, m1ltn, nIlmn, m1len, nIlemn, e15, bt_m, hio] at c1 c2) <;> (try simp (disch := omega) only [nlit, natrem, nIrm, nIam, nIam',  nI_add, pk_mul, nIsub, nIrem, nIdiv, nIand1, nIand3, nIand7, nIand31, nIshr, nIle, nIlt, nIeq, nIc, vpI, nIm1, m1nI, m1lt, nIlm, m1le, nIlem, nIneg, u2_ss, u2_nn, u2_kk, nIm1n, m1nIn, m1ltn, nIlmn, m1len, nIlemn, e15, bt_m, hio]) <;> (first | omega | trivial)
            · (try simp (disch := omega) only [nlit, natrem, nIrm, nIam, nIam',  nI_add, pk_mul, nIsub, nIrem, nIdiv, nIand1, nIand3, nIand7, nIand31, nIshr, nIle, nIlt, nIeq, nIc, vpI, nIm1, m1nI, m1lt, nIlm, m1le, nIlem, nIneg, u2_ss, u2_nn, u2_kk, nIm1n, m1nIn, m1ltn, nIlmn, m1len, nIlemn, e15, bt_m, hio] at c1 c2) <;> (first | omega | exact absurd rfl c1 | exact absurd trivial c1 | exact absurd rfl c2 | exact absurd trivial c2)
    refine EX12_isOrder ⟨fun w => absurd w hv, fun _ => ?_⟩
    have := hlp _ 0 v.toNatClampNeg 0 I rfl (Nat.zero_le _) (by rw [Nat.pow_zero, Nat.div_one]) h3 (by decide) ⟨fun w => ⟨hv, w⟩, fun w => w.2⟩ (fun x hx => absurd hx (Nat.not_lt_zero _)) Fr.rf
    rw [← h4] at this
    exact this
theorem sO_sP {a : Ce} {rs : Nat → List Nat} {m : Nat} : ∀ k, sO a rs (fun k => m / 8 ^ k % 8) k = sP a rs m k
  | 0 => rfl
  | k + 1 => by show go1 a rs (sO a rs _ k) _ = go1 a rs (sP a rs m k) _; rw [sO_sP k]
def spSend (a : Ce) (lc : List (Nat × Nat)) (gl : Nat → List Nat) (v : Int32) : Int32 := nI (sP a (fun x => rt a lc x (gl x)) v.toNatClampNeg (a 4).val).2
theorem m_send {d : Nat} {sx : Sx} {I : Ints} {L : Lngs} {R : Rfs} {q : Q3} {a : Ce} {lc : List (Nat × Nat)} {lf : Nat → Nat} {gl : Nat → List Nat} {sn : Nat → Nat} (hM : MC a lc lf gl sn I) {v : Int32} (ht : spO (a 4).val v → ∀ J, J 92 0 = nI 0 → Fr AQ FQ I J → q (some (.int (spSend a lc gl v))) J L R) (hf : ¬ spO (a 4).val v → ∀ J, J 92 0 = nI 1 → Fr AQ FQ I J → q (some (.int 0)) J L R) : E0 mX12_send (d + 7) sx [.ref 92, .int v] I L R q := by
  refine EX12_send (isOrderM_ok hM (fun ho J hJ hF => ?_) (fun ho J hF => ?_))
  · refine RX12_send_6 ⟨fun w => absurd w (by decide), fun _ => ?_⟩
    have hF1 : Fr AQ FQ I (u2 J 92 0 0) := (show Fr AQ FQ I J from hF.mn rfl rfl).uf rfl
    refine sends_ok (o := fun k => v.toNatClampNeg / 8 ^ k % 8) (hM.fr hF1) (fun k hk => by rw [u2_nn _ _ _ _ (by decide)]; exact hJ k hk) (fun j hj => (oS_dig _ _ _ ho.2 j hj).1) (fun i j h1 h2 => oS_ne _ _ _ ho.2 i j h1 h2) (fun K hK => RX12_send_32 ?_)
    rw [sO_sP]
    exact ht ho K (by rw [hK 92 0 rfl rfl, u2_ss]; rfl) (hF1.tr (hK.mn rfl rfl))
  · exact RX12_send_6 ⟨fun _ => hf ho _ (u2_ss _ _ _ _) ((show Fr AQ FQ I J from hF.mn rfl rfl).uf rfl), fun w => absurd rfl w⟩
