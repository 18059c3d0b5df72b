theorem readLine_ok {d : Nat} {sx : Sx} {I : Ints} {L : Lngs} {R : Rfs} {q : Q3} {ts : List Tk} {N i : Nat} {a : Ce} {nm : Nm} {dn : List (List Nat)} {hc : Bool} {lc : Cd} (hP : PsM ts N i a nm hc lc I L) (hO : POk ts N (i, a, nm, dn, hc, lc)) (h33 : sK ts i ≠ 33) (hf : LnF ts N I L R q (lin1 ts (i, a, nm, dn, hc, lc))) (ht : LnT ts N I L R q (lin1 ts (i, a, nm, dn, hc, lc))) : E0 mX12_readLine (d + 34) sx [.ref 92] I L R q := by
  obtain ⟨(hi : i ≤ N), (hW : WFc a), (hZ : Zr a), (hNo : NmOk a nm dn), (hl : lcOk lc)⟩ := hO
  obtain ⟨hT, hE, hM, hWd, hFc⟩ := id hP.1
  have hlen := hE.2.1
  have hiN := lt_N hE hi h33
  have h8 := hP.2.2.1
  have h7 := hP.2.1
  have hil : i < ts.length := by omega
  refine EX12_readLine (isWordM_ok (w := 1) hT hM hWd h8 h7 hil (by decide) (fun e1 => ?_) (fun n1 => ?_))
  · have e : lin1 ts (i, a, nm, dn, hc, lc) = lnPil ts i a nm dn hc lc := if_pos e1
    rw [e] at hf ht
    exact RX12_readLine_5 ⟨fun c => absurd c (by decide), fun _ => readPillar_ok hP hW (by omega) (fun v J K x y z w => RX12_readLine_12 (hf v J K x y z w)) (fun j b nm' dn' hc' lc' J K x y z w => RX12_readLine_12 (ht j b nm' dn' hc' lc' J K x y z w))⟩
  refine RX12_readLine_5 ⟨fun _ => isWordM_ok (w := 2) hT hM hWd h8 h7 hil (by decide) (fun e2 => ?_) (fun n2 => ?_), fun c => absurd rfl c⟩
  · have e : lin1 ts (i, a, nm, dn, hc, lc) = lnCar ts i a nm dn hc lc := by unfold lin1; dsimp only; rw [if_neg n1, if_pos e2]
    rw [e] at hf ht
    exact RX12_readLine_20 ⟨fun c => absurd c (by decide), fun _ => readCarriage_ok hP hW (by omega) (fun v J K x y z w => RX12_readLine_27 (hf v J K x y z w)) (fun j b nm' dn' hc' lc' J K x y z w => RX12_readLine_27 (ht j b nm' dn' hc' lc' J K x y z w))⟩
  refine RX12_readLine_20 ⟨fun _ => isWordM_ok (w := 3) hT hM hWd h8 h7 hil (by decide) (fun e3 => ?_) (fun n3 => ?_), fun c => absurd rfl c⟩
  · have e : lin1 ts (i, a, nm, dn, hc, lc) = lnDan ts i a nm dn hc lc := by unfold lin1; dsimp only; rw [if_neg n1, if_neg n2, if_pos e3]
    rw [e] at hf ht
    exact RX12_readLine_35 ⟨fun c => absurd c (by decide), fun _ => readDance_ok hP hW hZ hNo (by omega) (fun v J K x y z w => RX12_readLine_42 (hf v J K x y z w)) (fun j b nm' dn' hc' lc' J K x y z w => RX12_readLine_42 (ht j b nm' dn' hc' lc' J K x y z w))⟩
  refine RX12_readLine_35 ⟨fun _ => isWordM_ok (w := 4) hT hM hWd h8 h7 hil (by decide) (fun e4 => ?_) (fun n4 => ?_), fun c => absurd rfl c⟩
  · have e : lin1 ts (i, a, nm, dn, hc, lc) = lnWin ts i a nm dn hc lc := by unfold lin1; dsimp only; rw [if_neg n1, if_neg n2, if_neg n3, if_pos e4]
    rw [e] at hf ht
    exact RX12_readLine_50 ⟨fun c => absurd c (by decide), fun _ => readWine_ok hP hW hZ hNo (by omega) (fun v J K x y z w => RX12_readLine_57 (RX12_readLine_80 (hf v J K x y z w))) (fun j b nm' dn' hc' lc' J K x y z w => RX12_readLine_57 (RX12_readLine_80 (ht j b nm' dn' hc' lc' J K x y z w)))⟩
  refine RX12_readLine_50 ⟨fun _ => isWordM_ok (w := 7) hT hM hWd h8 h7 hil (by decide) (fun e7 => ?_) (fun n7 => ?_), fun c => absurd rfl c⟩
  · have e : lin1 ts (i, a, nm, dn, hc, lc) = lnGue ts i a nm dn hc lc := by unfold lin1; dsimp only; rw [if_neg n1, if_neg n2, if_neg n3, if_neg n4, if_pos e7]
    rw [e] at hf ht
    exact RX12_readLine_66 ⟨fun c => absurd c (by decide), fun _ => readGuest_ok hP hW hNo (by omega) (fun v J K x y z w => RX12_readLine_73 (RX12_readLine_80 (hf v J K x y z w))) (fun j b nm' dn' hc' lc' J K x y z w => RX12_readLine_73 (RX12_readLine_80 (ht j b nm' dn' hc' lc' J K x y z w)))⟩
  have e : lin1 ts (i, a, nm, dn, hc, lc) = if sK ts i = 11 then lnLaw ts i a nm dn hc lc else .inl (fK ts 1 i) := by unfold lin1; dsimp only; rw [if_neg n1, if_neg n2, if_neg n3, if_neg n4, if_neg n7]
  rw [e] at hf ht
  exact RX12_readLine_66 ⟨fun _ => readLaw_ok hP hi hl (fun v J K x y z w => RX12_readLine_80 (hf v J K x y z w)) (fun j b nm' dn' hc' lc' J K x y z w => RX12_readLine_80 (ht j b nm' dn' hc' lc' J K x y z w)), fun c => absurd rfl c⟩
/-- what reading a cellar leaves, if there is a fault -/
def FC (I J : Ints) (L K : Lngs) : Prop := (∀ k x, k ≠ 94 → k ≠ 95 → k ≠ 102 → ¬ (k = 92 ∧ (x = 0 ∨ x = 2 ∨ x = 3 ∨ x = 7 ∨ x = 8 ∨ x = 13 ∨ x = 16 ∨ x = 17)) → ¬ (k = 98 ∧ 204 ≤ x) → ¬ ((k = 99 ∨ k = 100) ∧ 1100 ≤ x) → J k x = I k x) ∧ Kp (fun k => k ≠ 96 ∧ k ≠ 101) L K
theorem FC.tr {I J M : Ints} {L K O : Lngs} (h : FC I J L K) (h2 : FC J M K O) : FC I M L O := ⟨fun k x a b c e f g => (h2.1 k x a b c e f g).trans (h.1 k x a b c e f g), h.2.tr h2.2⟩
theorem FM.fc {I J : Ints} {L K : Lngs} (h : FM I J L K) : FC I J L K := ⟨fun k x a b c e f g => h.1 k x (fun hh => e ⟨hh.1, by omega⟩) f g c, h.2.mn (fun _ hk => hk.2)⟩
theorem FrU.fc {I J : Ints} {L K : Lngs} (h : FrU I J L K) : FC I J L K := by
  refine ⟨fun k x a b c e f g => h.1 k x ?_ ?_, h.2.mn (fun _ hk => hk.1)⟩
  · simp [a, b]
  · cases hc : ([(92, 2), (92, 3), (92, 7), (92, 8)] : List (Nat × Nat)).contains (k, x) with
    | false => rfl
    | true =>
      have := List.contains_iff_mem.mp hc
      simp at this
      exact absurd (by omega) e
theorem cdA_lt {I J : Ints} (h1 : ∀ i, i < 1100 → J 99 i = I 99 i) (h2 : ∀ i, i < 1100 → J 100 i = I 100 i) : ∀ (l : Cd) (i : Nat), i + l.length < 1100 → cdA I i l → cdA J i l
  | [], i, hi, h => (h1 i hi).trans h
  | (_, _) :: l, i, hi, h => ⟨(h1 i (by simp at hi; omega)).trans h.1, (h2 i (by simp at hi; omega)).trans h.2.1, cdA_lt h1 h2 l _ (by simp at hi; omega) h.2.2⟩
theorem MA.fc {a : Ce} {lc : List (Nat × Nat)} {lf : Nat → Nat} {gl : Nat → List Nat} {sn : Nat → Nat} {us : List Es} {mk : Mk} {I J : Ints} {L K : Lngs} (h : MA a lc lf gl sn us mk I) (hF : FC I J L K) : MA a lc lf gl sn us mk J := by
  obtain ⟨⟨m1, m2, m3, m4, m5, m6⟩, k1, k2, ⟨u1, u2', u3⟩, k4⟩ := h
  have h106 : ∀ i, J 106 i = I 106 i := fun i => hF.1 106 i (by decide) (by decide) (by decide) (by omega) (by omega) (by omega)
  have h107 : ∀ i, J 107 i = I 107 i := fun i => hF.1 107 i (by decide) (by decide) (by decide) (by omega) (by omega) (by omega)
  have h98 : ∀ i, i < 204 → J 98 i = I 98 i := fun i hi => hF.1 98 i (by decide) (by decide) (by decide) (by omega) (by omega) (by omega)
  refine ⟨⟨m1, m2, fun k hk h6 => by rw [h98 k hk]; exact m3 k hk h6, ?_, m5.congr h106, m6.congr h106⟩, k1, k2, ⟨by rw [hF.1 92 22 (by decide) (by decide) (by decide) (by decide) (by decide) (by decide)]; exact u1, u2', ?_⟩, ?_⟩
  · rcases m4 with ⟨e, h⟩ | ⟨e, ho, hl, h, hc⟩
    · exact Or.inl ⟨e, by rw [h98 6 (by decide)]; exact h⟩
    · exact Or.inr ⟨e, ho, hl, by rw [h98 6 (by decide)]; exact h, cdA_lt (fun i hi => hF.1 99 i (by decide) (by decide) (by decide) (by omega) (by omega) (by omega)) (fun i hi => hF.1 100 i (by decide) (by decide) (by decide) (by omega) (by omega) (by omega)) lc 0 (by omega) hc⟩
  · exact UnM.cp us k1 u3 (fun i _ _ => h106 i)
  · exact MkM.cp k2 k4 h107 (fun i _ _ => h106 i)
theorem m_cellar {d : Nat} {sx : Sx} {I : Ints} {L : Lngs} {R : Rfs} {q : Q3} {a : Ce} {lc : List (Nat × Nat)} {lf : Nat → Nat} {gl : Nat → List Nat} {sn : Nat → Nat} {us : List Es} {mk : Mk} {tp : List Nat} (hM : MA a lc lf gl sn us mk I) (hWd : WdM L) (hFc : FcM I) (hT : TpM tp I) (hok : tpOk tp)
    (hf : ∀ v J K, cellS (toks tp) = .inl v → MA a lc lf gl sn us mk J → WdM K → FcM J → TpM [] J → Kp (fun k => k < 92) I J → Kp (fun k => k < 92) L K → q (some (.int (nI v))) J K R)
    (ht : ∀ i a' nm dn hc lc' J K, cellS (toks tp) = .inr (i, a', nm, dn, hc, lc') → MA a' lc' (fun w => (wG a' w).val) (fun _ => []) (fun _ => 0) [] (fun _ => none) J → WdM K → FcM J → TpM [] J → Kp (fun k => k < 92) I J → Kp (fun k => k < 92) L K → q (some (.int (nI 0))) J K R) : E0 mX12_cellar (d + 35) sx [.ref 92] I L R q := by
  have hTo := toks_ok hok.1
  have hE := hTo.ends
  refine EX12_cellar ?_
  have hF0 : FC I (u2 I 92 0 0) L L := ⟨fun k x _ _ _ e _ _ => by
    by_cases h9 : k = 92
    · subst h9; exact u2_kk _ _ _ _ (fun e0 => e ⟨rfl, Or.inl e0⟩)
    · exact u2_nn _ _ _ _ h9, Kp.rf⟩
  refine cutAll_ok (tp := tp) hok.1 (fun x hx => by have := hok.2 x hx; omega) (by rw [u2_kk _ _ _ _ (by decide)]; exact hT.1) (hT.2.congr (fun j => u2_nn _ _ _ _ (by decide))) (fun J1 L1 hT1 hU1 z2 z7 z8 => ?_)
  have hF1 := hF0.tr hU1.fc
  refine RX12_cellar_9 ?_
  generalize toks tp = ts at *
  generalize ts.length - 1 = N at *
  have hlen := hE.2.1
  have hNN := hE.1
  -- all is cleared
  have hF2 : FC I (u2 (u2 (u2 J1 92 13 0) 92 16 0) 92 17 0) L L1 := hF1.tr (FM.fc (((FM.rf.u (Or.inl ⟨rfl, by omega⟩)).u (Or.inl ⟨rfl, by omega⟩)).u (Or.inl ⟨rfl, by omega⟩)))
  have hn2 : ∀ k x, k ≠ 92 → u2 (u2 (u2 J1 92 13 0) 92 16 0) 92 17 0 k x = J1 k x := fun k x hk => by rw [u2_nn _ _ _ _ hk, u2_nn _ _ _ _ hk, u2_nn _ _ _ _ hk]
  have y7 : u2 (u2 (u2 J1 92 13 0) 92 16 0) 92 17 0 92 7 = nI 0 := by rw [u2_kk _ _ _ _ (by decide), u2_kk _ _ _ _ (by decide), u2_kk _ _ _ _ (by decide)]; exact z7
  have y8 : u2 (u2 (u2 J1 92 13 0) 92 16 0) 92 17 0 92 8 = nI 0 := by rw [u2_kk _ _ _ _ (by decide), u2_kk _ _ _ _ (by decide), u2_kk _ _ _ _ (by decide)]; exact z8
  have y2 : u2 (u2 (u2 J1 92 13 0) 92 16 0) 92 17 0 92 2 = nI 0 := by rw [u2_kk _ _ _ _ (by decide), u2_kk _ _ _ _ (by decide), u2_kk _ _ _ _ (by decide)]; exact z2
  have y13 : u2 (u2 (u2 J1 92 13 0) 92 16 0) 92 17 0 92 13 = nI 0 := by rw [u2_kk _ _ _ _ (by decide), u2_kk _ _ _ _ (by decide), u2_ss]; rfl
  have y16 : u2 (u2 (u2 J1 92 13 0) 92 16 0) 92 17 0 92 16 = nI 0 := by rw [u2_kk _ _ _ _ (by decide), u2_ss]; rfl
  have y17 : u2 (u2 (u2 J1 92 13 0) 92 16 0) 92 17 0 92 17 = nI 0 := by rw [u2_ss]; rfl
  have hTM2 : TkM ts (u2 (u2 (u2 J1 92 13 0) 92 16 0) 92 17 0) L1 := hT1.fr (fun i => hn2 94 i (by decide)) (fun i => hn2 95 i (by decide)) (fun _ => rfl)
  generalize u2 (u2 (u2 J1 92 13 0) 92 16 0) 92 17 0 = J2 at *
  clear hn2
  have hWd2 : WdM L1 := fun w hw => by rw [hF2.2 97 (by decide)]; exact hWd w hw
  have hFcX : ∀ J K, FC I J L K → FcM J := fun J K h => by
    unfold FcM
    rw [h.1 103 0 (by decide) (by decide) (by decide) (by decide) (by decide) (by decide), h.1 103 1 (by decide) (by decide) (by decide) (by decide) (by decide) (by decide), h.1 103 2 (by decide) (by decide) (by decide) (by decide) (by decide) (by decide), h.1 103 3 (by decide) (by decide) (by decide) (by decide) (by decide) (by decide)]
    exact hFc
  have hWdX : ∀ J K, FC I J L K → WdM K := fun J K h w hw => by rw [h.2 97 (by decide)]; exact hWd w hw
  have hKI : ∀ J K, FC I J L K → Kp (fun k => k < 92) I J := fun J K h k (hk : k < 92) => funext fun x => h.1 k x (by omega) (by omega) (by omega) (by omega) (by omega) (by omega)
  have hKL : ∀ J K, FC I J L K → Kp (fun k => k < 92) L K := fun J K h => h.2.mn (fun k (hk : k < 92) => ⟨by omega, by omega⟩)
  have hflt : ∀ v J K, cellS ts = .inl v → J 92 8 = nI v → J 92 2 = nI 0 → FC I J L K → Y mX12_cellar (d + 35) sx 100 [(0, .ref 92)] [] J K R q := by
    intro v J K e j8 j2 hF
    have hv := cellS_f hTo e
    refine RX12_cellar_100 ⟨fun _ => ⟨fun c => ?_, fun _ => ?_⟩, fun c => ?_⟩
    · exfalso; rw [j8] at c; simp (disch := omega) only [nlit, natrem, nIrm, nIam, nIam',  nI_add, pk_mul, nIsub, nIrem, nIdiv, nIand1, nIand3, nIand7, nIand31, nIshr, nIle, nIlt, nIeq, nIc, vpI, nIm1, m1nI, m1lt, nIlm, m1le, nIlem, nIneg, u2_ss, u2_nn, u2_kk, nIm1n, m1nIn, m1ltn, nIlmn, m1len, nIlemn] at c; omega
    · rw [j8]
      exact hf v J K e (hM.fc hF) (hWdX J K hF) (hFcX J K hF) ⟨j2, ALo.nil⟩ (hKI J K hF) (hKL J K hF)
    · exfalso; rw [j8] at c; simp (disch := omega) only [nlit, natrem, nIrm, nIam, nIam',  nI_add, pk_mul, nIsub, nIrem, nIdiv, nIand1, nIand3, nIand7, nIand31, nIshr, nIle, nIlt, nIeq, nIc, vpI, nIm1, m1nI, m1lt, nIlm, m1le, nIlem, nIneg, u2_ss, u2_nn, u2_kk, nIm1n, m1nIn, m1ltn, nIlmn, m1len, nIlemn] at c; omega
  -- the end, without a fault
  have hend : ∀ i a' nm dn hc lc' J K, cellS ts = .inr (i, a', nm, dn, hc, lc') → WFc a' → lcOk lc' → PsM ts N i a' nm hc lc' J K → J 92 2 = nI 0 → FC I J L K → Y mX12_cellar (d + 35) sx 146 [(0, .ref 92), (1, .int 0)] [] J K R q := by
    intro i a' nm dn hc lc' J K e hW' hlo hP j2 hF
    obtain ⟨p1, p2, p3, p4, p5, hS, h210, h13, hcd⟩ := hP
    -- the marks
    have l282 : ∀ n m (Jx : Ints), n = 4 - m → m ≤ 4 → Jx 92 2 = nI 0 → Jx 92 22 = nI 0 → FcM Jx → Kp (fun k => k < 92) I Jx → CelM a' Jx → LawM lc' Jx → (∀ x, x < 56 → Jx 106 x = if x < 6 then nI (wG a' x).val else if x < 48 then nI 0 else -1) → (∀ x, x < m → Jx 107 x = nI 0) → Y mX12_cellar (d + 35) sx 282 [(0, .ref 92), (1, .int (nI m))] [] Jx K R q := by
      intro n
      induction n with
      | zero =>
        intro m Jx hn hm b2 b22 bF bQ bC bL b6 b7
        refine RX12_cellar_282 ⟨fun _ => ?_, fun c => ?_⟩
        · refine ht i a' nm dn hc lc' Jx K e ⟨⟨hW', ⟨fun w hw => ?_, fun g hg => ⟨Nat.zero_le _, fun i hi => absurd hi (Nat.not_lt_zero _)⟩, fun g hg => Nat.zero_le _, fun w hw h3 => hW'.2.2.2.2.2.2.2.2.2.2 w hw h3, fun g hg h4 => ⟨rfl, rfl⟩⟩, bC, bL, ⟨fun w hw => ?_, fun g hg => ⟨?_, fun i hi => absurd hi (Nat.not_lt_zero _)⟩⟩, fun g hg => ?_⟩, (fun p hp => nomatch hp), (fun m hm e he => nomatch he), ⟨b22, Nat.zero_le _, trivial⟩, fun m' hm' => Or.inl ⟨rfl, b7 m' (by omega)⟩⟩ (hWdX J K hF) bF ⟨b2, ALo.nil⟩ bQ (hKL J K hF)
          · by_cases e : w < (a' 3).val
            · exact (hW'.2.2.2.2.2.2.2.2.1 w e).1
            · show (wG a' w).val ≤ 99
              rw [hW'.2.2.2.2.2.2.2.2.2.2 w hw (by omega)]
              decide
          · rw [Nat.zero_add, b6 w (by omega), if_pos hw]
          · rw [Nat.zero_add, b6 _ (by omega), if_neg (by omega), if_pos (by omega)]; rfl
          · rw [Nat.zero_add, b6 _ (by omega), if_neg (by omega), if_neg (by omega)]; rfl
        · exfalso; simp (disch := omega) only [nlit, natrem, nIrm, nIam, nIam',  nI_add, pk_mul, nIsub, nIrem, nIdiv, nIand1, nIand3, nIand7, nIand31, nIshr, nIle, nIlt, nIeq, nIc, vpI, nIm1, m1nI, m1lt, nIlm, m1le, nIlem, nIneg, u2_ss, u2_nn, u2_kk, nIm1n, m1nIn, m1ltn, nIlmn, m1len, nIlemn] at c; omega
      | succ n ih =>
        intro m Jx hn hm b2 b22 bF bQ bC bL b6 b7
        refine RX12_cellar_282 ⟨fun c => ?_, fun _ => ⟨by simp (disch := omega) only [nlit, natrem, nIrm, nIam, nIam',  nI_add, pk_mul, nIsub, nIrem, nIdiv, nIand1, nIand3, nIand7, nIand31, nIshr, nIle, nIlt, nIeq, nIc, vpI, nIm1, m1nI, m1lt, nIlm, m1le, nIlem, nIneg, u2_ss, u2_nn, u2_kk, nIm1n, m1nIn, m1ltn, nIlmn, m1len, nIlemn]; omega, ?_⟩⟩
        · exfalso; simp (disch := omega) only [nlit, natrem, nIrm, nIam, nIam',  nI_add, pk_mul, nIsub, nIrem, nIdiv, nIand1, nIand3, nIand7, nIand31, nIshr, nIle, nIlt, nIeq, nIc, vpI, nIm1, m1nI, m1lt, nIlm, m1le, nIlem, nIneg, u2_ss, u2_nn, u2_kk, nIm1n, m1nIn, m1ltn, nIlmn, m1len, nIlemn] at c; omega
        · have hFx : Fr [107] [] Jx (u2 Jx 107 m (nI 0)) := Fr.rf.ua rfl
          rw [nIc (by omega), show vp_nar .boolean 0 = nI 0 by decide, show nI m + 1 = nI (m + 1) from nI_add m 1]
          refine ih (m + 1) _ (by omega) (by omega) (by rw [u2_nn _ _ _ _ (by decide)]; exact b2) (by rw [u2_nn _ _ _ _ (by decide)]; exact b22) ?_ (bQ.up (by simp)) (bC.fr hFx rfl rfl) (bL.fr hFx rfl rfl rfl rfl) (fun x hx => by rw [u2_nn _ _ _ _ (by decide)]; exact b6 x hx) (fun x hx => ?_)
          · unfold FcM
            rw [u2_nn _ _ _ _ (by decide), u2_nn _ _ _ _ (by decide), u2_nn _ _ _ _ (by decide), u2_nn _ _ _ _ (by decide)]
            exact bF
          · by_cases ex : x = m
            · rw [ex, u2_ss]
            · rw [u2_kk _ _ _ _ ex]; exact b7 x (by omega)
    -- the evening
    have l225 : ∀ n m (Jx : Ints), n = 56 - m → m ≤ 56 → Jx 92 2 = nI 0 → FcM Jx → Kp (fun k => k < 92) I Jx → CelM a' Jx → LawM lc' Jx → (∀ x, x < m → Jx 106 x = if x < 6 then nI (wG a' x).val else if x < 48 then nI 0 else -1) → Y mX12_cellar (d + 35) sx 225 [(0, .ref 92), (1, .int (nI m))] [] Jx K R q := by
      intro n
      induction n with
      | zero =>
        intro m Jx hn hm b2 bF bQ bC bL b6
        refine RX12_cellar_225 ⟨fun _ => ?_, fun c => ?_⟩
        · have hFx : Fr [] [(92, 22)] Jx (u2 Jx 92 22 0) := Fr.rf.uf rfl
          refine l282 4 0 _ rfl (by decide) (by rw [u2_kk _ _ _ _ (by decide)]; exact b2) (by rw [u2_ss]; rfl) ?_ (bQ.up (by simp)) (bC.fr hFx rfl rfl) (bL.fr hFx rfl rfl rfl rfl) (fun x hx => by rw [u2_nn _ _ _ _ (by decide)]; exact b6 x (by omega)) (fun x hx => absurd hx (Nat.not_lt_zero _))
          unfold FcM
          rw [u2_nn _ _ _ _ (by decide), u2_nn _ _ _ _ (by decide), u2_nn _ _ _ _ (by decide), u2_nn _ _ _ _ (by decide)]
          exact bF
        · exfalso; simp (disch := omega) only [nlit, natrem, nIrm, nIam, nIam',  nI_add, pk_mul, nIsub, nIrem, nIdiv, nIand1, nIand3, nIand7, nIand31, nIshr, nIle, nIlt, nIeq, nIc, vpI, nIm1, m1nI, m1lt, nIlm, m1le, nIlem, nIneg, u2_ss, u2_nn, u2_kk, nIm1n, m1nIn, m1ltn, nIlmn, m1len, nIlemn] at c; omega
      | succ n ih =>
        intro m Jx hn hm b2 bF bQ bC bL b6
        have hgo : ∀ v, (v = if m < 6 then nI (wG a' m).val else if m < 48 then nI 0 else -1) → Y mX12_cellar (d + 35) sx 225 [(0, .ref 92), (1, .int (nI m + 1))] [] (u2 Jx 106 m v) K R q := by
          intro v hv
          have hFx : Fr [106] [] Jx (u2 Jx 106 m v) := Fr.rf.ua rfl
          rw [show nI m + 1 = nI (m + 1) from nI_add m 1]
          refine ih (m + 1) _ (by omega) (by omega) (by rw [u2_nn _ _ _ _ (by decide)]; exact b2) ?_ (bQ.up (by simp)) (bC.fr hFx rfl rfl) (bL.fr hFx rfl rfl rfl rfl) (fun x hx => ?_)
          · unfold FcM
            rw [u2_nn _ _ _ _ (by decide), u2_nn _ _ _ _ (by decide), u2_nn _ _ _ _ (by decide), u2_nn _ _ _ _ (by decide)]
            exact bF
          · by_cases ex : x = m
            · rw [ex, u2_ss]; exact hv
            · rw [u2_kk _ _ _ _ ex]; exact b6 x (by omega)
        refine RX12_cellar_225 ⟨fun c => ?_, fun _ => ⟨fun c2 => ⟨fun c3 => ⟨by simp (disch := omega) only [nlit, natrem, nIrm, nIam, nIam',  nI_add, pk_mul, nIsub, nIrem, nIdiv, nIand1, nIand3, nIand7, nIand31, nIshr, nIle, nIlt, nIeq, nIc, vpI, nIm1, m1nI, m1lt, nIlm, m1le, nIlem, nIneg, u2_ss, u2_nn, u2_kk, nIm1n, m1nIn, m1ltn, nIlmn, m1len, nIlemn]; omega, ?_⟩, fun c3 => ⟨by simp (disch := omega) only [nlit, natrem, nIrm, nIam, nIam',  nI_add, pk_mul, nIsub, nIrem, nIdiv, nIand1, nIand3, nIand7, nIand31, nIshr, nIle, nIlt, nIeq, nIc, vpI, nIm1, m1nI, m1lt, nIlm, m1le, nIlem, nIneg, u2_ss, u2_nn, u2_kk, nIm1n, m1nIn, m1ltn, nIlmn, m1len, nIlemn]; omega, ?_⟩⟩, fun c2 => ⟨?_, by simp (disch := omega) only [nlit, natrem, nIrm, nIam, nIam',  nI_add, pk_mul, nIsub, nIrem, nIdiv, nIand1, nIand3, nIand7, nIand31, nIshr, nIle, nIlt, nIeq, nIc, vpI, nIm1, m1nI, m1lt, nIlm, m1le, nIlem, nIneg, u2_ss, u2_nn, u2_kk, nIm1n, m1nIn, m1ltn, nIlmn, m1len, nIlemn]; omega, ?_⟩⟩⟩
        · exfalso; simp (disch := omega) only [nlit, natrem, nIrm, nIam, nIam',  nI_add, pk_mul, nIsub, nIrem, nIdiv, nIand1, nIand3, nIand7, nIand31, nIshr, nIle, nIlt, nIeq, nIc, vpI, nIm1, m1nI, m1lt, nIlm, m1le, nIlem, nIneg, u2_ss, u2_nn, u2_kk, nIm1n, m1nIn, m1ltn, nIlmn, m1len, nIlemn] at c; omega
        · simp (disch := omega) only [nlit, natrem, nIrm, nIam, nIam',  nI_add, pk_mul, nIsub, nIrem, nIdiv, nIand1, nIand3, nIand7, nIand31, nIshr, nIle, nIlt, nIeq, nIc, vpI, nIm1, m1nI, m1lt, nIlm, m1le, nIlem, nIneg, u2_ss, u2_nn, u2_kk, nIm1n, m1nIn, m1ltn, nIlmn, m1len, nIlemn] at c2 c3
          rw [nIc (by omega)]
          exact hgo _ (by rw [if_neg (by omega), if_neg (by omega)])
        · simp (disch := omega) only [nlit, natrem, nIrm, nIam, nIam',  nI_add, pk_mul, nIsub, nIrem, nIdiv, nIand1, nIand3, nIand7, nIand31, nIshr, nIle, nIlt, nIeq, nIc, vpI, nIm1, m1nI, m1lt, nIlm, m1le, nIlem, nIneg, u2_ss, u2_nn, u2_kk, nIm1n, m1nIn, m1ltn, nIlmn, m1len, nIlemn] at c2 c3
          rw [nIc (by omega)]
          exact hgo _ (by rw [if_neg (by omega), if_pos (by omega)]; rfl)
        · simp (disch := omega) only [nlit, natrem, nIrm, nIam, nIam',  nI_add, pk_mul, nIsub, nIrem, nIdiv, nIand1, nIand3, nIand7, nIand31, nIshr, nIle, nIlt, nIeq, nIc, vpI, nIm1, m1nI, m1lt, nIlm, m1le, nIlem, nIneg, u2_ss, u2_nn, u2_kk, nIm1n, m1nIn, m1ltn, nIlmn, m1len, nIlemn] at c2
          simp (disch := omega) only [nlit, natrem, nIrm, nIam, nIam',  nI_add, pk_mul, nIsub, nIrem, nIdiv, nIand1, nIand3, nIand7, nIand31, nIshr, nIle, nIlt, nIeq, nIc, vpI, nIm1, m1nI, m1lt, nIlm, m1le, nIlem, nIneg, u2_ss, u2_nn, u2_kk, nIm1n, m1nIn, m1ltn, nIlmn, m1len, nIlemn]; omega
        · simp (disch := omega) only [nlit, natrem, nIrm, nIam, nIam',  nI_add, pk_mul, nIsub, nIrem, nIdiv, nIand1, nIand3, nIand7, nIand31, nIshr, nIle, nIlt, nIeq, nIc, vpI, nIm1, m1nI, m1lt, nIlm, m1le, nIlem, nIneg, u2_ss, u2_nn, u2_kk, nIm1n, m1nIn, m1ltn, nIlmn, m1len, nIlemn] at c2
          rw [nIc (by omega), show (125 : Int32) + 8 * nI m = nI (125 + 8 * m) by rw [show (8 : Int32) = nI 8 from rfl, pk_mul, show (125 : Int32) = nI 125 from rfl, nI_add], nIc (by omega)]
          exact hgo _ (by rw [if_pos (by omega)]; exact cm_wG bC (by omega))
    -- the codes
    have l177 : ∀ n m (Jx : Ints), n = (if lc' = [] then 0 else lc'.length + 1) - m → m ≤ (if lc' = [] then 0 else lc'.length + 1) → Jx 92 2 = nI 0 → FcM Jx → Kp (fun k => k < 92) I Jx → CelM a' Jx → Jx 98 6 = (if lc' = [] then -1 else nI 0) → Jx 92 13 = nI (if lc' = [] then 0 else lc'.length + 1) → (∀ x, 1100 ≤ x → Jx 99 x = J 99 x ∧ Jx 100 x = J 100 x) → (∀ x, x < m → Jx 99 x = J 99 (1100 + x) ∧ Jx 100 x = J 100 (1100 + x)) → Y mX12_cellar (d + 35) sx 177 [(0, .ref 92), (1, .int (nI m))] [] Jx K R q := by
      have hcl : (if lc' = [] then 0 else lc'.length + 1) ≤ 1000 := by
        split
        · decide
        · have := hlo.1; omega
      generalize hcm : (if lc' = [] then 0 else lc'.length + 1) = cm at *
      intro n
      induction n with
      | zero =>
        intro m Jx hn hm b2 bF bQ bC b98 b13 bh bl
        refine RX12_cellar_177 ⟨fun _ => ?_, fun c => ?_⟩
        · refine l225 56 0 Jx rfl (by decide) b2 bF bQ bC ?_ (fun x hx => absurd hx (Nat.not_lt_zero _))
          by_cases elc : lc' = []
          · rw [if_pos elc] at b98
            exact Or.inl ⟨elc, b98⟩
          · rw [if_neg elc] at b98 hcm
            refine Or.inr ⟨elc, hlo.2 elc, by omega, b98, ?_⟩
            have hgen : ∀ (l : Cd) (x : Nat), cdA J (1100 + x) l → x + l.length < m → cdA Jx x l := by
              intro l
              induction l with
              | nil => intro x h hx; exact ((bl x (by simpa using hx)).1).trans h
              | cons p l ihl =>
                intro x h hx
                simp only [List.length_cons] at hx
                refine ⟨((bl x (by omega)).1).trans h.1, ((bl x (by omega)).2).trans h.2.1, ihl (x + 1) ?_ (by omega)⟩
                exact h.2.2
            exact hgen lc' 0 (hcd elc) (by omega)
        · exfalso; rw [b13] at c; simp (disch := omega) only [nlit, natrem, nIrm, nIam, nIam',  nI_add, pk_mul, nIsub, nIrem, nIdiv, nIand1, nIand3, nIand7, nIand31, nIshr, nIle, nIlt, nIeq, nIc, vpI, nIm1, m1nI, m1lt, nIlm, m1le, nIlem, nIneg, u2_ss, u2_nn, u2_kk, nIm1n, m1nIn, m1ltn, nIlmn, m1len, nIlemn] at c; omega
      | succ n ih =>
        intro m Jx hn hm b2 bF bQ bC b98 b13 bh bl
        refine RX12_cellar_177 ⟨fun c => ?_, fun _ => ⟨by simp (disch := omega) only [nlit, natrem, nIrm, nIam, nIam',  nI_add, pk_mul, nIsub, nIrem, nIdiv, nIand1, nIand3, nIand7, nIand31, nIshr, nIle, nIlt, nIeq, nIc, vpI, nIm1, m1nI, m1lt, nIlm, m1le, nIlem, nIneg, u2_ss, u2_nn, u2_kk, nIm1n, m1nIn, m1ltn, nIlmn, m1len, nIlemn]; omega, by simp (disch := omega) only [nlit, natrem, nIrm, nIam, nIam',  nI_add, pk_mul, nIsub, nIrem, nIdiv, nIand1, nIand3, nIand7, nIand31, nIshr, nIle, nIlt, nIeq, nIc, vpI, nIm1, m1nI, m1lt, nIlm, m1le, nIlem, nIneg, u2_ss, u2_nn, u2_kk, nIm1n, m1nIn, m1ltn, nIlmn, m1len, nIlemn]; omega, by simp (disch := omega) only [nlit, natrem, nIrm, nIam, nIam',  nI_add, pk_mul, nIsub, nIrem, nIdiv, nIand1, nIand3, nIand7, nIand31, nIshr, nIle, nIlt, nIeq, nIc, vpI, nIm1, m1nI, m1lt, nIlm, m1le, nIlem, nIneg, u2_ss, u2_nn, u2_kk, nIm1n, m1nIn, m1ltn, nIlmn, m1len, nIlemn]; omega, by simp (disch := omega) only [nlit, natrem, nIrm, nIam, nIam',  nI_add, pk_mul, nIsub, nIrem, nIdiv, nIand1, nIand3, nIand7, nIand31, nIshr, nIle, nIlt, nIeq, nIc, vpI, nIm1, m1nI, m1lt, nIlm, m1le, nIlem, nIneg, u2_ss, u2_nn, u2_kk, nIm1n, m1nIn, m1ltn, nIlmn, m1len, nIlemn]; omega, ?_⟩⟩
        · exfalso; rw [b13] at c; simp (disch := omega) only [nlit, natrem, nIrm, nIam, nIam',  nI_add, pk_mul, nIsub, nIrem, nIdiv, nIand1, nIand3, nIand7, nIand31, nIshr, nIle, nIlt, nIeq, nIc, vpI, nIm1, m1nI, m1lt, nIlm, m1le, nIlem, nIneg, u2_ss, u2_nn, u2_kk, nIm1n, m1nIn, m1ltn, nIlmn, m1len, nIlemn] at c; omega
        · rw [nIc (by omega), show (1100 : Int32) + nI m = nI (1100 + m) by rw [show (1100 : Int32) = nI 1100 from rfl, nI_add], nIc (by omega), (bh _ (by omega)).1, (bh _ (by omega)).2, show nI m + 1 = nI (m + 1) from nI_add m 1]
          have hFx : Fr [99, 100] [] Jx (u2 (u2 Jx 99 m (J 99 (1100 + m))) 100 m (J 100 (1100 + m))) := (Fr.rf.ua rfl).ua rfl
          refine ih (m + 1) _ (by omega) (by omega) (by rw [u2_nn _ _ _ _ (by decide), u2_nn _ _ _ _ (by decide)]; exact b2) ?_ ((bQ.up (by simp)).up (by simp)) (bC.fr hFx rfl rfl) (by rw [u2_nn _ _ _ _ (by decide), u2_nn _ _ _ _ (by decide)]; exact b98) (by rw [u2_nn _ _ _ _ (by decide), u2_nn _ _ _ _ (by decide)]; exact b13) (fun x hx => ⟨?_, ?_⟩) (fun x hx => ?_)
          · unfold FcM
            rw [hFx.ar 103 rfl rfl, hFx.ar 103 rfl rfl, hFx.ar 103 rfl rfl, hFx.ar 103 rfl rfl]
            exact bF
          · rw [u2_nn _ _ _ _ (by decide), u2_kk _ _ _ _ (by omega)]; exact (bh x hx).1
          · rw [u2_kk _ _ _ _ (by omega), u2_nn _ _ _ _ (by decide)]; exact (bh x hx).2
          · by_cases ex : x = m
            · rw [ex]
              exact ⟨by rw [u2_nn _ _ _ _ (by decide), u2_ss], by rw [u2_ss]⟩
            · exact ⟨by rw [u2_nn _ _ _ _ (by decide), u2_kk _ _ _ _ ex]; exact (bl x (by omega)).1, by rw [u2_kk _ _ _ _ ex, u2_nn _ _ _ _ (by decide)]; exact (bl x (by omega)).2⟩
    -- the cells
    have l146 : ∀ n m (Jx : Ints), n = 204 - m → m ≤ 204 → (∀ k x, ¬ (k = 98 ∧ x < 204) → Jx k x = J k x) → (∀ x, x < m → Jx 98 x = J 98 (204 + x)) → Y mX12_cellar (d + 35) sx 146 [(0, .ref 92), (1, .int (nI m))] [] Jx K R q := by
      intro n
      induction n with
      | zero =>
        intro m Jx hn hm b0 b1
        have em : m = 204 := by omega
        subst em
        refine RX12_cellar_146 ⟨fun _ => ?_, fun c => ?_⟩
        · refine l177 _ 0 Jx rfl (Nat.zero_le _) (by rw [b0 92 2 (by decide)]; exact j2) ?_ (fun k (hk : k < 92) => (funext fun x => b0 k x (by omega)).trans (hKI J K hF k hk)) (fun k hk h6 => by rw [b1 k hk]; exact hS k hk h6) (by rw [b1 6 (by decide)]; exact h210) (by rw [b0 92 13 (by decide)]; exact h13) (fun x _ => ⟨b0 99 x (by omega), b0 100 x (by omega)⟩) (fun x hx => absurd hx (Nat.not_lt_zero _))
          have := hFcX J K hF
          unfold FcM at *
          rw [b0 103 0 (by decide), b0 103 1 (by decide), b0 103 2 (by decide), b0 103 3 (by decide)]
          exact this
        · exfalso; simp (disch := omega) only [nlit, natrem, nIrm, nIam, nIam',  nI_add, pk_mul, nIsub, nIrem, nIdiv, nIand1, nIand3, nIand7, nIand31, nIshr, nIle, nIlt, nIeq, nIc, vpI, nIm1, m1nI, m1lt, nIlm, m1le, nIlem, nIneg, u2_ss, u2_nn, u2_kk, nIm1n, m1nIn, m1ltn, nIlmn, m1len, nIlemn] at c; omega
      | succ n ih =>
        intro m Jx hn hm b0 b1
        refine RX12_cellar_146 ⟨fun c => ?_, fun _ => ⟨by simp (disch := omega) only [nlit, natrem, nIrm, nIam, nIam',  nI_add, pk_mul, nIsub, nIrem, nIdiv, nIand1, nIand3, nIand7, nIand31, nIshr, nIle, nIlt, nIeq, nIc, vpI, nIm1, m1nI, m1lt, nIlm, m1le, nIlem, nIneg, u2_ss, u2_nn, u2_kk, nIm1n, m1nIn, m1ltn, nIlmn, m1len, nIlemn]; omega, by simp (disch := omega) only [nlit, natrem, nIrm, nIam, nIam',  nI_add, pk_mul, nIsub, nIrem, nIdiv, nIand1, nIand3, nIand7, nIand31, nIshr, nIle, nIlt, nIeq, nIc, vpI, nIm1, m1nI, m1lt, nIlm, m1le, nIlem, nIneg, u2_ss, u2_nn, u2_kk, nIm1n, m1nIn, m1ltn, nIlmn, m1len, nIlemn]; omega, ?_⟩⟩
        · exfalso; simp (disch := omega) only [nlit, natrem, nIrm, nIam, nIam',  nI_add, pk_mul, nIsub, nIrem, nIdiv, nIand1, nIand3, nIand7, nIand31, nIshr, nIle, nIlt, nIeq, nIc, vpI, nIm1, m1nI, m1lt, nIlm, m1le, nIlem, nIneg, u2_ss, u2_nn, u2_kk, nIm1n, m1nIn, m1ltn, nIlmn, m1len, nIlemn] at c; omega
        · rw [nIc (by omega), show (204 : Int32) + nI m = nI (204 + m) by rw [show (204 : Int32) = nI 204 from rfl, nI_add], nIc (by omega), b0 98 (204 + m) (by omega), show nI m + 1 = nI (m + 1) from nI_add m 1]
          refine ih (m + 1) _ (by omega) (by omega) (fun k x hk => ?_) (fun x hx => ?_)
          · by_cases h9 : k = 98
            · subst h9
              rw [u2_kk _ _ _ _ (by omega)]; exact b0 _ _ hk
            · rw [u2_nn _ _ _ _ h9]; exact b0 _ _ hk
          · by_cases ex : x = m
            · rw [ex, u2_ss]
            · rw [u2_kk _ _ _ _ ex]; exact b1 x (by omega)
    exact l146 204 0 J rfl (by decide) (fun _ _ _ => rfl) (fun x hx => absurd hx (Nat.not_lt_zero _))
  -- the lines
  have hlp : ∀ n i a' nm dn hc lc' J K, n ≤ 1000 → N < i + n → PsM ts N i a' nm hc lc' J K → POk ts N (i, a', nm, dn, hc, lc') → J 92 2 = nI 0 → FC I J L K → cellS ts = lins ts n (i, a', nm, dn, hc, lc') → Y mX12_cellar (d + 35) sx 100 [(0, .ref 92)] [] J K R q := by
    intro n
    induction n with
    | zero =>
      intro i a' nm dn hc lc' J K hn hiN hP hO j2 hF e
      have hi : i ≤ N := hO.1
      omega
    | succ n ih =>
      intro i a' nm dn hc lc' J K hn hiN hP hO j2 hF e
      have hi : i ≤ N := hO.1
      have h8 := hP.2.2.1
      have h7 := hP.2.1
      have hil : i < ts.length := by omega
      have e94 := (hP.1.2.2.1.get hil).1
      have hm := mso_cs (sK_cs hTo hil)
      refine RX12_cellar_100 ⟨fun c => absurd h8 c, fun _ => ⟨by rw [h7]; simp (disch := omega) only [nlit, natrem, nIrm, nIam, nIam',  nI_add, pk_mul, nIsub, nIrem, nIdiv, nIand1, nIand3, nIand7, nIand31, nIshr, nIle, nIlt, nIeq, nIc, vpI, nIm1, m1nI, m1lt, nIlm, m1le, nIlem, nIneg, u2_ss, u2_nn, u2_kk, nIm1n, m1nIn, m1ltn, nIlmn, m1len, nIlemn]; omega, fun c2 => ⟨fun _ => ?_, fun c => ?_⟩, fun c2 => ?_⟩⟩
      · rw [h7, nIc (by omega), e94] at c2
        simp (disch := omega) only [nlit, natrem, nIrm, nIam, nIam',  nI_add, pk_mul, nIsub, nIrem, nIdiv, nIand1, nIand3, nIand7, nIand31, nIshr, nIle, nIlt, nIeq, nIc, vpI, nIm1, m1nI, m1lt, nIlm, m1le, nIlem, nIneg, u2_ss, u2_nn, u2_kk, nIm1n, m1nIn, m1ltn, nIlmn, m1len, nIlemn] at c2
        rw [hm.1] at c2
        exact hend i a' nm dn hc lc' J K (by rw [e]; exact if_pos c2) hO.2.1 hO.2.2.2.2 hP j2 hF
      · exfalso; rw [h8] at c; exact c (by decide)
      · rw [h7, nIc (by omega), e94] at c2
        simp (disch := omega) only [nlit, natrem, nIrm, nIam, nIam',  nI_add, pk_mul, nIsub, nIrem, nIdiv, nIand1, nIand3, nIand7, nIand31, nIshr, nIle, nIlt, nIeq, nIc, vpI, nIm1, m1nI, m1lt, nIlm, m1le, nIlem, nIneg, u2_ss, u2_nn, u2_kk, nIm1n, m1nIn, m1ltn, nIlmn, m1len, nIlemn] at c2
        rw [hm.1] at c2
        have e2 : cellS ts = match lin1 ts (i, a', nm, dn, hc, lc') with
          | .inl v => .inl v
          | .inr st' => lins ts n st' := by rw [e]; exact if_neg c2
        refine readLine_ok hP hO c2 (fun v J3 K3 el hv k8 hF3 => RX12_cellar_123 ?_) (fun j b nm' dn' hc' lc'' J3 K3 el hj hP3 hF3 => RX12_cellar_123 ?_)
        · rw [el] at e2
          refine takeSignM_f hv k8 (RX12_cellar_129 (hflt v J3 K3 e2 k8 ?_ (hF.tr hF3.fc)))
          rw [hF3.1 92 2 (by decide) (by decide) (by decide) (by decide)]; exact j2
        · rw [el] at e2
          refine takeSignM_ok (c := 59) hTo hP3.1.2.2.1 hP3.2.2.1 hP3.2.1 (by omega) (by decide) (fun es => RX12_cellar_129 ?_) (fun es => RX12_cellar_129 ?_)
          · have el2 : lin1 ts (i, a', nm, dn, hc, lc') = .inr (j + 1, b, nm', dn', hc', lc'') := by rw [el]; exact if_pos es
            obtain ⟨hlt', hO'⟩ := lin1_ok hTo hE hO c2 el2
            have hlt' : i < j + 1 := hlt'
            have e3 : cellS ts = lins ts n (j + 1, b, nm', dn', hc', lc'') := by rw [e2, show wrd ts 59 j (.inr (j + 1, b, nm', dn', hc', lc'')) = .inr (j + 1, b, nm', dn', hc', lc'') from if_pos es]
            refine ih (j + 1) b nm' dn' hc' lc'' _ K3 (by omega) (by omega) (hP3.f7 F7.rf.u (u2_ss _ _ _ _)) hO' ?_ (hF.tr (FM.fc (hF3.u (Or.inl ⟨rfl, by omega⟩)))) e3
            rw [u2_kk _ _ _ _ (by decide), hF3.1 92 2 (by decide) (by decide) (by decide) (by decide)]; exact j2
          · have e3 : cellS ts = .inl (fK ts 1 j) := by rw [e2, show wrd ts 59 j (.inr (j + 1, b, nm', dn', hc', lc'')) = .inl (fK ts 1 j) from if_neg es]
            refine hflt _ _ K3 e3 (u2_ss _ _ _ _) ?_ (hF.tr (FM.fc (hF3.u (Or.inl ⟨rfl, by omega⟩))))
            rw [u2_kk _ _ _ _ (by decide), hF3.1 92 2 (by decide) (by decide) (by decide) (by decide)]; exact j2
  -- the hall, out of the cleared cells
  have hhall : ∀ J3 : Ints, FC I J3 L L1 → (∀ x, x < 204 → x ≠ 6 → J3 98 (204 + x) = nI 0) → J3 98 210 = -1 → (∀ k x, k ≠ 98 → J3 k x = J2 k x) → E0 mX12_takeWord (d + 34) sx [.ref 92, .int 0] J3 L1 R (fun r J K T => Y mX12_cellar (d + 35) sx 64 [(0, .ref 92)] (r.toList ++ []) J K T q) := by
    intro J3 hF3 h0 h210 hsame
    have hB3 : MB ts N J3 L1 := ⟨hTo, hE, hTM2.fr (fun i => hsame 94 i (by decide)) (fun i => hsame 95 i (by decide)) (fun _ => rfl), hWd2, hFcX J3 L1 hF3⟩
    have hS0 : SpM a00 J3 := fun k hk h6 => h0 k hk h6
    have hP3 : PsM ts N 0 a00 [] false [] J3 L1 := ⟨hB3, by rw [hsame 92 7 (by decide)]; exact y7, by rw [hsame 92 8 (by decide)]; exact y8, ⟨by rw [hsame 92 16 (by decide)]; exact y16, fun k hk => absurd hk (Nat.not_lt_zero _)⟩, by rw [hsame 92 17 (by decide)]; exact y17, hS0, h210, by rw [hsame 92 13 (by decide)]; exact y13, fun hh => absurd rfl hh⟩
    have b2 : J3 92 2 = nI 0 := by rw [hsame 92 2 (by decide)]; exact y2
    have f93 : ∀ v J s2, cellS ts = .inl v → isF v → J 92 8 = nI v → J 92 2 = nI 0 → FC I J L L1 → Y mX12_cellar (d + 35) sx 93 [(0, .ref 92)] [.int s2, .int 205, .ref 98] J L1 R q := by
      intro v J s2 e hv j8 j2 hF
      refine RX12_cellar_93 ⟨(vpI (n := 205) (by decide)).mpr (by decide), ?_⟩
      rw [show Int32.toNatClampNeg 205 = 205 by decide]
      have j8' : u2 J 98 205 s2 92 8 = nI v := by rw [u2_nn _ _ _ _ (by decide)]; exact j8
      exact takeSignM_f hv j8' (hflt v _ L1 e j8' (by rw [u2_nn _ _ _ _ (by decide)]; exact j2) (hF.tr (FM.fc (FM.rf.u (Or.inr (Or.inl ⟨rfl, by decide⟩))))))
    have f78 : ∀ v J s2, cellS ts = .inl v → isF v → J 92 8 = nI v → J 92 2 = nI 0 → FC I J L L1 → Y mX12_cellar (d + 35) sx 78 [(0, .ref 92)] [.int s2, .int 204, .ref 98] J L1 R q := by
      intro v J s2 e hv j8 j2 hF
      refine RX12_cellar_78 ⟨(vpI (n := 204) (by decide)).mpr (by decide), ?_⟩
      rw [show Int32.toNatClampNeg 204 = 204 by decide]
      have j8' : u2 J 98 204 s2 92 8 = nI v := by rw [u2_nn _ _ _ _ (by decide)]; exact j8
      exact takeNumberM_f hv j8' (f93 v _ _ e hv j8' (by rw [u2_nn _ _ _ _ (by decide)]; exact j2) (hF.tr (FM.fc (FM.rf.u (Or.inr (Or.inl ⟨rfl, by decide⟩))))))
    have ecs : cellS ts = wrd ts 0 0 (nmb ts 2 8 1 (fun w => nmb ts 2 8 2 (fun d => wrd ts 59 3 (lins ts 1000 (4, aHal w d, [], [], false, []))))) := rfl
    refine takeWordM_o (w := 0) hP3.1 hP3.2.2.1 hP3.2.1 (Nat.zero_le _) (by decide) (fun J4 s4 ew4 hi4 j7 f7 => RX12_cellar_64 ?_) (fun v J4 ew4 hv j8 f8 => RX12_cellar_64 (takeNumberM_f hv j8 (f78 v J4 _ (by rw [ecs]; exact ew4 _) hv j8 (by rw [f8 92 2 (by decide)]; exact b2) (hF3.tr f8.fm.fc))))
    rw [ew4] at ecs
    have hP4 := hP3.f7 f7 j7
    have hF4 := hF3.tr (FM.fc (L := L1) f7.f.fm)
    have c2 : J4 92 2 = nI 0 := by rw [f7 92 2 (by decide)]; exact b2
    refine takeNumberM_o (lo := 2) (hi := 8) hP4.1 hP4.2.2.1 hP4.2.1 hi4 (by decide) (by decide) (fun J5 s5 v5 ew5 hi5 j7' f7' => ?_) (fun v J5 ew5 hv j8 f8 => f78 v J5 _ (by rw [ecs]; exact ew5 _) hv j8 (by rw [f8 92 2 (by decide)]; exact c2) (hF4.tr f8.fm.fc))
    have ew5 : ∀ f, nmb ts 2 8 1 f = f (vK ts 1) := ew5
    have v5 : 2 ≤ vK ts 1 ∧ vK ts 1 ≤ 8 := v5
    rw [ew5] at ecs
    have hP5 := (hP4.f7 f7' j7').sp (v := vK ts 1) (k := 0) (o := 204) (by omega) (by omega) (by omega)
    have hF5 : FC I (u2 J5 98 204 (nI (vK ts 1))) L L1 := (hF4.tr (FM.fc (L := L1) f7'.f.fm)).tr (FM.fc (FM.rf.u (Or.inr (Or.inl ⟨rfl, by decide⟩))))
    have d2 : u2 J5 98 204 (nI (vK ts 1)) 92 2 = nI 0 := by rw [u2_nn _ _ _ _ (by decide), f7' 92 2 (by decide)]; exact c2
    refine RX12_cellar_78 ⟨(vpI (n := 204) (by decide)).mpr (by decide), ?_⟩
    rw [show Int32.toNatClampNeg 204 = 204 by decide]
    refine takeNumberM_o (lo := 2) (hi := 8) hP5.1 hP5.2.2.1 hP5.2.1 hi5 (by decide) (by decide) (fun J6 s6 v6 ew6 hi6 j7a f7a => ?_) (fun v J6 ew6 hv j8 f8 => f93 v J6 _ (by rw [ecs]; exact ew6 _) hv j8 (by rw [f8 92 2 (by decide)]; exact d2) (hF5.tr f8.fm.fc))
    have ew6 : ∀ f, nmb ts 2 8 2 f = f (vK ts 2) := ew6
    have v6 : 2 ≤ vK ts 2 ∧ vK ts 2 ≤ 8 := v6
    rw [ew6] at ecs
    have hP6 := (hP5.f7 f7a j7a).sp (v := vK ts 2) (k := 1) (o := 205) (by have := v6.2; omega) (by omega) (by omega)
    have hF6 : FC I (u2 J6 98 205 (nI (vK ts 2))) L L1 := (hF5.tr (FM.fc (L := L1) f7a.f.fm)).tr (FM.fc (FM.rf.u (Or.inr (Or.inl ⟨rfl, by decide⟩))))
    have d6 : u2 J6 98 205 (nI (vK ts 2)) 92 2 = nI 0 := by rw [u2_nn _ _ _ _ (by decide), f7a 92 2 (by decide)]; exact d2
    refine RX12_cellar_93 ⟨(vpI (n := 205) (by decide)).mpr (by decide), ?_⟩
    rw [show Int32.toNatClampNeg 205 = 205 by decide]
    refine takeSignM_ok (c := 59) hTo hP6.1.2.2.1 hP6.2.2.1 hP6.2.1 (by omega) (by decide) (fun es => ?_) (fun es => ?_)
    · have e3 : cellS ts = lins ts 1000 (4, aHal (vK ts 1) (vK ts 2), [], [], false, []) := by rw [ecs]; exact if_pos es
      refine hlp 1000 4 _ [] [] false [] _ L1 (Nat.le_refl _) (by omega) (hP6.f7 F7.rf.u (u2_ss _ _ _ _)) (hal_ok hE s4 s5 s6 es v5 v6) (by rw [u2_kk _ _ _ _ (by decide)]; exact d6) (hF6.tr (FM.fc (FM.rf.u (Or.inl ⟨rfl, by omega⟩)))) e3
    · have e3 : cellS ts = .inl (fK ts 1 3) := by rw [ecs]; exact if_neg es
      exact hflt _ _ L1 e3 (u2_ss _ _ _ _) (by rw [u2_kk _ _ _ _ (by decide)]; exact d6) (hF6.tr (FM.fc (FM.rf.u (Or.inl ⟨rfl, by omega⟩))))
  -- clearing
  have l26 : ∀ n m (Jx : Ints), n = 204 - m → m ≤ 204 → FC I Jx L L1 → (∀ x, x < m → Jx 98 (204 + x) = nI 0) → (∀ k x, k ≠ 98 → Jx k x = J2 k x) → Y mX12_cellar (d + 35) sx 26 [(0, .ref 92), (1, .int (nI m))] [] Jx L1 R q := by
    intro n
    induction n with
    | zero =>
      intro m Jx hn hm hF b0 b1
      have em : m = 204 := by omega
      subst em
      refine RX12_cellar_26 ⟨fun _ => ?_, fun c => ?_⟩
      · exact hhall _ (hF.tr (FM.fc (FM.rf.u (Or.inr (Or.inl ⟨rfl, by decide⟩))))) (fun x hx h6 => by rw [u2_kk _ _ _ _ (by omega)]; exact b0 x hx) (u2_ss _ _ _ _) (fun k x hk => by rw [u2_nn _ _ _ _ hk]; exact b1 k x hk)
      · exfalso; simp (disch := omega) only [nlit, natrem, nIrm, nIam, nIam',  nI_add, pk_mul, nIsub, nIrem, nIdiv, nIand1, nIand3, nIand7, nIand31, nIshr, nIle, nIlt, nIeq, nIc, vpI, nIm1, m1nI, m1lt, nIlm, m1le, nIlem, nIneg, u2_ss, u2_nn, u2_kk, nIm1n, m1nIn, m1ltn, nIlmn, m1len, nIlemn] at c; omega
    | succ n ih =>
      intro m Jx hn hm hF b0 b1
      refine RX12_cellar_26 ⟨fun c => ?_, fun _ => ⟨by simp (disch := omega) only [nlit, natrem, nIrm, nIam, nIam',  nI_add, pk_mul, nIsub, nIrem, nIdiv, nIand1, nIand3, nIand7, nIand31, nIshr, nIle, nIlt, nIeq, nIc, vpI, nIm1, m1nI, m1lt, nIlm, m1le, nIlem, nIneg, u2_ss, u2_nn, u2_kk, nIm1n, m1nIn, m1ltn, nIlmn, m1len, nIlemn]; omega, ?_⟩⟩
      · exfalso; simp (disch := omega) only [nlit, natrem, nIrm, nIam, nIam',  nI_add, pk_mul, nIsub, nIrem, nIdiv, nIand1, nIand3, nIand7, nIand31, nIshr, nIle, nIlt, nIeq, nIc, vpI, nIm1, m1nI, m1lt, nIlm, m1le, nIlem, nIneg, u2_ss, u2_nn, u2_kk, nIm1n, m1nIn, m1ltn, nIlmn, m1len, nIlemn] at c; omega
      · rw [show (204 : Int32) + nI m = nI (204 + m) by rw [show (204 : Int32) = nI 204 from rfl, nI_add], nIc (by omega), show nI m + 1 = nI (m + 1) from nI_add m 1]
        refine ih (m + 1) _ (by omega) (by omega) (hF.tr (FM.fc (FM.rf.u (Or.inr (Or.inl ⟨rfl, by omega⟩))))) (fun x hx => ?_) (fun k x hk => by rw [u2_nn _ _ _ _ hk]; exact b1 k x hk)
        by_cases ex : x = m
        · rw [ex, u2_ss]; rfl
        · rw [u2_kk _ _ _ _ (by omega)]; exact b0 x (by omega)
  exact l26 204 0 J2 rfl (by decide) hF2 (fun x hx => absurd hx (Nat.not_lt_zero _)) (fun _ _ _ => rfl)
