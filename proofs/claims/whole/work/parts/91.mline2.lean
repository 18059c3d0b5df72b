def PsM (ts : List Tk) (N i : Nat) (a : Ce) (nm : Nm) (hc : Bool) (lc : Cd) (I : Ints) (L : Lngs) : Prop := MB ts N I L ∧ I 92 7 = nI i ∧ I 92 8 = nI 0 ∧ NmM nm I L ∧ (I 92 17 = if hc = true then nI 1 else nI 0) ∧ SpM a I ∧ (I 98 210 = if lc = [] then -1 else nI 0) ∧ (I 92 13 = nI (if lc = [] then 0 else lc.length + 1)) ∧ (lc ≠ [] → cdA I 1100 lc)
theorem cdA.f {I J : Ints} (h1 : ∀ i, J 99 i = I 99 i) (h2 : ∀ i, J 100 i = I 100 i) {l : Cd} {i : Nat} (h : cdA I i l) : cdA J i l := cdA.fr h1 h2 l i h
theorem PsM.f7 {ts : List Tk} {N i i' : Nat} {a : Ce} {nm : Nm} {hc : Bool} {lc : Cd} {I J : Ints} {L : Lngs} (h : PsM ts N i a nm hc lc I L) (hF : F7 I J) (h7 : J 92 7 = nI i') : PsM ts N i' a nm hc lc J L := by
  obtain ⟨k1, k2, k3, k4, k5, k6, k7, k8, k9⟩ := h
  refine ⟨k1.fm hF.f.fm, h7, by rw [hF 92 8 (by decide)]; exact k3, ⟨by rw [hF 92 16 (by decide)]; exact k4.1, fun k hk => ⟨(k4.2 k hk).1, by rw [hF 102 k (by omega)]; exact (k4.2 k hk).2⟩⟩, by rw [hF 92 17 (by decide)]; exact k5, k6.fr (fun x => hF 98 x (by omega)), by rw [hF 98 210 (by decide)]; exact k7, by rw [hF 92 13 (by decide)]; exact k8, fun hl => (k9 hl).f (fun x => hF 99 x (by omega)) (fun x => hF 100 x (by omega))⟩
/-- a cell of the cellar is told -/
theorem PsM.sp {ts : List Tk} {N i : Nat} {a : Ce} {nm : Nm} {hc : Bool} {lc : Cd} {I : Ints} {L : Lngs} (h : PsM ts N i a nm hc lc I L) {k v o : Nat} (hv : v < 128) (ho : o = 204 + k) (hk : k ≠ 6) : PsM ts N i (up1 a k (fi v)) nm hc lc (u2 I 98 o (nI v)) L := by
  obtain ⟨k1, k2, k3, k4, k5, k6, k7, k8, k9⟩ := h
  have hF : FM I (u2 I 98 o (nI v)) L L := FM.rf.u (Or.inr (Or.inl ⟨rfl, by omega⟩))
  have hn : ∀ k x, k ≠ 98 → u2 I 98 o (nI v) k x = I k x := fun k x hk => u2_nn _ _ _ _ hk
  refine ⟨k1.fm hF, by rw [hn 92 7 (by decide)]; exact k2, by rw [hn 92 8 (by decide)]; exact k3, ⟨by rw [hn 92 16 (by decide)]; exact k4.1, fun k hk => ⟨(k4.2 k hk).1, by rw [hn 102 k (by decide)]; exact (k4.2 k hk).2⟩⟩, by rw [hn 92 17 (by decide)]; exact k5, k6.up hv ho, by rw [u2_kk _ _ _ _ (by omega)]; exact k7, by rw [hn 92 13 (by decide)]; exact k8, fun hl => (k9 hl).f (fun x => hn 99 x (by decide)) (fun x => hn 100 x (by decide))⟩
abbrev LnF (ts : List Tk) (N : Nat) (I : Ints) (L : Lngs) (R : Rfs) (q : Q3) (e : Pr) : Prop := ∀ v J K, e = .inl v → isF v → J 92 8 = nI v → FM I J L K → q none J K R
abbrev LnT (ts : List Tk) (N : Nat) (I : Ints) (L : Lngs) (R : Rfs) (q : Q3) (e : Pr) : Prop := ∀ j b nm' dn' hc' lc' J K, e = wrd ts 59 j (.inr (j + 1, b, nm', dn', hc', lc')) → j ≤ N → PsM ts N j b nm' hc' lc' J K → FM I J L K → q none J K R
theorem readPillar_ok {d : Nat} {sx : Sx} {I : Ints} {L : Lngs} {R : Rfs} {q : Q3} {ts : List Tk} {N i : Nat} {a : Ce} {nm : Nm} {dn : List (List Nat)} {hc : Bool} {lc : Cd} (hP : PsM ts N i a nm hc lc I L) (hW : WFc a) (hi : i + 1 ≤ N) (hf : LnF ts N I L R q (lnPil ts i a nm dn hc lc)) (ht : LnT ts N I L R q (lnPil ts i a nm dn hc lc)) : E0 mX12_readPillar (d + 4) sx [.ref 92] I L R q := by
  have hP1 := hP.f7 (F7.rf.u (v := nI (i + 1))) (u2_ss _ _ _ _)
  have hF1 : F7 I (u2 I 92 7 (nI (i + 1))) := F7.rf.u
  refine EX12_readPillar ?_
  rw [hP.2.1, show nI i + 1 = nI (i + 1) from nI_add i 1]
  refine takeCellM_ok (wo := 7) (tk := tak a hc) hP1.1 hP1.2.2.2.2.2.1 hW hP1.2.2.2.2.1 (Or.inl ⟨rfl, rfl⟩) hP1.2.2.1 hP1.2.1 hi (fun x J hx ef hi2 j7 f7 => ?_) (fun v cl J ef hv j8 f8 => ?_)
  · have hP2 := hP1.f7 f7 j7
    refine RX12_readPillar_16 ⟨fun c => absurd hP2.2.2.1 c, fun _ => ⟨?_, ?_⟩⟩
    · simp (disch := omega) only [nlit, natrem, nIrm, nIam, nIam',  nI_add, pk_mul, nIsub, nIrem, nIdiv, nIand1, nIand3, nIand7, nIand31, nIshr, nIle, nIlt, nIeq, nIc, vpI, nIm1, m1nI, m1lt, nIlm, m1le, nIlem, nIneg, u2_ss, u2_nn, u2_kk, nIm1n, m1nIn, m1ltn, nIlmn, m1len, nIlemn]; omega
    · rw [show (211 : Int32) + nI x = nI (211 + x) by rw [show (211 : Int32) = nI 211 from rfl, nI_add], nIc (by omega)]
      have hP3 := hP2.sp (v := 1) (k := 7 + x) (o := 211 + x) (by decide) (by omega) (by omega)
      exact ht (i + 1 + 2) (up1 a (7 + x) (fi 1)) nm dn hc lc _ L (ef _) hi2 hP3 ((hF1.f.tr f7.f).fm.u (Or.inr (Or.inl ⟨rfl, by omega⟩)))
  · refine RX12_readPillar_16 ⟨fun _ => hf v J L (ef _) hv j8 (hF1.f.tr f8).fm, fun c => ?_⟩
    exfalso; rw [j8] at c; simp (disch := omega) only [nlit, natrem, nIrm, nIam, nIam',  nI_add, pk_mul, nIsub, nIrem, nIdiv, nIand1, nIand3, nIand7, nIand31, nIshr, nIle, nIlt, nIeq, nIc, vpI, nIm1, m1nI, m1lt, nIlm, m1le, nIlem, nIneg, u2_ss, u2_nn, u2_kk, nIm1n, m1nIn, m1ltn, nIlmn, m1len, nIlemn] at c; omega
theorem readCarriage_ok {d : Nat} {sx : Sx} {I : Ints} {L : Lngs} {R : Rfs} {q : Q3} {ts : List Tk} {N i : Nat} {a : Ce} {nm : Nm} {dn : List (List Nat)} {hc : Bool} {lc : Cd} (hP : PsM ts N i a nm hc lc I L) (hW : WFc a) (hi : i + 1 ≤ N) (hf : LnF ts N I L R q (lnCar ts i a nm dn hc lc)) (ht : LnT ts N I L R q (lnCar ts i a nm dn hc lc)) : E0 mX12_readCarriage (d + 4) sx [.ref 92] I L R q := by
  obtain ⟨hT, hE, hM, hWd, hFc⟩ := id hP.1
  have hlen := hE.2.1
  have hF1 : F7 I (u2 I 92 7 (nI (i + 1))) := F7.rf.u
  refine EX12_readCarriage ⟨fun c1 => ?_, fun c1 => ?_⟩
  · have ehc : hc = false := by
      cases hc with
      | false => rfl
      | true => have := hP.2.2.2.2.1; rw [this] at c1; exact absurd c1 (by decide)
    have esp : lnCar ts i a nm dn hc lc = plc ts a (clP a) (i + 1) (fun c => wrd ts 59 (i + 3) (.inr (i + 4, up1 a 5 (fi c), nm, dn, true, lc))) := if_neg (by rw [ehc]; decide)
    have hP1 := hP.f7 (F7.rf.u (v := nI (i + 1))) (u2_ss _ _ _ _)
    rw [hP.2.1, show nI i + 1 = nI (i + 1) from nI_add i 1]
    refine takeCellM_ok (wo := 1) (tk := clP a) hP1.1 hP1.2.2.2.2.2.1 hW hP1.2.2.2.2.1 (Or.inr ⟨rfl, rfl⟩) hP1.2.2.1 hP1.2.1 hi (fun x J hx ef hi2 j7 f7 => ?_) (fun v cl J ef hv j8 f8 => ?_)
    · have hP2 := (hP1.f7 f7 j7).sp (v := x) (k := 5) (o := 209) (by omega) (by omega) (by omega)
      refine RX12_readCarriage_35 ⟨(vpI (n := 209) (by decide)).mpr (by decide), ?_⟩
      rw [show Int32.toNatClampNeg 209 = 209 by decide]
      obtain ⟨k1, k2, k3, k4, k5, k6, k7, k8, k9⟩ := hP2
      have hF : FM (u2 J 98 209 (nI x)) (u2 (u2 J 98 209 (nI x)) 92 17 1) L L := FM.rf.u (Or.inl ⟨rfl, by omega⟩)
      have hn : ∀ k y, ¬ (k = 92 ∧ y = 17) → u2 (u2 J 98 209 (nI x)) 92 17 1 k y = u2 J 98 209 (nI x) k y := fun k y hk => by
        by_cases h9 : k = 92
        · subst h9; exact u2_kk _ _ _ _ (fun e => hk ⟨rfl, e⟩)
        · exact u2_nn _ _ _ _ h9
      refine ht (i + 1 + 2) (up1 a 5 (fi x)) nm dn true lc _ L (by rw [esp]; exact ef _) hi2 ⟨k1.fm hF, by rw [hn 92 7 (by decide)]; exact k2, by rw [hn 92 8 (by decide)]; exact k3, ⟨by rw [hn 92 16 (by decide)]; exact k4.1, fun k hk => ⟨(k4.2 k hk).1, by rw [hn 102 k (by omega)]; exact (k4.2 k hk).2⟩⟩, u2_ss _ _ _ _, k6.fr (fun y => hn 98 y (by omega)), by rw [hn 98 210 (by decide)]; exact k7, by rw [hn 92 13 (by decide)]; exact k8, fun hl => (k9 hl).f (fun y => hn 99 y (by omega)) (fun y => hn 100 y (by omega))⟩ (((hF1.f.tr f7.f).fm.u (Or.inr (Or.inl ⟨rfl, by omega⟩))).u (Or.inl ⟨rfl, by omega⟩))
    · refine RX12_readCarriage_35 ⟨(vpI (n := 209) (by decide)).mpr (by decide), ?_⟩
      rw [show Int32.toNatClampNeg 209 = 209 by decide]
      exact (hf v _ L (by rw [esp]; exact ef _) hv (by rw [u2_kk _ _ _ _ (by decide), u2_nn _ _ _ _ (by decide)]; exact j8) (((hF1.f.tr f8).fm.u (Or.inr (Or.inl ⟨rfl, by decide⟩))).u (Or.inl ⟨rfl, by omega⟩)))
  · have ehc : hc = true := by
      cases hc with
      | true => rfl
      | false => have := hP.2.2.2.2.1; rw [this] at c1; exact absurd rfl c1
    refine wrongM_ok (k := 3) hT hM hP.2.2.1 hP.2.1 (by omega) (RX12_readCarriage_12 ?_)
    exact hf (fK ts 3 i) _ L (if_pos ehc) (fK_f hT (by decide) (by decide)) (u2_ss _ _ _ _) (FM.rf.u (Or.inl ⟨rfl, by omega⟩))
theorem cdE_A {J : Ints} : ∀ (l : Cd) (k : Nat), (∀ m, m < l.length → J 99 (k + m) = nI (l.getD m (0, 0)).1 ∧ J 100 (k + m) = nI (l.getD m (0, 0)).2) → J 99 (k + l.length) = nI 0 → cdA J k l
  | [], k, _, h => h
  | (o, v) :: l, k, h, h0 => by
    have h1 := h 0 (by simp)
    refine ⟨h1.1, h1.2, cdE_A l (k + 1) (fun m hm => ?_) ?_⟩
    · have := h (m + 1) (by simpa using hm)
      rw [show k + 1 + m = k + (m + 1) by omega]
      exact this
    · rw [show k + 1 + l.length = k + ((o, v) :: l).length by simp; omega]
      exact h0
theorem readLaw_ok {d : Nat} {sx : Sx} {I : Ints} {L : Lngs} {R : Rfs} {q : Q3} {ts : List Tk} {N i : Nat} {a : Ce} {nm : Nm} {dn : List (List Nat)} {hc : Bool} {lc : Cd} (hP : PsM ts N i a nm hc lc I L) (hi : i ≤ N) (hlo : lcOk lc) (hf : LnF ts N I L R q (if sK ts i = 11 then lnLaw ts i a nm dn hc lc else .inl (fK ts 1 i))) (ht : LnT ts N I L R q (if sK ts i = 11 then lnLaw ts i a nm dn hc lc else .inl (fK ts 1 i))) : E0 mX12_readLaw (d + 33) sx [.ref 92] I L R q := by
  obtain ⟨hB, h7, h8, hNm, h17, hS, h210, h13, hcd⟩ := id hP
  obtain ⟨hT, hE, hM, hWd, hFc⟩ := id hB
  have hlen := hE.2.1
  have hN := hE.1
  have h8le : I 92 8 ≤ 0 := by rw [h8]; decide
  refine EX12_readLaw (isWordM_ok (w := 11) hT hM hWd h8 h7 (by omega) (by decide) (fun e11 => ?_) (fun e11 => ?_))
  · rw [if_pos e11] at hf ht
    have hiN := lt_N hE hi (by omega)
    by_cases elc : lc = []
    · subst elc
      rw [if_pos rfl] at h210
      have h13 : I 92 13 = nI 0 := h13
      have hsp : lnLaw ts i a nm dn hc [] = match rgL ts (i + 1) with
        | .inl v => .inl v
        | .inr (j, c) => .inr (j, a, nm, dn, hc, c) := if_neg (fun hh => hh rfl)
      have hsp2 : ∀ v, rgA ts (rgQ ts 5) (i + 1) = .inl v → lnLaw ts i a nm dn hc [] = .inl v := fun v e => by
        rw [hsp]
        have : rgL ts (i + 1) = .inl v := bnd_l e
        rw [this]
      have hsp3 : ∀ j c, rgA ts (rgQ ts 5) (i + 1) = .inr (j, c) → lnLaw ts i a nm dn hc [] = wrd ts 59 j (.inr (j + 1, a, nm, dn, hc, c)) := fun j c e => by
        rw [hsp]
        have : rgL ts (i + 1) = if sK ts j = 59 then .inr (j + 1, c) else .inl (fK ts 1 j) := bnd_r e
        rw [this]
        unfold wrd
        by_cases h59 : sK ts j = 59
        · rw [if_pos h59, if_pos h59]
        · rw [if_neg h59, if_neg h59]
      refine RX12_readLaw_6 ⟨fun _ => ⟨fun _ => ⟨fun _ => ?_, fun c => absurd h8le c⟩, fun c => ?_⟩, fun c => absurd c (by decide)⟩
      · rw [h7, h13, show nI i + 1 = nI (i + 1) from nI_add i 1]
        have hFM : FM I (u2 (u2 I 92 7 (nI (i + 1))) 98 210 (nI 0)) L L := (FM.rf.u (Or.inl ⟨rfl, by omega⟩)).u (Or.inr (Or.inl ⟨rfl, by decide⟩))
        have hn : ∀ k x, ¬ (k = 92 ∧ x = 7) → ¬ (k = 98 ∧ x = 210) → u2 (u2 I 92 7 (nI (i + 1))) 98 210 (nI 0) k x = I k x := fun k x n1 n2 => by
          by_cases h9 : k = 98
          · subst h9; rw [u2_kk _ _ _ _ (fun e => n2 ⟨rfl, e⟩), u2_nn _ _ _ _ (by decide)]
          · rw [u2_nn _ _ _ _ h9]
            by_cases h92 : k = 92
            · subst h92; exact u2_kk _ _ _ _ (fun e => n1 ⟨rfl, e⟩)
            · exact u2_nn _ _ _ _ h92
        have p7 : u2 (u2 I 92 7 (nI (i + 1))) 98 210 (nI 0) 92 7 = nI (i + 1) := by rw [u2_nn _ _ _ _ (by decide), u2_ss]
        have p210 : u2 (u2 I 92 7 (nI (i + 1))) 98 210 (nI 0) 98 210 = nI 0 := u2_ss _ _ _ _
        generalize u2 (u2 I 92 7 (nI (i + 1))) 98 210 (nI 0) = I1 at *
        have hB1 := hB.fm hFM
        refine mLaw hB1 d _ I1 [] (i + 1) FL.rf ⟨p7, by rw [hn 92 8 (by decide) (by decide)]; exact h8, by rw [hn 92 13 (by decide) (by decide)]; exact h13, fun k hk => absurd hk (Nat.not_lt_zero _)⟩ (by omega) (Nat.zero_le _) (fun v m J es j8 j13 hm hFJ => ?_) (fun j c J es hJ hFJ => ?_)
        · have hvv := rgA_vp (rgQ_vp hT 5) _ _ es
          refine RX12_readLaw_68 (emitM_ok (o := 0) (v := 0) j13 (by omega) (RX12_readLaw_74 ?_))
          exact hf v _ L (hsp2 v es) hvv (by rw [u2_kk _ _ _ _ (by decide), u2_nn _ _ _ _ (by decide), u2_nn _ _ _ _ (by decide)]; exact j8) (hFM.tr (FL.fm (((hFJ.u (Or.inr ⟨Or.inl rfl, by omega⟩)).u (Or.inr ⟨Or.inr rfl, by omega⟩)).u (Or.inl ⟨rfl, by omega⟩))))
        · obtain ⟨⟨g1, g2, g3⟩, g4, -⟩ := rgA_good hE (rgQ_good hT hE 5) _ (by omega) _ _ es
          rw [List.nil_append] at hJ
          refine RX12_readLaw_68 (emitM_ok (o := 0) (v := 0) hJ.2.2.1 (by omega) (RX12_readLaw_74 ?_))
          have hJe := hJ.emit (o := 0) (v := 0)
          have hFJ2 := ((hFJ.u (v := nI 0) (Or.inr ⟨Or.inl rfl, show 1100 ≤ 1100 + c.length by omega⟩)).u (v := nI 0) (Or.inr ⟨Or.inr rfl, show 1100 ≤ 1100 + c.length by omega⟩)).u (v := nI (c.length + 1)) (Or.inl ⟨rfl, show 13 = 7 ∨ 13 = 8 ∨ 13 = 13 by omega⟩)
          generalize u2 (u2 (u2 J 99 (1100 + c.length) (nI 0)) 100 (1100 + c.length) (nI 0)) 92 13 (nI (c.length + 1)) = J2 at *
          have hn2 : ∀ k x, k ≠ 92 → k ≠ 99 → k ≠ 100 → J2 k x = I1 k x := fun k x a1 a2 a3 => hFJ2.ar a1 a2 a3 x
          refine ht j a nm dn hc c J2 L (hsp3 j c es) g2 ⟨hB1.fm hFJ2.fm, hJe.1, hJe.2.1, ⟨by rw [hFJ2 92 16 (by decide) (by decide), hn 92 16 (by decide) (by decide)]; exact hNm.1, fun k hk => ⟨(hNm.2 k hk).1, by rw [hn2 102 k (by decide) (by decide) (by decide), hn 102 k (by omega) (by omega)]; exact (hNm.2 k hk).2⟩⟩, by rw [hFJ2 92 17 (by decide) (by decide), hn 92 17 (by decide) (by decide)]; exact h17, fun k hk h6 => by rw [hn2 98 _ (by decide) (by decide) (by decide), hn 98 _ (by omega) (by omega)]; exact hS k hk h6, by rw [hn2 98 210 (by decide) (by decide) (by decide), p210, if_neg g4], by rw [if_neg g4, hJe.2.2.1, List.length_append]; rfl, fun _ => cdE_A c 1100 (fun m hm => ?_) ?_⟩ (hFM.tr hFJ2.fm)
          · have := hJe.2.2.2 m (by simp; omega)
            rw [List.getD_eq_getElem?_getD, List.getElem?_append_left hm, ← List.getD_eq_getElem?_getD] at this
            exact this
          · have := (hJe.2.2.2 c.length (by simp)).1
            rw [this]
            simp
      · exfalso; rw [h210] at c; exact c (by decide)
    · rw [if_neg elc] at h210
      refine RX12_readLaw_6 ⟨fun _ => ⟨fun c => ?_, fun _ => ?_⟩, fun c => absurd c (by decide)⟩
      · exfalso; rw [h210] at c; exact absurd c (by decide)
      · have hvv := fK_f hT (i := i) (k := 3) (by decide) (by decide)
        refine wrongM_ok (k := 3) hT hM h8 h7 (by omega) (RX12_readLaw_33 ⟨fun c => ?_, fun _ => hf _ _ L (if_pos elc) hvv (u2_ss _ _ _ _) (FM.rf.u (Or.inl ⟨rfl, by omega⟩))⟩)
        exfalso; rw [u2_ss] at c; simp (disch := omega) only [nlit, natrem, nIrm, nIam, nIam',  nI_add, pk_mul, nIsub, nIrem, nIdiv, nIand1, nIand3, nIand7, nIand31, nIshr, nIle, nIlt, nIeq, nIc, vpI, nIm1, m1nI, m1lt, nIlm, m1le, nIlem, nIneg, u2_ss, u2_nn, u2_kk, nIm1n, m1nIn, m1ltn, nIlmn, m1len, nIlemn] at c; omega
  · rw [if_neg e11] at hf
    have hvv := fK_f hT (i := i) (k := 1) (by decide) (by decide)
    refine RX12_readLaw_6 ⟨fun c => absurd rfl c, fun _ => wrongM_ok (k := 1) hT hM h8 h7 (by omega) (RX12_readLaw_14 (RX12_readLaw_33 ⟨fun c => ?_, fun _ => hf _ _ L rfl hvv (u2_ss _ _ _ _) (FM.rf.u (Or.inl ⟨rfl, by omega⟩))⟩))⟩
    exfalso; rw [u2_ss] at c; simp (disch := omega) only [nlit, natrem, nIrm, nIam, nIam',  nI_add, pk_mul, nIsub, nIrem, nIdiv, nIand1, nIand3, nIand7, nIand31, nIshr, nIle, nIlt, nIeq, nIc, vpI, nIm1, m1nI, m1lt, nIlm, m1le, nIlem, nIneg, u2_ss, u2_nn, u2_kk, nIm1n, m1nIn, m1ltn, nIlmn, m1len, nIlemn] at c; omega
/-- a name is told -/
theorem PsM.nm {ts : List Tk} {N i i' : Nat} {a : Ce} {nm nm' : Nm} {hc : Bool} {lc : Cd} {I J : Ints} {L K : Lngs} (h : PsM ts N i a nm hc lc I L) (hN : NmM nm' J K) (h7 : J 92 7 = nI i') (h8 : J 92 8 = nI 0) (hF : ∀ k x, k ≠ 102 → ¬ (k = 92 ∧ (x = 7 ∨ x = 16)) → J k x = I k x) (hK : Kp (fun k => k ≠ 101) L K) : PsM ts N i' a nm' hc lc J K ∧ FM I J L K := by
  obtain ⟨k1, k2, k3, k4, k5, k6, k7, k8, k9⟩ := h
  have hFM : FM I J L K := ⟨fun k x a _ _ e => hF k x e (fun hh => a ⟨hh.1, by omega⟩), hK⟩
  exact ⟨⟨k1.fm hFM, h7, h8, hN, by rw [hF 92 17 (by decide) (by decide)]; exact k5, k6.fr (fun x => hF 98 x (by decide) (by omega)), by rw [hF 98 210 (by decide) (by decide)]; exact k7, by rw [hF 92 13 (by decide) (by decide)]; exact k8, fun hl => (k9 hl).f (fun x => hF 99 x (by decide) (by omega)) (fun x => hF 100 x (by decide) (by omega))⟩, hFM⟩
theorem NmOk.t {a : Ce} {nm : Nm} {dn : List (List Nat)} (h : NmOk a nm dn) (h2 : (a 2).val ≤ 6) {w : List Nat} {t : Nat} (e : fnd nm w = some t) : t < 1000 := by
  rcases h.2.2.2.2 w t e with h1 | h1
  · omega
  · have := h.2.1; omega
theorem readGuest_ok {d : Nat} {sx : Sx} {I : Ints} {L : Lngs} {R : Rfs} {q : Q3} {ts : List Tk} {N i : Nat} {a : Ce} {nm : Nm} {dn : List (List Nat)} {hc : Bool} {lc : Cd} (hP : PsM ts N i a nm hc lc I L) (hW : WFc a) (hNo : NmOk a nm dn) (hi : i + 1 ≤ N) (hf : LnF ts N I L R q (lnGue ts i a nm dn hc lc)) (ht : LnT ts N I L R q (lnGue ts i a nm dn hc lc)) : E0 mX12_readGuest (d + 5) sx [.ref 92] I L R q := by
  obtain ⟨hT, hE, hM, hWd, hFc⟩ := id hP.1
  have hlen := hE.2.1
  have hN := hE.1
  have w2 := hW.2.2.1
  have w3 := hW.2.2.2.1
  have w4 := hW.2.2.2.2.1
  have e208 : I 98 208 = nI (a 4).val := hP.2.2.2.2.2.1.ix rfl (by decide) (by decide)
  by_cases h46 : (a 4).val = 6
  · refine EX12_readGuest ⟨fun c => ?_, fun _ => ?_⟩
    · exfalso; rw [e208, h46] at c; exact c rfl
    · refine wrongM_ok (k := 5) hT hM hP.2.2.1 hP.2.1 (by omega) (RX12_readGuest_20 ?_)
      exact hf _ _ L (if_pos h46) (fK_f hT (by decide) (by decide)) (u2_ss _ _ _ _) (FM.rf.u (Or.inl ⟨rfl, by omega⟩))
  have esp : lnGue ts i a nm dn hc lc = newN ts nm 100 (i + 1) (fun nm' => if isKd (sK ts (i + 2)) then wrd ts 8 (i + 3) (plc ts a (clP a) (i + 4) (fun c => wrd ts 9 (i + 6) (nmb ts 0 3 (i + 7) (fun wy => wrd ts 10 (i + 8) (nmb ts 0 99 (i + 9) (fun ag => wrd ts 59 (i + 10) (.inr (i + 11, setG a (a 4).val (sK ts (i + 2) - 17) c wy ag, nm', dn, hc, lc)))))))) else .inl (fK ts 1 (i + 2))) := if_neg h46
  rw [esp] at hf ht
  -- a fault goes through
  have f145 : ∀ v J K s2 s1, lnGue ts i a nm dn hc lc = .inl v → isF v → J 92 8 = nI v → FM I J L K → 204 ≤ s1 → s1 < 408 → Y mX12_readGuest (d + 5) sx 145 [(0, .ref 92)] [.int s2, .int (nI s1), .ref 98] J K R q := by
    intro v J K s2 s1 e hv j8 hF h1 h2
    refine RX12_readGuest_145 ⟨by simp (disch := omega) only [nlit, natrem, nIrm, nIam, nIam',  nI_add, pk_mul, nIsub, nIrem, nIdiv, nIand1, nIand3, nIand7, nIand31, nIshr, nIle, nIlt, nIeq, nIc, vpI, nIm1, m1nI, m1lt, nIlm, m1le, nIlem, nIneg, u2_ss, u2_nn, u2_kk, nIm1n, m1nIn, m1ltn, nIlmn, m1len, nIlemn]; omega, ?_⟩
    rw [nIc (by omega)]
    exact hf v _ K (by rw [← esp]; exact e) hv (by rw [u2_nn _ _ _ _ (by decide), u2_nn _ _ _ _ (by decide)]; exact j8) ((hF.u (Or.inr (Or.inl ⟨rfl, h1⟩))).u (Or.inr (Or.inl ⟨rfl, by decide⟩)))
  have ei : ∀ g k, (377 : Int32) + 4 * nI g = nI (377 + 4 * g) ∧ nI (377 + 4 * g) + nI k = nI (377 + 4 * g + k) := fun g k => ⟨by rw [show (4 : Int32) = nI 4 from rfl, pk_mul, show (377 : Int32) = nI 377 from rfl, nI_add], nI_add _ _⟩
  have f128 : ∀ v J K s2 g s1, lnGue ts i a nm dn hc lc = .inl v → isF v → J 92 8 = nI v → FM I J L K → g < 6 → 204 ≤ s1 → s1 < 408 → Y mX12_readGuest (d + 5) sx 128 [(0, .ref 92), (3, .int (nI (377 + 4 * g)))] [.int s2, .int (nI s1), .ref 98] J K R q := by
    intro v J K s2 g s1 e hv j8 hF hg h1 h2
    refine RX12_readGuest_128 ⟨by simp (disch := omega) only [nlit, natrem, nIrm, nIam, nIam',  nI_add, pk_mul, nIsub, nIrem, nIdiv, nIand1, nIand3, nIand7, nIand31, nIshr, nIle, nIlt, nIeq, nIc, vpI, nIm1, m1nI, m1lt, nIlm, m1le, nIlem, nIneg, u2_ss, u2_nn, u2_kk, nIm1n, m1nIn, m1ltn, nIlmn, m1len, nIlemn]; omega, ?_⟩
    rw [nIc (by omega)]
    have j8' : u2 J 98 s1 s2 92 8 = nI v := by rw [u2_nn _ _ _ _ (by decide)]; exact j8
    refine takeAfterM_f hv j8' ?_
    rw [show (3 : Int32) = nI 3 from rfl, (ei g 3).2]
    exact f145 v _ K _ _ e hv j8' (hF.u (Or.inr (Or.inl ⟨rfl, h1⟩))) (by omega) (by omega)
  have f112 : ∀ v J K s2 g s1, lnGue ts i a nm dn hc lc = .inl v → isF v → J 92 8 = nI v → FM I J L K → g < 6 → 204 ≤ s1 → s1 < 408 → Y mX12_readGuest (d + 5) sx 112 [(0, .ref 92), (3, .int (nI (377 + 4 * g)))] [.int s2, .int (nI s1), .ref 98] J K R q := by
    intro v J K s2 g s1 e hv j8 hF hg h1 h2
    refine RX12_readGuest_112 ⟨by simp (disch := omega) only [nlit, natrem, nIrm, nIam, nIam',  nI_add, pk_mul, nIsub, nIrem, nIdiv, nIand1, nIand3, nIand7, nIand31, nIshr, nIle, nIlt, nIeq, nIc, vpI, nIm1, m1nI, m1lt, nIlm, m1le, nIlem, nIneg, u2_ss, u2_nn, u2_kk, nIm1n, m1nIn, m1ltn, nIlmn, m1len, nIlemn]; omega, ?_⟩
    rw [nIc (by omega)]
    have j8' : u2 J 98 s1 s2 92 8 = nI v := by rw [u2_nn _ _ _ _ (by decide)]; exact j8
    refine takeAfterM_f hv j8' ?_
    rw [show (2 : Int32) = nI 2 from rfl, (ei g 2).2]
    exact f128 v _ K _ g _ e hv j8' (hF.u (Or.inr (Or.inl ⟨rfl, h1⟩))) hg (by omega) (by omega)
  have f93 : ∀ v J K v2 g, lnGue ts i a nm dn hc lc = .inl v → isF v → J 92 8 = nI v → FM I J L K → g < 6 → Y mX12_readGuest (d + 5) sx 93 [(0, .ref 92), (2, .int v2), (3, .int (nI (377 + 4 * g)))] [] J K R q := by
    intro v J K v2 g e hv j8 hF hg
    refine RX12_readGuest_93 ⟨by simp (disch := omega) only [nlit, natrem, nIrm, nIam, nIam',  nI_add, pk_mul, nIsub, nIrem, nIdiv, nIand1, nIand3, nIand7, nIand31, nIshr, nIle, nIlt, nIeq, nIc, vpI, nIm1, m1nI, m1lt, nIlm, m1le, nIlem, nIneg, u2_ss, u2_nn, u2_kk, nIm1n, m1nIn, m1ltn, nIlmn, m1len, nIlemn]; omega, ?_⟩
    rw [nIc (by omega)]
    have j8' : u2 J 98 (377 + 4 * g) v2 92 8 = nI v := by rw [u2_nn _ _ _ _ (by decide)]; exact j8
    refine takeCellM_f hv j8' (fun cl => ?_)
    rw [show (1 : Int32) = nI 1 from rfl, (ei g 1).2]
    exact f112 v _ K _ g _ e hv j8' (hF.u (Or.inr (Or.inl ⟨rfl, by omega⟩))) hg (by omega) (by omega)
  have f31 : ∀ n k v J K g, n = 5 - k → k ≤ 5 → lnGue ts i a nm dn hc lc = .inl v → isF v → J 92 8 = nI v → FM I J L K → Y mX12_readGuest (d + 5) sx 31 [(0, .ref 92), (1, .int g), (2, .int (-1)), (3, .int (nI k))] [] J K R q := by
    intro n
    induction n with
    | zero =>
      intro k v J K g hn hk e hv j8 hF
      refine RX12_readGuest_31 ⟨fun _ => ⟨fun c => absurd c (by decide), fun _ => wrongM_f hv j8 (RX12_readGuest_68 (hf v J K (by rw [← esp]; exact e) hv j8 hF))⟩, fun c => ?_⟩
      exfalso; simp (disch := omega) only [nlit, natrem, nIrm, nIam, nIam',  nI_add, pk_mul, nIsub, nIrem, nIdiv, nIand1, nIand3, nIand7, nIand31, nIshr, nIle, nIlt, nIeq, nIc, vpI, nIm1, m1nI, m1lt, nIlm, m1le, nIlem, nIneg, u2_ss, u2_nn, u2_kk, nIm1n, m1nIn, m1ltn, nIlmn, m1len, nIlemn] at c; omega
    | succ n ih =>
      intro k v J K g hn hk e hv j8 hF
      refine RX12_readGuest_31 ⟨fun c => ?_, fun _ => isWordM_f hv j8 (RX12_readGuest_44 ⟨fun _ => ?_, fun c => absurd rfl c⟩)⟩
      · exfalso; simp (disch := omega) only [nlit, natrem, nIrm, nIam, nIam',  nI_add, pk_mul, nIsub, nIrem, nIdiv, nIand1, nIand3, nIand7, nIand31, nIshr, nIle, nIlt, nIeq, nIc, vpI, nIm1, m1nI, m1lt, nIlm, m1le, nIlem, nIneg, u2_ss, u2_nn, u2_kk, nIm1n, m1nIn, m1ltn, nIlmn, m1len, nIlemn] at c; omega
      · rw [show nI k + 1 = nI (k + 1) from nI_add k 1]
        exact ih (k + 1) v J K g (by omega) (by omega) e hv j8 hF
  refine EX12_readGuest ⟨fun _ => ?_, fun c => ?_⟩
  rotate_left
  · exfalso; rw [e208] at c; simp (disch := omega) only [nlit, natrem, nIrm, nIam, nIam',  nI_add, pk_mul, nIsub, nIrem, nIdiv, nIand1, nIand3, nIand7, nIand31, nIshr, nIle, nIlt, nIeq, nIc, vpI, nIm1, m1nI, m1lt, nIlm, m1le, nIlem, nIneg, u2_ss, u2_nn, u2_kk, nIm1n, m1nIn, m1ltn, nIlmn, m1len, nIlemn] at c; omega
  rw [e208]
  refine readName_ok (tag := 100) hP.1 hP.2.2.2.1 hNo.2.2.1 (by have := hNo.1; omega) (fun t e => hNo.t w2 e) hP.2.2.1 hP.2.1 hi (fun hn ef hi2 J1 K1 hNm1 p7 p8 hF1 hK1 => RX12_readGuest_27 ?_) (fun v J1 ef hv j8 f8 => RX12_readGuest_27 (f31 5 0 v J1 L _ rfl (by decide) (by rw [esp]; exact ef _) hv j8 f8.fm))
  obtain ⟨hP1, hFM1⟩ := hP.nm hNm1 p7 p8 hF1 hK1
  rw [ef] at hf ht
  have esp1 := esp
  rw [ef] at esp1
  have hlt := hT.lt (i + 2)
  obtain ⟨-, -, hM1, hWd1, -⟩ := id hP1.1
  have hlp : ∀ n k v2, n = 5 - k → k ≤ 5 → ((∃ j, j < k ∧ sK ts (i + 2) = 17 + j ∧ v2 = nI j) ∨ ((∀ j, j < k → sK ts (i + 2) ≠ 17 + j) ∧ v2 = -1)) → Y mX12_readGuest (d + 5) sx 31 [(0, .ref 92), (1, .int (nI (a 4).val)), (2, .int v2), (3, .int (nI k))] [] J1 K1 R q := by
    intro n
    induction n with
    | succ n ih =>
      intro k v2 hn' hk hv2
      have hn1 : n = 5 - (k + 1) ∧ k + 1 ≤ 5 ∧ k < 5 := by clear hv2; omega
      refine RX12_readGuest_31 ⟨fun c => ?_, fun _ => ?_⟩
      · exfalso; clear hv2; simp (disch := omega) only [nlit, natrem, nIrm, nIam, nIam',  nI_add, pk_mul, nIsub, nIrem, nIdiv, nIand1, nIand3, nIand7, nIand31, nIshr, nIle, nIlt, nIeq, nIc, vpI, nIm1, m1nI, m1lt, nIlm, m1le, nIlem, nIneg, u2_ss, u2_nn, u2_kk, nIm1n, m1nIn, m1ltn, nIlmn, m1len, nIlemn] at c; omega
      · rw [show (17 : Int32) + nI k = nI (17 + k) by rw [show (17 : Int32) = nI 17 from rfl, nI_add]]
        refine isWordM_ok hT hM1 hWd1 p8 p7 (by clear hv2; omega) (by clear hv2; omega) (fun es => RX12_readGuest_44 ⟨fun c => absurd c (by decide), fun _ => ?_⟩) (fun es => RX12_readGuest_44 ⟨fun _ => ?_, fun c => absurd rfl c⟩)
        · rw [show nI k + 1 = nI (k + 1) from nI_add k 1]
          exact ih (k + 1) _ hn1.1 hn1.2.1 (Or.inl ⟨k, Nat.lt_succ_self k, es, rfl⟩)
        · rw [show nI k + 1 = nI (k + 1) from nI_add k 1]
          refine ih (k + 1) v2 hn1.1 hn1.2.1 ?_
          rcases hv2 with ⟨j, hj, ej⟩ | ⟨hj, ej⟩
          · exact Or.inl ⟨j, by omega, ej⟩
          · refine Or.inr ⟨fun j hj2 => ?_, ej⟩
            by_cases e : j = k
            · rw [e]; exact es
            · exact hj j (by omega)
    | zero =>
      intro k v2 hn' hk hv2
      rcases hv2 with ⟨kd, hkd, es, ev⟩ | ⟨hno, ev⟩
      · subst ev
        have hkd5 : kd < 5 := by omega
        have hisK : isKd (sK ts (i + 2)) := by unfold isKd; omega
        have ekd : sK ts (i + 2) - 17 = kd := by omega
        rw [if_pos hisK, ekd] at hf ht
        rw [if_pos hisK, ekd] at esp1
        have hi3 := lt_N hE hi2 (by omega)
        refine RX12_readGuest_31 ⟨fun _ => ⟨fun _ => ?_, fun c => ?_⟩, fun c => ?_⟩
        · rw [p7, show nI (i + 2) + 1 = nI (i + 3) from nI_add _ 1, (ei (a 4).val 0).1]
          have hP2 := hP1.f7 (F7.rf.u (v := nI (i + 3))) (u2_ss _ _ _ _)
          have hFM2 : FM I (u2 J1 92 7 (nI (i + 3))) L K1 := hFM1.u (Or.inl ⟨rfl, by omega⟩)
          refine takeWordM_o (w := 8) hP2.1 hP2.2.2.1 hP2.2.1 (by omega) (by decide) (fun J3 s3 ew3 hi4 j7 f7 => ?_) (fun v J3 ew3 hv j8 f8 => f93 v J3 K1 _ _ (by rw [esp1]; exact ew3 _) hv j8 (hFM2.tr f8.fm) (by omega))
          rw [ew3] at hf ht esp1
          have hP3 := hP2.f7 f7 j7
          have hFM3 := hFM2.tr (FM.rf.tr f7.f.fm)
          refine RX12_readGuest_93 ⟨by simp (disch := omega) only [nlit, natrem, nIrm, nIam, nIam',  nI_add, pk_mul, nIsub, nIrem, nIdiv, nIand1, nIand3, nIand7, nIand31, nIshr, nIle, nIlt, nIeq, nIc, vpI, nIm1, m1nI, m1lt, nIlm, m1le, nIlem, nIneg, u2_ss, u2_nn, u2_kk, nIm1n, m1nIn, m1ltn, nIlmn, m1len, nIlemn]; omega, ?_⟩
          rw [nIc (by omega)]
          have hP4 := hP3.sp (v := kd) (k := 173 + 4 * (a 4).val) (o := 377 + 4 * (a 4).val) (by omega) (by omega) (by omega)
          have hFM4 := hFM3.u (v := nI kd) (Or.inr (Or.inl ⟨rfl, show 204 ≤ 377 + 4 * (a 4).val by omega⟩))
          -- the cell is asked of the cellar as it was
          have hS4 : SpM (up1 a (173 + 4 * (a 4).val) (fi kd)) (u2 J3 98 (377 + 4 * (a 4).val) (nI kd)) := hP4.2.2.2.2.2.1
          have hSa : ∀ k, k < 204 → k ≠ 6 → k ≠ 173 + 4 * (a 4).val → u2 J3 98 (377 + 4 * (a 4).val) (nI kd) 98 (204 + k) = nI (a k).val := fun k hk h6 hg => by
            have := hS4 k hk h6
            rw [up1_n _ _ hg] at this
            exact this
          have hplc : ∀ f, plc ts (up1 a (173 + 4 * (a 4).val) (fi kd)) (clP (up1 a (173 + 4 * (a 4).val) (fi kd))) (i + 4) f = plc ts a (clP a) (i + 4) f := fun f => by
            have h0 : up1 a (173 + 4 * (a 4).val) (fi kd) 0 = a 0 := ua_n (by omega)
            have h1 : up1 a (173 + 4 * (a 4).val) (fi kd) 1 = a 1 := ua_n (by omega)
            unfold plc
            rw [h0, h1]
            by_cases s4 : sK ts (i + 4) = 31
            · by_cases v4 : vK ts (i + 4) < 0 ∨ (a 0).val - 1 < vK ts (i + 4)
              · unfold nmb; rw [if_pos s4, if_pos v4, if_pos s4, if_pos v4]
              · by_cases s5 : sK ts (i + 4 + 1) = 31
                · by_cases v5 : vK ts (i + 4 + 1) < 0 ∨ (a 1).val - 1 < vK ts (i + 4 + 1)
                  · unfold nmb; rw [if_pos s4, if_neg v4, if_pos s4, if_neg v4]; dsimp only; rw [if_pos s5, if_pos v5, if_pos s5, if_pos v5]
                  · unfold nmb
                    rw [if_pos s4, if_neg v4, if_pos s4, if_neg v4]
                    dsimp only
                    rw [if_pos s5, if_neg v5, if_pos s5, if_neg v5]
                    have hx64 : 8 * vK ts (i + 4 + 1) + vK ts (i + 4) < 64 := by have := hW.1; have := hW.2.1; omega
                    have ec : clP (up1 a (173 + 4 * (a 4).val) (fi kd)) (8 * vK ts (i + 4 + 1) + vK ts (i + 4)) = clP a (8 * vK ts (i + 4 + 1) + vK ts (i + 4)) := by unfold clP; rw [ua_n (by omega)]
                    rw [ec]
                · unfold nmb; rw [if_pos s4, if_neg v4, if_pos s4, if_neg v4]; dsimp only; rw [if_neg s5, if_neg s5]
            · unfold nmb; rw [if_neg s4, if_neg s4]
          have hW4 : WFc (up1 a (173 + 4 * (a 4).val) (fi kd)) := by
            have x2 : up1 a (173 + 4 * (a 4).val) (fi kd) 2 = a 2 := ua_n (by omega)
            have x3 : up1 a (173 + 4 * (a 4).val) (fi kd) 3 = a 3 := ua_n (by omega)
            have x4 : up1 a (173 + 4 * (a 4).val) (fi kd) 4 = a 4 := ua_n (by omega)
            refine hW.grow (ua_n (by omega)) (ua_n (by omega)) (by rw [ua_n (by omega)]; exact hW.2.2.2.2.2.1) (fun c' hc' => by rw [ua_n (by omega)]; exact hW.2.2.2.2.2.2.1 c' hc') (by rw [x2]; omega) (by rw [x3]; omega) (by rw [x4]; omega) (fun d hd => ⟨u_dL (by omega), fun s hs => u_dS (by omega)⟩) (fun d h1 h2 => by rw [x2] at h2; omega) (fun w hw => ⟨u_wG (by omega), u_wM (by omega), fun k hk => ⟨u_wD (by omega), u_wT (by omega)⟩⟩) (fun w h1 h2 => by rw [x3] at h2; omega) (fun g hg => ⟨u_gK (by omega), u_gC (by omega), u_gW (by omega), u_gA (by omega)⟩) (fun g h1 h2 => by rw [x4] at h2; omega) (fun w hw h3 => by rw [x3] at h3; rw [u_wG (by omega)]; exact hW.2.2.2.2.2.2.2.2.2.2 w hw h3)
          refine takeCellM_ok (wo := 1) hP4.1 hS4 hW4 hP4.2.2.2.2.1 (Or.inr ⟨rfl, rfl⟩) hP4.2.2.1 hP4.2.1 hi4 (fun x J5 hx ef5 hi6 j7' f7' => ?_) (fun v cl J5 ef5 hv j8 f8 => by rw [show (1 : Int32) = nI 1 from rfl, (ei (a 4).val 1).2]; exact f112 v J5 K1 _ _ _ (by rw [esp1, ← hplc]; exact ef5 _) hv j8 (hFM4.tr f8.fm) (by omega) (by omega) (by omega))
          have ef5 : ∀ f, plc ts a (clP a) (i + 4) f = f x := fun f => by rw [← hplc]; exact ef5 f
          rw [ef5] at hf ht esp1
          have hP5 := hP4.f7 f7' j7'
          have hFM5 := hFM4.tr f7'.f.fm
          rw [show (1 : Int32) = nI 1 from rfl, (ei (a 4).val 1).2]
          refine RX12_readGuest_112 ⟨by simp (disch := omega) only [nlit, natrem, nIrm, nIam, nIam',  nI_add, pk_mul, nIsub, nIrem, nIdiv, nIand1, nIand3, nIand7, nIand31, nIshr, nIle, nIlt, nIeq, nIc, vpI, nIm1, m1nI, m1lt, nIlm, m1le, nIlem, nIneg, u2_ss, u2_nn, u2_kk, nIm1n, m1nIn, m1ltn, nIlmn, m1len, nIlemn]; omega, ?_⟩
          rw [nIc (by omega)]
          have hP6 := hP5.sp (v := x) (k := 174 + 4 * (a 4).val) (o := 377 + 4 * (a 4).val + 1) (by omega) (by omega) (by omega)
          have hFM6 := hFM5.u (v := nI x) (Or.inr (Or.inl ⟨rfl, show 204 ≤ 377 + 4 * (a 4).val + 1 by omega⟩))
          refine takeAfterM_o (w := 9) (lo := 0) (hi := 3) hP6.1 hP6.2.2.1 hP6.2.1 hi6 (by decide) (by decide) (by decide) (fun J7 v7 ew7 hi8 j7a f7a => ?_) (fun v J7 ew7 hv j8 f8 => by rw [show (2 : Int32) = nI 2 from rfl, (ei (a 4).val 2).2]; exact f128 v J7 K1 _ _ _ (by rw [esp1]; exact ew7 _) hv j8 (hFM6.tr f8.fm) (by omega) (by omega) (by omega))
          have ew7 : ∀ f, wrd ts 9 (i + 6) (nmb ts 0 3 (i + 7) f) = f (vK ts (i + 7)) := ew7
          rw [ew7] at hf ht esp1
          have v7 : vK ts (i + 7) ≤ 3 := v7.2
          have hP7 := hP6.f7 f7a j7a
          have hFM7 := hFM6.tr f7a.f.fm
          rw [show (2 : Int32) = nI 2 from rfl, (ei (a 4).val 2).2]
          refine RX12_readGuest_128 ⟨by simp (disch := omega) only [nlit, natrem, nIrm, nIam, nIam',  nI_add, pk_mul, nIsub, nIrem, nIdiv, nIand1, nIand3, nIand7, nIand31, nIshr, nIle, nIlt, nIeq, nIc, vpI, nIm1, m1nI, m1lt, nIlm, m1le, nIlem, nIneg, u2_ss, u2_nn, u2_kk, nIm1n, m1nIn, m1ltn, nIlmn, m1len, nIlemn]; omega, ?_⟩
          rw [nIc (by omega)]
          have hP8 := hP7.sp (v := vK ts (i + 7)) (k := 175 + 4 * (a 4).val) (o := 377 + 4 * (a 4).val + 2) (by omega) (by omega) (by omega)
          have hFM8 := hFM7.u (v := nI (vK ts (i + 7))) (Or.inr (Or.inl ⟨rfl, show 204 ≤ 377 + 4 * (a 4).val + 2 by omega⟩))
          refine takeAfterM_o (w := 10) (lo := 0) (hi := 99) hP8.1 hP8.2.2.1 hP8.2.1 hi8 (by decide) (by decide) (by decide) (fun J9 v9 ew9 hi10 j7b f7b => ?_) (fun v J9 ew9 hv j8 f8 => by rw [show (3 : Int32) = nI 3 from rfl, (ei (a 4).val 3).2]; exact f145 v J9 K1 _ _ (by rw [esp1]; exact ew9 _) hv j8 (hFM8.tr f8.fm) (by omega) (by omega))
          have ew9 : ∀ f, wrd ts 10 (i + 8) (nmb ts 0 99 (i + 9) f) = f (vK ts (i + 9)) := ew9
          rw [ew9] at hf ht esp1
          have v9 : vK ts (i + 9) ≤ 99 := v9.2
          have hP9 := hP8.f7 f7b j7b
          have hFM9 := hFM8.tr f7b.f.fm
          rw [show (3 : Int32) = nI 3 from rfl, (ei (a 4).val 3).2]
          refine RX12_readGuest_145 ⟨by simp (disch := omega) only [nlit, natrem, nIrm, nIam, nIam',  nI_add, pk_mul, nIsub, nIrem, nIdiv, nIand1, nIand3, nIand7, nIand31, nIshr, nIle, nIlt, nIeq, nIc, vpI, nIm1, m1nI, m1lt, nIlm, m1le, nIlem, nIneg, u2_ss, u2_nn, u2_kk, nIm1n, m1nIn, m1ltn, nIlmn, m1len, nIlemn]; omega, ?_⟩
          rw [nIc (by omega)]
          have hP10 := hP9.sp (v := vK ts (i + 9)) (k := 176 + 4 * (a 4).val) (o := 377 + 4 * (a 4).val + 3) (by omega) (by omega) (by omega)
          have hFM10 := hFM9.u (v := nI (vK ts (i + 9))) (Or.inr (Or.inl ⟨rfl, show 204 ≤ 377 + 4 * (a 4).val + 3 by omega⟩))
          have e4 : u2 J9 98 (377 + 4 * (a 4).val + 3) (nI (vK ts (i + 9))) 98 208 = nI (a 4).val := by
            have := hP10.2.2.2.2.2.1.ix (k := 208) (j := 4) rfl (by decide) (by decide)
            rw [ua_n (by omega), ua_n (by omega), ua_n (by omega), ua_n (by omega)] at this
            exact this
          rw [e4, show nI (a 4).val + 1 = nI ((a 4).val + 1) from nI_add _ 1]
          have hP11 := hP10.sp (v := (a 4).val + 1) (k := 4) (o := 208) (by omega) (by omega) (by omega)
          have hFM11 := hFM10.u (v := nI ((a 4).val + 1)) (Or.inr (Or.inl ⟨rfl, show 204 ≤ 208 by decide⟩))
          exact ht (i + 10) (setG a (a 4).val kd x (vK ts (i + 7)) (vK ts (i + 9))) _ dn hc lc _ K1 rfl hi10 hP11 hFM11
        · exfalso; exact c (by rw [show (0 : Int32) = nI 0 from rfl, nIle (by decide) (by omega)]; omega)
        · exfalso
          have ek : k = 5 := by omega
          rw [ek] at c
          exact c (by decide)
      · subst ev
        have ek : k = 5 := by omega
        subst ek
        have hnk : ¬ isKd (sK ts (i + 2)) := fun hh => by
          unfold isKd at hh
          exact hno (sK ts (i + 2) - 17) (by omega) (by omega)
        rw [if_neg hnk] at hf
        refine RX12_readGuest_31 ⟨fun _ => ⟨fun c => absurd c (by decide), fun _ => ?_⟩, fun c => absurd (by decide) c⟩
        refine wrongM_ok (k := 1) hT hM1 p8 p7 (by omega) (RX12_readGuest_68 ?_)
        exact hf _ _ K1 rfl (fK_f hT (by decide) (by decide)) (u2_ss _ _ _ _) (hFM1.u (Or.inl ⟨rfl, by omega⟩))
  exact hlp 5 0 (-1) rfl (by decide) (Or.inr ⟨fun j hj => absurd hj (Nat.not_lt_zero _), rfl⟩)
