/-! the class reads guests and dances -/
def LnI (P : Nat → Prop) (I J : Ints) (nl : Nat) : Prop := Kp (fun k => k ≠ 26 ∧ ¬ P k) I J ∧ (∀ k, k ≠ 2 → k ≠ 5 → k ≠ 10 → k ≠ 11 → J 26 k = I 26 k) ∧ J 26 5 = nI nl
theorem LnI.r26 {P : Nat → Prop} {I J J' : Ints} {nl : Nat} (h : LnI P I J nl) (h2 : R26 J J') : LnI P I J' nl := ⟨h.1.tr (h2.1.mn (fun _ hk => hk.1)), fun k a b c e => (h2.2 k a c e).trans (h.2.1 k a b c e), (h2.2 5 (by decide) (by decide) (by decide)).trans h.2.2⟩
theorem LnI.u {P : Nat → Prop} {I J : Ints} {nl : Nat} (h : LnI P I J nl) {o k : Nat} {v : Int32} (ho : P o) (h26 : 26 ≠ o) : LnI P I (u2 J o k v) nl := ⟨h.1.up (fun hh => hh.2 ho), fun j a b c e => by rw [u2_nn _ _ _ _ h26]; exact h.2.1 j a b c e, by rw [u2_nn _ _ _ _ h26]; exact h.2.2⟩
theorem LnI.at {P : Nat → Prop} {I J : Ints} {nl i : Nat} (h : LnI P I J nl) : LnI P I (u2 J 26 2 (nI i)) nl := h.r26 (R26.rf.u (by omega))
theorem LnI.rb {P : Nat → Prop} {ts : List Tk} {N : Nat} {I J : Ints} {L K : Lngs} {nl : Nat} (hB : RB ts N I L) (h : LnI P I J nl) (h1 : ¬ P 27 ∧ ¬ P 28 ∧ ¬ P 29) (hK : K 30 = L 30) : RB ts N J K := hB.fr (h.1 27 ⟨by decide, h1.1⟩) (h.1 28 ⟨by decide, h1.2.1⟩) (h.1 29 ⟨by decide, h1.2.2⟩) hK
theorem isKindC_ok {d : Nat} {sx : Sx} {I : Ints} {L : Lngs} {R : Rfs} {q : Q3} {s : Nat} (hs : s < 100) (ht : isKd s → q (some (.int 1)) I L R) (hf : ¬ isKd s → q (some (.int 0)) I L R) : E0 mX10_isKind (d + 1) sx [.int (nI s)] I L R q := by
  refine EX10_isKind  ⟨fun c1 => ?_, fun c1 => ⟨fun c2 => ?_, fun c2 => ?_⟩⟩
  · (try simp (disch := omega) only [nlit, natrem, nIrm, nIam, nIam',  nI_add, pk_mul, nIsub, nIrem, nIdiv, nIand1, nIand3, nIand7, nIand31, nIshr, nIle, nIlt, nIeq, nIc, vpI, nIm1, m1nI, m1lt, nIlm, m1le, nIlem, nIneg, u2_ss, u2_nn, u2_kk, nIm1n, m1nIn, m1ltn, nIlmn, m1len, nIlemn] at c1); (try simp (disch := omega) only [nlit, natrem, nIrm, nIam, nIam',  nI_add, pk_mul, nIsub, nIrem, nIdiv, nIand1, nIand3, nIand7, nIand31, nIshr, nIle, nIlt, nIeq, nIc, vpI, nIm1, m1nI, m1lt, nIlm, m1le, nIlem, nIneg, u2_ss, u2_nn, u2_kk, nIm1n, m1nIn, m1ltn, nIlmn, m1len, nIlemn])
    exact hf (by unfold isKd; omega)
  · (try simp (disch := omega) only [nlit, natrem, nIrm, nIam, nIam',  nI_add, pk_mul, nIsub, nIrem, nIdiv, nIand1, nIand3, nIand7, nIand31, nIshr, nIle, nIlt, nIeq, nIc, vpI, nIm1, m1nI, m1lt, nIlm, m1le, nIlem, nIneg, u2_ss, u2_nn, u2_kk, nIm1n, m1nIn, m1ltn, nIlmn, m1len, nIlemn] at c1 c2); (try simp (disch := omega) only [nlit, natrem, nIrm, nIam, nIam',  nI_add, pk_mul, nIsub, nIrem, nIdiv, nIand1, nIand3, nIand7, nIand31, nIshr, nIle, nIlt, nIeq, nIc, vpI, nIm1, m1nI, m1lt, nIlm, m1le, nIlem, nIneg, u2_ss, u2_nn, u2_kk, nIm1n, m1nIn, m1ltn, nIlmn, m1len, nIlemn])
    exact hf (by unfold isKd; omega)
  · (try simp (disch := omega) only [nlit, natrem, nIrm, nIam, nIam',  nI_add, pk_mul, nIsub, nIrem, nIdiv, nIand1, nIand3, nIand7, nIand31, nIshr, nIle, nIlt, nIeq, nIc, vpI, nIm1, m1nI, m1lt, nIlm, m1le, nIlem, nIneg, u2_ss, u2_nn, u2_kk, nIm1n, m1nIn, m1ltn, nIlmn, m1len, nIlemn] at c1 c2); (try simp (disch := omega) only [nlit, natrem, nIrm, nIam, nIam',  nI_add, pk_mul, nIsub, nIrem, nIdiv, nIand1, nIand3, nIand7, nIand31, nIshr, nIle, nIlt, nIeq, nIc, vpI, nIm1, m1nI, m1lt, nIlm, m1le, nIlem, nIneg, u2_ss, u2_nn, u2_kk, nIm1n, m1nIn, m1ltn, nIlmn, m1len, nIlemn])
    exact ht (by unfold isKd; omega)
theorem isStepC_ok {d : Nat} {sx : Sx} {I : Ints} {L : Lngs} {R : Rfs} {q : Q3} {s : Nat} (hs : s < 100) (ht : isSt s → q (some (.int 1)) I L R) (hf : ¬ isSt s → q (some (.int 0)) I L R) : E0 mX10_isStep (d + 1) sx [.int (nI s)] I L R q := by
  refine EX10_isStep  ⟨fun c1 => ?_, fun c1 => ⟨fun c2 => ?_, fun c2 => ?_⟩⟩
  · (try simp (disch := omega) only [nlit, natrem, nIrm, nIam, nIam',  nI_add, pk_mul, nIsub, nIrem, nIdiv, nIand1, nIand3, nIand7, nIand31, nIshr, nIle, nIlt, nIeq, nIc, vpI, nIm1, m1nI, m1lt, nIlm, m1le, nIlem, nIneg, u2_ss, u2_nn, u2_kk, nIm1n, m1nIn, m1ltn, nIlmn, m1len, nIlemn] at c1); (try simp (disch := omega) only [nlit, natrem, nIrm, nIam, nIam',  nI_add, pk_mul, nIsub, nIrem, nIdiv, nIand1, nIand3, nIand7, nIand31, nIshr, nIle, nIlt, nIeq, nIc, vpI, nIm1, m1nI, m1lt, nIlm, m1le, nIlem, nIneg, u2_ss, u2_nn, u2_kk, nIm1n, m1nIn, m1ltn, nIlmn, m1len, nIlemn])
    exact hf (by unfold isSt; omega)
  · (try simp (disch := omega) only [nlit, natrem, nIrm, nIam, nIam',  nI_add, pk_mul, nIsub, nIrem, nIdiv, nIand1, nIand3, nIand7, nIand31, nIshr, nIle, nIlt, nIeq, nIc, vpI, nIm1, m1nI, m1lt, nIlm, m1le, nIlem, nIneg, u2_ss, u2_nn, u2_kk, nIm1n, m1nIn, m1ltn, nIlmn, m1len, nIlemn] at c1 c2); (try simp (disch := omega) only [nlit, natrem, nIrm, nIam, nIam',  nI_add, pk_mul, nIsub, nIrem, nIdiv, nIand1, nIand3, nIand7, nIand31, nIshr, nIle, nIlt, nIeq, nIc, vpI, nIm1, m1nI, m1lt, nIlm, m1le, nIlem, nIneg, u2_ss, u2_nn, u2_kk, nIm1n, m1nIn, m1ltn, nIlmn, m1len, nIlemn])
    exact hf (by unfold isSt; omega)
  · (try simp (disch := omega) only [nlit, natrem, nIrm, nIam, nIam',  nI_add, pk_mul, nIsub, nIrem, nIdiv, nIand1, nIand3, nIand7, nIand31, nIshr, nIle, nIlt, nIeq, nIc, vpI, nIm1, m1nI, m1lt, nIlm, m1le, nIlem, nIneg, u2_ss, u2_nn, u2_kk, nIm1n, m1nIn, m1ltn, nIlmn, m1len, nIlemn] at c1 c2); (try simp (disch := omega) only [nlit, natrem, nIrm, nIam, nIam',  nI_add, pk_mul, nIsub, nIrem, nIdiv, nIand1, nIand3, nIand7, nIand31, nIshr, nIle, nIlt, nIeq, nIc, vpI, nIm1, m1nI, m1lt, nIlm, m1le, nIlem, nIneg, u2_ss, u2_nn, u2_kk, nIm1n, m1nIn, m1ltn, nIlmn, m1len, nIlemn])
    exact ht (by unfold isSt; omega)
theorem guestLine_ok {d : Nat} {sx : Sx} {I : Ints} {L : Lngs} {R : Rfs} {q : Q3} {ts : List Tk} {N c i : Nat} {a : Ce} {nm : Nm} {dn : List (List Nat)} {hc : Bool} {lc : Cd} (hP : PsC ts N c i a nm dn hc lc I L R) (hW : WFc a) (hNo : NmOk a nm dn) (hi : i + 1 ≤ N) (h46 : (a 4).val < 6)
    (hf : ∀ v J K, lnGue ts i a nm dn hc lc = .inl v → J 26 3 = nI v → RdF c I J L K → q (some (.int 0)) J K R)
    (ht : ∀ i' a' nm' dn' hc' lc' J K, lnGue ts i a nm dn hc lc = .inr (i', a', nm', dn', hc', lc') → PsC ts N c i' a' nm' dn' hc' lc' J K R → RdF c I J L K → q (some (.int 1)) J K R) : E0 mX5_guestLine (d + 5) sx [.ref 26] I L R q := by
  obtain ⟨hB, ⟨hcl, hR⟩, h2, h3, hNm, hDn, h8, h9, hGc, hC⟩ := hP
  have hc' : c = 2 ∨ c = 14 := hcl
  have hN := hB.2.1.1
  have w2 := hW.2.2.1
  have w3 := hW.2.2.2.1
  have hK1 : Kp (fun k => k ≠ 26) I (u2 I 26 2 (nI (i + 1))) := Kp.rf.up (by simp)
  have e1 : ∀ k, nI k + 1 = nI (k + 1) := fun k => nI_add k 1
  have esp : lnGue ts i a nm dn hc lc = newN ts nm 100 (i + 1) (fun nm' => if isKd (sK ts (i + 2)) then wrd ts 8 (i + 3) (plc ts a (clP a) (i + 4) (fun c => wrd ts 9 (i + 6) (nmb ts 0 3 (i + 7) (fun wy => wrd ts 10 (i + 8) (nmb ts 0 99 (i + 9) (fun ag => wrd ts 59 (i + 10) (.inr (i + 11, setG a (a 4).val (sK ts (i + 2) - 17) c wy ag, nm', dn, hc, lc)))))))) else .inl (fK ts 1 (i + 2))) := if_neg (by omega)
  rw [esp] at hf ht
  refine EX5_guestLine hcl hR ?_
  rw [h2, e1, u2_nn _ _ _ _ (show c ≠ 26 by omega), hC.1.2.2.2.2.2]
  refine newName_ok (tag := 100) (i := i + 1) (nm := nm) (hB.k hK1) ⟨by rw [u2_kk _ _ _ _ (by decide)]; exact hNm.1, hNm.2⟩ hNo.2.2.1 (by have := hNo.1; omega) (u2_ss _ _ _ _) hi (fun n1 hi2 ef J K hNm' hK31 eJ hLK => ?_) (fun v J ef hJ => ?_)
  rotate_left
  · exact RX5_guestLine_22 ⟨fun c => absurd rfl c, fun _ => hf v J L (ef _) hJ.1 (RdF.k (hK1.tr hJ.2))⟩
  rw [ef] at hf ht
  let P : Nat → Prop := fun k => k = c + 6 ∨ k = c + 7 ∨ k = c + 8 ∨ k = c
  have hP26 : ¬ P 27 ∧ ¬ P 28 ∧ ¬ P 29 := ⟨by show ¬ (_ ∨ _); omega, by show ¬ (_ ∨ _); omega, by show ¬ (_ ∨ _); omega⟩
  have hI1 : LnI P I J (nm.length + 1) := by
    rw [eJ]
    refine ⟨((hK1.up (by simp)).up (by simp)).mn (fun _ hk => hk.1), fun k k2 k5 _ _ => by rw [u2_kk _ _ _ _ k2, u2_kk _ _ _ _ k5, u2_kk _ _ _ _ k2], by rw [u2_kk _ _ _ _ (by decide), u2_ss]⟩
  have j2 : J 26 2 = nI (i + 2) := by rw [eJ, u2_ss]
  have hK30 : K 30 = L 30 := hLK 30 (by decide)
  have hRd : ∀ J', LnI P I J' (nm.length + 1) → RdF c I J' L K := fun J' h => ⟨h.1.mn (fun k hk => ⟨hk.1, fun hp => hk.2 (by show c ≤ k ∧ k ≤ c + 11; rcases hp with e | e | e | e <;> omega)⟩), hLK.mn (fun k hk => hk.2.1)⟩
  have hBB : ∀ J', LnI P I J' (nm.length + 1) → RB ts N J' K := fun J' h => h.rb hB hP26 hK30
  have hlt := hB.1.lt (i + 2)
  refine RX5_guestLine_22 ⟨fun _ => ?_, fun c => absurd c (by decide)⟩
  refine sortR_ok (hBB J hI1) j2 (by omega) (RX5_guestLine_31 (isKindC_ok (by omega) (fun hkd => ?_) (fun hkd => ?_)))
  rotate_left
  · refine RX5_guestLine_34 hcl hR ⟨fun c => absurd rfl c, fun _ => ?_⟩
    refine wrongR_ok (k := 1) (hBB J hI1) j2 (by omega) (RX5_guestLine_42 ⟨Or.inl rfl, hf _ _ K (if_neg hkd) (u2_ss _ _ _ _) ?_⟩)
    exact ⟨(hRd J hI1).1.up (by simp), (hRd J hI1).2⟩
  rw [if_pos hkd] at hf ht
  have i2N := lt_N hB.2.1 (show i + 2 ≤ N by omega) (by unfold isKd at hkd; omega)
  refine RX5_guestLine_34 hcl hR ⟨fun _ => ?_, fun c => absurd c (by decide)⟩
  refine sortR_ok (hBB J hI1) j2 (by omega) ?_
  refine RX5_guestLine_55 hcl ⟨by simp (disch := omega) only [nlit, natrem, nIrm, nIam, nIam',  nI_add, pk_mul, nIsub, nIrem, nIdiv, nIand1, nIand3, nIand7, nIand31, nIshr, nIle, nIlt, nIeq, nIc, vpI, nIm1, m1nI, m1lt, nIlm, m1le, nIlem, nIneg, u2_ss, u2_nn, u2_kk, nIm1n, m1nIn, m1ltn, nIlmn, m1len, nIlemn]; omega, ?_⟩
  rw [nIc (by omega), show nI (sK ts (i + 2)) - 17 = nI (sK ts (i + 2) - 17) by rw [show (17 : Int32) = nI 17 from rfl, nIsub (by unfold isKd at hkd; omega)], u2_nn _ _ _ _ (show 26 ≠ c + 6 by omega), j2, e1]
  have hI2 : LnI P I (u2 (u2 J (c + 6) (a 4).val (nI (sK ts (i + 2) - 17))) 26 2 (nI (i + 2 + 1))) (nm.length + 1) := (hI1.u (Or.inl rfl) (by omega)).at
  have g2 : u2 (u2 J (c + 6) (a 4).val (nI (sK ts (i + 2) - 17))) 26 2 (nI (i + 2 + 1)) (c + 6) (a 4).val = nI (sK ts (i + 2) - 17) ∧ ∀ k g, g ≠ (a 4).val → k ≠ 26 → u2 (u2 J (c + 6) (a 4).val (nI (sK ts (i + 2) - 17))) 26 2 (nI (i + 2 + 1)) k g = I k g := by
    refine ⟨by rw [u2_nn _ _ _ _ (by omega), u2_ss], fun k g hg hk => ?_⟩
    rw [u2_nn _ _ _ _ hk, u2_kk _ _ _ _ hg, eJ, u2_nn _ _ _ _ hk, u2_nn _ _ _ _ hk, u2_nn _ _ _ _ hk]
  have gx2 : ∀ k, k ≠ 26 → k ≠ c + 6 → u2 (u2 J (c + 6) (a 4).val (nI (sK ts (i + 2) - 17))) 26 2 (nI (i + 2 + 1)) k = I k := fun k hk h6 => by
    funext g
    rw [u2_nn _ _ _ _ hk, u2_nn _ _ _ _ h6, eJ, u2_nn _ _ _ _ hk, u2_nn _ _ _ _ hk, u2_nn _ _ _ _ hk]
  have p2 : u2 (u2 J (c + 6) (a 4).val (nI (sK ts (i + 2) - 17))) 26 2 (nI (i + 2 + 1)) 26 2 = nI (i + 3) := u2_ss _ _ _ _
  generalize u2 (u2 J (c + 6) (a 4).val (nI (sK ts (i + 2) - 17))) 26 2 (nI (i + 2 + 1)) = J2 at *
  refine wordR_o (s := 8) (hBB J2 hI2) p2 (by omega) (by decide) (by decide) (fun J3 s3 ew hi4 p3 _ _ r3 => ?_) (fun v J3 ew hJ3 => RX5_guestLine_75 hcl hR ⟨fun _ => hf v J3 K (ew _) hJ3.1 ((hRd J2 hI2).tr (RdF.k hJ3.2)), fun c => absurd rfl c⟩)
  rw [ew] at hf ht
  have hI3 := hI2.r26 r3
  refine RX5_guestLine_75 hcl hR ⟨fun c => absurd c (by decide), fun _ => ?_⟩
  have g3 : ∀ k, k ≠ 26 → J3 k = J2 k := fun k hk => r3.1 k hk
  refine placeR_ok (a := a) (tk := clP a) (hBB J3 hI3) hcl hR (by rw [g3 c (by omega), gx2 c (by omega) (by omega)]; exact hC.1.1) (by rw [g3 c (by omega), gx2 c (by omega) (by omega)]; exact hC.1.2.1) hW.1 hW.2.1 (fun x hx => by rw [hLK c (by omega)]; exact hC.2.1 x hx) p3 hi4 (fun x J4 hx ek ef4 hi6 p4 p4x r4 => ?_) (fun v J4 ef4 hJ4 => RX5_guestLine_89 ⟨fun _ => hf v J4 K (ef4 _) hJ4.1 ((hRd J3 hI3).tr (RdF.k hJ4.2)), fun c => absurd rfl c⟩)
  rw [ef4] at hf ht
  have hI4 := hI3.r26 r4
  refine RX5_guestLine_89 ⟨fun c => absurd c (by decide), fun _ => ?_⟩
  refine wordR_o (s := 9) (hBB J4 hI4) p4 (by omega) (by decide) (by decide) (fun J5 s5 ew5 hi7 p5 _ p5x r5 => ?_) (fun v J5 ew5 hJ5 => RX5_guestLine_98 ⟨fun _ => hf v J5 K (ew5 _) hJ5.1 ((hRd J4 hI4).tr (RdF.k hJ5.2)), fun c => absurd rfl c⟩)
  rw [ew5] at hf ht
  have hI5 := hI4.r26 r5
  refine RX5_guestLine_98 ⟨fun c => absurd c (by decide), fun _ => ?_⟩
  refine numberR_o (lo := 0) (hi := 3) (hBB J5 hI5) p5 (by omega) (by decide) (by decide) (fun J6 s6 v6 ew6 hi8 p6 p6n p6x r6 => ?_) (fun v J6 ew6 hJ6 => RX5_guestLine_107 hcl hR ⟨fun c => absurd rfl c, fun _ => hf v J6 K (ew6 _) hJ6.1 ((hRd J5 hI5).tr (RdF.k hJ6.2))⟩)
  rw [ew6] at hf ht
  have hI6 := hI5.r26 r6
  refine RX5_guestLine_107 hcl hR ⟨fun _ => ⟨by simp (disch := omega) only [nlit, natrem, nIrm, nIam, nIam',  nI_add, pk_mul, nIsub, nIrem, nIdiv, nIand1, nIand3, nIand7, nIand31, nIshr, nIle, nIlt, nIeq, nIc, vpI, nIm1, m1nI, m1lt, nIlm, m1le, nIlem, nIneg, u2_ss, u2_nn, u2_kk, nIm1n, m1nIn, m1ltn, nIlmn, m1len, nIlemn]; omega, ?_⟩, fun c => absurd c (by decide)⟩
  rw [nIc (by omega), p6n, p6x, p5x, p4x, show nI x * 4 + nI (vK ts (i + 4 + 2 + 1)) = nI (x * 4 + vK ts (i + 7)) by rw [show (4 : Int32) = nI 4 from rfl, pk_mul, nI_add]]
  have g6 : ∀ k, k ≠ 26 → J6 k = J2 k := fun k hk => by rw [r6.1 k hk, r5.1 k hk, r4.1 k hk, g3 k hk]
  have hI7 : LnI P I (u2 J6 (c + 7) (a 4).val (nI (x * 4 + vK ts (i + 7)))) (nm.length + 1) := hI6.u (Or.inr (Or.inl rfl)) (by omega)
  have p7 : u2 J6 (c + 7) (a 4).val (nI (x * 4 + vK ts (i + 7))) 26 2 = nI (i + 8) := by rw [u2_nn _ _ _ _ (by omega)]; exact p6
  have p7x : u2 J6 (c + 7) (a 4).val (nI (x * 4 + vK ts (i + 7))) 26 11 = nI x := by rw [u2_nn _ _ _ _ (by omega), p6x, p5x, p4x]
  refine wordR_o (s := 10) (hBB _ hI7) p7 (by omega) (by decide) (by decide) (fun J8 s8 ew8 hi9 p8 _ p8x r8 => ?_) (fun v J8 ew8 hJ8 => RX5_guestLine_138 ⟨fun _ => hf v J8 K (ew8 _) hJ8.1 ((hRd _ hI7).tr (RdF.k hJ8.2)), fun c => absurd rfl c⟩)
  have hI8 := hI7.r26 r8
  have ew8 : ∀ f, wrd ts 10 (i + 8) f = f := ew8
  rw [ew8] at hf ht
  refine RX5_guestLine_138 ⟨fun c => absurd c (by decide), fun _ => ?_⟩
  refine numberR_o (lo := 0) (hi := 99) (hBB J8 hI8) p8 (by omega) (by decide) (by decide) (fun J9 s9 v9 ew9 hi10 p9 p9n p9x r9 => ?_) (fun v J9 ew9 hJ9 => RX5_guestLine_148 hcl hR ⟨fun c => absurd rfl c, fun _ => hf v J9 K (ew9 _) hJ9.1 ((hRd J8 hI8).tr (RdF.k hJ9.2))⟩)
  have ew9 : ∀ f, nmb ts 0 99 (i + 9) f = f (vK ts (i + 9)) := ew9
  rw [ew9] at hf ht
  have hI9 := hI8.r26 r9
  have g9 : ∀ k, k ≠ 26 → J9 k = u2 J6 (c + 7) (a 4).val (nI (x * 4 + vK ts (i + 7))) k := fun k hk => by rw [r9.1 k hk, r8.1 k hk]
  have e11 : J9 c 11 = nI (a 4).val := by rw [g9 c (by omega), u2_nn _ _ _ _ (by omega), g6 c (by omega), gx2 c (by omega) (by omega)]; exact hC.1.2.2.2.2.2
  refine RX5_guestLine_148 hcl hR ⟨fun _ => ⟨by simp (disch := omega) only [nlit, natrem, nIrm, nIam, nIam',  nI_add, pk_mul, nIsub, nIrem, nIdiv, nIand1, nIand3, nIand7, nIand31, nIshr, nIle, nIlt, nIeq, nIc, vpI, nIm1, m1nI, m1lt, nIlm, m1le, nIlem, nIneg, u2_ss, u2_nn, u2_kk, nIm1n, m1nIn, m1ltn, nIlmn, m1len, nIlemn]; omega, ?_⟩, fun c => absurd c (by decide)⟩
  rw [nIc (by omega), p9n, u2_nn _ _ _ _ (show c ≠ c + 8 by omega), e11, e1, u2_nn _ _ _ _ (show 26 ≠ c + 8 by omega), p9x, p8x, p7x]
  have hI10 : LnI P I (u2 (u2 J9 (c + 8) (a 4).val (nI (vK ts (i + 8 + 1)))) c 11 (nI ((a 4).val + 1))) (nm.length + 1) := (hI9.u (Or.inr (Or.inr (Or.inl rfl))) (by omega)).u (Or.inr (Or.inr (Or.inr rfl))) (by omega)
  have p10 : u2 (u2 J9 (c + 8) (a 4).val (nI (vK ts (i + 8 + 1)))) c 11 (nI ((a 4).val + 1)) 26 2 = nI (i + 10) := by rw [u2_nn _ _ _ _ (by omega), u2_nn _ _ _ _ (by omega)]; exact p9
  have hK7 : Kp (fun k => k ≠ 26 ∧ k ≠ 31) L (u2 K 26 7 ((K 26 7) ||| ((1 : Int64) <<< (Int32.toInt64 (nI x) &&& 63)))) := (hLK.mn (fun _ hk => hk.2)).up (by simp)
  have hB10 : RB ts N (u2 (u2 J9 (c + 8) (a 4).val (nI (vK ts (i + 8 + 1)))) c 11 (nI ((a 4).val + 1))) (u2 K 26 7 ((K 26 7) ||| ((1 : Int64) <<< (Int32.toInt64 (nI x) &&& 63)))) := hI10.rb hB hP26 (hK7 30 (by decide))
  have hRd10 : RdF c I (u2 (u2 J9 (c + 8) (a 4).val (nI (vK ts (i + 8 + 1)))) c 11 (nI ((a 4).val + 1))) L (u2 K 26 7 ((K 26 7) ||| ((1 : Int64) <<< (Int32.toInt64 (nI x) &&& 63)))) := ⟨(hRd _ hI10).1, hK7.mn (fun k hk => ⟨hk.1, hk.2.1⟩)⟩
  refine wordR_o (s := 59) hB10 p10 (by omega) (by decide) (by decide) (fun J11 s11 ew11 hi11 p11 _ _ r11 => ?_) (fun v J11 ew11 hJ11 => RX5_guestLine_200 ⟨Or.inl rfl, hf v J11 _ (ew11 _) hJ11.1 (hRd10.tr (RdF.k hJ11.2))⟩)
  rw [ew11] at ht
  have hI11 := hI10.r26 r11
  have g11 : ∀ k, k ≠ 26 → J11 k = u2 (u2 J9 (c + 8) (a 4).val (nI (vK ts (i + 8 + 1)))) c 11 (nI ((a 4).val + 1)) k := fun k hk => r11.1 k hk
  have hcell : ∀ k g, k ≠ 26 → g ≠ (a 4).val → (k ≠ c ∨ g ≠ 11) → J11 k g = I k g := fun k g hk hg hcg => by
    rw [g11 k hk]
    by_cases ek : k = c
    · subst ek
      rw [u2_kk _ _ _ _ (by omega), u2_kk _ _ _ _ hg, g9 k hk, u2_kk _ _ _ _ hg, g6 k hk]
      exact g2.2 k g hg hk
    · rw [u2_nn _ _ _ _ ek, u2_kk _ _ _ _ hg, g9 k hk, u2_kk _ _ _ _ hg, g6 k hk]
      exact g2.2 k g hg hk
  refine RX5_guestLine_200 ⟨Or.inr rfl, ht _ _ _ _ _ _ J11 _ rfl ⟨hB10.k r11.1, ⟨hcl, hR⟩, p11, by rw [hI11.2.1 3 (by decide) (by decide) (by decide) (by decide)]; exact h3, ⟨by rw [hI11.2.2, List.length_append]; rfl, fun k hk => by rw [u2_nn _ _ _ _ (by decide)]; exact hNm'.2 k hk⟩, fun d hd => by rw [u2_nn _ _ _ _ (by decide), hLK 32 (by decide)]; exact hDn d hd, by rw [hI11.2.1 8 (by decide) (by decide) (by decide) (by decide)]; exact h8, by rw [hI11.2.1 9 (by decide) (by decide) (by decide) (by decide)]; exact h9, fun y hy => ?_, ?_⟩ (hRd10.tr (RdF.k r11.1))⟩
  · rw [u2_ss, bL_or, bL_one hx hy, hLK 26 (by decide), hGc y hy]
    have x4 : (setG a (a 4).val (sK ts (i + 2) - 17) x (vK ts (i + 7)) (vK ts (i + 9)) 4).val = (a 4).val + 1 := by unfold setG; rw [up1_s, fi_v (by omega)]
    have hgC : ∀ g, g < (a 4).val → gC (setG a (a 4).val (sK ts (i + 2) - 17) x (vK ts (i + 7)) (vK ts (i + 9))) g = gC a g := fun g hg => by unfold setG; rw [u_gC (by omega), u_gC (by omega), u_gC (by omega), u_gC (by omega), u_gC (by omega)]
    have hgN : (gC (setG a (a 4).val (sK ts (i + 2) - 17) x (vK ts (i + 7)) (vK ts (i + 9))) (a 4).val).val = x := by unfold setG; rw [u_gC (by omega), u_gC (by omega), u_gC (by omega), h_gC rfl, fi_v (by omega)]
    show _ = (List.range (setG a (a 4).val (sK ts (i + 2) - 17) x (vK ts (i + 7)) (vK ts (i + 9)) 4).val).any _
    rw [x4, List.range_succ, List.any_append]
    congr 1
    · rw [Bool.eq_iff_iff, List.any_eq_true, List.any_eq_true]
      constructor
      · rintro ⟨g, hg, e⟩
        exact ⟨g, hg, by rw [hgC g (List.mem_range.mp hg)]; exact e⟩
      · rintro ⟨g, hg, e⟩
        exact ⟨g, hg, by rw [← hgC g (List.mem_range.mp hg)]; exact e⟩
    · rw [List.any_cons, List.any_nil, Bool.or_false, hgN]
      exact decide_eq_decide.mpr ⟨fun e => e.symm, fun e => e.symm⟩
  · have hkd4 : sK ts (i + 2) - 17 ≤ 4 := by unfold isKd at hkd; omega
    refine hC.gue hW h46 hkd4 hx v6.2 v9.2 (fun k k1 k2 k6 k7 k8 => ?_) (fun j hj => ?_) ?_ (fun g hg => ⟨hcell _ g (by omega) (by omega) (by omega), hcell _ g (by omega) (by omega) (by omega), hcell _ g (by omega) (by omega) (by omega)⟩) ?_ ?_ ?_ ?_
    · exact hI11.1 k ⟨by omega, by show ¬ (_ ∨ _); omega⟩
    · by_cases ej : j = (a 4).val
      · rw [g11 c (by omega), u2_kk _ _ _ _ hj, u2_nn _ _ _ _ (by omega), g9 c (by omega), u2_nn _ _ _ _ (by omega), g6 c (by omega), gx2 c (by omega) (by omega)]
      · exact hcell c j (by omega) ej (Or.inr hj)
    · rw [g11 c (by omega), u2_ss]
    · rw [g11 _ (by omega), u2_nn _ _ _ _ (by omega), u2_nn _ _ _ _ (by omega), g9 _ (by omega), u2_nn _ _ _ _ (by omega), g6 _ (by omega)]
      exact g2.1
    · rw [g11 _ (by omega), u2_nn _ _ _ _ (by omega), u2_nn _ _ _ _ (by omega), g9 _ (by omega), u2_ss]
    · rw [g11 _ (by omega), u2_nn _ _ _ _ (by omega), u2_ss]
    · funext j
      rw [u2_nn _ _ _ _ (by omega), hLK c (by omega)]
