/-! the model reads lines -/
def FM (I J : Ints) (L K : Lngs) : Prop := (∀ k x, ¬ (k = 92 ∧ (x = 7 ∨ x = 8 ∨ x = 13 ∨ x = 16 ∨ x = 17)) → ¬ (k = 98 ∧ 204 ≤ x) → ¬ ((k = 99 ∨ k = 100) ∧ 1100 ≤ x) → k ≠ 102 → J k x = I k x) ∧ Kp (fun k => k ≠ 101) L K
theorem FM.rf {I : Ints} {L : Lngs} : FM I I L L := ⟨fun _ _ _ _ _ _ => rfl, Kp.rf⟩
theorem FM.tr {I J M : Ints} {L K O : Lngs} (h : FM I J L K) (h2 : FM J M K O) : FM I M L O := ⟨fun k x a b c e => (h2.1 k x a b c e).trans (h.1 k x a b c e), h.2.tr h2.2⟩
theorem FM.u {I J : Ints} {L K : Lngs} (h : FM I J L K) {o k : Nat} {v : Int32} (hc : (o = 92 ∧ (k = 7 ∨ k = 8 ∨ k = 13 ∨ k = 16 ∨ k = 17)) ∨ (o = 98 ∧ 204 ≤ k) ∨ ((o = 99 ∨ o = 100) ∧ 1100 ≤ k) ∨ o = 102) : FM I (u2 J o k v) L K := by
  refine ⟨fun a b h1 h2 h3 h4 => ?_, h.2⟩
  rw [← h.1 a b h1 h2 h3 h4]
  unfold u2
  by_cases ha : a = o
  · by_cases hb : b = k
    · subst ha; subst hb
      exfalso
      rcases hc with hc | hc | hc | hc
      · exact h1 hc
      · exact h2 hc
      · exact h3 hc
      · exact h4 hc
    · rw [if_pos ha, if_neg hb]
  · rw [if_neg ha]
theorem FM.l {I J : Ints} {L K : Lngs} (h : FM I J L K) {k : Nat} {v : Int64} : FM I J L (u2 K 101 k v) := ⟨h.1, h.2.up (by simp)⟩
theorem FM.ar {I J : Ints} {L K : Lngs} (h : FM I J L K) {k : Nat} (hk : k ≠ 92 ∧ k ≠ 98 ∧ k ≠ 99 ∧ k ≠ 100 ∧ k ≠ 102) (x : Nat) : J k x = I k x := h.1 k x (fun e => hk.1 e.1) (fun e => hk.2.1 e.1) (fun e => by rcases e.1 with e | e <;> omega) hk.2.2.2.2
theorem MB.fm {ts : List Tk} {N : Nat} {I J : Ints} {L K : Lngs} (h : MB ts N I L) (hF : FM I J L K) : MB ts N J K := by
  obtain ⟨h1, h2, h3, h4, h5⟩ := h
  refine ⟨h1, h2, h3.fr (hF.ar (by decide)) (hF.ar (by decide)) (fun i => by rw [hF.2 96 (by decide)]), fun w hw => by rw [hF.2 97 (by decide)]; exact h4 w hw, ?_⟩
  unfold FcM
  rw [hF.ar (by decide), hF.ar (by decide), hF.ar (by decide), hF.ar (by decide)]
  exact h5
theorem FL.fm {I J : Ints} {L : Lngs} (h : FL I J) : FM I J L L := ⟨fun k x a b c e => h k x (fun hh => a ⟨hh.1, by omega⟩) c, Kp.rf⟩
def F7 (I J : Ints) : Prop := ∀ k x, ¬ (k = 92 ∧ x = 7) → J k x = I k x
def F78 (I J : Ints) : Prop := ∀ k x, ¬ (k = 92 ∧ (x = 7 ∨ x = 8)) → J k x = I k x
theorem F7.rf {I : Ints} : F7 I I := fun _ _ _ => rfl
theorem F7.tr {I J K : Ints} (h : F7 I J) (h2 : F7 J K) : F7 I K := fun k x a => (h2 k x a).trans (h k x a)
theorem F7.u {I J : Ints} (h : F7 I J) {v : Int32} : F7 I (u2 J 92 7 v) := fun k x a => by
  rw [← h k x a]
  unfold u2
  by_cases hk : k = 92
  · rw [if_pos hk, if_neg (fun e => a ⟨hk, e⟩)]
  · rw [if_neg hk]
theorem F7.f {I J : Ints} (h : F7 I J) : F78 I J := fun k x a => h k x (fun e => a ⟨e.1, Or.inl e.2⟩)
theorem F78.tr {I J K : Ints} (h : F78 I J) (h2 : F78 J K) : F78 I K := fun k x a => (h2 k x a).trans (h k x a)
theorem F78.u {I J : Ints} (h : F78 I J) {k0 : Nat} {v : Int32} (h0 : k0 = 7 ∨ k0 = 8) : F78 I (u2 J 92 k0 v) := fun k x a => by
  rw [← h k x a]
  unfold u2
  by_cases hk : k = 92
  · rw [if_pos hk, if_neg (fun e => a ⟨hk, by omega⟩)]
  · rw [if_neg hk]
theorem F78.fm {I J : Ints} {L : Lngs} (h : F78 I J) : FM I J L L := ⟨fun k x a _ _ _ => h k x (fun hh => a ⟨hh.1, by omega⟩), Kp.rf⟩
theorem takeNumberM_o {d : Nat} {sx : Sx} {I : Ints} {L : Lngs} {R : Rfs} {q : Q3} {ts : List Tk} {N i lo hi : Nat} (hB : MB ts N I L) (h8 : I 92 8 = nI 0) (h7 : I 92 7 = nI i) (hil : i ≤ N) (hlo : lo < 10000) (hhi : hi < 10000)
    (ht : ∀ J, sK ts i = 31 → lo ≤ vK ts i ∧ vK ts i ≤ hi → (∀ f, nmb ts lo hi i f = f (vK ts i)) → i + 1 ≤ N → J 92 7 = nI (i + 1) → F7 I J → q (some (.int (nI (vK ts i)))) J L R) (hf : ∀ v J, (∀ f, nmb ts lo hi i f = .inl v) → isF v → J 92 8 = nI v → F78 I J → q (some (.int 0)) J L R) : E0 mX12_takeNumber (d + 2) sx [.ref 92, .int (nI lo), .int (nI hi)] I L R q := by
  obtain ⟨hT, hE, hM, -, -⟩ := hB
  have hlen := hE.2.1
  refine takeNumberM_ok hT hM h8 h7 (by omega) hlo hhi (fun e => hf _ _ (fun f => if_neg e) (fK_f hT (by decide) (by decide)) (u2_ss _ _ _ _) (F7.rf.f.u (Or.inr rfl))) (fun e hv => hf _ _ (fun f => by unfold nmb; rw [if_pos e, if_pos hv]) (fK_f hT (by decide) (by decide)) (u2_ss _ _ _ _) (F7.rf.f.u (Or.inr rfl))) (fun e hv => ht _ e hv (fun f => by unfold nmb; rw [if_pos e, if_neg (by omega)]) (lt_N hE hil (by omega)) (u2_ss _ _ _ _) F7.rf.u)
theorem takeWordM_o {d : Nat} {sx : Sx} {I : Ints} {L : Lngs} {R : Rfs} {q : Q3} {ts : List Tk} {N i w : Nat} (hB : MB ts N I L) (h8 : I 92 8 = nI 0) (h7 : I 92 7 = nI i) (hil : i ≤ N) (hw : w < 28)
    (ht : ∀ J, sK ts i = w → (∀ f, wrd ts w i f = f) → i + 1 ≤ N → J 92 7 = nI (i + 1) → F7 I J → q none J L R) (hf : ∀ v J, (∀ f, wrd ts w i f = .inl v) → isF v → J 92 8 = nI v → F78 I J → q none J L R) : E0 mX12_takeWord (d + 3) sx [.ref 92, .int (nI w)] I L R q := by
  obtain ⟨hT, hE, hM, hW, -⟩ := hB
  have hlen := hE.2.1
  refine takeWordM_ok hT hM hW h8 h7 (by omega) hw (fun e => ht _ e (fun f => if_pos e) (lt_N hE hil (by omega)) (u2_ss _ _ _ _) F7.rf.u) (fun e => hf _ _ (fun f => if_neg e) (fK_f hT (by decide) (by decide)) (u2_ss _ _ _ _) (F7.rf.f.u (Or.inr rfl)))
theorem takeAfterM_o {d : Nat} {sx : Sx} {I : Ints} {L : Lngs} {R : Rfs} {q : Q3} {ts : List Tk} {N i w lo hi : Nat} (hB : MB ts N I L) (h8 : I 92 8 = nI 0) (h7 : I 92 7 = nI i) (hil : i ≤ N) (hw : w < 28) (hlo : lo < 10000) (hhi : hi < 10000)
    (ht : ∀ J, lo ≤ vK ts (i + 1) ∧ vK ts (i + 1) ≤ hi → (∀ f, wrd ts w i (nmb ts lo hi (i + 1) f) = f (vK ts (i + 1))) → i + 2 ≤ N → J 92 7 = nI (i + 2) → F7 I J → q (some (.int (nI (vK ts (i + 1))))) J L R) (hf : ∀ v J, (∀ f, wrd ts w i (nmb ts lo hi (i + 1) f) = .inl v) → isF v → J 92 8 = nI v → F78 I J → q (some (.int 0)) J L R) : E0 mX12_takeAfter (d + 4) sx [.ref 92, .int (nI w), .int (nI lo), .int (nI hi)] I L R q := by
  refine EX12_takeAfter (takeWordM_o hB h8 h7 hil hw (fun J e ew hi1 j7 f7 => RX12_takeAfter_5 ?_) (fun v J ew hv j8 f8 => RX12_takeAfter_5 (takeNumberM_f hv j8 (RX12_takeAfter_11 (hf v J (fun f => ew _) hv j8 f8)))))
  refine takeNumberM_o (hB.fm f7.f.fm) (by rw [f7 92 8 (by decide)]; exact h8) j7 hi1 hlo hhi (fun J2 e2 hv2 ew2 hi2 k7 g7 => RX12_takeAfter_11 (ht J2 hv2 (fun f => by rw [ew, ew2]) hi2 k7 (f7.tr g7))) (fun v J2 ew2 hv k8 g8 => RX12_takeAfter_11 (hf v J2 (fun f => by rw [ew]; exact ew2 _) hv k8 (f7.f.tr g8)))
def SpM (a : Ce) (I : Ints) : Prop := ∀ k, k < 204 → k ≠ 6 → I 98 (204 + k) = nI (a k).val
theorem SpM.ix {a : Ce} {I : Ints} (h : SpM a I) {k j : Nat} (e : k = 204 + j) (hj : j < 204) (h6 : j ≠ 6) : I 98 k = nI (a j).val := by rw [e]; exact h j hj h6
theorem SpM.up {a : Ce} {I : Ints} (h : SpM a I) {k v o : Nat} (hv : v < 128) (ho : o = 204 + k) : SpM (up1 a k (fi v)) (u2 I 98 o (nI v)) := by
  intro j hj h6
  subst ho
  by_cases e : j = k
  · subst e
    rw [u2_ss, up1_s, fi_v hv]
  · rw [u2_kk _ _ _ _ (by omega), up1_n _ _ e]
    exact h j hj h6
theorem SpM.fr {a : Ce} {I J : Ints} (h : SpM a I) (e : ∀ x, J 98 x = I 98 x) : SpM a J := fun k hk h6 => (e _).trans (h k hk h6)
theorem or4 : ∀ b, b < 4 → ∀ e, e < 2 → nI (b + 4 * e) ||| 4 = nI (b + 4 * 1) ∧ nI (b + 4 * e) ||| 0 = nI (b + 4 * e) := by decide +kernel
theorem and17 : ∀ p, p < 2 → ∀ h, h < 2 → ∀ e, e < 2 → ((nI (p + 2 * h + 4 * e) &&& 7 = 0) ↔ p = 0 ∧ h = 0 ∧ e = 0) ∧ ((nI (p + 2 * h + 4 * e) &&& 1 = 0) ↔ p = 0) := by decide +kernel
theorem takeCellM_ok {d : Nat} {sx : Sx} {I : Ints} {L : Lngs} {R : Rfs} {q : Q3} {ts : List Tk} {N i wo : Nat} {a : Ce} {hc : Bool} {tk : Nat → Bool} (hB : MB ts N I L) (hS : SpM a I) (hW : WFc a) (h17 : I 92 17 = if hc = true then nI 1 else nI 0) (hwo : (wo = 7 ∧ tk = tak a hc) ∨ (wo = 1 ∧ tk = clP a)) (h8 : I 92 8 = nI 0) (h7 : I 92 7 = nI i) (hil : i ≤ N)
    (ht : ∀ x J, x < 64 → (∀ f, plc ts a tk i f = f x) → i + 2 ≤ N → J 92 7 = nI (i + 2) → F7 I J → q (some (.int (nI x))) J L R) (hf : ∀ v cl J, (∀ f, plc ts a tk i f = .inl v) → isF v → J 92 8 = nI v → F78 I J → q (some (.int cl)) J L R) : E0 mX12_takeCell (d + 3) sx [.ref 92, .int (nI wo)] I L R q := by
  obtain ⟨hT, hE, hM, hWd, hFc⟩ := id hB
  have w0 := hW.1
  have w1 := hW.2.1
  have w4 := hW.2.2.2.2.1
  have w5 := hW.2.2.2.2.2.1
  have hlen := hE.2.1
  have hN := hE.1
  have e0 : I 98 204 = nI (a 0).val := hS.ix rfl (by decide) (by decide)
  have e1 : I 98 205 = nI (a 1).val := hS.ix rfl (by decide) (by decide)
  have hflt : ∀ v J s0 v2 v1, (∀ f, plc ts a tk i f = .inl v) → isF v → J 92 8 = nI v → F78 I J → Y mX12_takeCell (d + 3) sx 31 [(0, .ref 92), (1, .int v1), (2, .int v2)] [.int s0] J L R q := by
    intro v J s0 v2 v1 e hv j8 f8
    refine RX12_takeCell_31 ⟨fun c => ?_, fun _ => ?_⟩
    · exfalso; rw [j8] at c; simp (disch := omega) only [nlit, natrem, nIrm, nIam, nIam',  nI_add, pk_mul, nIsub, nIrem, nIdiv, nIand1, nIand3, nIand7, nIand31, nIshr, nIle, nIlt, nIeq, nIc, vpI, nIm1, m1nI, m1lt, nIlm, m1le, nIlem, nIneg, u2_ss, u2_nn, u2_kk, nIm1n, m1nIn, m1ltn, nIlmn, m1len, nIlemn] at c; omega
    · have hz : ∀ x : Int32, 0 &&& x = 0 := fun x => Int32.zero_and
      refine RX12_takeCell_93 ⟨fun _ => ⟨fun _ => hf v _ J e hv j8 f8, fun c => absurd (hz _) c⟩, fun _ => ⟨fun _ => ⟨fun _ => hf v _ J e hv j8 f8, fun c => absurd (hz _) c⟩, fun c => ?_⟩⟩
      exfalso; rw [j8] at c; simp (disch := omega) only [nlit, natrem, nIrm, nIam, nIam',  nI_add, pk_mul, nIsub, nIrem, nIdiv, nIand1, nIand3, nIand7, nIand31, nIshr, nIle, nIlt, nIeq, nIc, vpI, nIm1, m1nI, m1lt, nIlm, m1le, nIlem, nIneg, u2_ss, u2_nn, u2_kk, nIm1n, m1nIn, m1ltn, nIlmn, m1len, nIlemn] at c; omega
  refine EX12_takeCell ?_
  rw [e0, show nI (a 0).val - 1 = nI ((a 0).val - 1) by rw [show (1 : Int32) = nI 1 from rfl, nIsub (by omega)]]
  refine takeNumberM_o (lo := 0) hB h8 h7 hil (by decide) (by omega) (fun J1 s1 v1 ew1 hi1 j7 f7 => RX12_takeCell_15 ?_) (fun v J1 ew1 hv j8 f8 => RX12_takeCell_15 (takeNumberM_f hv j8 (hflt v J1 _ _ _ (fun f => by unfold plc; exact ew1 _) hv j8 f8)))
  rw [show J1 98 205 = nI (a 1).val by rw [f7 98 205 (by decide)]; exact e1, show nI (a 1).val - 1 = nI ((a 1).val - 1) by rw [show (1 : Int32) = nI 1 from rfl, nIsub (by omega)]]
  refine takeNumberM_o (lo := 0) (hB.fm f7.f.fm) (by rw [f7 92 8 (by decide)]; exact h8) j7 hi1 (by decide) (by omega) (fun J2 s2 v2 ew2 hi2 k7 g7 => ?_) (fun v J2 ew2 hv k8 g8 => hflt v J2 _ _ _ (fun f => by unfold plc; rw [ew1]; exact ew2 _) hv k8 (f7.f.tr g8))
  have hF2 : F7 I J2 := f7.tr g7
  have hx : 8 * vK ts (i + 1) + vK ts i < 64 := by omega
  have ecell : (8 : Int32) * nI (vK ts (i + 1)) + nI (vK ts i) = nI (8 * vK ts (i + 1) + vK ts i) := by rw [show (8 : Int32) = nI 8 from rfl, pk_mul, nI_add]
  have k8 : J2 92 8 = nI 0 := by rw [hF2 92 8 (by decide)]; exact h8
  have e2 : J2 98 (211 + (8 * vK ts (i + 1) + vK ts i)) = nI (a (7 + (8 * vK ts (i + 1) + vK ts i))).val := by rw [hF2 98 _ (fun e => by omega)]; exact hS.ix (by omega) (by omega) (by omega)
  have hp1 := hW.2.2.2.2.2.2.1 _ hx
  generalize hcell : 8 * vK ts (i + 1) + vK ts i = cell at *
  have hpl : ∀ f, plc ts a tk i f = if tk cell = true then .inl (fK ts 3 (i + 1)) else f cell := fun f => by
    unfold plc
    rw [ew1, ew2, hcell]
  have e208 : J2 98 208 = nI (a 4).val := by rw [hF2 98 208 (by decide)]; exact hS.ix rfl (by decide) (by decide)
  have hfin : ∀ (h e : Nat), h < 2 → e < 2 → (h = 1 ↔ (hc = true ∧ (a 5).val = cell)) → (e = 1 ↔ ∃ g, g < (a 4).val ∧ (gC a g).val = cell) → ∀ t, t = nI ((a (7 + cell)).val + 2 * h + 4 * e) → ((t &&& nI wo = 0) → q (some (.int (nI cell))) J2 L R) ∧ (¬ (t &&& nI wo = 0) → E0 mX12_wrong (d + 2) sx [.ref 92, .int 3] (u2 J2 92 7 ((J2 92 7) - 1)) L R (fun r J K T => Y mX12_takeCell (d + 3) sx 171 [(4, .int (nI cell))] (r.toList ++ []) J K T q)) := by
    intro h e hh he hh1 he1 t et
    have ha := and17 _ (show (a (7 + cell)).val < 2 by omega) h hh e he
    have htk : (t &&& nI wo = 0) ↔ tk cell = false := by
      rw [et]
      rcases hwo with ⟨rfl, rfl⟩ | ⟨rfl, rfl⟩
      · rw [show nI 7 = (7 : Int32) from rfl, ha.1]
        unfold tak clP
        rw [Bool.or_eq_false_iff, Bool.or_eq_false_iff, decide_eq_false_iff_not, Bool.and_eq_false_iff, decide_eq_false_iff_not, List.any_eq_false]
        constructor
        · rintro ⟨x1, x2, x3⟩
          refine ⟨⟨by omega, ?_⟩, fun g hg => ?_⟩
          · by_cases hcc : hc = true
            · refine Or.inr (fun e5 => ?_)
              have := hh1.mpr ⟨hcc, e5⟩
              omega
            · exact Or.inl (by simpa using hcc)
          · intro hd
            have := he1.mpr ⟨g, List.mem_range.mp hg, by simpa using hd⟩
            omega
        · rintro ⟨⟨x1, x2⟩, x3⟩
          refine ⟨by omega, ?_, ?_⟩
          · have : h ≠ 1 := fun e => by
              have := hh1.mp e
              rcases x2 with x2 | x2
              · rw [this.1] at x2; cases x2
              · exact x2 this.2
            omega
          · have : e ≠ 1 := fun e5 => by
              obtain ⟨g, hg, hgc⟩ := he1.mp e5
              exact x3 g (List.mem_range.mpr hg) (by simpa using hgc)
            omega
      · rw [show nI 1 = (1 : Int32) from rfl, ha.2]
        unfold clP
        rw [decide_eq_false_iff_not]
        omega
    refine ⟨fun c => ?_, fun c => ?_⟩
    · have htf := htk.mp c
      exact ht cell J2 hx (fun f => by rw [hpl f, if_neg (by rw [htf]; decide)]) hi2 k7 hF2
    · have htt : tk cell = true := by
        cases hv : tk cell with
        | true => rfl
        | false => exact absurd (htk.mpr hv) c
      rw [k7, show nI (i + 1 + 1) - 1 = nI (i + 1) by rw [show (1 : Int32) = nI 1 from rfl, nIsub (by omega)]; rfl]
      have hB2 : MB ts N (u2 J2 92 7 (nI (i + 1))) L := hB.fm (F78.fm (hF2.u.f))
      refine wrongM_ok (k := 3) hT hB2.2.2.1 (by rw [u2_kk _ _ _ _ (by decide)]; exact k8) (u2_ss _ _ _ _) (by omega) (RX12_takeCell_171 ?_)
      exact hf (fK ts 3 (i + 1)) _ _ (fun f => by rw [hpl f, if_pos htt]) (fK_f hT (by decide) (by decide)) (u2_ss _ _ _ _) (hF2.u.f.u (Or.inr rfl))
  have hlp : ∀ n g h e, n = (a 4).val - g → g ≤ (a 4).val → h < 2 → e < 2 → (h = 1 ↔ (hc = true ∧ (a 5).val = cell)) → (e = 1 ↔ ∃ g', g' < g ∧ (gC a g').val = cell) → Y mX12_takeCell (d + 3) sx 93 [(0, .ref 92), (1, .int (nI wo)), (4, .int (nI cell)), (5, .int (nI ((a (7 + cell)).val + 2 * h + 4 * e))), (6, .int (nI g))] [] J2 L R q := by
    intro n
    induction n with
    | zero =>
      intro g h e hn hg hh he hh1 he1
      have eg : g = (a 4).val := by clear he1 hh1; omega
      subst eg
      have hh9 := hfin h e hh he hh1 he1 _ rfl
      refine RX12_takeCell_93 ⟨fun _ => ⟨hh9.1, hh9.2⟩, fun c => ?_⟩
      exfalso; rw [e208] at c; exact c (Int32.le_refl _)
    | succ n ih =>
      intro g h e hn hg hh he hh1 he1
      have hg4 : g < (a 4).val := by clear he1 hh1; omega
      have egC : J2 98 (377 + 4 * g + 1) = nI (gC a g).val := by rw [hF2 98 _ (fun e => by omega)]; exact hS.ix (by omega) (by omega) (by omega)
      have hgc := (hW.2.2.2.2.2.2.2.2.2.1 g hg4).2.1.1
      have hor := or4 ((a (7 + cell)).val + 2 * h) (by clear he1 hh1; omega) e he
      have eix : (377 + 4 * nI g + 1 : Int32) = nI (377 + 4 * g + 1) := by rw [show (4 : Int32) = nI 4 from rfl, pk_mul, show (377 : Int32) = nI 377 from rfl, nI_add, show (1 : Int32) = nI 1 from rfl, nI_add]
      have hn1 : n = (a 4).val - (g + 1) ∧ g + 1 ≤ (a 4).val := by clear he1 hh1; omega
      refine RX12_takeCell_93 ⟨fun c => ?_, fun _ => ⟨fun c => absurd k8 c, fun _ => ⟨?_, fun c => ?_, fun c => ?_⟩⟩⟩
      · exfalso; rw [e208] at c; clear he1 hh1; simp (disch := omega) only [nlit, natrem, nIrm, nIam, nIam',  nI_add, pk_mul, nIsub, nIrem, nIdiv, nIand1, nIand3, nIand7, nIand31, nIshr, nIle, nIlt, nIeq, nIc, vpI, nIm1, m1nI, m1lt, nIlm, m1le, nIlem, nIneg, u2_ss, u2_nn, u2_kk, nIm1n, m1nIn, m1ltn, nIlmn, m1len, nIlemn] at c; omega
      · rw [eix]; clear he1 hh1; simp (disch := omega) only [nlit, natrem, nIrm, nIam, nIam',  nI_add, pk_mul, nIsub, nIrem, nIdiv, nIand1, nIand3, nIand7, nIand31, nIshr, nIle, nIlt, nIeq, nIc, vpI, nIm1, m1nI, m1lt, nIlm, m1le, nIlem, nIneg, u2_ss, u2_nn, u2_kk, nIm1n, m1nIn, m1ltn, nIlmn, m1len, nIlemn]; omega
      · rw [eix, nIc (by clear he1 hh1; omega), egC] at c
        have c : ¬ (gC a g).val = cell := fun hh => c (by rw [hh])
        rw [hor.2, show nI g + 1 = nI (g + 1) from nI_add g 1]
        refine ih (g + 1) h e hn1.1 hn1.2 hh he hh1 (he1.trans ⟨fun ⟨g', x1, x2⟩ => ⟨g', by omega, x2⟩, fun ⟨g', x1, x2⟩ => ⟨g', ?_, x2⟩⟩)
        refine Nat.lt_of_le_of_ne (by omega) (fun eg => c (by rw [← eg]; exact x2))
      · rw [eix, nIc (by clear he1 hh1; omega), egC] at c
        have c : (gC a g).val = cell := (nIeq (by clear he1 hh1; omega) (by clear he1 hh1; omega)).mp c
        rw [hor.1, show nI g + 1 = nI (g + 1) from nI_add g 1]
        exact ih (g + 1) h 1 hn1.1 hn1.2 hh (by decide) hh1 ⟨fun _ => ⟨g, by omega, c⟩, fun _ => rfl⟩
  have e209 : J2 98 209 = nI (a 5).val := by rw [hF2 98 209 (by decide)]; exact hS.ix rfl (by decide) (by decide)
  have k17 : J2 92 17 = if hc = true then nI 1 else nI 0 := by rw [hF2 92 17 (by decide)]; exact h17
  have e211 : (211 : Int32) + nI cell = nI (211 + cell) := by rw [show (211 : Int32) = nI 211 from rfl, nI_add]
  refine RX12_takeCell_31 ⟨fun _ => ?_, fun c => ?_⟩
  · rw [ecell, e211, nIc (by omega), e2]
    refine ⟨by simp (disch := omega) only [nlit, natrem, nIrm, nIam, nIam',  nI_add, pk_mul, nIsub, nIrem, nIdiv, nIand1, nIand3, nIand7, nIand31, nIshr, nIle, nIlt, nIeq, nIc, vpI, nIm1, m1nI, m1lt, nIlm, m1le, nIlem, nIneg, u2_ss, u2_nn, u2_kk, nIm1n, m1nIn, m1ltn, nIlmn, m1len, nIlemn]; omega, fun c2 => ?_, fun c2 => ⟨fun c3 => ?_, fun c3 => ?_⟩⟩
    · rw [i_add0]
      refine hlp _ 0 0 0 rfl (Nat.zero_le _) (by decide) (by decide) ⟨fun h => absurd h (by decide), fun h => ?_⟩ ⟨fun h => absurd h (by decide), fun ⟨g, hg, _⟩ => absurd hg (Nat.not_lt_zero _)⟩
      rw [k17, if_pos h.1] at c2
      exact absurd c2 (by decide)
    · rw [i_add0]
      refine hlp _ 0 0 0 rfl (Nat.zero_le _) (by decide) (by decide) ⟨fun h => absurd h (by decide), fun h => ?_⟩ ⟨fun h => absurd h (by decide), fun ⟨g, hg, _⟩ => absurd hg (Nat.not_lt_zero _)⟩
      rw [e209, h.2] at c3
      exact absurd rfl c3
    · rw [show (2 : Int32) = nI 2 from rfl, nI_add]
      have hcT : hc = true := by
        cases hc with
        | true => rfl
        | false => rw [k17] at c2; exact absurd rfl c2
      rw [e209] at c3
      have c3 := (nIeq (by omega) (by omega)).mp c3
      exact hlp _ 0 1 0 rfl (Nat.zero_le _) (by decide) (by decide) ⟨fun _ => ⟨hcT, c3⟩, fun _ => rfl⟩ ⟨fun h => absurd h (by decide), fun ⟨g, hg, _⟩ => absurd hg (Nat.not_lt_zero _)⟩
  · exfalso; rw [k8] at c; exact c (by decide)
theorem takeCellM_f {d : Nat} {sx : Sx} {I : Ints} {L : Lngs} {R : Rfs} {q : Q3} {v : Nat} {x : Int32} (hv : isF v) (h8 : I 92 8 = nI v) (h : ∀ cl, q (some (.int cl)) I L R) : E0 mX12_takeCell (d + 3) sx [.ref 92, .int x] I L R q := by
  have hz : ∀ x : Int32, 0 &&& x = 0 := fun x => Int32.zero_and
  refine EX12_takeCell (takeNumberM_f hv h8 (RX12_takeCell_15 (takeNumberM_f hv h8 (RX12_takeCell_31 ⟨fun c => ?_, fun _ => RX12_takeCell_93 ⟨fun _ => ⟨fun _ => h _, fun c => absurd (hz _) c⟩, fun _ => ⟨fun _ => ⟨fun _ => h _, fun c => absurd (hz _) c⟩, fun c => ?_⟩⟩⟩))))
  · exfalso; rw [h8] at c; simp (disch := omega) only [nlit, natrem, nIrm, nIam, nIam',  nI_add, pk_mul, nIsub, nIrem, nIdiv, nIand1, nIand3, nIand7, nIand31, nIshr, nIle, nIlt, nIeq, nIc, vpI, nIm1, m1nI, m1lt, nIlm, m1le, nIlem, nIneg, u2_ss, u2_nn, u2_kk, nIm1n, m1nIn, m1ltn, nIlmn, m1len, nIlemn] at c; omega
  · exfalso; rw [h8] at c; simp (disch := omega) only [nlit, natrem, nIrm, nIam, nIam',  nI_add, pk_mul, nIsub, nIrem, nIdiv, nIand1, nIand3, nIand7, nIand31, nIshr, nIle, nIlt, nIeq, nIc, vpI, nIm1, m1nI, m1lt, nIlm, m1le, nIlem, nIneg, u2_ss, u2_nn, u2_kk, nIm1n, m1nIn, m1ltn, nIlmn, m1len, nIlemn] at c; omega
def NmM (nm : Nm) (I : Ints) (L : Lngs) : Prop := I 92 16 = nI nm.length ∧ ∀ k, k < nm.length → L 101 k = lN (pk 37 96 (nm.getD k ([], 0)).1) ∧ I 102 k = nI (nm.getD k ([], 0)).2
theorem find_ok {d : Nat} {sx : Sx} {I : Ints} {L : Lngs} {R : Rfs} {q : Q3} {ts : List Tk} {N i : Nat} {nm : Nm} (hB : MB ts N I L) (hNm : NmM nm I L) (hw : ∀ k, k < nm.length → wOk (nm.getD k ([], 0)).1) (hl : nm.length ≤ 18) (h7 : I 92 7 = nI i) (hil : i ≤ N) (hn : isN (sK ts i)) (hf : fnd nm (wK ts i) = none → q (some (.int (-1))) I L R) (ht : ∀ t, fnd nm (wK ts i) = some t → q (some (.int (nI t))) I L R) : E0 mX12_find (d + 1) sx [.ref 92] I L R q := by
  obtain ⟨hT, hE, hM, -, -⟩ := hB
  have hlen := hE.2.1
  have hN := hE.1
  have hg := hM.get (i := i) (by omega)
  have hwk := wK_ok hT (i := i) (by omega) (isN_ne hn).2
  have e6 := hg.2.2.1 (isN_ne hn).2
  have hlp : ∀ n k : Nat, n = nm.length - k → k ≤ nm.length → fnd nm (wK ts i) = fnd (nm.drop k) (wK ts i) → Y mX12_find (d + 1) sx 2 [(0, .ref 92), (1, .int (nI k))] [] I L R q := by
    intro n
    induction n with
    | zero =>
      intro k hn' hk e
      have ek : k = nm.length := by omega
      subst ek
      refine RX12_find_2 ⟨fun _ => hf (by rw [e, List.drop_length]; rfl), fun c => ?_⟩
      exfalso; rw [hNm.1] at c; exact c (Int32.le_refl _)
    | succ n ih =>
      intro k hn' hk e
      have hk1 := hNm.2 k (by omega)
      have hq := pw_eq (b := 37) (s := 96) (by decide) (by decide) (by decide) (hw k (by omega)) hwk
      have hdr := fnd_drop (w := wK ts i) nm k (by omega)
      refine RX12_find_2 ⟨fun c => ?_, fun c => ⟨by simp (disch := omega) only [nlit, natrem, nIrm, nIam, nIam',  nI_add, pk_mul, nIsub, nIrem, nIdiv, nIand1, nIand3, nIand7, nIand31, nIshr, nIle, nIlt, nIeq, nIc, vpI, nIm1, m1nI, m1lt, nIlm, m1le, nIlem, nIneg, u2_ss, u2_nn, u2_kk, nIm1n, m1nIn, m1ltn, nIlmn, m1len, nIlemn]; omega, by rw [h7]; simp (disch := omega) only [nlit, natrem, nIrm, nIam, nIam',  nI_add, pk_mul, nIsub, nIrem, nIdiv, nIand1, nIand3, nIand7, nIand31, nIshr, nIle, nIlt, nIeq, nIc, vpI, nIm1, m1nI, m1lt, nIlm, m1le, nIlem, nIneg, u2_ss, u2_nn, u2_kk, nIm1n, m1nIn, m1ltn, nIlmn, m1len, nIlemn]; omega, fun c2 => ?_, fun c2 => ⟨by simp (disch := omega) only [nlit, natrem, nIrm, nIam, nIam',  nI_add, pk_mul, nIsub, nIrem, nIdiv, nIand1, nIand3, nIand7, nIand31, nIshr, nIle, nIlt, nIeq, nIc, vpI, nIm1, m1nI, m1lt, nIlm, m1le, nIlem, nIneg, u2_ss, u2_nn, u2_kk, nIm1n, m1nIn, m1ltn, nIlmn, m1len, nIlemn]; omega, ?_⟩⟩⟩
      · exfalso; rw [hNm.1] at c; simp (disch := omega) only [nlit, natrem, nIrm, nIam, nIam',  nI_add, pk_mul, nIsub, nIrem, nIdiv, nIand1, nIand3, nIand7, nIand31, nIshr, nIle, nIlt, nIeq, nIc, vpI, nIm1, m1nI, m1lt, nIlm, m1le, nIlem, nIneg, u2_ss, u2_nn, u2_kk, nIm1n, m1nIn, m1ltn, nIlmn, m1len, nIlemn] at c; omega
      · rw [nIc (by omega), h7, nIc (by omega), hk1.1, e6, lg_cmp_eq] at c2
        rw [show nI k + 1 = nI (k + 1) from nI_add k 1]
        refine ih (k + 1) (by omega) (by omega) ?_
        rw [e, hdr, if_neg (fun hh => c2 (hq.mpr hh))]
      · rw [nIc (by omega), h7, nIc (by omega), hk1.1, e6, lg_cmp_eq] at c2
        rw [nIc (by omega), hk1.2]
        exact ht _ (by rw [e, hdr, if_pos (hq.mp c2)])
  exact EX12_find (hlp _ 0 rfl (Nat.zero_le _) rfl)
theorem readName_ok {d : Nat} {sx : Sx} {I : Ints} {L : Lngs} {R : Rfs} {q : Q3} {ts : List Tk} {N i tag : Nat} {nm : Nm} (hB : MB ts N I L) (hNm : NmM nm I L) (hw : ∀ k, k < nm.length → wOk (nm.getD k ([], 0)).1) (hl : nm.length < 18) (htg : ∀ t, fnd nm (wK ts (i + 1)) = some t → t < 1000) (h8 : I 92 8 = nI 0) (h7 : I 92 7 = nI i) (hil : i + 1 ≤ N)
    (ht : isN (sK ts (i + 1)) → (∀ f, newN ts nm tag (i + 1) f = f (nm ++ [(wK ts (i + 1), tag)])) → i + 2 ≤ N → ∀ J K, NmM (nm ++ [(wK ts (i + 1), tag)]) J K → J 92 7 = nI (i + 2) → J 92 8 = nI 0 → (∀ k x, k ≠ 102 → ¬ (k = 92 ∧ (x = 7 ∨ x = 16)) → J k x = I k x) → Kp (fun k => k ≠ 101) L K → q none J K R)
    (hf : ∀ v J, (∀ f, newN ts nm tag (i + 1) f = .inl v) → isF v → J 92 8 = nI v → F78 I J → q none J L R) : E0 mX12_readName (d + 2) sx [.ref 92, .int (nI tag)] I L R q := by
  obtain ⟨hT, hE, hM, hWd, hFc⟩ := id hB
  have hlen := hE.2.1
  have hN := hE.1
  refine EX12_readName ?_
  rw [h7, show nI i + 1 = nI (i + 1) from nI_add i 1]
  have hF1 : F7 I (u2 I 92 7 (nI (i + 1))) := F7.rf.u
  have hB1 := hB.fm (L := L) (J := u2 I 92 7 (nI (i + 1))) hF1.f.fm
  have k8 : u2 I 92 7 (nI (i + 1)) 92 8 = nI 0 := by rw [u2_kk _ _ _ _ (by decide)]; exact h8
  have k7 : u2 I 92 7 (nI (i + 1)) 92 7 = nI (i + 1) := u2_ss _ _ _ _
  have k16 : u2 I 92 7 (nI (i + 1)) 92 16 = nI nm.length := by rw [u2_kk _ _ _ _ (by decide)]; exact hNm.1
  have hNm1 : NmM nm (u2 I 92 7 (nI (i + 1))) L := ⟨k16, fun k hk => ⟨(hNm.2 k hk).1, by rw [u2_nn _ _ _ _ (by decide)]; exact (hNm.2 k hk).2⟩⟩
  generalize u2 I 92 7 (nI (i + 1)) = I1 at *
  have hfl : ∀ kd, 1 ≤ kd → kd ≤ 5 → (∀ f, newN ts nm tag (i + 1) f = .inl (fK ts kd (i + 1))) → E0 mX12_wrong (d + 1) sx [.ref 92, .int (nI kd)] I1 L R (fun r J K T => Y mX12_readName (d + 2) sx 37 [(0, .ref 92), (1, .int (nI tag))] (r.toList ++ []) J K T q) := by
    intro kd k1 k5 e
    have hvv := fK_f hT (i := i + 1) k1 k5
    refine wrongM_ok hT hB1.2.2.1 k8 k7 (by omega) (RX12_readName_37 ⟨fun _ => hf _ _ e hvv (u2_ss _ _ _ _) (hF1.f.u (Or.inr rfl)), fun c => ?_⟩)
    exfalso; rw [u2_ss] at c; simp (disch := omega) only [nlit, natrem, nIrm, nIam, nIam',  nI_add, pk_mul, nIsub, nIrem, nIdiv, nIand1, nIand3, nIand7, nIand31, nIshr, nIle, nIlt, nIeq, nIc, vpI, nIm1, m1nI, m1lt, nIlm, m1le, nIlem, nIneg, u2_ss, u2_nn, u2_kk, nIm1n, m1nIn, m1ltn, nIlmn, m1len, nIlemn] at c; omega
  refine isNameM_ok hT hB1.2.2.1 hWd k8 k7 (by omega) (fun hn => ?_) (fun hn => ?_)
  · refine RX12_readName_14 ⟨fun _ => ?_, fun c => absurd c (by decide)⟩
    have hi2 := lt_N hE hil (isN_ne hn).1
    have e6 := (hB1.2.2.1.get (i := i + 1) (by omega)).2.2.1 (isN_ne hn).2
    refine find_ok hB1 hNm1 hw (by omega) k7 hil hn (fun e => ?_) (fun t e => ?_)
    · refine RX12_readName_29 ⟨fun _ => ⟨fun c => absurd k8 c, fun _ => ⟨?_, ?_, ?_, ?_⟩⟩, fun c => absurd (by decide) c⟩
      · rw [k7]; simp (disch := omega) only [nlit, natrem, nIrm, nIam, nIam',  nI_add, pk_mul, nIsub, nIrem, nIdiv, nIand1, nIand3, nIand7, nIand31, nIshr, nIle, nIlt, nIeq, nIc, vpI, nIm1, m1nI, m1lt, nIlm, m1le, nIlem, nIneg, u2_ss, u2_nn, u2_kk, nIm1n, m1nIn, m1ltn, nIlmn, m1len, nIlemn]; omega
      · rw [k16]; simp (disch := omega) only [nlit, natrem, nIrm, nIam, nIam',  nI_add, pk_mul, nIsub, nIrem, nIdiv, nIand1, nIand3, nIand7, nIand31, nIshr, nIle, nIlt, nIeq, nIc, vpI, nIm1, m1nI, m1lt, nIlm, m1le, nIlem, nIneg, u2_ss, u2_nn, u2_kk, nIm1n, m1nIn, m1ltn, nIlmn, m1len, nIlemn]; omega
      · rw [k16]; simp (disch := omega) only [nlit, natrem, nIrm, nIam, nIam',  nI_add, pk_mul, nIsub, nIrem, nIdiv, nIand1, nIand3, nIand7, nIand31, nIshr, nIle, nIlt, nIeq, nIc, vpI, nIm1, m1nI, m1lt, nIlm, m1le, nIlem, nIneg, u2_ss, u2_nn, u2_kk, nIm1n, m1nIn, m1ltn, nIlmn, m1len, nIlemn]; omega
      · rw [k16, k7, nIc (by omega), nIc (by omega), e6, show nI nm.length + 1 = nI (nm.length + 1) from nI_add _ 1, show nI (i + 1) + 1 = nI (i + 2) from nI_add _ 1]
        refine ht hn (fun f => by unfold newN; rw [if_pos hn, if_pos e]) (by omega) _ _ ⟨?_, fun k hk => ?_⟩ (u2_ss _ _ _ _) (by rw [u2_kk _ _ _ _ (by decide), u2_kk _ _ _ _ (by decide), u2_nn _ _ _ _ (by decide)]; exact k8) (fun k x h1 h2 => ?_) (Kp.rf.up (by simp))
        · rw [u2_kk _ _ _ _ (by decide), u2_ss, List.length_append]; rfl
        · rw [List.length_append, List.length_singleton] at hk
          by_cases e : k = nm.length
          · subst e
            refine ⟨?_, ?_⟩
            · rw [u2_ss]
              simp
            · rw [u2_nn _ _ _ _ (by decide), u2_nn _ _ _ _ (by decide), u2_ss]
              simp
          · rw [List.getD_eq_getElem?_getD, List.getElem?_append_left (by omega), ← List.getD_eq_getElem?_getD]
            have hx := hNm1.2 k (by omega)
            refine ⟨?_, ?_⟩
            · rw [u2_kk _ _ _ _ e]; exact hx.1
            · rw [u2_nn _ _ _ _ (by decide), u2_nn _ _ _ _ (by decide), u2_kk _ _ _ _ e]; exact hx.2
        · by_cases hk : k = 92
          · subst hk
            rw [u2_kk _ _ _ _ (fun e => h2 ⟨rfl, Or.inl e⟩), u2_kk _ _ _ _ (fun e => h2 ⟨rfl, Or.inr e⟩), u2_nn _ _ _ _ (by decide)]
            exact hF1 _ _ (fun e => h2 ⟨rfl, Or.inl e.2⟩)
          · rw [u2_nn _ _ _ _ hk, u2_nn _ _ _ _ hk, u2_nn _ _ _ _ h1]
            exact hF1 _ _ (fun e => hk e.1)
    · have ht1000 : t < 1000 := htg t e
      refine RX12_readName_29 ⟨fun c => absurd c (i32_ltz (by omega)), fun _ => ?_⟩
      exact hfl 3 (by decide) (by decide) (fun f => by unfold newN; rw [if_pos hn, if_neg (by rw [e]; exact fun hh => nomatch hh)])
  · exact RX12_readName_14 ⟨fun c => absurd rfl c, fun _ => by
      have hvv := fK_f hT (i := i + 1) (k := 1) (by decide) (by decide)
      refine wrongM_ok (k := 1) hT hB1.2.2.1 k8 k7 (by omega) (RX12_readName_22 (RX12_readName_37 ⟨fun _ => hf _ _ (fun f => if_neg hn) hvv (u2_ss _ _ _ _) (hF1.f.u (Or.inr rfl)), fun c => ?_⟩))
      exfalso; rw [u2_ss] at c; simp (disch := omega) only [nlit, natrem, nIrm, nIam, nIam',  nI_add, pk_mul, nIsub, nIrem, nIdiv, nIand1, nIand3, nIand7, nIand31, nIshr, nIle, nIlt, nIeq, nIc, vpI, nIm1, m1nI, m1lt, nIlm, m1le, nIlem, nIneg, u2_ss, u2_nn, u2_kk, nIm1n, m1nIn, m1ltn, nIlmn, m1len, nIlemn] at c; omega⟩
