/-! the model reads a law -/
def VP (sub : Nat → Rs) : Prop := ∀ i v, sub i = .inl v → isF v
theorem lpO_vp {ts : List Tk} {sub : Nat → Rs} {op : Nat → Nat} (h : VP sub) : ∀ n i c v, lpO ts sub op n i c = .inl v → isF v
  | 0, i, c, v, e => by cases e
  | n + 1, i, c, v, e => by
    unfold lpO at e
    split at e
    · cases e
    · rcases bnd_cs e with ⟨w, h1, h2⟩ | ⟨j1, e1, h1, h2⟩
      · cases h2; exact h _ _ h1
      · exact lpO_vp h n _ _ v h2
theorem chn_vp {ts : List Tk} {sub : Nat → Rs} {op : Nat → Nat} (h : VP sub) : VP (chn ts sub op) := by
  intro i v e
  rcases bnd_cs e with ⟨w, h1, h2⟩ | ⟨j1, e1, h1, h2⟩
  · cases h2; exact h _ _ h1
  · exact lpO_vp h _ _ _ v h2
theorem rgT_vp {ts : List Tk} {sub : Nat → Rs} (h : VP sub) : VP (rgT ts sub) := by
  have hs : VP (rgS ts sub) := chn_vp (chn_vp h)
  intro i v e
  rcases bnd_cs e with ⟨w, h1, h2⟩ | ⟨j1, e1, h1, h2⟩
  · cases h2; exact hs _ _ h1
  · split at h2
    · cases h2
    · rcases bnd_cs h2 with ⟨w, h3, h4⟩ | ⟨j2, e2, h3, h4⟩
      · cases h4; exact hs _ _ h3
      · cases h4
theorem rgA_vp {ts : List Tk} {sub : Nat → Rs} (h : VP sub) : VP (rgA ts sub) := chn_vp (rgT_vp h)
theorem fK_f {ts : List Tk} (hT : TkOk ts) {k i : Nat} (h : 1 ≤ k) (h5 : k ≤ 5) : isF (fK ts k i) := ⟨by have := fK_nz (ts := ts) (i := i) h; omega, fK_lt hT h5 i⟩
theorem rgQ_vp {ts : List Tk} (hT : TkOk ts) : ∀ r, VP (rgQ ts r)
  | 0 => by
    intro i v e
    unfold rgQ at e
    split at e
    · cases e; exact fK_f hT (by decide) (by decide)
    · cases e; exact fK_f hT (by decide) (by decide)
  | r + 1 => by
    intro i v e
    unfold rgQ at e
    split at e
    · cases e; exact fK_f hT (by decide) (by decide)
    split at e
    · rcases bnd_cs e with ⟨w, h1, h2⟩ | ⟨j1, e1, h1, h2⟩
      · cases h2; exact rgQ_vp hT r _ _ h1
      · cases h2
    split at e
    · rcases bnd_cs e with ⟨w, h1, h2⟩ | ⟨j1, e1, h1, h2⟩
      · cases h2; exact rgA_vp (rgQ_vp hT r) _ _ h1
      · split at h2
        · cases h2
        · cases h2; exact fK_f hT (by decide) (by decide)
    · cases e
/-- what reading a law leaves -/
def FL (I J : Ints) : Prop := ∀ k i, ¬ (k = 92 ∧ (i = 7 ∨ i = 8 ∨ i = 13)) → ¬ ((k = 99 ∨ k = 100) ∧ 1100 ≤ i) → J k i = I k i
theorem FL.rf {I : Ints} : FL I I := fun _ _ _ _ => rfl
theorem FL.tr {I J K : Ints} (h : FL I J) (h2 : FL J K) : FL I K := fun k i a b => (h2 k i a b).trans (h k i a b)
theorem FL.u {I J : Ints} (h : FL I J) {o k : Nat} {v : Int32} (hc : (o = 92 ∧ (k = 7 ∨ k = 8 ∨ k = 13)) ∨ ((o = 99 ∨ o = 100) ∧ 1100 ≤ k)) : FL I (u2 J o k v) := by
  intro a b h1 h2
  rw [← h a b h1 h2]
  unfold u2
  by_cases ha : a = o
  · by_cases hb : b = k
    · subst ha; subst hb
      rcases hc with hc | hc
      · exact absurd hc h1
      · exact absurd hc h2
    · rw [if_pos ha, if_neg hb]
  · rw [if_neg ha]
theorem FL.ar {I J : Ints} (h : FL I J) {k : Nat} (h1 : k ≠ 92) (h2 : k ≠ 99) (h3 : k ≠ 100) (i : Nat) : J k i = I k i := h k i (fun e => h1 e.1) (fun e => by rcases e.1 with e | e <;> omega)
def cdE (I : Ints) (C : Cd) : Prop := ∀ k, k < C.length → I 99 (1100 + k) = nI (C.getD k (0, 0)).1 ∧ I 100 (1100 + k) = nI (C.getD k (0, 0)).2
def LwM (i : Nat) (C : Cd) (I : Ints) : Prop := I 92 7 = nI i ∧ I 92 8 = nI 0 ∧ I 92 13 = nI C.length ∧ cdE I C
theorem LwM.at {i j : Nat} {C : Cd} {I : Ints} (h : LwM i C I) : LwM j C (u2 I 92 7 (nI j)) :=
  ⟨u2_ss _ _ _ _, by rw [u2_kk _ _ _ _ (by decide)]; exact h.2.1, by rw [u2_kk _ _ _ _ (by decide)]; exact h.2.2.1, fun k hk => by rw [u2_nn _ _ _ _ (by decide), u2_nn _ _ _ _ (by decide)]; exact h.2.2.2 k hk⟩
theorem LwM.emit {i : Nat} {C : Cd} {I : Ints} (h : LwM i C I) {o v : Nat} : LwM i (C ++ [(o, v)]) (u2 (u2 (u2 I 99 (1100 + C.length) (nI o)) 100 (1100 + C.length) (nI v)) 92 13 (nI (C.length + 1))) := by
  refine ⟨?_, ?_, ?_, fun k hk => ?_⟩
  · rw [u2_kk _ _ _ _ (by decide), u2_nn _ _ _ _ (by decide), u2_nn _ _ _ _ (by decide)]; exact h.1
  · rw [u2_kk _ _ _ _ (by decide), u2_nn _ _ _ _ (by decide), u2_nn _ _ _ _ (by decide)]; exact h.2.1
  · rw [u2_ss, List.length_append]; rfl
  · rw [List.length_append, List.length_singleton] at hk
    by_cases e : k = C.length
    · subst e
      refine ⟨?_, ?_⟩
      · rw [u2_nn _ _ _ _ (by decide), u2_nn _ _ _ _ (by decide), u2_ss]
        simp
      · rw [u2_nn _ _ _ _ (by decide), u2_ss]
        simp
    · have := h.2.2.2 k (by omega)
      rw [List.getD_eq_getElem?_getD, List.getElem?_append_left (by omega), ← List.getD_eq_getElem?_getD]
      refine ⟨?_, ?_⟩
      · rw [u2_nn _ _ _ _ (by decide), u2_nn _ _ _ _ (by decide), u2_kk _ _ _ _ (by omega)]
        exact this.1
      · rw [u2_nn _ _ _ _ (by decide), u2_kk _ _ _ _ (by omega), u2_nn _ _ _ _ (by decide)]
        exact this.2
theorem LwM.cast {i : Nat} {C C' : Cd} {I : Ints} (h : LwM i C I) (e : C = C') : LwM i C' I := e ▸ h
def FcM (I : Ints) : Prop := I 103 0 = nI 25 ∧ I 103 1 = nI 26 ∧ I 103 2 = nI 10 ∧ I 103 3 = nI 27
def MB (ts : List Tk) (N : Nat) (I : Ints) (L : Lngs) : Prop := TkOk ts ∧ Ends ts N ∧ TkM ts I L ∧ WdM L ∧ FcM I
theorem MB.tk {ts : List Tk} {N : Nat} {I J : Ints} {L : Lngs} (h : MB ts N I L) (hF : FL I J) : TkM ts J L := h.2.2.1.fr (hF.ar (by decide) (by decide) (by decide)) (hF.ar (by decide) (by decide) (by decide)) (fun _ => rfl)
def MS (sx : Sx) (ts : List Tk) (N : Nat) (I0 : Ints) (L : Lngs) (R : Rfs) (mi : MI) (k : Nat) (sub : Nat → Rs) (B dep : Nat) : Prop := ∀ (d : Nat) (q : Q3) (I : Ints) (C : Cd) (i : Nat), FL I0 I → LwM i C I → i ≤ N → C.length ≤ i →
  (∀ v m J, sub i = .inl v → J 92 8 = nI v → J 92 13 = nI m → m ≤ N + B → FL I0 J → q none J L R) →
  (∀ j c J, sub i = .inr (j, c) → LwM j (C ++ c) J → FL I0 J → q none J L R) → E0 mi (d + k + 3) sx [.ref 92, .int (nI dep)] I L R q
theorem mProd {sx : Sx} {ts : List Tk} {N : Nat} {I0 : Ints} {L : Lngs} {R : Rfs} {k D B dep : Nat} {sub : Nat → Rs} (hB : MB ts N I0 L) (hg : Good N D sub) (hv : VP sub) (hb : B ≤ 50) (h : MS sx ts N I0 L R mX12_takePart k sub B dep) : MS sx ts N I0 L R mX12_products (k + 1) (chn ts sub opM) (B + 1) dep := by
  intro d q I C i0 hF0 hL0 hi0 hC0 hf ht
  obtain ⟨hT, hE, -, hW, -⟩ := id hB
  have hN := hE.1
  have hlen := hE.2.1
  have hflt : ∀ v m J, chn ts sub opM i0 = .inl v → J 92 8 = nI v → J 92 13 = nI m → m ≤ N + (B + 1) → FL I0 J → Y mX12_products (d + (k + 1) + 3) sx 5 [(0, .ref 92), (1, .int (nI dep))] [] J L R q := by
    intro v m J e h8 h13 hm hFJ
    have hvv := chn_vp hv _ _ e
    exact RX12_products_5 (hasSignM_f hvv h8 (RX12_products_11 ⟨fun _ => hf v m J e h8 h13 hm hFJ, fun c => absurd rfl c⟩))
  have hlp : ∀ n i c I, FL I0 I → LwM i (C ++ c) I → i ≤ N → N < i + n → C.length + c.length ≤ i → chn ts sub opM i0 = lpO ts sub opM n i c → Y mX12_products (d + (k + 1) + 3) sx 5 [(0, .ref 92), (1, .int (nI dep))] [] I L R q := by
    intro n
    induction n with
    | zero => intro i c I _ _ hi hn; omega
    | succ n ih =>
      intro i c I hF hL hi hn hC e
      refine RX12_products_5 (hasSignM_ok (c := 42) hT (hB.tk hF) hL.2.1 hL.1 (by omega) (by decide) (fun es => ?_) (fun es => ?_))
      · have hop : opM (sK ts i) = 6 := by rw [es]; rfl
        have e : chn ts sub opM i0 = bnd (sub (i + 1)) (fun j e => lpO ts sub opM n j (c ++ e ++ [(6, 0)])) := by
          rw [e]
          show (if _ then _ else _) = _
          rw [hop]
          rfl
        have hiN : i < N := by
          refine Nat.lt_of_le_of_ne hi (fun e => ?_)
          rw [e, hE.2.2.1] at es
          omega
        refine RX12_products_11 ⟨fun c => absurd c (by decide), fun _ => ?_⟩
        refine h d _ _ (C ++ c) (i + 1) (hF.u (Or.inl ⟨rfl, Or.inl rfl⟩)) hL.at (by omega) (by simp; omega) (fun v m J hs h8 h13 hm hFJ => ?_) (fun j c2 J hs hJ hFJ => ?_)
        · refine RX12_products_19 (emitM_ok (o := 6) (v := 0) h13 (by omega) (RX12_products_26 ?_))
          exact hflt v (m + 1) _ (by rw [e]; exact bnd_l hs) (by rw [u2_kk _ _ _ _ (by decide), u2_nn _ _ _ _ (by decide), u2_nn _ _ _ _ (by decide)]; exact h8) (u2_ss _ _ _ _) (by omega) (((hFJ.u (Or.inr ⟨Or.inl rfl, by omega⟩)).u (Or.inr ⟨Or.inr rfl, by omega⟩)).u (Or.inl ⟨rfl, by omega⟩))
        · obtain ⟨⟨g1, g2, g3⟩, -, -⟩ := hg _ (by omega) _ _ hs
          refine RX12_products_19 (emitM_ok (o := 6) (v := 0) hJ.2.2.1 (by simp; omega) (RX12_products_26 ?_))
          refine ih j (c ++ c2 ++ [(6, 0)]) _ (((hFJ.u (Or.inr ⟨Or.inl rfl, by omega⟩)).u (Or.inr ⟨Or.inr rfl, by omega⟩)).u (Or.inl ⟨rfl, by omega⟩)) (hJ.emit.cast (by simp)) g2 (by omega) (by simp; omega) ?_
          rw [e]
          exact bnd_r hs
      · have hop : opM (sK ts i) = 0 := by unfold opM; rw [if_neg es]
        have e : chn ts sub opM i0 = .inr (i, c) := by
          rw [e]
          show (if _ then _ else _) = _
          rw [if_pos hop]
        exact RX12_products_11 ⟨fun _ => ht i c I e hL hF, fun c => absurd rfl c⟩
  refine EX12_products ?_
  refine h d _ I C i0 hF0 hL0 hi0 hC0 (fun v m J hs h8 h13 hm hFJ => ?_) (fun j c J hs hJ hFJ => ?_)
  · exact hflt v m J (bnd_l hs) h8 h13 (by omega) hFJ
  · obtain ⟨⟨g1, g2, g3⟩, -, -⟩ := hg _ hi0 _ _ hs
    exact hlp 1001 j c J hFJ hJ g2 (by omega) (by omega) (bnd_r hs)
theorem mSums {sx : Sx} {ts : List Tk} {N : Nat} {I0 : Ints} {L : Lngs} {R : Rfs} {k D B dep : Nat} {sub : Nat → Rs} (hB : MB ts N I0 L) (hg : Good N D sub) (hv : VP sub) (hb : B ≤ 50) (h : MS sx ts N I0 L R mX12_products k sub B dep) : MS sx ts N I0 L R mX12_sums (k + 1) (chn ts sub opS) (B + 1) dep := by
  intro d q I C i0 hF0 hL0 hi0 hC0 hf ht
  obtain ⟨hT, hE, -, hW, -⟩ := id hB
  have hN := hE.1
  have hlen := hE.2.1
  have hflt : ∀ v m J, chn ts sub opS i0 = .inl v → J 92 8 = nI v → J 92 13 = nI m → m ≤ N + (B + 1) → FL I0 J → Y mX12_sums (d + (k + 1) + 3) sx 5 [(0, .ref 92), (1, .int (nI dep))] [] J L R q := by
    intro v m J e h8 h13 hm hFJ
    have hvv := chn_vp hv _ _ e
    exact RX12_sums_5 (isSignM_f hvv h8 (RX12_sums_11 ⟨fun c => absurd rfl c, fun _ => isSignM_f hvv h8 (RX12_sums_20 ⟨fun _ => hf v m J e h8 h13 hm hFJ, fun c => absurd rfl c⟩)⟩))
  have hlp : ∀ n i c I, FL I0 I → LwM i (C ++ c) I → i ≤ N → N < i + n → C.length + c.length ≤ i → chn ts sub opS i0 = lpO ts sub opS n i c → Y mX12_sums (d + (k + 1) + 3) sx 5 [(0, .ref 92), (1, .int (nI dep))] [] I L R q := by
    intro n
    induction n with
    | zero => intro i c I _ _ hi hn; omega
    | succ n ih =>
      intro i c I hF hL hi hn hC e
      have hil : i < ts.length := by omega
      have hgo : ∀ o : Nat, o ≠ 0 → opS (sK ts i) = o → ∀ s0 : Int32, (s0 = 0 → o = 5) → (¬ s0 = 0 → o = 4) → Y mX12_sums (d + (k + 1) + 3) sx 29 [(0, .ref 92), (1, .int (nI dep))] [.int s0] I L R q := by
        intro o ho0 hop s0 hs0 hs1
        have e : chn ts sub opS i0 = bnd (sub (i + 1)) (fun j e => lpO ts sub opS n j (c ++ e ++ [(o, 0)])) := by
          rw [e]
          show (if _ then _ else _) = _
          rw [hop, if_neg ho0]
        have hiN : i < N := by
          refine Nat.lt_of_le_of_ne hi (fun e => ?_)
          rw [e, hE.2.2.1] at hop
          exact ho0 hop.symm
        refine RX12_sums_29 ?_
        rw [hL.1, show nI i + 1 = nI (i + 1) from nI_add i 1]
        refine h d _ _ (C ++ c) (i + 1) (hF.u (Or.inl ⟨rfl, Or.inl rfl⟩)) hL.at (by omega) (by simp; omega) (fun v m J hs h8 h13 hm hFJ => ?_) (fun j c2 J hs hJ hFJ => ?_)
        · have hend : ∀ o', E0 mX12_emit (d + (k + 1) + 2) sx [.ref 92, .int (nI o'), .int (nI 0)] J L R (fun r J K T => Y mX12_sums (d + (k + 1) + 3) sx 59 [(0, .ref 92), (1, .int (nI dep))] (r.toList ++ []) J K T q) := by
            intro o'
            refine emitM_ok h13 (by omega) (RX12_sums_59 ?_)
            exact hflt v (m + 1) _ (by rw [e]; exact bnd_l hs) (by rw [u2_kk _ _ _ _ (by decide), u2_nn _ _ _ _ (by decide), u2_nn _ _ _ _ (by decide)]; exact h8) (u2_ss _ _ _ _) (by omega) (((hFJ.u (Or.inr ⟨Or.inl rfl, by omega⟩)).u (Or.inr ⟨Or.inr rfl, by omega⟩)).u (Or.inl ⟨rfl, by omega⟩))
          exact RX12_sums_45 ⟨fun _ => hend 5, fun _ => hend 4⟩
        · obtain ⟨⟨g1, g2, g3⟩, -, -⟩ := hg _ (by omega) _ _ hs
          have hend : ∀ o', o' = o → E0 mX12_emit (d + (k + 1) + 2) sx [.ref 92, .int (nI o'), .int (nI 0)] J L R (fun r J K T => Y mX12_sums (d + (k + 1) + 3) sx 59 [(0, .ref 92), (1, .int (nI dep))] (r.toList ++ []) J K T q) := by
            intro o' eo
            subst eo
            refine emitM_ok hJ.2.2.1 (by simp; omega) (RX12_sums_59 ?_)
            refine ih j (c ++ c2 ++ [(o', 0)]) _ (((hFJ.u (Or.inr ⟨Or.inl rfl, by omega⟩)).u (Or.inr ⟨Or.inr rfl, by omega⟩)).u (Or.inl ⟨rfl, by omega⟩)) (hJ.emit.cast (by simp)) g2 (by omega) (by simp; omega) ?_
            rw [e]
            exact bnd_r hs
          exact RX12_sums_45 ⟨fun cc => hend 5 (hs0 cc).symm, fun cc => hend 4 (hs1 cc).symm⟩
      refine RX12_sums_5 (isSignM_ok (c := 43) hT (hB.tk hF) hL.2.1 hL.1 hil (by decide) (fun es => ?_) (fun es => ?_))
      · refine RX12_sums_11 ⟨fun _ => ?_, fun c => absurd c (by decide)⟩
        refine isSignM_ok (c := 43) hT (hB.tk hF) hL.2.1 hL.1 hil (by decide) (fun _ => ?_) (fun ec => absurd es ec)
        exact hgo 4 (by decide) (by rw [es]; rfl) 1 (fun c => absurd c (by decide)) (fun _ => rfl)
      · refine RX12_sums_11 ⟨fun c => absurd rfl c, fun _ => ?_⟩
        refine isSignM_ok (c := 45) hT (hB.tk hF) hL.2.1 hL.1 hil (by decide) (fun es2 => ?_) (fun es2 => ?_)
        · refine RX12_sums_20 ⟨fun c => absurd c (by decide), fun _ => ?_⟩
          refine isSignM_ok (c := 43) hT (hB.tk hF) hL.2.1 hL.1 hil (by decide) (fun ec => absurd ec es) (fun _ => ?_)
          exact hgo 5 (by decide) (by rw [es2]; rfl) 0 (fun _ => rfl) (fun c => absurd rfl c)
        · have hop : opS (sK ts i) = 0 := by unfold opS; rw [if_neg es, if_neg es2]
          have e : chn ts sub opS i0 = .inr (i, c) := by
            rw [e]
            show (if _ then _ else _) = _
            rw [if_pos hop]
          exact RX12_sums_20 ⟨fun _ => ht i c I e hL hF, fun c => absurd rfl c⟩
  refine EX12_sums ?_
  refine h d _ I C i0 hF0 hL0 hi0 hC0 (fun v m J hs h8 h13 hm hFJ => ?_) (fun j c J hs hJ hFJ => ?_)
  · exact hflt v m J (bnd_l hs) h8 h13 (by omega) hFJ
  · obtain ⟨⟨g1, g2, g3⟩, -, -⟩ := hg _ hi0 _ _ hs
    exact hlp 1001 j c J hFJ hJ g2 (by omega) (by omega) (bnd_r hs)
theorem mAll {sx : Sx} {ts : List Tk} {N : Nat} {I0 : Ints} {L : Lngs} {R : Rfs} {k D B dep : Nat} {sub : Nat → Rs} (hB : MB ts N I0 L) (hg : Good N D sub) (hv : VP sub) (hb : B ≤ 50) (h : MS sx ts N I0 L R mX12_test k sub B dep) : MS sx ts N I0 L R mX12_all (k + 1) (chn ts sub opA) (B + 1) dep := by
  intro d q I C i0 hF0 hL0 hi0 hC0 hf ht
  obtain ⟨hT, hE, -, hW, -⟩ := id hB
  have hN := hE.1
  have hlen := hE.2.1
  have hflt : ∀ v m J, chn ts sub opA i0 = .inl v → J 92 8 = nI v → J 92 13 = nI m → m ≤ N + (B + 1) → FL I0 J → Y mX12_all (d + (k + 1) + 3) sx 5 [(0, .ref 92), (1, .int (nI dep))] [] J L R q := by
    intro v m J e h8 h13 hm hFJ
    have hvv := chn_vp hv _ _ e
    exact RX12_all_5 (isWordM_f hvv h8 (RX12_all_11 ⟨fun c => absurd rfl c, fun _ => isWordM_f hvv h8 (RX12_all_20 ⟨fun _ => hf v m J e h8 h13 hm hFJ, fun c => absurd rfl c⟩)⟩))
  have hlp : ∀ n i c I, FL I0 I → LwM i (C ++ c) I → i ≤ N → N < i + n → C.length + c.length ≤ i → chn ts sub opA i0 = lpO ts sub opA n i c → Y mX12_all (d + (k + 1) + 3) sx 5 [(0, .ref 92), (1, .int (nI dep))] [] I L R q := by
    intro n
    induction n with
    | zero => intro i c I _ _ hi hn; omega
    | succ n ih =>
      intro i c I hF hL hi hn hC e
      have hil : i < ts.length := by omega
      have hgo : ∀ o : Nat, o ≠ 0 → opA (sK ts i) = o → ∀ s0 : Int32, (s0 = 0 → o = 10) → (¬ s0 = 0 → o = 9) → Y mX12_all (d + (k + 1) + 3) sx 29 [(0, .ref 92), (1, .int (nI dep))] [.int s0] I L R q := by
        intro o ho0 hop s0 hs0 hs1
        have e : chn ts sub opA i0 = bnd (sub (i + 1)) (fun j e => lpO ts sub opA n j (c ++ e ++ [(o, 0)])) := by
          rw [e]
          show (if _ then _ else _) = _
          rw [hop, if_neg ho0]
        have hiN : i < N := by
          refine Nat.lt_of_le_of_ne hi (fun e => ?_)
          rw [e, hE.2.2.1] at hop
          exact ho0 hop.symm
        refine RX12_all_29 ?_
        rw [hL.1, show nI i + 1 = nI (i + 1) from nI_add i 1]
        refine h d _ _ (C ++ c) (i + 1) (hF.u (Or.inl ⟨rfl, Or.inl rfl⟩)) hL.at (by omega) (by simp; omega) (fun v m J hs h8 h13 hm hFJ => ?_) (fun j c2 J hs hJ hFJ => ?_)
        · have hend : ∀ o', E0 mX12_emit (d + (k + 1) + 2) sx [.ref 92, .int (nI o'), .int (nI 0)] J L R (fun r J K T => Y mX12_all (d + (k + 1) + 3) sx 61 [(0, .ref 92), (1, .int (nI dep))] (r.toList ++ []) J K T q) := by
            intro o'
            refine emitM_ok h13 (by omega) (RX12_all_61 ?_)
            exact hflt v (m + 1) _ (by rw [e]; exact bnd_l hs) (by rw [u2_kk _ _ _ _ (by decide), u2_nn _ _ _ _ (by decide), u2_nn _ _ _ _ (by decide)]; exact h8) (u2_ss _ _ _ _) (by omega) (((hFJ.u (Or.inr ⟨Or.inl rfl, by omega⟩)).u (Or.inr ⟨Or.inr rfl, by omega⟩)).u (Or.inl ⟨rfl, by omega⟩))
          exact RX12_all_45 ⟨fun _ => hend 10, fun _ => hend 9⟩
        · obtain ⟨⟨g1, g2, g3⟩, -, -⟩ := hg _ (by omega) _ _ hs
          have hend : ∀ o', o' = o → E0 mX12_emit (d + (k + 1) + 2) sx [.ref 92, .int (nI o'), .int (nI 0)] J L R (fun r J K T => Y mX12_all (d + (k + 1) + 3) sx 61 [(0, .ref 92), (1, .int (nI dep))] (r.toList ++ []) J K T q) := by
            intro o' eo
            subst eo
            refine emitM_ok hJ.2.2.1 (by simp; omega) (RX12_all_61 ?_)
            refine ih j (c ++ c2 ++ [(o', 0)]) _ (((hFJ.u (Or.inr ⟨Or.inl rfl, by omega⟩)).u (Or.inr ⟨Or.inr rfl, by omega⟩)).u (Or.inl ⟨rfl, by omega⟩)) (hJ.emit.cast (by simp)) g2 (by omega) (by simp; omega) ?_
            rw [e]
            exact bnd_r hs
          exact RX12_all_45 ⟨fun cc => hend 10 (hs0 cc).symm, fun cc => hend 9 (hs1 cc).symm⟩
      refine RX12_all_5 (isWordM_ok (w := 23) hT (hB.tk hF) hW hL.2.1 hL.1 hil (by decide) (fun es => ?_) (fun es => ?_))
      · refine RX12_all_11 ⟨fun _ => ?_, fun c => absurd c (by decide)⟩
        refine isWordM_ok (w := 23) hT (hB.tk hF) hW hL.2.1 hL.1 hil (by decide) (fun _ => ?_) (fun ec => absurd es ec)
        exact hgo 9 (by decide) (by rw [es]; rfl) 1 (fun c => absurd c (by decide)) (fun _ => rfl)
      · refine RX12_all_11 ⟨fun c => absurd rfl c, fun _ => ?_⟩
        refine isWordM_ok (w := 24) hT (hB.tk hF) hW hL.2.1 hL.1 hil (by decide) (fun es2 => ?_) (fun es2 => ?_)
        · refine RX12_all_20 ⟨fun c => absurd c (by decide), fun _ => ?_⟩
          refine isWordM_ok (w := 23) hT (hB.tk hF) hW hL.2.1 hL.1 hil (by decide) (fun ec => absurd ec es) (fun _ => ?_)
          exact hgo 10 (by decide) (by rw [es2]; rfl) 0 (fun _ => rfl) (fun c => absurd rfl c)
        · have hop : opA (sK ts i) = 0 := by unfold opA; rw [if_neg es, if_neg es2]
          have e : chn ts sub opA i0 = .inr (i, c) := by
            rw [e]
            show (if _ then _ else _) = _
            rw [if_pos hop]
          exact RX12_all_20 ⟨fun _ => ht i c I e hL hF, fun c => absurd rfl c⟩
  refine EX12_all ?_
  refine h d _ I C i0 hF0 hL0 hi0 hC0 (fun v m J hs h8 h13 hm hFJ => ?_) (fun j c J hs hJ hFJ => ?_)
  · exact hflt v m J (bnd_l hs) h8 h13 (by omega) hFJ
  · obtain ⟨⟨g1, g2, g3⟩, -, -⟩ := hg _ hi0 _ _ hs
    exact hlp 1001 j c J hFJ hJ g2 (by omega) (by omega) (bnd_r hs)
theorem mTest {sx : Sx} {ts : List Tk} {N : Nat} {I0 : Ints} {L : Lngs} {R : Rfs} {k D B dep : Nat} {sub : Nat → Rs} (hB : MB ts N I0 L) (hg : Good N D (rgS ts sub)) (hv : VP (rgS ts sub)) (hb : B ≤ 50) (h : MS sx ts N I0 L R mX12_sums k (rgS ts sub) B dep) : MS sx ts N I0 L R mX12_test (k + 1) (rgT ts sub) (B + 1) dep := by
  intro d q I C i0 hF0 hL0 hi0 hC0 hf ht
  obtain ⟨hT, hE, -, hW, -⟩ := id hB
  have hN := hE.1
  have hlen := hE.2.1
  refine EX12_test ?_
  refine h d _ I C i0 hF0 hL0 hi0 hC0 (fun v m J hs h8 h13 hm hFJ => ?_) (fun j c J hs hJ hFJ => ?_)
  · have hvv := hv _ _ hs
    refine RX12_test_5 (isSignM_f hvv h8 (RX12_test_11 (hasSignM_f hvv h8 (RX12_test_18 ⟨fun c => absurd rfl c, fun _ => hasSignM_f hvv h8 (RX12_test_27 ⟨fun _ => RX12_test_51 ?_, fun c => absurd rfl c⟩)⟩))))
    exact hf v m J (bnd_l hs) h8 h13 (by omega) hFJ
  · obtain ⟨⟨g1, g2, g3⟩, -, -⟩ := hg _ hi0 _ _ hs
    have hil : j < ts.length := by omega
    have e0 : rgT ts sub i0 = (if opC (sK ts j) = 0 then .inr (j, c) else bnd (rgS ts sub (j + 1)) (fun k e => .inr (k, c ++ e ++ [(opC (sK ts j), 0)]))) := bnd_r hs
    have hgo : ∀ o : Nat, o ≠ 0 → opC (sK ts j) = o → ∀ s0 : Int32, (s0 = 0 → o = 8) → (¬ s0 = 0 → o = 7) → E0 mX12_sums (d + (k + 1) + 2) sx [.ref 92, .int (nI dep)] (u2 J 92 7 (nI (j + 1))) L R (fun r J K T => Y mX12_test (d + (k + 1) + 3) sx 35 [(0, .ref 92), (2, .int s0)] (r.toList ++ []) J K T q) := by
      intro o ho0 hop s0 hs0 hs1
      rw [hop, if_neg ho0] at e0
      have hiN : j < N := by
        refine Nat.lt_of_le_of_ne g2 (fun e => ?_)
        rw [e, hE.2.2.1] at hop
        exact ho0 hop.symm
      refine h d _ _ (C ++ c) (j + 1) (hFJ.u (Or.inl ⟨rfl, Or.inl rfl⟩)) hJ.at (by omega) (by simp; omega) (fun v m J2 hs2 h8 h13 hm hFJ2 => ?_) (fun j2 c2 J2 hs2 hJ2 hFJ2 => ?_)
      · have hend : ∀ o', E0 mX12_emit (d + (k + 1) + 2) sx [.ref 92, .int (nI o'), .int (nI 0)] J2 L R (fun r J K T => Y mX12_test (d + (k + 1) + 3) sx 51 [] (r.toList ++ []) J K T q) := by
          intro o'
          refine emitM_ok h13 (by omega) (RX12_test_51 ?_)
          exact hf v (m + 1) _ (by rw [e0]; exact bnd_l hs2) (by rw [u2_kk _ _ _ _ (by decide), u2_nn _ _ _ _ (by decide), u2_nn _ _ _ _ (by decide)]; exact h8) (u2_ss _ _ _ _) (by omega) (((hFJ2.u (Or.inr ⟨Or.inl rfl, by omega⟩)).u (Or.inr ⟨Or.inr rfl, by omega⟩)).u (Or.inl ⟨rfl, by omega⟩))
        exact RX12_test_35 ⟨fun _ => hend 8, fun _ => hend 7⟩
      · obtain ⟨⟨k1, k2, k3⟩, -, -⟩ := hg _ (by omega) _ _ hs2
        have hend : ∀ o', o' = o → E0 mX12_emit (d + (k + 1) + 2) sx [.ref 92, .int (nI o'), .int (nI 0)] J2 L R (fun r J K T => Y mX12_test (d + (k + 1) + 3) sx 51 [] (r.toList ++ []) J K T q) := by
          intro o' eo
          subst eo
          refine emitM_ok hJ2.2.2.1 (by simp; omega) (RX12_test_51 ?_)
          exact ht j2 (c ++ c2 ++ [(o', 0)]) _ (by rw [e0]; exact bnd_r hs2) (hJ2.emit.cast (by simp)) (((hFJ2.u (Or.inr ⟨Or.inl rfl, by omega⟩)).u (Or.inr ⟨Or.inr rfl, by omega⟩)).u (Or.inl ⟨rfl, by omega⟩))
        exact RX12_test_35 ⟨fun cc => hend 8 (hs0 cc).symm, fun cc => hend 7 (hs1 cc).symm⟩
    refine RX12_test_5 (isSignM_ok (c := 60) hT (hB.tk hFJ) hJ.2.1 hJ.1 hil (by decide) (fun es => ?_) (fun es => ?_))
    · refine RX12_test_11 (hasSignM_ok (c := 60) hT (hB.tk hFJ) hJ.2.1 hJ.1 hil (by decide) (fun _ => ?_) (fun ec => absurd es ec))
      exact RX12_test_18 ⟨fun _ => hgo 7 (by decide) (by rw [es]; rfl) 1 (fun c => absurd c (by decide)) (fun _ => rfl), fun c => absurd c (by decide)⟩
    · refine RX12_test_11 (hasSignM_ok (c := 60) hT (hB.tk hFJ) hJ.2.1 hJ.1 hil (by decide) (fun ec => absurd ec es) (fun _ => ?_))
      refine RX12_test_18 ⟨fun c => absurd rfl c, fun _ => ?_⟩
      refine hasSignM_ok (c := 61) hT (hB.tk hFJ) hJ.2.1 hJ.1 hil (by decide) (fun es2 => ?_) (fun es2 => ?_)
      · exact RX12_test_27 ⟨fun c => absurd c (by decide), fun _ => hgo 8 (by decide) (by rw [es2]; rfl) 0 (fun _ => rfl) (fun c => absurd rfl c)⟩
      · have hop : opC (sK ts j) = 0 := by unfold opC; rw [if_neg es, if_neg es2]
        rw [if_pos hop] at e0
        exact RX12_test_27 ⟨fun _ => RX12_test_51 (ht j c J e0 hJ hFJ), fun c => absurd rfl c⟩
theorem mAllOf {sx : Sx} {ts : List Tk} {N : Nat} {I0 : Ints} {L : Lngs} {R : Rfs} {k D B dep : Nat} {sub : Nat → Rs} (hB : MB ts N I0 L) (hg : Good N D sub) (hv : VP sub) (hb : B ≤ 40) (h : MS sx ts N I0 L R mX12_takePart k sub B dep) : MS sx ts N I0 L R mX12_all (k + 4) (rgA ts sub) (B + 4) dep := by
  have h1 := mProd hB hg hv (by omega) h
  have g1 := chn_good hB.2.1 hg opM_ok.1 opM_ok.2
  have h2 := mSums hB g1 (chn_vp hv) (by omega) h1
  have h3 := mTest hB (rgS_good hB.2.1 hg) (chn_vp (chn_vp hv)) (by omega) h2
  exact mAll hB (rgT_good hB.2.1 hg) (rgT_vp hv) (by omega) h3
def fwd (k : Nat) : Nat := if k = 0 then 25 else if k = 1 then 26 else if k = 2 then 10 else 27
theorem fwd_ok {I J : Ints} (h : FcM I) (hF : FL I J) {k : Nat} (hk : k < 4) : J 103 k = nI (fwd k) := by
  rw [hF.ar (by decide) (by decide) (by decide)]
  match k, hk with
  | 0, _ => exact h.1
  | 1, _ => exact h.2.1
  | 2, _ => exact h.2.2.1
  | 3, _ => exact h.2.2.2
theorem fwd_lt (k : Nat) : fwd k < 28 := by unfold fwd; (repeat' split) <;> omega
theorem fcn_fwd {s j : Nat} (h : fwd j = s) (hj : j < 4) : fcn s = j ∧ (s = 10 ∨ (25 ≤ s ∧ s ≤ 27)) := by
  match j, hj, h with
  | 0, _, h => subst h; exact ⟨rfl, by decide⟩
  | 1, _, h => subst h; exact ⟨rfl, by decide⟩
  | 2, _, h => subst h; exact ⟨rfl, by decide⟩
  | 3, _, h => subst h; exact ⟨rfl, by decide⟩
theorem fwd_no {s : Nat} (h : ∀ j, j < 4 → fwd j ≠ s) : ¬ (s = 10 ∨ (25 ≤ s ∧ s ≤ 27)) := by
  have h0 : 25 ≠ s := h 0 (by decide)
  have h1 : 26 ≠ s := h 1 (by decide)
  have h2 : 10 ≠ s := h 2 (by decide)
  have h3 : 27 ≠ s := h 3 (by decide)
  omega
/-- a part's loop over the facts, and the asks behind it -/
theorem mPartA {d : Nat} {sx : Sx} {q : Q3} {ts : List Tk} {N : Nat} {I0 I : Ints} {L : Lngs} {R : Rfs} {dep i : Nat} {C : Cd} (hB : MB ts N I0 L) (hF : FL I0 I) (hL : LwM i C I) (hi : i ≤ N) (hdep : dep ≤ 5)
    (h1 : ¬ bgs (sK ts i) → q none (u2 I 92 8 (nI (fK ts 1 i))) L R) (h5 : bgs (sK ts i) → dep = 5 → q none (u2 I 92 8 (nI (fK ts 5 i))) L R)
    (hgo : bgs (sK ts i) → dep < 5 → ∀ v2 v3, (v2 = 0 ↔ sK ts i ≠ 31) → (sK ts i ≠ 31 → sK ts i ≠ 22 → sK ts i ≠ 40 → v3 = nI (fcn (sK ts i))) → E0 mX12_hasWord (d + 2) sx [.ref 92, .int (nI 22)] I L R (fun r J K T => Y mX12_takePart (d + 3) sx 123 [(0, .ref 92), (1, .int (nI dep)), (2, .int v2), (3, .int v3)] (r.toList ++ []) J K T q)) :
    E0 mX12_takePart (d + 3) sx [.ref 92, .int (nI dep)] I L R q := by
  obtain ⟨hT, hE, -, hW, hFc⟩ := id hB
  have hN := hE.1
  have hlen := hE.2.1
  have hil : i < ts.length := by omega
  have hM := hB.tk hF
  have h7 := hL.1
  have h8 := hL.2.1
  have e4 := (hM.get hil).1
  have hm := mso_cs (sK_cs hT hil)
  have h8le : I 92 8 ≤ 0 := by rw [h8]; decide
  have d5 : (nI dep = 5) ↔ dep = 5 := nIeq (b := 5) (by omega) (by decide)
  have hw1 : ∀ v2 v3, ¬ bgs (sK ts i) → Y mX12_takePart (d + 3) sx 109 [(0, .ref 92), (1, .int (nI dep)), (2, .int v2), (3, .int v3)] [] (u2 I 92 8 (nI (fK ts 1 i))) L R q := by
    intro v2 v3 hb
    have := fK_f hT (k := 1) (i := i) (by decide) (by decide)
    refine RX12_takePart_109 ⟨fun c => ?_, fun _ => h1 hb⟩
    exfalso; rw [u2_ss] at c; simp (disch := omega) only [nlit, natrem, nIrm, nIam, nIam',  nI_add, pk_mul, nIsub, nIrem, nIdiv, nIand1, nIand3, nIand7, nIand31, nIshr, nIle, nIlt, nIeq, nIc, vpI, nIm1, m1nI, m1lt, nIlm, m1le, nIlem, nIneg, u2_ss, u2_nn, u2_kk, nIm1n, m1nIn, m1ltn, nIlmn, m1len, nIlemn] at c; omega
  have hw5 : ∀ v2 v3, bgs (sK ts i) → dep = 5 → Y mX12_takePart (d + 3) sx 109 [(0, .ref 92), (1, .int (nI dep)), (2, .int v2), (3, .int v3)] [] (u2 I 92 8 (nI (fK ts 5 i))) L R q := by
    intro v2 v3 hb hd
    have := fK_f hT (k := 5) (i := i) (by decide) (by decide)
    refine RX12_takePart_109 ⟨fun c => ?_, fun _ => h5 hb hd⟩
    exfalso; rw [u2_ss] at c; simp (disch := omega) only [nlit, natrem, nIrm, nIam, nIam',  nI_add, pk_mul, nIsub, nIrem, nIdiv, nIand1, nIand3, nIand7, nIand31, nIshr, nIle, nIlt, nIeq, nIc, vpI, nIm1, m1nI, m1lt, nIlm, m1le, nIlem, nIneg, u2_ss, u2_nn, u2_kk, nIm1n, m1nIn, m1ltn, nIlmn, m1len, nIlemn] at c; omega
  have hlp : ∀ n k v2 v3, n = 4 - k → k ≤ 4 → (v2 = 0 ↔ sK ts i ≠ 31) → ((∃ j, j < k ∧ fwd j = sK ts i ∧ v3 = nI j) ∨ ((∀ j, j < k → fwd j ≠ sK ts i) ∧ v3 = -1)) → Y mX12_takePart (d + 3) sx 32 [(0, .ref 92), (1, .int (nI dep)), (2, .int v2), (3, .int v3), (4, .int (nI k))] [] I L R q := by
    intro n
    induction n with
    | zero =>
      intro k v2 v3 hn hk hv2 hv3
      have ek : k = 4 := by omega
      subst ek
      refine RX12_takePart_32 ⟨fun c1 => ⟨fun c2 => ⟨fun c3 => ⟨fun c4 => ?_, fun c4 => absurd h8le c4⟩, fun c3 => ?_⟩, fun c2 => ⟨fun c3 => ⟨fun c4 => ⟨fun c5 => ?_, fun c5 => absurd h8le c5⟩, fun c4 => ?_⟩, fun c3 => ?_⟩⟩, fun c1 => absurd (by decide) c1⟩
      · rcases hv3 with ⟨j, hj, ej, rfl⟩ | ⟨hj, rfl⟩
        · have hf := fcn_fwd ej hj
          exact hgo (by unfold bgs; omega) (by rw [d5] at c3; omega) v2 _ hv2 (fun _ _ _ => by rw [hf.1])
        · exact absurd c2 (by decide)
      · rcases hv3 with ⟨j, hj, ej, rfl⟩ | ⟨hj, rfl⟩
        · have hf := fcn_fwd ej hj
          exact wrongM_ok (k := 5) hT hM h8 h7 hil (hw5 _ _ (by unfold bgs; omega) (d5.mp c3))
        · exact absurd c2 (by decide)
      · have h31 : sK ts i = 31 := Decidable.not_not.mp (fun hh => c3 (hv2.mpr hh))
        exact hgo (by unfold bgs; omega) (by rw [d5] at c4; omega) v2 _ hv2 (fun hh => absurd h31 hh)
      · have h31 : sK ts i = 31 := Decidable.not_not.mp (fun hh => c3 (hv2.mpr hh))
        exact wrongM_ok (k := 5) hT hM h8 h7 hil (hw5 _ _ (by unfold bgs; omega) (d5.mp c4))
      · have h31 := hv2.mp c3
        have hnf : ¬ (sK ts i = 10 ∨ (25 ≤ sK ts i ∧ sK ts i ≤ 27)) := by
          rcases hv3 with ⟨j, hj, ej, rfl⟩ | ⟨hj, rfl⟩
          · exfalso
            refine c2 ?_
            rw [show (0 : Int32) = nI 0 from rfl, nIle (by decide) (by omega)]
            omega
          · exact fwd_no hj
        refine isSignM_ok (c := 40) hT hM h8 h7 hil (by decide) (fun es => ?_) (fun es => ?_)
        · refine RX12_takePart_79 ⟨fun _ => ⟨fun c5 => ?_, fun c5 => ?_⟩, fun c => absurd c (by decide)⟩
          · exact RX12_takePart_109 ⟨fun _ => hgo (by unfold bgs; omega) (by rw [d5] at c5; omega) v2 v3 hv2 (fun _ _ hh => absurd es hh), fun c => absurd h8le c⟩
          · exact wrongM_ok (k := 5) hT hM h8 h7 hil (hw5 _ _ (by unfold bgs; omega) (d5.mp c5))
        · refine RX12_takePart_79 ⟨fun c => absurd rfl c, fun _ => ?_⟩
          refine isWordM_ok (w := 22) hT hM hW h8 h7 hil (by decide) (fun es2 => ?_) (fun es2 => ?_)
          · refine RX12_takePart_88 ⟨fun _ => ⟨fun c5 => ?_, fun c5 => ?_⟩, fun c => absurd c (by decide)⟩
            · exact RX12_takePart_109 ⟨fun _ => hgo (by unfold bgs; omega) (by rw [d5] at c5; omega) v2 v3 hv2 (fun _ hh _ => absurd es2 hh), fun c => absurd h8le c⟩
            · exact wrongM_ok (k := 5) hT hM h8 h7 hil (hw5 _ _ (by unfold bgs; omega) (d5.mp c5))
          · exact RX12_takePart_88 ⟨fun c => absurd rfl c, fun _ => wrongM_ok (k := 1) hT hM h8 h7 hil (RX12_takePart_96 (hw1 _ _ (by unfold bgs; omega)))⟩
    | succ n ih =>
      intro k v2 v3 hn hk hv2 hv3
      have hn1 : n = 4 - (k + 1) ∧ k + 1 ≤ 4 ∧ k < 4 := by clear hv3; omega
      refine RX12_takePart_32 ⟨fun c1 => ?_, fun c1 => ⟨?_, ?_⟩⟩
      · exfalso; clear hv3; simp (disch := omega) only [nlit, natrem, nIrm, nIam, nIam',  nI_add, pk_mul, nIsub, nIrem, nIdiv, nIand1, nIand3, nIand7, nIand31, nIshr, nIle, nIlt, nIeq, nIc, vpI, nIm1, m1nI, m1lt, nIlm, m1le, nIlem, nIneg, u2_ss, u2_nn, u2_kk, nIm1n, m1nIn, m1ltn, nIlmn, m1len, nIlemn] at c1; omega
      · clear hv3; simp (disch := omega) only [nlit, natrem, nIrm, nIam, nIam',  nI_add, pk_mul, nIsub, nIrem, nIdiv, nIand1, nIand3, nIand7, nIand31, nIshr, nIle, nIlt, nIeq, nIc, vpI, nIm1, m1nI, m1lt, nIlm, m1le, nIlem, nIneg, u2_ss, u2_nn, u2_kk, nIm1n, m1nIn, m1ltn, nIlmn, m1len, nIlemn]; omega
      · rw [nIc (Nat.lt_trans hn1.2.2 (by decide)), fwd_ok hFc hF hn1.2.2]
        have e1 : nI k + 1 = nI (k + 1) := nI_add k 1
        refine isWordM_ok hT hM hW h8 h7 hil (fwd_lt k) (fun es => ?_) (fun es => ?_)
        · refine RX12_takePart_49 ⟨fun c => absurd c (by decide), fun _ => ?_⟩
          rw [e1]
          exact ih (k + 1) v2 _ hn1.1 hn1.2.1 hv2 (Or.inl ⟨k, Nat.lt_succ_self k, es.symm, rfl⟩)
        · refine RX12_takePart_49 ⟨fun _ => ?_, fun c => absurd rfl c⟩
          rw [e1]
          refine ih (k + 1) v2 v3 hn1.1 hn1.2.1 hv2 ?_
          rcases hv3 with ⟨j, hj, ej⟩ | ⟨hj, ej⟩
          · exact Or.inl ⟨j, by omega, ej⟩
          · refine Or.inr ⟨fun j hj2 => ?_, ej⟩
            by_cases e : j = k
            · rw [e]; exact fun hh => es hh.symm
            · exact hj j (by omega)
  refine EX12_takePart ⟨fun _ => ⟨?_, fun c2 => ?_, fun c2 => ?_⟩, fun c => absurd h8le c⟩
  · rw [h7]; simp (disch := omega) only [nlit, natrem, nIrm, nIam, nIam',  nI_add, pk_mul, nIsub, nIrem, nIdiv, nIand1, nIand3, nIand7, nIand31, nIshr, nIle, nIlt, nIeq, nIc, vpI, nIm1, m1nI, m1lt, nIlm, m1le, nIlem, nIneg, u2_ss, u2_nn, u2_kk, nIm1n, m1nIn, m1ltn, nIlmn, m1len, nIlemn]; omega
  · rw [h7, nIc (by omega), e4] at c2
    simp (disch := omega) only [nlit, natrem, nIrm, nIam, nIam',  nI_add, pk_mul, nIsub, nIrem, nIdiv, nIand1, nIand3, nIand7, nIand31, nIshr, nIle, nIlt, nIeq, nIc, vpI, nIm1, m1nI, m1lt, nIlm, m1le, nIlem, nIneg, u2_ss, u2_nn, u2_kk, nIm1n, m1nIn, m1ltn, nIlmn, m1len, nIlemn] at c2
    rw [hm.2.2.1] at c2
    exact hlp 4 0 0 (-1) rfl (by decide) ⟨fun _ => c2, fun _ => rfl⟩ (Or.inr ⟨fun j hj => absurd hj (Nat.not_lt_zero _), rfl⟩)
  · rw [h7, nIc (by omega), e4] at c2
    simp (disch := omega) only [nlit, natrem, nIrm, nIam, nIam',  nI_add, pk_mul, nIsub, nIrem, nIdiv, nIand1, nIand3, nIand7, nIand31, nIshr, nIle, nIlt, nIeq, nIc, vpI, nIm1, m1nI, m1lt, nIlm, m1le, nIlem, nIneg, u2_ss, u2_nn, u2_kk, nIm1n, m1nIn, m1ltn, nIlmn, m1len, nIlemn] at c2
    rw [hm.2.2.1] at c2
    exact hlp 4 0 1 (-1) rfl (by decide) ⟨fun c => absurd c (by decide), fun hh => absurd c2 hh⟩ (Or.inr ⟨fun j hj => absurd hj (Nat.not_lt_zero _), rfl⟩)
theorem mPart {sx : Sx} {ts : List Tk} {N : Nat} {I0 : Ints} {L : Lngs} {R : Rfs} (hB : MB ts N I0 L) : ∀ r dep, r + dep = 5 → MS sx ts N I0 L R mX12_takePart (5 * r) (rgQ ts r) (4 * r) dep := by
  obtain ⟨hT, hE, -, hW, hFc⟩ := id hB
  have hN := hE.1
  have hlen := hE.2.1
  intro r
  induction r with
  | zero =>
    intro dep hdep d q I C i hF hL hi hC hf ht
    refine mPartA hB hF hL hi (by omega) (fun hb => ?_) (fun hb hd => ?_) (fun hb hd => by omega)
    · exact hf _ C.length _ (by show (if _ then _ else _) = _; rw [if_neg hb]) (u2_ss _ _ _ _) (by rw [u2_kk _ _ _ _ (by decide)]; exact hL.2.2.1) (by omega) (hF.u (Or.inl ⟨rfl, by omega⟩))
    · exact hf _ C.length _ (by show (if _ then _ else _) = _; rw [if_pos hb]) (u2_ss _ _ _ _) (by rw [u2_kk _ _ _ _ (by decide)]; exact hL.2.2.1) (by omega) (hF.u (Or.inl ⟨rfl, by omega⟩))
  | succ r ih =>
    intro dep hdep d q I C i hF hL hi hC hf ht
    have hsub := ih (dep + 1) (by omega)
    have hall := mAllOf hB (rgQ_good hT hE r) (rgQ_vp hT r) (by omega) hsub
    have hil : i < ts.length := by omega
    have e1 : nI dep + 1 = nI (dep + 1) := nI_add dep 1
    refine mPartA (d := d + 5 * (r + 1)) hB hF hL hi (by omega) (fun hb => ?_) (fun hb hd => by omega) (fun hb hd v2 v3 hv2 hv3 => ?_)
    · exact hf _ C.length _ (by show (if _ then _ else _) = _; rw [if_pos hb]) (u2_ss _ _ _ _) (by rw [u2_kk _ _ _ _ (by decide)]; exact hL.2.2.1) (by omega) (hF.u (Or.inl ⟨rfl, by omega⟩))
    · have hiN : i < N := by
        refine Nat.lt_of_le_of_ne hi (fun e => ?_)
        rw [e, hE.2.2.1] at hb
        omega
      refine hasWordM_ok (w := 22) hT (hB.tk hF) hW hL.2.1 hL.1 hil (by decide) (fun e22 => ?_) (fun e22 => ?_)
      · have e : rgQ ts (r + 1) i = bnd (rgQ ts r (i + 1)) (fun j c => .inr (j, c ++ [(3, 0)])) := by
          show (if _ then _ else _) = _
          rw [if_neg (fun hh => hh hb), if_pos e22]
        refine RX12_takePart_123 ⟨fun c => absurd c (by decide), fun _ => ?_⟩
        rw [e1]
        rw [show d + 5 * (r + 1) + 2 = d + 4 + 5 * r + 3 by omega]
        refine hsub (d + 4) _ _ C (i + 1) (hF.u (Or.inl ⟨rfl, Or.inl rfl⟩)) hL.at (by omega) (by omega) (fun v m J hs h8 h13 hm hFJ => ?_) (fun j c J hs hJ hFJ => ?_)
        · refine RX12_takePart_133 (emitM_ok (o := 3) (v := 0) h13 (by omega) (RX12_takePart_139 ?_))
          exact hf v (m + 1) _ (by rw [e]; exact bnd_l hs) (by rw [u2_kk _ _ _ _ (by decide), u2_nn _ _ _ _ (by decide), u2_nn _ _ _ _ (by decide)]; exact h8) (u2_ss _ _ _ _) (by omega) (((hFJ.u (Or.inr ⟨Or.inl rfl, by omega⟩)).u (Or.inr ⟨Or.inr rfl, by omega⟩)).u (Or.inl ⟨rfl, by omega⟩))
        · obtain ⟨⟨g1, g2, g3⟩, -, -⟩ := rgQ_good hT hE r _ (by omega) _ _ hs
          refine RX12_takePart_133 (emitM_ok (o := 3) (v := 0) hJ.2.2.1 (by simp; omega) (RX12_takePart_139 ?_))
          exact ht j (c ++ [(3, 0)]) _ (by rw [e]; exact bnd_r hs) (hJ.emit.cast (by simp)) (((hFJ.u (Or.inr ⟨Or.inl rfl, by omega⟩)).u (Or.inr ⟨Or.inr rfl, by omega⟩)).u (Or.inl ⟨rfl, by omega⟩))
      · refine RX12_takePart_123 ⟨fun _ => ?_, fun c => absurd rfl c⟩
        refine hasSignM_ok (c := 40) hT (hB.tk hF) hL.2.1 hL.1 hil (by decide) (fun e40 => ?_) (fun e40 => ?_)
        · have e : rgQ ts (r + 1) i = bnd (rgA ts (rgQ ts r) (i + 1)) (fun j c => if sK ts j = 41 then .inr (j + 1, c) else .inl (fK ts 1 j)) := by
            show (if _ then _ else _) = _
            rw [if_neg (fun hh => hh hb), if_neg e22, if_pos e40]
          refine RX12_takePart_148 ⟨fun c => absurd c (by decide), fun _ => ?_⟩
          rw [e1]
          refine hall d _ _ C (i + 1) (hF.u (Or.inl ⟨rfl, Or.inl rfl⟩)) hL.at (by omega) (by omega) (fun v m J hs h8 h13 hm hFJ => ?_) (fun j c J hs hJ hFJ => ?_)
          · have hvv := rgA_vp (rgQ_vp hT r) _ _ hs
            exact RX12_takePart_158 (takeSignM_f hvv h8 (RX12_takePart_164 (hf v m J (by rw [e]; exact bnd_l hs) h8 h13 (by omega) hFJ)))
          · obtain ⟨⟨g1, g2, g3⟩, -, -⟩ := rgA_good hE (rgQ_good hT hE r) _ (by omega) _ _ hs
            have e2 : rgQ ts (r + 1) i = (if sK ts j = 41 then .inr (j + 1, c) else .inl (fK ts 1 j)) := by rw [e]; exact bnd_r hs
            refine RX12_takePart_158 (takeSignM_ok (c := 41) hT (hB.tk hFJ) hJ.2.1 hJ.1 (by omega) (by decide) (fun es => RX12_takePart_164 ?_) (fun es => RX12_takePart_164 ?_))
            · rw [if_pos es] at e2
              exact ht (j + 1) c _ e2 hJ.at (hFJ.u (Or.inl ⟨rfl, Or.inl rfl⟩))
            · rw [if_neg es] at e2
              exact hf _ (C ++ c).length _ e2 (u2_ss _ _ _ _) (by rw [u2_kk _ _ _ _ (by decide)]; exact hJ.2.2.1) (by simp; omega) (hFJ.u (Or.inl ⟨rfl, by omega⟩))
        · have e : rgQ ts (r + 1) i = .inr (i + 1, [opd ts i]) := by
            show (if _ then _ else _) = _
            rw [if_neg (fun hh => hh hb), if_neg e22, if_neg e40]
          have hend : ∀ J : Ints, LwM i (C ++ [opd ts i]) J → FL I0 J → Y mX12_takePart (d + 5 * (r + 1) + 3) sx 198 [(0, .ref 92)] [] J L R q := by
            intro J hJ hFJ
            refine RX12_takePart_198 ?_
            rw [hJ.1, show nI i + 1 = nI (i + 1) from nI_add i 1]
            exact ht (i + 1) _ _ e hJ.at (hFJ.u (Or.inl ⟨rfl, Or.inl rfl⟩))
          refine RX12_takePart_148 ⟨fun _ => ⟨fun c2 => ?_, fun c2 => ⟨?_, ?_⟩⟩, fun c => absurd rfl c⟩
          · have h31 := hv2.mp c2
            rw [hv3 h31 e22 e40]
            refine emitM_ok (o := 2) hL.2.2.1 (by omega) ?_
            refine hend _ (hL.emit.cast ?_) (((hF.u (Or.inr ⟨Or.inl rfl, by omega⟩)).u (Or.inr ⟨Or.inr rfl, by omega⟩)).u (Or.inl ⟨rfl, by omega⟩))
            unfold opd
            rw [if_neg h31]
          · rw [hL.1]; simp (disch := omega) only [nlit, natrem, nIrm, nIam, nIam',  nI_add, pk_mul, nIsub, nIrem, nIdiv, nIand1, nIand3, nIand7, nIand31, nIshr, nIle, nIlt, nIeq, nIc, vpI, nIm1, m1nI, m1lt, nIlm, m1le, nIlem, nIneg, u2_ss, u2_nn, u2_kk, nIm1n, m1nIn, m1ltn, nIlmn, m1len, nIlemn]; omega
          · have h31 : sK ts i = 31 := Decidable.not_not.mp (fun hh => c2 (hv2.mpr hh))
            rw [hL.1, nIc (by omega), ((hB.tk hF).get hil).2.2.2.1 h31, lN_i]
            refine emitM_ok (o := 1) hL.2.2.1 (by omega) ?_
            refine hend _ (hL.emit.cast ?_) (((hF.u (Or.inr ⟨Or.inl rfl, by omega⟩)).u (Or.inr ⟨Or.inr rfl, by omega⟩)).u (Or.inl ⟨rfl, by omega⟩))
            unfold opd
            rw [if_pos h31]
/-- all of it, from the outside -/
theorem mLaw {sx : Sx} {ts : List Tk} {N : Nat} {I0 : Ints} {L : Lngs} {R : Rfs} (hB : MB ts N I0 L) : MS sx ts N I0 L R mX12_all (25 + 4) (rgA ts (rgQ ts 5)) (20 + 4) 0 := mAllOf hB (rgQ_good hB.1 hB.2.1 5) (rgQ_vp hB.1 5) (by decide) (mPart hB 5 0 rfl)
