/-! new cells: only while the sizes are known (al = true) -/
theorem wsW_new {g : Gv} {D : va_G} {ca : FieldType → ClassId} {S : List Shp} {s : Shp} {I : Ints} {L : Lngs} {R : Rfs} {H H1 : Heap} (hP : va_P D vwCl (wsW g ca S I L R) H) (ho : ∀ q, q < H.size → H1[q]? = H[q]?) (hn : va_at D vwCl (g.1 + S.length, celW g ca I L R S.length s) H1) : va_P D vwCl (wsW g ca (S ++ [s]) I L R) H1 := by
  intro k q hk
  obtain ⟨t, ht, rfl⟩ := wsW_inv hk
  by_cases hl : k < S.length
  · rw [List.getElem?_append_left hl] at ht
    have := hP k _ (wsW_get ht)
    exact this.kept (ho _ this.lt)
  · rw [List.getElem?_append_right (by omega)] at ht
    have hz : k - S.length < 1 := (List.getElem?_eq_some_iff.mp ht).1
    have hk0 : k = S.length := by omega
    subst hk0
    rw [Nat.sub_self] at ht
    cases ht
    exact hn
theorem EnvA.push {ca : FieldType → ClassId} {S : List Shp} {s : Shp} {U : State} (h : EnvA ca S U) (hs : ∀ ty n, s = Sum.inr (ty, n) → ArrOfT U (ca ty) ty ∧ va_RA U (ca ty) ty) : EnvA ca (S ++ [s]) U := by
  intro k ty n hk
  by_cases hl : k < S.length
  · rw [List.getElem?_append_left hl] at hk
    exact h k ty n hk
  · rw [List.getElem?_append_right (by omega)] at hk
    have hz : k - S.length < 1 := (List.getElem?_eq_some_iff.mp hk).1
    have hk0 : k - S.length = 0 := by omega
    rw [hk0] at hk
    exact hs ty n (Option.some.inj hk)
def NWok (oc idx ci : Nat) : Prop := ∃ q, vwCl[ci]? = some q ∧ Cond.classLink (rn oc) idx q.1 ∈ Ts ∧ Cond.instantiable q.1 q.2.2 ∈ Ts ∧ Cond.initialized q.1 ∈ Ts
theorem fty_def (ty : FieldType) (h : ty ≠ .float) (h2 : ty ≠ .double) (g : Gv) {I : Ints} {L : Lngs} {R : Rfs} {o k : Nat} (hI : I o k = 0) (hL : L o k = 0) (hR : R o k = none) : defaultValue ty = fval g I L R o k ty := by
  cases ty <;> simp only [fval, hI, hL, hR] <;> first | rfl | exact absurd rfl h | exact absurd rfl h2
theorem ftys_ok : ∀ ci, ci < 13 → ∀ k, k < nfl ci → fty ci k ≠ .float ∧ fty ci k ≠ .double := by decide +kernel
theorem X_new {mi : MI} {d mc ms : Nat} {ao : Bool} {sr : Sr} {sx : Sx} {S1 l : List Shp} {kc ks pc : Nat} {ls : Lc} {st : List Value} {I : Ints} {L : Lngs} {R : Rfs} {Q : Qt} {idx ci : Nat} (hw : NWok mi.1 idx ci) (hci : ci < 13) (hz : ∀ k, I (S1.length + l.length) k = 0 ∧ L (S1.length + l.length) k = 0 ∧ R (S1.length + l.length) k = none) (hk1 : kc + 1 ≤ mc) (hk2 : ks + nfl ci ≤ ms) (hd : decode mi.2.2.1 pc = .ok (.new idx, 3))
    (h : X mi d mc ms (true, ao) sr sx (S1 ++ (l ++ [Sum.inl ci])) (kc + 1) (ks + nfl ci) (pc + 3) ls (.ref (S1.length + l.length) :: st) I L R Q) : X mi d mc ms (true, ao) sr sx (S1 ++ l) kc ks pc ls st I L R Q := by
  intro p lh e Rm s m args below meth c D g ca H locs lsA hs hc
  refine W_size (fun hsz => ?_)
  obtain ⟨q, hq, w1, w2, w3⟩ := hw
  have hts := hs.2.2.2.2.2.1
  have ho := clOK ci q hq
  have hKn := hc.1.1 ci q hq
  have hg : g.1 ≤ H.size := Nat.le_trans hc.2.2.1 hc.2.2.2.2.1.1
  have hle := wsW_le hc.2.2.2.1 hg
  have hal := hc.2.2.2.2.2.1 rfl
  have hlen : (S1 ++ l).length = S1.length + l.length := List.length_append
  have hH : H.size = g.1 + (S1.length + l.length) := by rw [← hlen]; omega
  refine W.newcK hs.1 hs.2.1 hs.2.2.2.2.1 (hts _ w1) (hts _ w2) (hts _ w3) rfl hd (Nat.le_trans hk1 hs.2.2.2.2.2.2.2.2.2.2.1) (by rw [ho.2.2.2]; exact Nat.le_trans hk2 hs.2.2.2.2.2.2.2.2.2.2.2.1) hKn.2.1 hH fun H1 kC hkC e1 z1 o1 => ?_
  rw [ho.2.2.2]
  have hP1 : va_P D vwCl (wsW g ca ((S1 ++ l) ++ [Sum.inl ci]) I L R) H1 := by
    refine wsW_new hc.2.2.2.1 (fun x hx => o1 x (by omega)) ?_
    rw [hlen]
    refine ⟨q, hq, (u_born (fty ci) hts ho.1 hKn hkC e1 ho.2.2.1).to (fun j hj => ?_)⟩
    rw [ho.2.2.2] at hj
    have hzz := hz j
    have hf := ftys_ok ci hci j hj
    show defaultValue (fty ci j) = vp_V _ j
    unfold vp_V
    rw [List.getD_eq_getElem?_getD, fs_get hj]
    exact fty_def (fty ci j) hf.1 hf.2 g hzz.1 hzz.2.1 hzz.2.2
  rw [List.append_assoc] at hP1
  refine h p lh e Rm s m args below meth c D g ca H1 locs lsA hs ⟨⟨hc.1.1, ?_, hc.1.2.2⟩, hc.2.1, hc.2.2.1, hP1, ⟨Nat.le_trans hc.2.2.2.2.1.1 (by omega), fun x h1 h2 => (o1 x (by have := hc.2.2.2.2.1.1; omega)).trans (hc.2.2.2.2.1.2.1 x h1 h2), hc.2.2.2.2.1.2.2⟩, fun _ => ?_, hc.2.2.2.2.2.2⟩
  · rw [← List.append_assoc]
    exact hc.1.2.1.push (fun ty n h => by cases h)
  · simp only [List.length_append, List.length_cons, List.length_nil] at hal ⊢
    omega
def primT (ty : FieldType) : Bool := match ty with
  | .int | .char | .short | .boolean | .long | .byte => true
  | _ => false
theorem X_newarr {mi : MI} {d mc ms : Nat} {ao : Bool} {sr : Sr} {sx : Sx} {S1 l : List Shp} {kc ks pc N : Nat} {ls : Lc} {st : List Value} {I : Ints} {L : Lngs} {R : Rfs} {Q : Qt} {atype : ArrayType} {ty : FieldType} {n : Int32} (hty : newarray.typeOf atype = ty) (hpr : primT ty = true) (hw : Cond.arrayClass ty ∈ Ts) (hn : ¬ n < 0) (hN : n.toNatClampNeg = N) (hb : N * componentBytes ty ≤ 536870912) (hz : ∀ k, I (S1.length + l.length) k = 0 ∧ L (S1.length + l.length) k = 0) (hk1 : kc + 1 ≤ mc) (hk2 : ks + N ≤ ms) (hd : decode mi.2.2.1 pc = .ok (.newarray atype, 2))
    (h : X mi d mc ms (true, ao) sr sx (S1 ++ (l ++ [Sum.inr (ty, N)])) (kc + 1) (ks + N) (pc + 2) ls (.ref (S1.length + l.length) :: st) I L R Q) : X mi d mc ms (true, ao) sr sx (S1 ++ l) kc ks pc ls (.int n :: st) I L R Q := by
  intro p lh e Rm s m args below meth c D g ca H locs lsA hs hc
  refine W_size (fun hsz => ?_)
  have hts := hs.2.2.2.2.2.1
  have hg : g.1 ≤ H.size := Nat.le_trans hc.2.2.1 hc.2.2.2.2.1.1
  have hle := wsW_le hc.2.2.2.1 hg
  have hal := hc.2.2.2.2.2.1 rfl
  have hlen : (S1 ++ l).length = S1.length + l.length := List.length_append
  have hH : H.size = g.1 + (S1.length + l.length) := by rw [← hlen]; omega
  subst hty
  refine va_newaK hs.1 hs.2.1 (hts _ hw) rfl hd rfl hn hN hb (Nat.le_trans hk1 hs.2.2.2.2.2.2.2.2.2.2.1) (Nat.le_trans hk2 hs.2.2.2.2.2.2.2.2.2.2.2.1) hH fun H1 cA e1 z1 o1 hAr hNm => ?_
  have hRA : va_RA s cA (newarray.typeOf atype) := by
    revert hNm hpr
    cases newarray.typeOf atype <;> intro hpr hNm <;> first | exact hNm | cases hpr
  have hca := hc.1.2.2.1 _ _ hRA
  have hI0 : I (S1.length + l.length) = fun _ => 0 := funext fun k => (hz k).1
  have hL0 : L (S1.length + l.length) = fun _ => 0 := funext fun k => (hz k).2
  have hP1 : va_P D vwCl (wsW g ca ((S1 ++ l) ++ [Sum.inr (newarray.typeOf atype, N)]) I L R) H1 := by
    refine wsW_new hc.2.2.2.1 (fun x hx => o1 x (by omega)) ?_
    rw [hlen]
    show H1[g.1 + (S1.length + l.length)]? = some (vp_cell (ca (newarray.typeOf atype)) (arrC g I L R (S1.length + l.length) N (newarray.typeOf atype)))
    rw [e1, hca]
    congr 1
    unfold arrC
    rw [hI0, hL0]
    revert hpr
    cases newarray.typeOf atype <;> intro hpr <;> first | rfl | cases hpr
  rw [List.append_assoc] at hP1
  refine h p lh e Rm s m args below meth c D g ca H1 locs lsA hs ⟨⟨hc.1.1, ?_, hc.1.2.2⟩, hc.2.1, hc.2.2.1, hP1, ⟨Nat.le_trans hc.2.2.2.2.1.1 (by omega), fun x h1 h2 => (o1 x (by have := hc.2.2.2.2.1.1; omega)).trans (hc.2.2.2.2.1.2.1 x h1 h2), hc.2.2.2.2.1.2.2⟩, fun _ => ?_, hc.2.2.2.2.2.2⟩
  · rw [← List.append_assoc]
    refine hc.1.2.1.push (fun ty n h => ?_)
    cases h
    rw [hca]
    exact ⟨hAr, hRA⟩
  · simp only [List.length_append, List.length_cons, List.length_nil] at hal ⊢
    omega
theorem BF.ao {g : Gv} {sx : Sx} {U : State} {H : Heap} (h : BF g sx U H) {C : String} (hw : Cond.arrayOver (.object C) ∈ lw_tbl) : va_AO C U := by
  obtain ⟨s0, h1, -, -, -, -, h6, -⟩ := h
  exact va_AO.moved h6.alike (va_AO.of (h1 _ hw))
theorem BF.nest {g : Gv} {sx : Sx} {U : State} {H : Heap} (h : BF g sx U H) {a host : String} {i : Nat} {x : MethodName} (hw : Cond.methodLinkNest a i x host ∈ lw_tbl) : va_Nw (.methodLinkNest a i x host) U := by
  obtain ⟨s0, h1, -, -, -, -, h6, -⟩ := h
  exact va_Nw.warmM h6 (va_Nw.of rfl (h1 _ hw))
theorem X_newrow {mi : MI} {d mc ms : Nat} {ao : Bool} {sr : Sr} {sx : Sx} {S1 l : List Shp} {kc ks pc N idx : Nat} {ls : Lc} {st : List Value} {I : Ints} {L : Lngs} {R : Rfs} {Q : Qt} {C : String} {n : Int32} (hw : Cond.classLink (rn mi.1) idx C ∈ Ts) (hao : Cond.arrayOver (.object C) ∈ lw_tbl) (hn : ¬ n < 0) (hN : n.toNatClampNeg = N) (hb : N * 4 ≤ 536870912) (hz : ∀ k, R (S1.length + l.length) k = none) (hk1 : kc + 1 ≤ mc) (hk2 : ks + N ≤ ms) (hd : decode mi.2.2.1 pc = .ok (.anewarray idx, 3))
    (h : X mi d mc ms (true, ao) sr sx (S1 ++ (l ++ [Sum.inr (.object C, N)])) (kc + 1) (ks + N) (pc + 3) ls (.ref (S1.length + l.length) :: st) I L R Q) : X mi d mc ms (true, ao) sr sx (S1 ++ l) kc ks pc ls (.int n :: st) I L R Q := by
  intro p lh e Rm s m args below meth c D g ca H locs lsA hs hc
  refine W_size (fun hsz => ?_)
  have hts := hs.2.2.2.2.2.1
  have hg : g.1 ≤ H.size := Nat.le_trans hc.2.2.1 hc.2.2.2.2.1.1
  have hle := wsW_le hc.2.2.2.1 hg
  have hal := hc.2.2.2.2.2.1 rfl
  have hlen : (S1 ++ l).length = S1.length + l.length := List.length_append
  have hH : H.size = g.1 + (S1.length + l.length) := by rw [← hlen]; omega
  subst hN
  refine W.anew hs.1 hs.2.1 hs.2.2.2.2.1 (hts _ hw) (va_AO.use (hc.1.2.2.2.ao hao)) rfl hd rfl hn hb (Nat.le_trans hk1 hs.2.2.2.2.2.2.2.2.2.2.1) (Nat.le_trans hk2 hs.2.2.2.2.2.2.2.2.2.2.2.1) fun cA kA comp f1 f2 f3 f4 => ?_
  have hRA : va_RA s cA (.object C) := ⟨kA, comp, f2, f3, f4, f1⟩
  have hca := hc.1.2.2.1 _ _ hRA
  have hAr : ArrOfT s cA (.object C) := fun N z => ⟨(fun k h => by cases h), kA, f2, comp, f3⟩
  generalize hH1 : H.push ({ cls := cA, slots := Array.replicate n.toNatClampNeg .null, vm := .none } : Cell) = H1
  have z1 : H1.size = H.size + 1 := by rw [← hH1, Array.size_push]
  have e1 : H1[H.size]? = some (arrV cA n.toNatClampNeg (fun _ => .null)) := by rw [← hH1, Array.getElem?_push_size, ← arrV_new]
  have o1 : ∀ q : Nat, q < H.size → H1[q]? = H[q]? := fun q hq => by rw [← hH1, Array.getElem?_push, if_neg (Nat.ne_of_lt hq)]
  have hP1 : va_P D vwCl (wsW g ca ((S1 ++ l) ++ [Sum.inr (.object C, n.toNatClampNeg)]) I L R) H1 := by
    refine wsW_new hc.2.2.2.1 (fun x hx => o1 x hx) ?_
    rw [hlen, ← hH]
    show H1[H.size]? = some (vp_cell (ca (.object C)) (n.toNatClampNeg, .inr (.inr (.inr (.inr (fun j => cvR g (R (S1.length + l.length) j)))))))
    rw [e1, hca, vp_cell_q]
    congr 2
    funext j
    rw [hz j]
    rfl
  rw [List.append_assoc] at hP1
  rw [hH]
  refine h p lh e Rm s m args below meth c D g ca H1 locs lsA hs ⟨⟨hc.1.1, ?_, hc.1.2.2⟩, hc.2.1, hc.2.2.1, hP1, ⟨Nat.le_trans hc.2.2.2.2.1.1 (by omega), fun x h1 h2 => (o1 x (by have := hc.2.2.2.2.1.1; omega)).trans (hc.2.2.2.2.1.2.1 x h1 h2), hc.2.2.2.2.1.2.2⟩, fun _ => ?_, hc.2.2.2.2.2.2⟩
  · rw [← List.append_assoc]
    refine hc.1.2.1.push (fun ty n h => ?_)
    cases h
    rw [hca]
    exact ⟨hAr, hRA⟩
  · simp only [List.length_append, List.length_cons, List.length_nil] at hal ⊢
    omega
/-- constructors: Object's own, one of the class tables, one of a nest mate -/
theorem X_obj {mi : MI} {d mc ms : Nat} {al : Bool × Bool} {sr : Sr} {sx : Sx} {S : List Shp} {kc ks pc idx o : Nat} {ls : Lc} {st : List Value} {I : Ints} {L : Lngs} {R : Rfs} {Q : Qt} (w1 : Cond.methodLink (rn mi.1) idx objectInit ∈ Ts) (w2 : Cond.instanceMethod objectInit ∈ Ts) (w3 : Cond.code objectInit ⟨#[0xb1]⟩ 1 none ∈ Ts) (hcat : (st.map fun v => v.category).sum ≤ 8) (hdd : 1 ≤ d) (hd : decode mi.2.2.1 pc = .ok (.invokespecial idx, 3))
    (h : X mi d mc ms al sr sx S kc ks (pc + 3) ls st I L R Q) : X mi d mc ms al sr sx S kc ks pc ls (.ref o :: st) I L R Q := by
  intro p l e Rm s m args below meth c D g ca H locs lsA hs hc
  have hts := hs.2.2.2.2.2.1
  refine W.objInit hs.1 hs.2.1 hs.2.2.2.2.1 (hts _ w1) (hts _ w2) (hts _ w3) rfl (by rw [hs.2.2.2.1]; exact hc.2.2.2.2.2.2.1) rfl hd (Nat.le_trans hdd hs.2.2.2.2.2.2.2.2.1) ?_ (h p l e Rm s m args below meth c D g ca H locs lsA hs hc)
  have hl := hs.2.2.2.2.2.2.2.2.2.1
  have h8 : 2 * (F0 m pc lsA (cvV g (.ref o) :: st.map (cvV g))).monitorRoom + ((st.map (cvV g)).map fun v => v.category).sum ≤ 8 := lv_room (by rw [cvV_sum]; exact hcat)
  exact Nat.le_trans (Nat.add_le_add_right h8 12) (by omega)
theorem X_callI {mi : MI} {d mc ms : Nat} {al al' : Bool × Bool} {sr : Sr} {sx : Sx} {S : List Shp} {kc ks pc : Nat} {ls : Lc} {st : List Value} {I : Ints} {L : Lngs} {R : Rfs} {Q : Qt} {mj : MI} {d' mc' ms' idx o : Nat} (ha1 : al'.1 = true → al.1 = true) (ha2 : al.1 = true → al'.2 = true) (hm : MJ mj 0) (hl : Cond.methodLink (rn mi.1) idx mj.2.1 ∈ Ts) (hin : Cond.instanceMethod mj.2.1 ∈ Ts) (hy : mj.2.1.name = "<init>") (hr : mj.2.2.2.2 = none) (hcat : (st.map fun v => v.category).sum ≤ 8) (hdd : d' + 1 ≤ d) (hk1 : kc + mc' ≤ mc) (hk2 : ks + ms' ≤ ms) (hd : decode mi.2.2.1 pc = .ok (.invokespecial idx, 3))
    (h : EV mj d' mc' ms' al' sr sx S [.ref o] I L R (fun r S I L R => X mi d mc ms al sr sx S (kc + mc') (ks + ms') (pc + 3) ls (r.toList ++ st) I L R Q)) : X mi d mc ms al sr sx S kc ks pc ls (.ref o :: st) I L R Q := by
  intro p l e Rm s m args below meth c D g ca H locs lsA hs hc
  refine W_size (fun hz => ?_)
  have hB := callB_mj (R := Rm) (mc := mc') (ms := ms') hs.2.2.2.2.2.1 hm hl hdd hs.2.2.2.2.2.2.2.2.1 hs.2.2.2.2.2.2.2.2.2.1
  have hM := h l hs.2.2.2.2.2.2.2.2.2.2.2.2 D g ca
  rw [hr] at hB hM
  exact W_back hs hc hz ha2 (va_runI (As := []) (rest := st.map (cvV g)) (b := g.1 + o) (n := 0) (nL := mi.2.2.2.1) (Ts := Ts) (own := rn mi.1) ⟨hs.1, hs.2.1, hs.2.2.2.1, hs.2.2.2.2.1, hs.2.2.2.2.2.1⟩ hM ⟨hB, hy, hs.2.2.2.2.2.1 _ hin⟩ ⟨Pcx_blind, fun U hU hW => ⟨rfl, Pcx_at hc hz ha1 hU hW⟩⟩ rfl rfl hc.2.2.2.2.2.2.1 rfl (lv_room (by rw [cvV_sum]; exact hcat)) hd ⟨Nat.le_trans hk1 hs.2.2.2.2.2.2.2.2.2.2.1, Nat.le_trans hk2 hs.2.2.2.2.2.2.2.2.2.2.2.1⟩)
theorem X_callIN {mi : MI} {d mc ms : Nat} {al al' : Bool × Bool} {sr : Sr} {sx : Sx} {S : List Shp} {kc ks pc : Nat} {ls : Lc} {st : List Value} {I : Ints} {L : Lngs} {R : Rfs} {Q : Qt} {mj : MI} {d' mc' ms' idx o : Nat} {host : String} (ha1 : al'.1 = true → al.1 = true) (ha2 : al.1 = true → al'.2 = true) (hm : MJ mj 0) (hl : Cond.methodLinkNest (rn mi.1) idx mj.2.1 host ∈ lw_tbl) (hin : Cond.instanceMethod mj.2.1 ∈ Ts) (hy : mj.2.1.name = "<init>") (hr : mj.2.2.2.2 = none) (hcat : (st.map fun v => v.category).sum ≤ 8) (hdd : d' + 1 ≤ d) (hk1 : kc + mc' ≤ mc) (hk2 : ks + ms' ≤ ms) (hd : decode mi.2.2.1 pc = .ok (.invokespecial idx, 3))
    (h : EV mj d' mc' ms' al' sr sx S [.ref o] I L R (fun r S I L R => X mi d mc ms al sr sx S (kc + mc') (ks + ms') (pc + 3) ls (r.toList ++ st) I L R Q)) : X mi d mc ms al sr sx S kc ks pc ls (.ref o :: st) I L R Q := by
  intro p l e Rm s m args below meth c D g ca H locs lsA hs hc
  refine W_size (fun hz => ?_)
  have hts := hs.2.2.2.2.2.1
  have hf := hs.2.2.2.2.2.2.2.2.1
  have hlo := hs.2.2.2.2.2.2.2.2.2.1
  have h80 := hm.2.2.2
  have hB : va_CN Rm s args (rn mi.1) idx mj.2.1 host mj.2.2.1 mj.2.2.2.1 mj.2.2.2.2 (.code mj.2.1 mj.2.2.1 mj.2.2.2.1 mj.2.2.2.2 :: Ts) (rmD d' mc' ms') mc' ms' 0 := va_cnB (Ts := Ts) 0 hts (fun w hw => (List.mem_cons.mp hw).elim (fun e => e ▸ tsG _ hm.1) (fun h => tsG _ h)) rfl rfl rfl (hc.1.2.2.2.nest hl) (hts _ hm.2.1) hm.2.2.1 ⟨by show d' + 1 ≤ Rm.frames; omega, by show 8 + (mj.2.2.2.1 + 11) + 100 * d' ≤ Rm.locals; omega⟩
  have hM := h l hs.2.2.2.2.2.2.2.2.2.2.2.2 D g ca
  rw [hr] at hB hM
  exact W_back hs hc hz ha2 (va_runIN (As := []) (rest := st.map (cvV g)) (b := g.1 + o) (n := 0) (nL := mi.2.2.2.1) (Ts := Ts) (own := rn mi.1) ⟨hs.1, hs.2.1, hs.2.2.2.1, hs.2.2.2.2.1, hts⟩ hM ⟨hB, hy, hts _ hin⟩ ⟨Pcx_blind, fun U hU hW => ⟨rfl, Pcx_at hc hz ha1 hU hW⟩⟩ rfl rfl hc.2.2.2.2.2.2.1 rfl (lv_room (by rw [cvV_sum]; exact hcat)) hd ⟨Nat.le_trans hk1 hs.2.2.2.2.2.2.2.2.2.2.1, Nat.le_trans hk2 hs.2.2.2.2.2.2.2.2.2.2.2.1⟩)
