/-! the abstract memory: cells by their places; ints, longs, references as functions of cell and place -/
abbrev Ints : Type := Nat → Nat → Int32
abbrev Lngs : Type := Nat → Nat → Int64
abbrev Rfs : Type := Nat → Nat → Option Nat
abbrev Shp : Type := Nat ⊕ (FieldType × Nat)
abbrev Lc : Type := List (Nat × Value)
abbrev Qt : Type := Option Value → List Shp → Ints → Lngs → Rfs → Prop
abbrev Gv : Type := Nat × Nat
abbrev Sx : Type := Nat × (Nat → Int32)
abbrev Sr : Type := Nat → Nat → Option Nat
def cvV (g : Gv) : Value → Value
  | .ref k => .ref (g.1 + k)
  | .retAddr _ => .ref g.2
  | v => v
def cvR (g : Gv) (r : Option Nat) : Option Nat := r.map (fun k => g.1 + k)
def cvL (g : Gv) (l : Lc) : Lc := l.map (fun q => (q.1, cvV g q.2))
def fval (g : Gv) (I : Ints) (L : Lngs) (R : Rfs) (o k : Nat) (ty : FieldType) : Value := match ty with
  | .long => .long (L o k)
  | .object _ => va_rf (cvR g (R o k))
  | .array _ => va_rf (cvR g (R o k))
  | _ => .int (I o k)
def arrC (g : Gv) (I : Ints) (L : Lngs) (R : Rfs) (o n : Nat) (ty : FieldType) : vp_A := (n, match ty with
  | .long => .inr (.inl (L o))
  | .object _ => .inr (.inr (.inr (.inr (fun j => cvR g (R o j)))))
  | .array _ => .inr (.inr (.inr (.inr (fun j => cvR g (R o j)))))
  | _ => .inl (I o))
def celW (g : Gv) (ca : FieldType → ClassId) (I : Ints) (L : Lngs) (R : Rfs) (o : Nat) (s : Shp) : va_E := match s with
  | .inl ci => .inr (ci, (List.range (nfl ci)).map (fun k => fval g I L R o k (fty ci k)))
  | .inr q => .inl (ca q.1, arrC g I L R o q.2 q.1)
def wsW (g : Gv) (ca : FieldType → ClassId) (S : List Shp) (I : Ints) (L : Lngs) (R : Rfs) : va_W := (List.range S.length).map (fun o => (g.1 + o, celW g ca I L R o (S.getD o (.inl 0))))
def u2 {α : Type} (f : Nat → Nat → α) (o k : Nat) (v : α) : Nat → Nat → α := fun a b => if a = o then (if b = k then v else f a b) else f a b
theorem u2_o {α : Type} (f : Nat → Nat → α) (o k : Nat) (v : α) : u2 f o k v o = fun b => if b = k then v else f o b := by funext b; simp [u2]
theorem u2_ne {α : Type} (f : Nat → Nat → α) {o a : Nat} (k : Nat) (v : α) (h : a ≠ o) : u2 f o k v a = f a := by funext b; simp [u2, h]
theorem wsW_get {g : Gv} {ca : FieldType → ClassId} {S : List Shp} {I : Ints} {L : Lngs} {R : Rfs} {o : Nat} {s : Shp} (h : S[o]? = some s) : (wsW g ca S I L R)[o]? = some (g.1 + o, celW g ca I L R o s) := by
  have hl : o < S.length := (List.getElem?_eq_some_iff.mp h).1
  have e : S.getD o (.inl 0) = s := by rw [List.getD_eq_getElem?_getD, h]; rfl
  simp [wsW, List.getElem?_map, List.getElem?_range hl, h]
theorem wsW_inv {g : Gv} {ca : FieldType → ClassId} {S : List Shp} {I : Ints} {L : Lngs} {R : Rfs} {k : Nat} {q : Nat × va_E} (h : (wsW g ca S I L R)[k]? = some q) : ∃ s, S[k]? = some s ∧ q = (g.1 + k, celW g ca I L R k s) := by
  have hk : k < S.length := by
    have := (List.getElem?_eq_some_iff.mp h).1
    simpa [wsW] using this
  have hs : S[k]? = some S[k] := List.getElem?_eq_getElem hk
  exact ⟨_, hs, Option.some.inj (h.symm.trans (wsW_get hs))⟩
theorem wsW_D (g : Gv) (ca : FieldType → ClassId) (S : List Shp) (I : Ints) (L : Lngs) (R : Rfs) : va_D (fun q => g.1 ≤ q) (wsW g ca S I L R) := by
  refine ⟨fun i j p q hi hj e => ?_, fun k q hk => ?_⟩
  · obtain ⟨s1, -, rfl⟩ := wsW_inv hi
    obtain ⟨s2, -, rfl⟩ := wsW_inv hj
    exact Nat.add_left_cancel e
  · obtain ⟨s1, -, rfl⟩ := wsW_inv hk
    exact Nat.le_add_right _ _
theorem wsW_set {g : Gv} {ca : FieldType → ClassId} {S : List Shp} {I I' : Ints} {L L' : Lngs} {R R' : Rfs} {o : Nat} {s : Shp} {e : va_E} (h : S[o]? = some s) (he : e = celW g ca I' L' R' o s) (hn : ∀ j, j ≠ o → ∀ t, celW g ca I' L' R' j t = celW g ca I L R j t) : (wsW g ca S I L R).set o (g.1 + o, e) = wsW g ca S I' L' R' := by
  subst he
  have hl : o < S.length := (List.getElem?_eq_some_iff.mp h).1
  apply List.ext_getElem?
  intro k
  by_cases hk : k = o
  · subst hk
    rw [List.getElem?_set_self (by simpa [wsW] using hl), wsW_get h]
  · rw [List.getElem?_set_ne (Ne.symm hk)]
    by_cases hks : k < S.length
    · have hs : S[k]? = some S[k] := List.getElem?_eq_getElem hks
      rw [wsW_get hs, wsW_get hs, hn k hk]
    · rw [List.getElem?_eq_none (by simpa [wsW] using hks), List.getElem?_eq_none (by simpa [wsW] using hks)]
theorem celW_ne {g : Gv} {ca : FieldType → ClassId} {I I' : Ints} {L L' : Lngs} {R R' : Rfs} {j : Nat} (hI : I' j = I j) (hL : L' j = L j) (hR : R' j = R j) (t : Shp) : celW g ca I' L' R' j t = celW g ca I L R j t := by
  unfold celW fval arrC
  rw [hI, hL, hR]
/-! what is known of a start -/
def EnvA (ca : FieldType → ClassId) (S : List Shp) (U : State) : Prop := ∀ (k : Nat) (ty : FieldType) (n : Nat), S[k]? = some (Sum.inr (ty, n)) → ArrOfT U (ca ty) ty ∧ va_RA U (ca ty) ty
def BF (g : Gv) (sx : Sx) (U : State) (H : Heap) : Prop := ∃ s0 : State, (∀ w ∈ lw_tbl, w.before #[Value.ref g.2] s0 = true) ∧ (Jvm.Cond.and given_1 narrow_1).before #[Value.ref g.2] s0 = true ∧ va_X g.2 sx.1 sx.2 s0 s0.heap ∧ g.2 < g.1 ∧ s0.heap.size = g.1 ∧ s0.WarmedH U.vm ∧ ∀ q, q < g.1 → H[q]? = s0.heap[q]?
def EnvW (g : Gv) (sx : Sx) (D : va_G) (ca : FieldType → ClassId) (S : List Shp) (U : State) : Prop :=
  (∀ c q, vwCl[c]? = some q → u_Kn U q.1 q.2.1 q.2.2 (D.1 c) (D.2 c)) ∧ EnvA ca S U ∧ (∀ ty x, va_RA U x ty → ca ty = x) ∧ BF g sx U U.heap
def rmD (d mc ms : Nat) : Room := { frames := d, cells := mc, slots := ms, locals := 100 * d }
def QQ (g : Gv) (D : va_G) (ca : FieldType → ClassId) (al : Bool × Bool) (mc : Nat) (sr : Sr) (Q : Qt) : Array Value → State → Outcome → State → Prop := fun _ st oc t =>
  (∃ (r : Option Value) (S : List Shp) (I : Ints) (L : Lngs) (R : Rfs), oc = .returned (r.map (cvV g)) ∧ Q r S I L R ∧ va_P D vwCl (wsW g ca S I L R) t.heap ∧ EnvA ca S t ∧ (∀ o k q, sr o k = some q → R o k = some q) ∧ (al.2 = true → st.heap.size + mc = g.1 + S.length)) ∧ va_F (fun q => g.1 ≤ q) st t
/-- the static part -/
def CS (mi : MI) (d mc ms : Nat) (p : Program) (l : Launch) (Rm : Room) (s : State) (m : MethodId) (args : Array Value) (meth : Method) (c : Code) : Prop :=
  p.tables.exec = Jvm.exec ∧ c.code = mi.2.2.1 ∧ meth.sig.returnType = mi.2.2.2.2 ∧ c.maxLocals = mi.2.2.2.1 ∧ s.vm.findClass (rn mi.1) = some m.cls ∧ (∀ w ∈ Ts, w.before args s = true) ∧ meth.locks = false ∧ meth.name = mi.2.1.name ∧ d ≤ Rm.frames ∧ 100 * d ≤ Rm.locals ∧ mc ≤ Rm.cells ∧ ms ≤ Rm.slots ∧ l.stackTraces = false
/-- the moving part -/
def CD (n kc : Nat) (al : Bool × Bool) (sr : Sr) (sx : Sx) (S : List Shp) (ls : Lc) (I : Ints) (L : Lngs) (R : Rfs) (s : State) (D : va_G) (g : Gv) (ca : FieldType → ClassId) (H : Heap) (locs : List Loc) (lsA : Array Slot) : Prop :=
  EnvW g sx D ca S s ∧ (∀ o k q, sr o k = some q → R o k = some q) ∧ g.1 ≤ s.heap.size ∧ va_P D vwCl (wsW g ca S I L R) H ∧ va_S (fun q => g.1 ≤ q) s.heap H locs ∧ (al.1 = true → s.heap.size + kc = g.1 + S.length) ∧ lv_has lsA n (cvL g ls)
/-- the machine, at pc of the method mi, comes to its end with Q -/
def X (mi : MI) (d mc ms : Nat) (al : Bool × Bool) (sr : Sr) (sx : Sx) (S : List Shp) (kc ks pc : Nat) (ls : Lc) (st : List Value) (I : Ints) (L : Lngs) (R : Rfs) (Q : Qt) : Prop :=
  ∀ (p : Program) (l : Launch) (e : Env) (Rm : Room) (s : State) (m : MethodId) (args : Array Value) (below : List Frame) (meth : Method) (c : Code) (D : va_G) (g : Gv) (ca : FieldType → ClassId) (H : Heap) (locs : List Loc) (lsA : Array Slot),
    CS mi d mc ms p l Rm s m args meth c → CD mi.2.2.2.1 kc al sr sx S ls I L R s D g ca H locs lsA →
    W p l e Rm s m args below meth c H locs kc ks (MQ below (QQ g D ca al mc sr Q) args s mc ms (fun q => g.1 ≤ q)) (F0 m pc lsA (st.map (cvV g)))
/-- a call of the method mi comes back with Q -/
def EV (mi : MI) (d mc ms : Nat) (al : Bool × Bool) (sr : Sr) (sx : Sx) (S : List Shp) (args : List Value) (I : Ints) (L : Lngs) (R : Rfs) (Q : Qt) : Prop :=
  ∀ (l : Launch), l.stackTraces = false → ∀ (D : va_G) (g : Gv) (ca : FieldType → ClassId), Met l mi.2.1 (.code mi.2.1 mi.2.2.1 mi.2.2.2.1 mi.2.2.2.2 :: Ts) (rmD d mc ms)
    (va_Pc (args.map (cvV g)) (fun U => EnvW g sx D ca S U ∧ (∀ o k q, sr o k = some q → R o k = some q) ∧ g.1 ≤ U.heap.size ∧ va_P D vwCl (wsW g ca S I L R) U.heap ∧ (al.1 = true → U.heap.size = g.1 + S.length)))
    (QQ g D ca al mc sr Q) mc ms (fun q => g.1 ≤ q)
theorem cvV_cat (g : Gv) (v : Value) : (cvV g v).category = v.category := by cases v <;> rfl
theorem cvV_sum (g : Gv) (l : List Value) : ((l.map (cvV g)).map fun v => v.category).sum = (l.map fun v => v.category).sum := by
  rw [List.map_map]
  congr 1
  apply List.map_congr_left
  intro v _
  exact cvV_cat g v
theorem lv_args_cv (g : Gv) : ∀ (l : List Value) (i : Nat), lv_args i (l.map (cvV g)) = cvL g (lv_args i l) := by
  intro l
  induction l with
  | nil => intro i; rfl
  | cons v l ih =>
    intro i
    show (i, cvV g v) :: lv_args (if (cvV g v).category = 2 then i + 2 else i + 1) (l.map (cvV g)) = (i, cvV g v) :: cvL g (lv_args (if v.category = 2 then i + 2 else i + 1) l)
    rw [cvV_cat, ih]
theorem lg_sl_len (g : Gv) (l : List Value) : (lg_sl (l.map (cvV g))).length = (lg_sl l).length := by
  induction l with
  | nil => rfl
  | cons v l ih =>
    simp only [lg_sl, List.map_cons, List.flatMap_cons, List.length_append, cvV_cat] at ih ⊢
    rw [ih]
    by_cases h : v.category = 2 <;> simp [h]
/-- a method's contract out of its walk -/
theorem EV_of_X {mi : MI} {d mc ms : Nat} {al : Bool × Bool} {sr : Sr} {sx : Sx} {S : List Shp} {args : List Value} {I : Ints} {L : Lngs} {R : Rfs} {Q : Qt} (hy : plainName mi.2.1.cls = true) (hcl : rn mi.1 = mi.2.1.cls) (hlen : (lg_sl args).length ≤ mi.2.2.2.1)
    (h : X mi d mc ms al sr sx S 0 0 0 (lv_args 0 args) [] I L R Q) : EV mi d mc ms al sr sx S args I L R Q := by
  intro l hl0 D g ca
  refine Met.ofW (cc := mi.2.2.1) (maxL := mi.2.2.2.1) (ret := mi.2.2.2.2) hy rfl ?_
  intro p e s m ar below meth c s₁ B hml hv
  obtain ⟨rfl, hE, hR, hg, hP, hal⟩ := hv
  have hts := atoms_spec (ws := .code mi.2.1 mi.2.2.1 mi.2.2.2.1 mi.2.2.2.2 :: Ts) B.pre
  have hown : s.vm.findClass mi.2.1.cls = some m.cls := findClass_of_methodNamed B.named
  have hl := lv_entry (args.map (cvV g)) (n := mi.2.2.2.1) (by rw [lg_sl_len]; exact hlen)
  rw [lg_entry_eq]
  rw [lv_args_cv] at hl
  exact h p l e _ s m _ below meth c D g ca s.heap [] _ ⟨B.exec, B.bytes, B.returns, hml, by rw [hcl]; exact hown, fun w hw => hts w (List.mem_cons_of_mem _ hw), B.notSynchronized, (name_of_methodNamed B.named B.method).1, Nat.le_refl _, Nat.le_refl _, Nat.le_refl _, Nat.le_refl _, hl0⟩ ⟨hE, hR, hg, hP, va_S.rf, fun ha => hal ha, hl⟩
theorem EV_mono {mi : MI} {d mc ms : Nat} {al : Bool × Bool} {sr : Sr} {sx : Sx} {S : List Shp} {args : List Value} {I : Ints} {L : Lngs} {R : Rfs} {Q Q' : Qt} (h : EV mi d mc ms al sr sx S args I L R Q) (hq : ∀ r S I L R, Q r S I L R → Q' r S I L R) : EV mi d mc ms al sr sx S args I L R Q' := by
  intro l hl0 D g ca p e h1 h2 h3 s m ar below h4 h5 h6 h7
  obtain ⟨n, o, g1, g2, g3, ⟨⟨r, S2, I2, L2, R2, e1, e2, e3⟩, hF⟩, g5⟩ := h l hl0 D g ca p e h1 h2 h3 s m ar below h4 h5 h6 h7
  exact ⟨n, o, g1, g2, g3, ⟨⟨r, S2, I2, L2, R2, e1, hq _ _ _ _ _ e2, e3⟩, hF⟩, g5⟩
theorem X_mono {mi : MI} {d mc ms : Nat} {al : Bool × Bool} {sr : Sr} {sx : Sx} {S : List Shp} {kc ks pc : Nat} {ls : Lc} {st : List Value} {I : Ints} {L : Lngs} {R : Rfs} {Q Q' : Qt} (h : X mi d mc ms al sr sx S kc ks pc ls st I L R Q) (hq : ∀ r S I L R, Q r S I L R → Q' r S I L R) : X mi d mc ms al sr sx S kc ks pc ls st I L R Q' := by
  intro p l e Rm s m args below meth c D g ca H locs lsA hs hd T hT hX
  obtain ⟨t, a, o, b1, b2, ⟨⟨r, S2, I2, L2, R2, e1, e2, e3⟩, hF⟩, b4⟩ := h p l e Rm s m args below meth c D g ca H locs lsA hs hd T hT hX
  exact ⟨t, a, o, b1, b2, ⟨⟨r, S2, I2, L2, R2, e1, hq _ _ _ _ _ e2, e3⟩, hF⟩, b4⟩
/-! locals -/
def gL : Lc → Nat → Option Value
  | [], _ => none
  | q :: r, i => if q.1 = i then some q.2 else gL r i
theorem gL_mem {l : Lc} {i : Nat} {v : Value} (h : gL l i = some v) : (i, v) ∈ l := by
  induction l with
  | nil => cases h
  | cons q r ih =>
    unfold gL at h
    by_cases hq : q.1 = i
    · rw [if_pos hq] at h
      cases h
      rw [← hq]
      exact List.mem_cons_self
    · rw [if_neg hq] at h
      exact List.mem_cons_of_mem _ (ih h)
theorem gL_has {lsA : Array Slot} {n : Nat} {g : Gv} {ls : Lc} {i : Nat} {v : Value} (h : lv_has lsA n (cvL g ls)) (hi : gL ls i = some v) : lsA[i]? = some (.val (cvV g v)) :=
  h.2.2 (i, cvV g v) (List.mem_map.mpr ⟨(i, v), gL_mem hi, rfl⟩)
def pkL (ls : Lc) (ks : List Nat) : Lc := ks.filterMap (fun i => (gL ls i).map (fun v => (i, v)))
theorem pkL_has {lsA : Array Slot} {n : Nat} {g : Gv} {ls : Lc} (ks : List Nat) (h : lv_has lsA n (cvL g ls)) : lv_has lsA n (cvL g (pkL ls ks)) := by
  refine ⟨h.1, h.2.1, fun q hq => ?_⟩
  obtain ⟨⟨i, v⟩, hm, rfl⟩ := List.mem_map.mp hq
  obtain ⟨j, -, hj⟩ := List.mem_filterMap.mp hm
  cases hv : gL ls j with
  | none => rw [hv] at hj; cases hj
  | some w =>
    rw [hv] at hj
    cases hj
    exact gL_has h hv
def sL (i : Nat) (v : Value) (l : Lc) : Lc := (i, v) :: l.filter (fun q => !(q.1 == i) && !(q.1 + 1 == i && q.2.category == 2))
def sL2 (i : Nat) (v : Value) (l : Lc) : Lc := (i, v) :: l.filter (fun q => !(q.1 == i) && (!(q.1 == i + 1) && !(q.1 + 1 == i && q.2.category == 2)))
theorem sL_cv (g : Gv) (i : Nat) (v : Value) (l : Lc) : (i, cvV g v) :: (cvL g l).filter (fun q => !(q.1 == i) && !(q.1 + 1 == i && q.2.category == 2)) = cvL g (sL i v l) := by
  unfold cvL sL
  rw [List.filter_map]
  simp only [List.map_cons, Function.comp_def, cvV_cat]
theorem sL2_cv (g : Gv) (i : Nat) (v : Value) (l : Lc) : (i, cvV g v) :: (cvL g l).filter (fun q => !(q.1 == i) && (!(q.1 == i + 1) && !(q.1 + 1 == i && q.2.category == 2))) = cvL g (sL2 i v l) := by
  unfold cvL sL2
  rw [List.filter_map]
  simp only [List.map_cons, Function.comp_def, cvV_cat]
theorem X_sub {mi : MI} {d mc ms : Nat} {al : Bool × Bool} {sr : Sr} {sx : Sx} {S : List Shp} {kc ks pc : Nat} {ls : Lc} {st : List Value} {I : Ints} {L : Lngs} {R : Rfs} {Q : Qt} (kk : List Nat) (h : X mi d mc ms al sr sx S kc ks pc (pkL ls kk) st I L R Q) : X mi d mc ms al sr sx S kc ks pc ls st I L R Q := by
  intro p l e Rm s m args below meth c D g ca H locs lsA hs ⟨h1, h2, h3, h4, h5, h6, h7⟩
  exact h p l e Rm s m args below meth c D g ca H locs lsA hs ⟨h1, h2, h3, h4, h5, h6, pkL_has kk h7⟩
