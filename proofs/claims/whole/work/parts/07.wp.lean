/-! arraycopy of ints -/
def acT : List (Nat × Nat) := [(5, 181), (1, 39), (4, 19), (6, 49)]
theorem ac_nat : Cond.native arraycopyName ∈ Ts := tsI (inT3 _ (List.mem_of_getElem? (i := 185) rfl)) rfl
theorem ac_sta : Cond.static arraycopyName ∈ Ts := tsI (inT3 _ (List.mem_of_getElem? (i := 184) rfl)) rfl
theorem ac_ini : Cond.initialized "java/lang/System" ∈ Ts := tsI (inT1 _ (List.mem_of_getElem? (i := 20) rfl)) rfl
theorem ac_all : ∀ e ∈ acT, Cond.methodLink (rn e.1) e.2 arraycopyName ∈ Ts := List.forall_mem_cons.mpr ⟨tsI (inT3 _ (List.mem_of_getElem? (i := 183) rfl)) rfl, List.forall_mem_cons.mpr ⟨tsI (inT4 _ (List.mem_of_getElem? (i := 10) rfl)) rfl, List.forall_mem_cons.mpr ⟨tsI (inT4 _ (List.mem_of_getElem? (i := 99) rfl)) rfl, List.forall_mem_cons.mpr ⟨tsI (inT5 _ (List.mem_of_getElem? (i := 65) rfl)) rfl, fun _ h => absurd h List.not_mem_nil⟩⟩⟩⟩
def cp2 (I : Ints) (o0 sp o1 dp n : Nat) : Ints := fun a b => if a = o1 then va_cpy (I o0) (I o1) sp dp n b else I a b
theorem X_copy {mi : MI} {d mc ms : Nat} {al : Bool × Bool} {sr : Sr} {sx : Sx} {S : List Shp} {kc ks pc : Nat} {ls : Lc} {st : List Value} {I : Ints} {L : Lngs} {R : Rfs} {Q : Qt} {o0 o1 n0 n1 idx : Nat} {sp dp n : Int32} (hw : (mi.1, idx) ∈ acT) (h0 : S[o0]? = some (Sum.inr (.int, n0))) (h1 : S[o1]? = some (Sum.inr (.int, n1))) (g1 : ¬ sp < 0) (g2 : ¬ dp < 0) (g3 : ¬ n < 0) (g4 : sp.toNatClampNeg + n.toNatClampNeg ≤ n0) (g5 : dp.toNatClampNeg + n.toNatClampNeg ≤ n1) (hdd : 1 ≤ d) (hcat : (st.map fun v => v.category).sum ≤ 8) (hd : decode mi.2.2.1 pc = .ok (.invokestatic idx, 3)) (h : X mi d mc ms al sr sx S kc ks (pc + 3) ls st (cp2 I o0 sp.toNatClampNeg o1 dp.toNatClampNeg n.toNatClampNeg) L R Q) : X mi d mc ms al sr sx S kc ks pc ls (.int n :: .int dp :: .ref o1 :: .int sp :: .ref o0 :: st) I L R Q := by
  intro p l e Rm s m args below meth c D g ca H locs lsA hs hc
  have hts := hs.2.2.2.2.2.1
  refine va_copyi hs.1 hs.2.1 (by rw [hc.2.2.2.2.2.2.1]; exact hs.2.2.2.1) hs.2.2.2.2.1 (hts _ (ac_all _ hw)) (hts _ ac_nat) (hts _ ac_sta) (hts _ ac_ini) (hc.1.KA h0) hc.2.2.2.1 (wsW_D g ca S I L R) hc.2.2.2.2.1 o0 o1 0 0 (ty := .int) (wsW_get h0) (wsW_get h1) rfl rfl rfl g1 g2 g3 g4 g5 (fun i _ => rfl) (Nat.le_trans hdd hs.2.2.2.2.2.2.2.2.1) ?_ hd (fun H1 locs1 hP hD hS1 => ?_)
  · rw [cvV_sum]
    have hl := hs.2.2.2.2.2.2.2.2.2.1
    have hw : nativeFrameWords "java/lang/System" "arraycopy" 5 + 11 ≤ 80 := by decide +kernel
    omega
  · have e9 := wsW_set (g := g) (ca := ca) (S := S) (I := I) (L := L) (R := R) (I' := cp2 I o0 sp.toNatClampNeg o1 dp.toNatClampNeg n.toNatClampNeg) (L' := L) (R' := R) (s := Sum.inr (.int, n1)) (e := Sum.inl (ca .int, n1, .inl (va_cpy (I o0) (I o1) sp.toNatClampNeg dp.toNatClampNeg n.toNatClampNeg))) h1 (by
      show _ = Sum.inl (ca .int, n1, Sum.inl (cp2 I o0 sp.toNatClampNeg o1 dp.toNatClampNeg n.toNatClampNeg o1))
      congr 4
      funext b
      simp [cp2]) (fun j hj t => celW_ne (by funext b; simp [cp2, hj]) rfl rfl t)
    rw [e9] at hP
    exact h p l e Rm s m args below meth c D g ca H1 locs1 lsA hs ⟨hc.1, hc.2.1, hc.2.2.1, hP, hS1, hc.2.2.2.2.2.1, hc.2.2.2.2.2.2⟩
/-! the walk of a stretch as a proposition -/
abbrev Q3 : Type := Option Value → Ints → Lngs → Rfs → Prop
abbrev NT : Type := Lc → List Value → Ints → Lngs → Rfs → Prop
def q0 (q : Q3) : Qt := fun r S I L R => S = S0 ∧ q r I L R
abbrev YK (mc ms kc ks : Nat) (mi : MI) (d : Nat) (sx : Sx) (pc : Nat) (ls : Lc) (st : List Value) (I : Ints) (L : Lngs) (R : Rfs) (q : Q3) : Prop := X mi d mc ms (false, false) sr0 sx S0 kc ks pc ls st I L R (q0 q)
abbrev Y (mi : MI) (d : Nat) (sx : Sx) (pc : Nat) (ls : Lc) (st : List Value) (I : Ints) (L : Lngs) (R : Rfs) (q : Q3) : Prop := YK 0 0 0 0 mi d sx pc ls st I L R q
abbrev E0 (mi : MI) (d : Nat) (sx : Sx) (args : List Value) (I : Ints) (L : Lngs) (R : Rfs) (q : Q3) : Prop := EV mi d 0 0 (false, false) sr0 sx S0 args I L R (q0 q)
def ldi (o : Option Value) (k : Int32 → Prop) : Prop := match o with
  | some (.int x) => k x
  | _ => False
def ldl (o : Option Value) (k : Int64 → Prop) : Prop := match o with
  | some (.long x) => k x
  | _ => False
def lda (o : Option Value) (k : Value → Prop) : Prop := match o with
  | some (.ref x) => k (.ref x)
  | some (.retAddr x) => k (.retAddr x)
  | _ => False
def p1i (st : List Value) (k : Int32 → List Value → Prop) : Prop := match st with
  | .int x :: r => k x r
  | _ => False
def p2i (st : List Value) (k : Int32 → Int32 → List Value → Prop) : Prop := match st with
  | .int y :: .int x :: r => k x y r
  | _ => False
def p1l (st : List Value) (k : Int64 → List Value → Prop) : Prop := match st with
  | .long x :: r => k x r
  | _ => False
def p2l (st : List Value) (k : Int64 → Int64 → List Value → Prop) : Prop := match st with
  | .long y :: .long x :: r => k x y r
  | _ => False
def pli (st : List Value) (k : Int64 → Int32 → List Value → Prop) : Prop := match st with
  | .int y :: .long x :: r => k x y r
  | _ => False
def p1r (st : List Value) (k : Nat → List Value → Prop) : Prop := match st with
  | .ref o :: r => k o r
  | _ => False
def pir (st : List Value) (k : Int32 → Nat → List Value → Prop) : Prop := match st with
  | .int i :: .ref o :: r => k i o r
  | _ => False
def piir (st : List Value) (k : Int32 → Int32 → Nat → List Value → Prop) : Prop := match st with
  | .int x :: .int i :: .ref o :: r => k x i o r
  | _ => False
def plir (st : List Value) (k : Int64 → Int32 → Nat → List Value → Prop) : Prop := match st with
  | .long x :: .int i :: .ref o :: r => k x i o r
  | _ => False
def ldr (o : Option Value) (k : Nat → Prop) : Prop := match o with
  | some (.ref x) => k x
  | _ => False
def pil (st : List Value) (k : Int32 → Value → List Value → Prop) : Prop := match st with
  | .int i :: v :: r => k i v r
  | _ => False
def p1w (st : List Value) (k : Value → List Value → Prop) : Prop := match st with
  | v :: r => k v r
  | _ => False
def p1v (st : List Value) (k : Value → List Value → Prop) : Prop := match st with
  | v :: r => v.category = 1 ∧ k v r
  | _ => False
def p2v (st : List Value) (k : Value → Value → List Value → Prop) : Prop := match st with
  | v :: w :: r => (v.category = 1 ∧ w.category = 1) ∧ k v w r
  | _ => False
def cnd (c : ClassFile.Cond) (x y : Int32) : Prop := match c with
  | .eq => x = y
  | .ne => ¬ x = y
  | .lt => x < y
  | .ge => y ≤ x
  | .gt => y < x
  | .le => x ≤ y
def ncnd (c : ClassFile.Cond) (x y : Int32) : Prop := match c with
  | .eq => ¬ x = y
  | .ne => x = y
  | .lt => ¬ x < y
  | .ge => ¬ y ≤ x
  | .gt => ¬ y < x
  | .le => ¬ x ≤ y
def tg (pc : Nat) (off : Int) : Nat := ((pc : Int) + off).toNat
def sw (K : Int → Prop) (x : Int32) (dflt : Int) : List (Int × Int) → Prop
  | [] => K dflt
  | q :: r => (x = Int32.ofInt q.1 → K q.2) ∧ (¬ x = Int32.ofInt q.1 → sw K x dflt r)
def sw2 (K : Int → Prop) (x : Int32) (dflt : Int) : List (Int32 × Int) → Prop
  | [] => K dflt
  | q :: r => (x = q.1 → K q.2) ∧ (¬ x = q.1 → sw2 K x dflt r)
theorem sw2_sw {K : Int → Prop} {x : Int32} {dflt : Int} : ∀ (l : List (Int × Int)), sw2 K x dflt ((l.map (fun q => Int32.ofInt q.1)).zip (l.map (fun q => q.2))) → sw K x dflt l := by
  intro l
  induction l with
  | nil => intro h; exact h
  | cons q r ih => intro h; exact ⟨h.1, fun z => ih (h.2 z)⟩
def tbl (lo : Int) : List Int → List (Int × Int)
  | [] => []
  | o :: r => (lo, o) :: tbl (lo + 1) r
theorem tbl_snd : ∀ (l : List Int) (lo : Int), (tbl lo l).map (fun q => q.2) = l := by
  intro l
  induction l with
  | nil => intro lo; rfl
  | cons a r ih => intro lo; simp [tbl, ih]
def nfin (ci k : Nat) : Bool := !(Tn ci k).2.2.2
def gtf (ty : FieldType) (ls : Lc) (r : List Value) (o k : Nat) (I : Ints) (L : Lngs) (R : Rfs) (nx : NT) : Prop := match ty with
  | .long => nx ls (.long (L o k) :: r) I L R
  | .object _ => ∃ q, (sr0 o k = some q ∨ R o k = some q) ∧ nx ls (.ref q :: r) I L R
  | .array _ => ∃ q, (sr0 o k = some q ∨ R o k = some q) ∧ nx ls (.ref q :: r) I L R
  | .float => False
  | .double => False
  | _ => nx ls (.int (I o k) :: r) I L R
def piRf (st : List Value) (k : Int32 → Nat → List Value → Prop) : Prop := match st with
  | .int x :: .ref o :: r => k x o r
  | _ => False
def plRf (st : List Value) (k : Int64 → Nat → List Value → Prop) : Prop := match st with
  | .long x :: .ref o :: r => k x o r
  | _ => False
def prRf (st : List Value) (k : Nat → Nat → List Value → Prop) : Prop := match st with
  | .ref x :: .ref o :: r => k x o r
  | _ => False
def ptf (ty : FieldType) (ls : Lc) (st : List Value) (ci k : Nat) (I : Ints) (L : Lngs) (R : Rfs) (nx : NT) : Prop := match ty with
  | .int => piRf st (fun x o r => S0[o]? = some (Sum.inl ci) ∧ nx ls r (u2 I o k x) L R)
  | .boolean => piRf st (fun x o r => S0[o]? = some (Sum.inl ci) ∧ (x = 0 ∨ x = 1) ∧ nx ls r (u2 I o k x) L R)
  | .long => plRf st (fun x o r => S0[o]? = some (Sum.inl ci) ∧ nx ls r I (u2 L o k x) R)
  | .object _ => prRf st (fun x o r => S0[o]? = some (Sum.inl ci) ∧ sr0 o k = none ∧ nx ls r I L (u2 R o k (some x)))
  | .array _ => prRf st (fun x o r => S0[o]? = some (Sum.inl ci) ∧ sr0 o k = none ∧ nx ls r I L (u2 R o k (some x)))
  | _ => False
def rtv (ret : Option FieldType) (q : Q3) (x : Int32) (I : Ints) (L : Lngs) (R : Rfs) : Prop := match ret with
  | some .int => q (some (.int x)) I L R
  | some .boolean => (x = 0 ∨ x = 1) ∧ q (some (.int x)) I L R
  | _ => False
def popA (n : Nat) (st : List Value) : List Value × List Value := ((st.take n).reverse, st.drop n)
def clV (d : Nat) (sx : Sx) (mj : MI) (n ci : Nat) (ls : Lc) (st : List Value) (I : Ints) (L : Lngs) (R : Rfs) (nx : NT) : Prop := p1r (popA n st).2 (fun o r => (popA n st).1.length = n ∧ S0[o]? = some (Sum.inl ci) ∧ (r.map fun v => v.category).sum ≤ 8 ∧ E0 mj d sx (.ref o :: (popA n st).1) I L R (fun rv I L R => nx ls (rv.toList ++ r) I L R))
def clS (d : Nat) (sx : Sx) (mj : MI) (n : Nat) (ls : Lc) (st : List Value) (I : Ints) (L : Lngs) (R : Rfs) (nx : NT) : Prop := (popA n st).1.length = n ∧ ((popA n st).2.map fun v => v.category).sum ≤ 8 ∧ E0 mj d sx (popA n st).1 I L R (fun rv I L R => nx ls (rv.toList ++ (popA n st).2) I L R)
def clC (ls : Lc) (st : List Value) (I : Ints) (L : Lngs) (R : Rfs) (nx : NT) : Prop := match st with
  | .int n :: .int dp :: .ref o1 :: .int sp :: .ref o0 :: r => ∃ n0 n1, S0[o0]? = some (Sum.inr (.int, n0)) ∧ S0[o1]? = some (Sum.inr (.int, n1)) ∧ ¬ sp < 0 ∧ ¬ dp < 0 ∧ ¬ n < 0 ∧ sp.toNatClampNeg + n.toNatClampNeg ≤ n0 ∧ dp.toNatClampNeg + n.toNatClampNeg ≤ n1 ∧ (r.map fun v => v.category).sum ≤ 8 ∧ nx ls r (cp2 I o0 sp.toNatClampNeg o1 dp.toNatClampNeg n.toNatClampNeg) L R
  | _ => False
def wp1 (mi : MI) (d : Nat) (sx : Sx) (i : Instr) (cs : List Int32) (pc : Nat) (nx : NT) (jm : Nat → NT) (q : Q3) (ls : Lc) (st : List Value) (I : Ints) (L : Lngs) (R : Rfs) : Prop := match i with
  | .iconst _ => nx ls (.int (cs.headD 0) :: st) I L R
  | .bipush _ => nx ls (.int (cs.headD 0) :: st) I L R
  | .sipush _ => nx ls (.int (cs.headD 0) :: st) I L R
  | .lconst n => nx ls (.long (Int64.ofNat (n : Nat)) :: st) I L R
  | .ldc k => match kc mi.1 k with
    | some v => nx ls (.int v :: st) I L R
    | none => False
  | .ldc_w k => match kc mi.1 k with
    | some v => nx ls (.int v :: st) I L R
    | none => False
  | .ldc2_w k => match kl mi.1 k with
    | some v => nx ls (.long v :: st) I L R
    | none => False
  | .iadd => p2i st (fun x y r => nx ls (.int (x + y) :: r) I L R)
  | .isub => p2i st (fun x y r => nx ls (.int (x - y) :: r) I L R)
  | .imul => p2i st (fun x y r => nx ls (.int (x * y) :: r) I L R)
  | .iand => p2i st (fun x y r => nx ls (.int (x &&& y) :: r) I L R)
  | .ior => p2i st (fun x y r => nx ls (.int (x ||| y) :: r) I L R)
  | .ixor => p2i st (fun x y r => nx ls (.int (x ^^^ y) :: r) I L R)
  | .ishl => p2i st (fun x y r => nx ls (.int (x <<< (y &&& 31)) :: r) I L R)
  | .ishr => p2i st (fun x y r => nx ls (.int (x >>> (y &&& 31)) :: r) I L R)
  | .iushr => p2i st (fun x y r => nx ls (.int (x.toUInt32 >>> (y.toUInt32 &&& Int32.toUInt32 31)).toInt32 :: r) I L R)
  | .idiv => p2i st (fun x y r => ¬ y = 0 ∧ nx ls (.int (x / y) :: r) I L R)
  | .irem => p2i st (fun x y r => ¬ y = 0 ∧ nx ls (.int (x - x / y * y) :: r) I L R)
  | .ineg => p1i st (fun x r => nx ls (.int (-x) :: r) I L R)
  | .ladd => p2l st (fun x y r => nx ls (.long (x + y) :: r) I L R)
  | .lsub => p2l st (fun x y r => nx ls (.long (x - y) :: r) I L R)
  | .lmul => p2l st (fun x y r => nx ls (.long (x * y) :: r) I L R)
  | .land => p2l st (fun x y r => nx ls (.long (x &&& y) :: r) I L R)
  | .lor => p2l st (fun x y r => nx ls (.long (x ||| y) :: r) I L R)
  | .lxor => p2l st (fun x y r => nx ls (.long (x ^^^ y) :: r) I L R)
  | .ldiv => p2l st (fun x y r => ¬ y = 0 ∧ nx ls (.long (x / y) :: r) I L R)
  | .lrem => p2l st (fun x y r => ¬ y = 0 ∧ nx ls (.long (x - x / y * y) :: r) I L R)
  | .lshl => pli st (fun x y r => nx ls (.long (x <<< (y.toInt64 &&& 63)) :: r) I L R)
  | .lshr => pli st (fun x y r => nx ls (.long (x >>> (y.toInt64 &&& 63)) :: r) I L R)
  | .lushr => pli st (fun x y r => nx ls (.long (x.toUInt64 >>> (y.toInt64.toUInt64 &&& Int64.toUInt64 63)).toInt64 :: r) I L R)
  | .i2l => p1i st (fun x r => nx ls (.long x.toInt64 :: r) I L R)
  | .l2i => p1l st (fun x r => nx ls (.int x.toInt32 :: r) I L R)
  | .i2s => p1i st (fun x r => nx ls (.int x.toInt16.toInt32 :: r) I L R)
  | .i2c => p1i st (fun x r => nx ls (.int (x.toUInt32 % 65536).toInt32 :: r) I L R)
  | .lcmp => p2l st (fun x y r => nx ls (.int (lg_cmp x y) :: r) I L R)
  | .dup => p1v st (fun v r => nx ls (v :: v :: r) I L R)
  | .pop => p1v st (fun _ r => nx ls r I L R)
  | .dup2 => p2v st (fun v w r => nx ls (v :: w :: v :: w :: r) I L R)
  | .dup_x1 => p2v st (fun v w r => nx ls (v :: w :: v :: r) I L R)
  | .iload i => ldi (gL ls i) (fun x => nx ls (.int x :: st) I L R)
  | .iload_n i => ldi (gL ls i) (fun x => nx ls (.int x :: st) I L R)
  | .lload i => ldl (gL ls i) (fun x => nx ls (.long x :: st) I L R)
  | .lload_n i => ldl (gL ls i) (fun x => nx ls (.long x :: st) I L R)
  | .aload i => ldr (gL ls i) (fun x => nx ls (.ref x :: st) I L R)
  | .aload_n i => lda (gL ls i) (fun v => nx ls (v :: st) I L R)
  | .istore i => p1i st (fun x r => i < mi.2.2.2.1 ∧ nx (sL i (.int x) ls) r I L R)
  | .istore_n i => p1i st (fun x r => (i : Nat) < mi.2.2.2.1 ∧ nx (sL i (.int x) ls) r I L R)
  | .lstore i => p1l st (fun x r => i + 1 < mi.2.2.2.1 ∧ nx (sL2 i (.long x) ls) r I L R)
  | .lstore_n i => p1l st (fun x r => (i : Nat) + 1 < mi.2.2.2.1 ∧ nx (sL2 i (.long x) ls) r I L R)
  | .astore i => p1r st (fun x r => i < mi.2.2.2.1 ∧ nx (sL i (.ref x) ls) r I L R)
  | .astore_n i => p1r st (fun x r => (i : Nat) < mi.2.2.2.1 ∧ nx (sL i (.ref x) ls) r I L R)
  | .iinc i _ => ldi (gL ls i) (fun x => i < mi.2.2.2.1 ∧ nx (sL i (.int (x + cs.headD 0)) ls) st I L R)
  | .ifCond c off => p1i st (fun x r => (cnd c x 0 → jm (tg pc off) ls r I L R) ∧ (ncnd c x 0 → nx ls r I L R))
  | .if_icmp c off => p2i st (fun x y r => (cnd c x y → jm (tg pc off) ls r I L R) ∧ (ncnd c x y → nx ls r I L R))
  | .goto off => jm (tg pc off) ls st I L R
  | .tableswitch dflt _ _ offs => p1i st (fun x r => sw2 (fun off => jm (tg pc off) ls r I L R) x dflt (cs.zip offs.toList))
  | .lookupswitch dflt ps => p1i st (fun x r => sw2 (fun off => jm (tg pc off) ls r I L R) x dflt (cs.zip (ps.toList.map (fun q => q.2))))
  | .getfield k => p1r st (fun o r => match fl mi.1 k with
    | some f => S0[o]? = some (Sum.inl f.1) ∧ gtf (fty f.1 f.2) ls r o f.2 I L R nx
    | none => False)
  | .putfield k => match fl mi.1 k with
    | some f => nfin f.1 f.2 = true ∧ ptf (fty f.1 f.2) ls st f.1 f.2 I L R nx
    | none => False
  | .iaload => pil st (fun i v r => match v with
    | .ref o => ∃ n, S0[o]? = some (Sum.inr (.int, n)) ∧ vp_in i n ∧ nx ls (.int (I o i.toNatClampNeg) :: r) I L R
    | .retAddr _ => vp_in i sx.1 ∧ nx ls (.int (sx.2 i.toNatClampNeg) :: r) I L R
    | _ => False)
  | .caload => pir st (fun i o r => ∃ n, S0[o]? = some (Sum.inr (.char, n)) ∧ vp_in i n ∧ nx ls (.int (I o i.toNatClampNeg) :: r) I L R)
  | .saload => pir st (fun i o r => ∃ n, S0[o]? = some (Sum.inr (.short, n)) ∧ vp_in i n ∧ nx ls (.int (I o i.toNatClampNeg) :: r) I L R)
  | .baload => pir st (fun i o r => ∃ n, S0[o]? = some (Sum.inr (.boolean, n)) ∧ vp_in i n ∧ nx ls (.int (I o i.toNatClampNeg) :: r) I L R)
  | .laload => pir st (fun i o r => ∃ n, S0[o]? = some (Sum.inr (.long, n)) ∧ vp_in i n ∧ nx ls (.long (L o i.toNatClampNeg) :: r) I L R)
  | .aaload => pir st (fun i o r => ∃ n C q, S0[o]? = some (Sum.inr (.object C, n)) ∧ vp_in i n ∧ (sr0 o i.toNatClampNeg = some q ∨ R o i.toNatClampNeg = some q) ∧ nx ls (.ref q :: r) I L R)
  | .iastore => piir st (fun x i o r => ∃ n, S0[o]? = some (Sum.inr (.int, n)) ∧ vp_in i n ∧ nx ls r (u2 I o i.toNatClampNeg x) L R)
  | .castore => piir st (fun x i o r => ∃ n, S0[o]? = some (Sum.inr (.char, n)) ∧ vp_in i n ∧ nx ls r (u2 I o i.toNatClampNeg (vp_nar .char x)) L R)
  | .sastore => piir st (fun x i o r => ∃ n, S0[o]? = some (Sum.inr (.short, n)) ∧ vp_in i n ∧ nx ls r (u2 I o i.toNatClampNeg (vp_nar .short x)) L R)
  | .bastore => piir st (fun x i o r => ∃ n, S0[o]? = some (Sum.inr (.boolean, n)) ∧ vp_in i n ∧ nx ls r (u2 I o i.toNatClampNeg (vp_nar .boolean x)) L R)
  | .lastore => plir st (fun x i o r => ∃ n, S0[o]? = some (Sum.inr (.long, n)) ∧ vp_in i n ∧ nx ls r I (u2 L o i.toNatClampNeg x) R)
  | .arraylength => p1w st (fun v r => match v with
    | .ref o => ∃ ty n, S0[o]? = some (Sum.inr (ty, n)) ∧ nx ls (.int (Int32.ofNat n) :: r) I L R
    | .retAddr _ => nx ls (.int (Int32.ofNat sx.1) :: r) I L R
    | _ => False)
  | .ireturn => p1i st (fun x r => r = [] ∧ rtv mi.2.2.2.2 q x I L R)
  | .lreturn => p1l st (fun x r => r = [] ∧ mi.2.2.2.2 = some .long ∧ q (some (.long x)) I L R)
  | .areturn => p1r st (fun x r => r = [] ∧ (∃ C, mi.2.2.2.2 = some (.object C)) ∧ q (some (.ref x)) I L R)
  | .return_ => st = [] ∧ mi.2.2.2.2 = none ∧ q none I L R
  | .invokevirtual k => match ml mi.1 k with
    | some (mj, n, some ci) => clV d sx mj n ci ls st I L R nx
    | _ => False
  | .invokestatic k => match ml mi.1 k with
    | some (mj, n, none) => clS d sx mj n ls st I L R nx
    | some _ => False
    | none => (mi.1, k) ∈ acT ∧ clC ls st I L R nx
  | _ => False
