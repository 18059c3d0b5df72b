theorem X_iconst {mi : MI} {d mc ms : Nat} {al : Bool × Bool} {sr : Sr} {sx : Sx} {S : List Shp} {kc ks pc : Nat} {ls : Lc} {st : List Value} {I : Ints} {L : Lngs} {R : Rfs} {Q : Qt} {n : Int} (hd : decode mi.2.2.1 pc = .ok (.iconst n, 1)) (h : X mi d mc ms al sr sx S kc ks (pc + 1) ls (.int (Int32.ofInt n) :: st) I L R Q) : X mi d mc ms al sr sx S kc ks pc ls st I L R Q := by
  intro p l e Rm s m args below meth c D g ca H locs lsA hs hc
  exact lv_iconst hs.1 hs.2.1 hd rfl (h p l e Rm s m args below meth c D g ca H locs lsA hs hc)
theorem X_bipush {mi : MI} {d mc ms : Nat} {al : Bool × Bool} {sr : Sr} {sx : Sx} {S : List Shp} {kc ks pc : Nat} {ls : Lc} {st : List Value} {I : Ints} {L : Lngs} {R : Rfs} {Q : Qt} {n : Int} (hd : decode mi.2.2.1 pc = .ok (.bipush n, 2)) (h : X mi d mc ms al sr sx S kc ks (pc + 2) ls (.int (Int8.ofInt n).toInt32 :: st) I L R Q) : X mi d mc ms al sr sx S kc ks pc ls st I L R Q := by
  intro p l e Rm s m args below meth c D g ca H locs lsA hs hc
  exact lv_bipush hs.1 hs.2.1 hd rfl (h p l e Rm s m args below meth c D g ca H locs lsA hs hc)
theorem X_sipush {mi : MI} {d mc ms : Nat} {al : Bool × Bool} {sr : Sr} {sx : Sx} {S : List Shp} {kc ks pc : Nat} {ls : Lc} {st : List Value} {I : Ints} {L : Lngs} {R : Rfs} {Q : Qt} {n : Int} (hd : decode mi.2.2.1 pc = .ok (.sipush n, 3)) (h : X mi d mc ms al sr sx S kc ks (pc + 3) ls (.int (Int16.ofInt n).toInt32 :: st) I L R Q) : X mi d mc ms al sr sx S kc ks pc ls st I L R Q := by
  intro p l e Rm s m args below meth c D g ca H locs lsA hs hc
  exact lv_sipush hs.1 hs.2.1 hd rfl (h p l e Rm s m args below meth c D g ca H locs lsA hs hc)
theorem X_lconst {mi : MI} {d mc ms : Nat} {al : Bool × Bool} {sr : Sr} {sx : Sx} {S : List Shp} {kc ks pc : Nat} {ls : Lc} {st : List Value} {I : Ints} {L : Lngs} {R : Rfs} {Q : Qt} {n : Fin 2} (hd : decode mi.2.2.1 pc = .ok (.lconst n, 1)) (h : X mi d mc ms al sr sx S kc ks (pc + 1) ls (.long (Int64.ofNat (n : Nat)) :: st) I L R Q) : X mi d mc ms al sr sx S kc ks pc ls st I L R Q := by
  intro p l e Rm s m args below meth c D g ca H locs lsA hs hc
  exact lv_lconst hs.1 hs.2.1 hd rfl (h p l e Rm s m args below meth c D g ca H locs lsA hs hc)
theorem X_iadd {mi : MI} {d mc ms : Nat} {al : Bool × Bool} {sr : Sr} {sx : Sx} {S : List Shp} {kc ks pc : Nat} {ls : Lc} {st : List Value} {I : Ints} {L : Lngs} {R : Rfs} {Q : Qt} {x y : Int32} (hd : decode mi.2.2.1 pc = .ok (.iadd, 1)) (h : X mi d mc ms al sr sx S kc ks (pc + 1) ls (.int (x + y) :: st) I L R Q) : X mi d mc ms al sr sx S kc ks pc ls (.int y :: .int x :: st) I L R Q := by
  intro p l e Rm s m args below meth c D g ca H locs lsA hs hc
  exact lv_iadd hs.1 hs.2.1 hd (h p l e Rm s m args below meth c D g ca H locs lsA hs hc)
theorem X_isub {mi : MI} {d mc ms : Nat} {al : Bool × Bool} {sr : Sr} {sx : Sx} {S : List Shp} {kc ks pc : Nat} {ls : Lc} {st : List Value} {I : Ints} {L : Lngs} {R : Rfs} {Q : Qt} {x y : Int32} (hd : decode mi.2.2.1 pc = .ok (.isub, 1)) (h : X mi d mc ms al sr sx S kc ks (pc + 1) ls (.int (x - y) :: st) I L R Q) : X mi d mc ms al sr sx S kc ks pc ls (.int y :: .int x :: st) I L R Q := by
  intro p l e Rm s m args below meth c D g ca H locs lsA hs hc
  exact lv_isub hs.1 hs.2.1 hd (h p l e Rm s m args below meth c D g ca H locs lsA hs hc)
theorem X_imul {mi : MI} {d mc ms : Nat} {al : Bool × Bool} {sr : Sr} {sx : Sx} {S : List Shp} {kc ks pc : Nat} {ls : Lc} {st : List Value} {I : Ints} {L : Lngs} {R : Rfs} {Q : Qt} {x y : Int32} (hd : decode mi.2.2.1 pc = .ok (.imul, 1)) (h : X mi d mc ms al sr sx S kc ks (pc + 1) ls (.int (x * y) :: st) I L R Q) : X mi d mc ms al sr sx S kc ks pc ls (.int y :: .int x :: st) I L R Q := by
  intro p l e Rm s m args below meth c D g ca H locs lsA hs hc
  exact lv_imul hs.1 hs.2.1 hd (h p l e Rm s m args below meth c D g ca H locs lsA hs hc)
theorem X_iand {mi : MI} {d mc ms : Nat} {al : Bool × Bool} {sr : Sr} {sx : Sx} {S : List Shp} {kc ks pc : Nat} {ls : Lc} {st : List Value} {I : Ints} {L : Lngs} {R : Rfs} {Q : Qt} {x y : Int32} (hd : decode mi.2.2.1 pc = .ok (.iand, 1)) (h : X mi d mc ms al sr sx S kc ks (pc + 1) ls (.int (x &&& y) :: st) I L R Q) : X mi d mc ms al sr sx S kc ks pc ls (.int y :: .int x :: st) I L R Q := by
  intro p l e Rm s m args below meth c D g ca H locs lsA hs hc
  exact lv_iand hs.1 hs.2.1 hd (h p l e Rm s m args below meth c D g ca H locs lsA hs hc)
theorem X_ior {mi : MI} {d mc ms : Nat} {al : Bool × Bool} {sr : Sr} {sx : Sx} {S : List Shp} {kc ks pc : Nat} {ls : Lc} {st : List Value} {I : Ints} {L : Lngs} {R : Rfs} {Q : Qt} {x y : Int32} (hd : decode mi.2.2.1 pc = .ok (.ior, 1)) (h : X mi d mc ms al sr sx S kc ks (pc + 1) ls (.int (x ||| y) :: st) I L R Q) : X mi d mc ms al sr sx S kc ks pc ls (.int y :: .int x :: st) I L R Q := by
  intro p l e Rm s m args below meth c D g ca H locs lsA hs hc
  exact lv_ior hs.1 hs.2.1 hd (h p l e Rm s m args below meth c D g ca H locs lsA hs hc)
theorem X_ixor {mi : MI} {d mc ms : Nat} {al : Bool × Bool} {sr : Sr} {sx : Sx} {S : List Shp} {kc ks pc : Nat} {ls : Lc} {st : List Value} {I : Ints} {L : Lngs} {R : Rfs} {Q : Qt} {x y : Int32} (hd : decode mi.2.2.1 pc = .ok (.ixor, 1)) (h : X mi d mc ms al sr sx S kc ks (pc + 1) ls (.int (x ^^^ y) :: st) I L R Q) : X mi d mc ms al sr sx S kc ks pc ls (.int y :: .int x :: st) I L R Q := by
  intro p l e Rm s m args below meth c D g ca H locs lsA hs hc
  exact lv_ixor hs.1 hs.2.1 hd (h p l e Rm s m args below meth c D g ca H locs lsA hs hc)
theorem X_ishl {mi : MI} {d mc ms : Nat} {al : Bool × Bool} {sr : Sr} {sx : Sx} {S : List Shp} {kc ks pc : Nat} {ls : Lc} {st : List Value} {I : Ints} {L : Lngs} {R : Rfs} {Q : Qt} {x y : Int32} (hd : decode mi.2.2.1 pc = .ok (.ishl, 1)) (h : X mi d mc ms al sr sx S kc ks (pc + 1) ls (.int (x <<< (y &&& 31)) :: st) I L R Q) : X mi d mc ms al sr sx S kc ks pc ls (.int y :: .int x :: st) I L R Q := by
  intro p l e Rm s m args below meth c D g ca H locs lsA hs hc
  exact lv_ishl hs.1 hs.2.1 hd (h p l e Rm s m args below meth c D g ca H locs lsA hs hc)
theorem X_ishr {mi : MI} {d mc ms : Nat} {al : Bool × Bool} {sr : Sr} {sx : Sx} {S : List Shp} {kc ks pc : Nat} {ls : Lc} {st : List Value} {I : Ints} {L : Lngs} {R : Rfs} {Q : Qt} {x y : Int32} (hd : decode mi.2.2.1 pc = .ok (.ishr, 1)) (h : X mi d mc ms al sr sx S kc ks (pc + 1) ls (.int (x >>> (y &&& 31)) :: st) I L R Q) : X mi d mc ms al sr sx S kc ks pc ls (.int y :: .int x :: st) I L R Q := by
  intro p l e Rm s m args below meth c D g ca H locs lsA hs hc
  exact lv_ishr hs.1 hs.2.1 hd (h p l e Rm s m args below meth c D g ca H locs lsA hs hc)
theorem X_iushr {mi : MI} {d mc ms : Nat} {al : Bool × Bool} {sr : Sr} {sx : Sx} {S : List Shp} {kc ks pc : Nat} {ls : Lc} {st : List Value} {I : Ints} {L : Lngs} {R : Rfs} {Q : Qt} {x y : Int32} (hd : decode mi.2.2.1 pc = .ok (.iushr, 1)) (h : X mi d mc ms al sr sx S kc ks (pc + 1) ls (.int (x.toUInt32 >>> (y.toUInt32 &&& Int32.toUInt32 31)).toInt32 :: st) I L R Q) : X mi d mc ms al sr sx S kc ks pc ls (.int y :: .int x :: st) I L R Q := by
  intro p l e Rm s m args below meth c D g ca H locs lsA hs hc
  exact lv_iushr hs.1 hs.2.1 hd rfl (h p l e Rm s m args below meth c D g ca H locs lsA hs hc)
theorem X_idiv {mi : MI} {d mc ms : Nat} {al : Bool × Bool} {sr : Sr} {sx : Sx} {S : List Shp} {kc ks pc : Nat} {ls : Lc} {st : List Value} {I : Ints} {L : Lngs} {R : Rfs} {Q : Qt} {x y : Int32}(hne : ¬ y = 0) (hd : decode mi.2.2.1 pc = .ok (.idiv, 1)) (h : X mi d mc ms al sr sx S kc ks (pc + 1) ls (.int (x / y) :: st) I L R Q) : X mi d mc ms al sr sx S kc ks pc ls (.int y :: .int x :: st) I L R Q := by
  intro p l e Rm s m args below meth c D g ca H locs lsA hs hc
  exact lv_idiv hs.1 hs.2.1 hd hne (h p l e Rm s m args below meth c D g ca H locs lsA hs hc)
theorem X_irem {mi : MI} {d mc ms : Nat} {al : Bool × Bool} {sr : Sr} {sx : Sx} {S : List Shp} {kc ks pc : Nat} {ls : Lc} {st : List Value} {I : Ints} {L : Lngs} {R : Rfs} {Q : Qt} {x y : Int32}(hne : ¬ y = 0) (hd : decode mi.2.2.1 pc = .ok (.irem, 1)) (h : X mi d mc ms al sr sx S kc ks (pc + 1) ls (.int (x - x / y * y) :: st) I L R Q) : X mi d mc ms al sr sx S kc ks pc ls (.int y :: .int x :: st) I L R Q := by
  intro p l e Rm s m args below meth c D g ca H locs lsA hs hc
  exact lv_irem hs.1 hs.2.1 hd hne (h p l e Rm s m args below meth c D g ca H locs lsA hs hc)
theorem X_ineg {mi : MI} {d mc ms : Nat} {al : Bool × Bool} {sr : Sr} {sx : Sx} {S : List Shp} {kc ks pc : Nat} {ls : Lc} {st : List Value} {I : Ints} {L : Lngs} {R : Rfs} {Q : Qt} {x : Int32} (hd : decode mi.2.2.1 pc = .ok (.ineg, 1)) (h : X mi d mc ms al sr sx S kc ks (pc + 1) ls (.int (-x) :: st) I L R Q) : X mi d mc ms al sr sx S kc ks pc ls (.int x :: st) I L R Q := by
  intro p l e Rm s m args below meth c D g ca H locs lsA hs hc
  exact lv_ineg hs.1 hs.2.1 hd (h p l e Rm s m args below meth c D g ca H locs lsA hs hc)
theorem X_ladd {mi : MI} {d mc ms : Nat} {al : Bool × Bool} {sr : Sr} {sx : Sx} {S : List Shp} {kc ks pc : Nat} {ls : Lc} {st : List Value} {I : Ints} {L : Lngs} {R : Rfs} {Q : Qt} {x y : Int64} (hd : decode mi.2.2.1 pc = .ok (.ladd, 1)) (h : X mi d mc ms al sr sx S kc ks (pc + 1) ls (.long (x + y) :: st) I L R Q) : X mi d mc ms al sr sx S kc ks pc ls (.long y :: .long x :: st) I L R Q := by
  intro p l e Rm s m args below meth c D g ca H locs lsA hs hc
  exact lv_ladd hs.1 hs.2.1 hd (h p l e Rm s m args below meth c D g ca H locs lsA hs hc)
theorem X_lsub {mi : MI} {d mc ms : Nat} {al : Bool × Bool} {sr : Sr} {sx : Sx} {S : List Shp} {kc ks pc : Nat} {ls : Lc} {st : List Value} {I : Ints} {L : Lngs} {R : Rfs} {Q : Qt} {x y : Int64} (hd : decode mi.2.2.1 pc = .ok (.lsub, 1)) (h : X mi d mc ms al sr sx S kc ks (pc + 1) ls (.long (x - y) :: st) I L R Q) : X mi d mc ms al sr sx S kc ks pc ls (.long y :: .long x :: st) I L R Q := by
  intro p l e Rm s m args below meth c D g ca H locs lsA hs hc
  exact lv_lsub hs.1 hs.2.1 hd (h p l e Rm s m args below meth c D g ca H locs lsA hs hc)
theorem X_lmul {mi : MI} {d mc ms : Nat} {al : Bool × Bool} {sr : Sr} {sx : Sx} {S : List Shp} {kc ks pc : Nat} {ls : Lc} {st : List Value} {I : Ints} {L : Lngs} {R : Rfs} {Q : Qt} {x y : Int64} (hd : decode mi.2.2.1 pc = .ok (.lmul, 1)) (h : X mi d mc ms al sr sx S kc ks (pc + 1) ls (.long (x * y) :: st) I L R Q) : X mi d mc ms al sr sx S kc ks pc ls (.long y :: .long x :: st) I L R Q := by
  intro p l e Rm s m args below meth c D g ca H locs lsA hs hc
  exact lv_lmul hs.1 hs.2.1 hd (h p l e Rm s m args below meth c D g ca H locs lsA hs hc)
theorem X_land {mi : MI} {d mc ms : Nat} {al : Bool × Bool} {sr : Sr} {sx : Sx} {S : List Shp} {kc ks pc : Nat} {ls : Lc} {st : List Value} {I : Ints} {L : Lngs} {R : Rfs} {Q : Qt} {x y : Int64} (hd : decode mi.2.2.1 pc = .ok (.land, 1)) (h : X mi d mc ms al sr sx S kc ks (pc + 1) ls (.long (x &&& y) :: st) I L R Q) : X mi d mc ms al sr sx S kc ks pc ls (.long y :: .long x :: st) I L R Q := by
  intro p l e Rm s m args below meth c D g ca H locs lsA hs hc
  exact lv_land hs.1 hs.2.1 hd (h p l e Rm s m args below meth c D g ca H locs lsA hs hc)
theorem X_lor {mi : MI} {d mc ms : Nat} {al : Bool × Bool} {sr : Sr} {sx : Sx} {S : List Shp} {kc ks pc : Nat} {ls : Lc} {st : List Value} {I : Ints} {L : Lngs} {R : Rfs} {Q : Qt} {x y : Int64} (hd : decode mi.2.2.1 pc = .ok (.lor, 1)) (h : X mi d mc ms al sr sx S kc ks (pc + 1) ls (.long (x ||| y) :: st) I L R Q) : X mi d mc ms al sr sx S kc ks pc ls (.long y :: .long x :: st) I L R Q := by
  intro p l e Rm s m args below meth c D g ca H locs lsA hs hc
  exact lv_lor hs.1 hs.2.1 hd (h p l e Rm s m args below meth c D g ca H locs lsA hs hc)
theorem X_lxor {mi : MI} {d mc ms : Nat} {al : Bool × Bool} {sr : Sr} {sx : Sx} {S : List Shp} {kc ks pc : Nat} {ls : Lc} {st : List Value} {I : Ints} {L : Lngs} {R : Rfs} {Q : Qt} {x y : Int64} (hd : decode mi.2.2.1 pc = .ok (.lxor, 1)) (h : X mi d mc ms al sr sx S kc ks (pc + 1) ls (.long (x ^^^ y) :: st) I L R Q) : X mi d mc ms al sr sx S kc ks pc ls (.long y :: .long x :: st) I L R Q := by
  intro p l e Rm s m args below meth c D g ca H locs lsA hs hc
  exact lv_lxor hs.1 hs.2.1 hd (h p l e Rm s m args below meth c D g ca H locs lsA hs hc)
theorem X_ldiv {mi : MI} {d mc ms : Nat} {al : Bool × Bool} {sr : Sr} {sx : Sx} {S : List Shp} {kc ks pc : Nat} {ls : Lc} {st : List Value} {I : Ints} {L : Lngs} {R : Rfs} {Q : Qt} {x y : Int64}(hne : ¬ y = 0) (hd : decode mi.2.2.1 pc = .ok (.ldiv, 1)) (h : X mi d mc ms al sr sx S kc ks (pc + 1) ls (.long (x / y) :: st) I L R Q) : X mi d mc ms al sr sx S kc ks pc ls (.long y :: .long x :: st) I L R Q := by
  intro p l e Rm s m args below meth c D g ca H locs lsA hs hc
  exact lv_ldiv hs.1 hs.2.1 hd hne (h p l e Rm s m args below meth c D g ca H locs lsA hs hc)
theorem X_lrem {mi : MI} {d mc ms : Nat} {al : Bool × Bool} {sr : Sr} {sx : Sx} {S : List Shp} {kc ks pc : Nat} {ls : Lc} {st : List Value} {I : Ints} {L : Lngs} {R : Rfs} {Q : Qt} {x y : Int64}(hne : ¬ y = 0) (hd : decode mi.2.2.1 pc = .ok (.lrem, 1)) (h : X mi d mc ms al sr sx S kc ks (pc + 1) ls (.long (x - x / y * y) :: st) I L R Q) : X mi d mc ms al sr sx S kc ks pc ls (.long y :: .long x :: st) I L R Q := by
  intro p l e Rm s m args below meth c D g ca H locs lsA hs hc
  exact lv_lrem hs.1 hs.2.1 hd hne (h p l e Rm s m args below meth c D g ca H locs lsA hs hc)
theorem X_lshl {mi : MI} {d mc ms : Nat} {al : Bool × Bool} {sr : Sr} {sx : Sx} {S : List Shp} {kc ks pc : Nat} {ls : Lc} {st : List Value} {I : Ints} {L : Lngs} {R : Rfs} {Q : Qt} {x : Int64} {y : Int32} (hd : decode mi.2.2.1 pc = .ok (.lshl, 1)) (h : X mi d mc ms al sr sx S kc ks (pc + 1) ls (.long (x <<< (y.toInt64 &&& 63)) :: st) I L R Q) : X mi d mc ms al sr sx S kc ks pc ls (.int y :: .long x :: st) I L R Q := by
  intro p l e Rm s m args below meth c D g ca H locs lsA hs hc
  exact lv_lshl hs.1 hs.2.1 hd rfl (h p l e Rm s m args below meth c D g ca H locs lsA hs hc)
theorem X_lshr {mi : MI} {d mc ms : Nat} {al : Bool × Bool} {sr : Sr} {sx : Sx} {S : List Shp} {kc ks pc : Nat} {ls : Lc} {st : List Value} {I : Ints} {L : Lngs} {R : Rfs} {Q : Qt} {x : Int64} {y : Int32} (hd : decode mi.2.2.1 pc = .ok (.lshr, 1)) (h : X mi d mc ms al sr sx S kc ks (pc + 1) ls (.long (x >>> (y.toInt64 &&& 63)) :: st) I L R Q) : X mi d mc ms al sr sx S kc ks pc ls (.int y :: .long x :: st) I L R Q := by
  intro p l e Rm s m args below meth c D g ca H locs lsA hs hc
  exact lv_lshr hs.1 hs.2.1 hd rfl (h p l e Rm s m args below meth c D g ca H locs lsA hs hc)
theorem X_lushr {mi : MI} {d mc ms : Nat} {al : Bool × Bool} {sr : Sr} {sx : Sx} {S : List Shp} {kc ks pc : Nat} {ls : Lc} {st : List Value} {I : Ints} {L : Lngs} {R : Rfs} {Q : Qt} {x : Int64} {y : Int32} (hd : decode mi.2.2.1 pc = .ok (.lushr, 1)) (h : X mi d mc ms al sr sx S kc ks (pc + 1) ls (.long (x.toUInt64 >>> (y.toInt64.toUInt64 &&& Int64.toUInt64 63)).toInt64 :: st) I L R Q) : X mi d mc ms al sr sx S kc ks pc ls (.int y :: .long x :: st) I L R Q := by
  intro p l e Rm s m args below meth c D g ca H locs lsA hs hc
  exact lv_lushr hs.1 hs.2.1 hd rfl (h p l e Rm s m args below meth c D g ca H locs lsA hs hc)
theorem X_i2l {mi : MI} {d mc ms : Nat} {al : Bool × Bool} {sr : Sr} {sx : Sx} {S : List Shp} {kc ks pc : Nat} {ls : Lc} {st : List Value} {I : Ints} {L : Lngs} {R : Rfs} {Q : Qt} {x : Int32} (hd : decode mi.2.2.1 pc = .ok (.i2l, 1)) (h : X mi d mc ms al sr sx S kc ks (pc + 1) ls (.long x.toInt64 :: st) I L R Q) : X mi d mc ms al sr sx S kc ks pc ls (.int x :: st) I L R Q := by
  intro p l e Rm s m args below meth c D g ca H locs lsA hs hc
  exact lv_i2l hs.1 hs.2.1 hd rfl (h p l e Rm s m args below meth c D g ca H locs lsA hs hc)
theorem X_l2i {mi : MI} {d mc ms : Nat} {al : Bool × Bool} {sr : Sr} {sx : Sx} {S : List Shp} {kc ks pc : Nat} {ls : Lc} {st : List Value} {I : Ints} {L : Lngs} {R : Rfs} {Q : Qt} {x : Int64} (hd : decode mi.2.2.1 pc = .ok (.l2i, 1)) (h : X mi d mc ms al sr sx S kc ks (pc + 1) ls (.int x.toInt32 :: st) I L R Q) : X mi d mc ms al sr sx S kc ks pc ls (.long x :: st) I L R Q := by
  intro p l e Rm s m args below meth c D g ca H locs lsA hs hc
  exact lv_l2i hs.1 hs.2.1 hd rfl (h p l e Rm s m args below meth c D g ca H locs lsA hs hc)
theorem X_i2s {mi : MI} {d mc ms : Nat} {al : Bool × Bool} {sr : Sr} {sx : Sx} {S : List Shp} {kc ks pc : Nat} {ls : Lc} {st : List Value} {I : Ints} {L : Lngs} {R : Rfs} {Q : Qt} {x : Int32} (hd : decode mi.2.2.1 pc = .ok (.i2s, 1)) (h : X mi d mc ms al sr sx S kc ks (pc + 1) ls (.int x.toInt16.toInt32 :: st) I L R Q) : X mi d mc ms al sr sx S kc ks pc ls (.int x :: st) I L R Q := by
  intro p l e Rm s m args below meth c D g ca H locs lsA hs hc
  exact lv_i2s hs.1 hs.2.1 hd rfl (h p l e Rm s m args below meth c D g ca H locs lsA hs hc)
theorem X_i2c {mi : MI} {d mc ms : Nat} {al : Bool × Bool} {sr : Sr} {sx : Sx} {S : List Shp} {kc ks pc : Nat} {ls : Lc} {st : List Value} {I : Ints} {L : Lngs} {R : Rfs} {Q : Qt} {x : Int32} (hd : decode mi.2.2.1 pc = .ok (.i2c, 1)) (h : X mi d mc ms al sr sx S kc ks (pc + 1) ls (.int (x.toUInt32 % 65536).toInt32 :: st) I L R Q) : X mi d mc ms al sr sx S kc ks pc ls (.int x :: st) I L R Q := by
  intro p l e Rm s m args below meth c D g ca H locs lsA hs hc
  exact lv_i2c hs.1 hs.2.1 hd rfl (h p l e Rm s m args below meth c D g ca H locs lsA hs hc)
theorem X_null {mi : MI} {d mc ms : Nat} {al : Bool × Bool} {sr : Sr} {sx : Sx} {S : List Shp} {kc ks pc : Nat} {ls : Lc} {st : List Value} {I : Ints} {L : Lngs} {R : Rfs} {Q : Qt}  (hd : decode mi.2.2.1 pc = .ok (.aconst_null, 1)) (h : X mi d mc ms al sr sx S kc ks (pc + 1) ls (.null :: st) I L R Q) : X mi d mc ms al sr sx S kc ks pc ls st I L R Q := by
  intro p l e Rm s m args below meth c D g ca H locs lsA hs hc
  exact lv_null hs.1 hs.2.1 hd (h p l e Rm s m args below meth c D g ca H locs lsA hs hc)
theorem X_lcmp {mi : MI} {d mc ms : Nat} {al : Bool × Bool} {sr : Sr} {sx : Sx} {S : List Shp} {kc ks pc : Nat} {ls : Lc} {st : List Value} {I : Ints} {L : Lngs} {R : Rfs} {Q : Qt} {x y : Int64} (hd : decode mi.2.2.1 pc = .ok (.lcmp, 1)) (h : X mi d mc ms al sr sx S kc ks (pc + 1) ls (.int (lg_cmp x y) :: st) I L R Q) : X mi d mc ms al sr sx S kc ks pc ls (.long y :: .long x :: st) I L R Q := by
  intro p l e Rm s m args below meth c D g ca H locs lsA hs hc
  exact W.lcmp hs.1 hs.2.1 hd (h p l e Rm s m args below meth c D g ca H locs lsA hs hc)
theorem X_dup {mi : MI} {d mc ms : Nat} {al : Bool × Bool} {sr : Sr} {sx : Sx} {S : List Shp} {kc ks pc : Nat} {ls : Lc} {st : List Value} {I : Ints} {L : Lngs} {R : Rfs} {Q : Qt} {va : Value} (hva : va.category = 1) (hd : decode mi.2.2.1 pc = .ok (.dup, 1)) (h : X mi d mc ms al sr sx S kc ks (pc + 1) ls (va :: va :: st) I L R Q) : X mi d mc ms al sr sx S kc ks pc ls (va :: st) I L R Q := by
  intro p l e Rm s m args below meth c D g ca H locs lsA hs hc
  exact lv_dup hs.1 hs.2.1 hd (by rw [cvV_cat]; exact hva) (h p l e Rm s m args below meth c D g ca H locs lsA hs hc)
theorem X_pop {mi : MI} {d mc ms : Nat} {al : Bool × Bool} {sr : Sr} {sx : Sx} {S : List Shp} {kc ks pc : Nat} {ls : Lc} {st : List Value} {I : Ints} {L : Lngs} {R : Rfs} {Q : Qt} {va : Value} (hva : va.category = 1) (hd : decode mi.2.2.1 pc = .ok (.pop, 1)) (h : X mi d mc ms al sr sx S kc ks (pc + 1) ls st I L R Q) : X mi d mc ms al sr sx S kc ks pc ls (va :: st) I L R Q := by
  intro p l e Rm s m args below meth c D g ca H locs lsA hs hc
  exact lv_pop hs.1 hs.2.1 hd (by rw [cvV_cat]; exact hva) (h p l e Rm s m args below meth c D g ca H locs lsA hs hc)
theorem X_dup2 {mi : MI} {d mc ms : Nat} {al : Bool × Bool} {sr : Sr} {sx : Sx} {S : List Shp} {kc ks pc : Nat} {ls : Lc} {st : List Value} {I : Ints} {L : Lngs} {R : Rfs} {Q : Qt} {va vb : Value} (hva : va.category = 1) (hvb : vb.category = 1) (hd : decode mi.2.2.1 pc = .ok (.dup2, 1)) (h : X mi d mc ms al sr sx S kc ks (pc + 1) ls (va :: vb :: va :: vb :: st) I L R Q) : X mi d mc ms al sr sx S kc ks pc ls (va :: vb :: st) I L R Q := by
  intro p l e Rm s m args below meth c D g ca H locs lsA hs hc
  exact lv_dup2_11 hs.1 hs.2.1 hd (by rw [cvV_cat]; exact hva) (by rw [cvV_cat]; exact hvb) (h p l e Rm s m args below meth c D g ca H locs lsA hs hc)
theorem X_dup_x1 {mi : MI} {d mc ms : Nat} {al : Bool × Bool} {sr : Sr} {sx : Sx} {S : List Shp} {kc ks pc : Nat} {ls : Lc} {st : List Value} {I : Ints} {L : Lngs} {R : Rfs} {Q : Qt} {va vb : Value} (hva : va.category = 1) (hvb : vb.category = 1) (hd : decode mi.2.2.1 pc = .ok (.dup_x1, 1)) (h : X mi d mc ms al sr sx S kc ks (pc + 1) ls (va :: vb :: va :: st) I L R Q) : X mi d mc ms al sr sx S kc ks pc ls (va :: vb :: st) I L R Q := by
  intro p l e Rm s m args below meth c D g ca H locs lsA hs hc
  exact lv_dup_x1 hs.1 hs.2.1 hd (by rw [cvV_cat]; exact hva) (by rw [cvV_cat]; exact hvb) (h p l e Rm s m args below meth c D g ca H locs lsA hs hc)
theorem X_iload {mi : MI} {d mc ms : Nat} {al : Bool × Bool} {sr : Sr} {sx : Sx} {S : List Shp} {kc ks pc : Nat} {ls : Lc} {st : List Value} {I : Ints} {L : Lngs} {R : Rfs} {Q : Qt} {i : Nat} {x : Int32} (hl : gL ls i = some (.int x)) (hd : decode mi.2.2.1 pc = .ok (.iload i, 2)) (h : X mi d mc ms al sr sx S kc ks (pc + 2) ls (.int x :: st) I L R Q) : X mi d mc ms al sr sx S kc ks pc ls st I L R Q := by
  intro p l e Rm s m args below meth c D g ca H locs lsA hs hc
  exact lv_iload hs.1 hs.2.1 hd (gL_has hc.2.2.2.2.2.2 hl) (h p l e Rm s m args below meth c D g ca H locs lsA hs hc)
theorem X_iload_n {mi : MI} {d mc ms : Nat} {al : Bool × Bool} {sr : Sr} {sx : Sx} {S : List Shp} {kc ks pc : Nat} {ls : Lc} {st : List Value} {I : Ints} {L : Lngs} {R : Rfs} {Q : Qt} {i : Fin 4} {x : Int32} (hl : gL ls (i : Nat) = some (.int x)) (hd : decode mi.2.2.1 pc = .ok (.iload_n i, 1)) (h : X mi d mc ms al sr sx S kc ks (pc + 1) ls (.int x :: st) I L R Q) : X mi d mc ms al sr sx S kc ks pc ls st I L R Q := by
  intro p l e Rm s m args below meth c D g ca H locs lsA hs hc
  exact lv_iload_n hs.1 hs.2.1 hd rfl (gL_has hc.2.2.2.2.2.2 hl) (h p l e Rm s m args below meth c D g ca H locs lsA hs hc)
theorem X_lload {mi : MI} {d mc ms : Nat} {al : Bool × Bool} {sr : Sr} {sx : Sx} {S : List Shp} {kc ks pc : Nat} {ls : Lc} {st : List Value} {I : Ints} {L : Lngs} {R : Rfs} {Q : Qt} {i : Nat} {x : Int64} (hl : gL ls i = some (.long x)) (hd : decode mi.2.2.1 pc = .ok (.lload i, 2)) (h : X mi d mc ms al sr sx S kc ks (pc + 2) ls (.long x :: st) I L R Q) : X mi d mc ms al sr sx S kc ks pc ls st I L R Q := by
  intro p l e Rm s m args below meth c D g ca H locs lsA hs hc
  exact lv_lload hs.1 hs.2.1 hd (gL_has hc.2.2.2.2.2.2 hl) (h p l e Rm s m args below meth c D g ca H locs lsA hs hc)
theorem X_lload_n {mi : MI} {d mc ms : Nat} {al : Bool × Bool} {sr : Sr} {sx : Sx} {S : List Shp} {kc ks pc : Nat} {ls : Lc} {st : List Value} {I : Ints} {L : Lngs} {R : Rfs} {Q : Qt} {i : Fin 4} {x : Int64} (hl : gL ls (i : Nat) = some (.long x)) (hd : decode mi.2.2.1 pc = .ok (.lload_n i, 1)) (h : X mi d mc ms al sr sx S kc ks (pc + 1) ls (.long x :: st) I L R Q) : X mi d mc ms al sr sx S kc ks pc ls st I L R Q := by
  intro p l e Rm s m args below meth c D g ca H locs lsA hs hc
  exact lv_lload_n hs.1 hs.2.1 hd rfl (gL_has hc.2.2.2.2.2.2 hl) (h p l e Rm s m args below meth c D g ca H locs lsA hs hc)
theorem X_aload {mi : MI} {d mc ms : Nat} {al : Bool × Bool} {sr : Sr} {sx : Sx} {S : List Shp} {kc ks pc : Nat} {ls : Lc} {st : List Value} {I : Ints} {L : Lngs} {R : Rfs} {Q : Qt} {i : Nat} {x : Nat} (hl : gL ls i = some (.ref x)) (hd : decode mi.2.2.1 pc = .ok (.aload i, 2)) (h : X mi d mc ms al sr sx S kc ks (pc + 2) ls (.ref x :: st) I L R Q) : X mi d mc ms al sr sx S kc ks pc ls st I L R Q := by
  intro p l e Rm s m args below meth c D g ca H locs lsA hs hc
  exact lv_aload hs.1 hs.2.1 hd (gL_has hc.2.2.2.2.2.2 hl) (h p l e Rm s m args below meth c D g ca H locs lsA hs hc)
theorem X_aload_n {mi : MI} {d mc ms : Nat} {al : Bool × Bool} {sr : Sr} {sx : Sx} {S : List Shp} {kc ks pc : Nat} {ls : Lc} {st : List Value} {I : Ints} {L : Lngs} {R : Rfs} {Q : Qt} {i : Fin 4} {x : Nat} (hl : gL ls (i : Nat) = some (.ref x)) (hd : decode mi.2.2.1 pc = .ok (.aload_n i, 1)) (h : X mi d mc ms al sr sx S kc ks (pc + 1) ls (.ref x :: st) I L R Q) : X mi d mc ms al sr sx S kc ks pc ls st I L R Q := by
  intro p l e Rm s m args below meth c D g ca H locs lsA hs hc
  exact lv_aload_n hs.1 hs.2.1 hd rfl (gL_has hc.2.2.2.2.2.2 hl) (h p l e Rm s m args below meth c D g ca H locs lsA hs hc)
theorem X_aloadS_n {mi : MI} {d mc ms : Nat} {al : Bool × Bool} {sr : Sr} {sx : Sx} {S : List Shp} {kc ks pc : Nat} {ls : Lc} {st : List Value} {I : Ints} {L : Lngs} {R : Rfs} {Q : Qt} {i : Fin 4} {z : Nat} (hl : gL ls (i : Nat) = some (.retAddr z)) (hd : decode mi.2.2.1 pc = .ok (.aload_n i, 1)) (h : X mi d mc ms al sr sx S kc ks (pc + 1) ls (.retAddr z :: st) I L R Q) : X mi d mc ms al sr sx S kc ks pc ls st I L R Q := by
  intro p l e Rm s m args below meth c D g ca H locs lsA hs hc
  exact lv_aload_n hs.1 hs.2.1 hd rfl (gL_has hc.2.2.2.2.2.2 hl) (h p l e Rm s m args below meth c D g ca H locs lsA hs hc)
theorem X_istore {mi : MI} {d mc ms : Nat} {al : Bool × Bool} {sr : Sr} {sx : Sx} {S : List Shp} {kc ks pc : Nat} {ls : Lc} {st : List Value} {I : Ints} {L : Lngs} {R : Rfs} {Q : Qt} {i : Nat} {x : Int32} (hi : i < mi.2.2.2.1) (hd : decode mi.2.2.1 pc = .ok (.istore i, 2)) (h : X mi d mc ms al sr sx S kc ks (pc + 2) (sL i (.int x) ls) st I L R Q) : X mi d mc ms al sr sx S kc ks pc ls (.int x :: st) I L R Q := by
  intro p l e Rm s m args below meth c D g ca H locs lsA hs hc
  exact lv_istore hs.1 hs.2.1 hd hc.2.2.2.2.2.2 hi (sL_cv g i (.int x) ls) (fun lsB hl => (h p l e Rm s m args below meth c D g ca H locs lsB hs ⟨hc.1, hc.2.1, hc.2.2.1, hc.2.2.2.1, hc.2.2.2.2.1, hc.2.2.2.2.2.1, hl⟩))
theorem X_istore_n {mi : MI} {d mc ms : Nat} {al : Bool × Bool} {sr : Sr} {sx : Sx} {S : List Shp} {kc ks pc : Nat} {ls : Lc} {st : List Value} {I : Ints} {L : Lngs} {R : Rfs} {Q : Qt} {i : Fin 4} {x : Int32} (hi : (i : Nat) < mi.2.2.2.1) (hd : decode mi.2.2.1 pc = .ok (.istore_n i, 1)) (h : X mi d mc ms al sr sx S kc ks (pc + 1) (sL i (.int x) ls) st I L R Q) : X mi d mc ms al sr sx S kc ks pc ls (.int x :: st) I L R Q := by
  intro p l e Rm s m args below meth c D g ca H locs lsA hs hc
  exact lv_istore_n hs.1 hs.2.1 hd rfl hc.2.2.2.2.2.2 hi (sL_cv g i (.int x) ls) (fun lsB hl => (h p l e Rm s m args below meth c D g ca H locs lsB hs ⟨hc.1, hc.2.1, hc.2.2.1, hc.2.2.2.1, hc.2.2.2.2.1, hc.2.2.2.2.2.1, hl⟩))
theorem X_lstore {mi : MI} {d mc ms : Nat} {al : Bool × Bool} {sr : Sr} {sx : Sx} {S : List Shp} {kc ks pc : Nat} {ls : Lc} {st : List Value} {I : Ints} {L : Lngs} {R : Rfs} {Q : Qt} {i : Nat} {x : Int64} (hi : i + 1 < mi.2.2.2.1) (hd : decode mi.2.2.1 pc = .ok (.lstore i, 2)) (h : X mi d mc ms al sr sx S kc ks (pc + 2) (sL2 i (.long x) ls) st I L R Q) : X mi d mc ms al sr sx S kc ks pc ls (.long x :: st) I L R Q := by
  intro p l e Rm s m args below meth c D g ca H locs lsA hs hc
  exact lv_lstore hs.1 hs.2.1 hd hc.2.2.2.2.2.2 hi (sL2_cv g i (.long x) ls) (fun lsB hl => (h p l e Rm s m args below meth c D g ca H locs lsB hs ⟨hc.1, hc.2.1, hc.2.2.1, hc.2.2.2.1, hc.2.2.2.2.1, hc.2.2.2.2.2.1, hl⟩))
theorem X_lstore_n {mi : MI} {d mc ms : Nat} {al : Bool × Bool} {sr : Sr} {sx : Sx} {S : List Shp} {kc ks pc : Nat} {ls : Lc} {st : List Value} {I : Ints} {L : Lngs} {R : Rfs} {Q : Qt} {i : Fin 4} {x : Int64} (hi : (i : Nat) + 1 < mi.2.2.2.1) (hd : decode mi.2.2.1 pc = .ok (.lstore_n i, 1)) (h : X mi d mc ms al sr sx S kc ks (pc + 1) (sL2 i (.long x) ls) st I L R Q) : X mi d mc ms al sr sx S kc ks pc ls (.long x :: st) I L R Q := by
  intro p l e Rm s m args below meth c D g ca H locs lsA hs hc
  exact lv_lstore_n hs.1 hs.2.1 hd rfl hc.2.2.2.2.2.2 hi (sL2_cv g i (.long x) ls) (fun lsB hl => (h p l e Rm s m args below meth c D g ca H locs lsB hs ⟨hc.1, hc.2.1, hc.2.2.1, hc.2.2.2.1, hc.2.2.2.2.1, hc.2.2.2.2.2.1, hl⟩))
theorem X_astore {mi : MI} {d mc ms : Nat} {al : Bool × Bool} {sr : Sr} {sx : Sx} {S : List Shp} {kc ks pc : Nat} {ls : Lc} {st : List Value} {I : Ints} {L : Lngs} {R : Rfs} {Q : Qt} {i : Nat} {x : Nat} (hi : i < mi.2.2.2.1) (hd : decode mi.2.2.1 pc = .ok (.astore i, 2)) (h : X mi d mc ms al sr sx S kc ks (pc + 2) (sL i (.ref x) ls) st I L R Q) : X mi d mc ms al sr sx S kc ks pc ls (.ref x :: st) I L R Q := by
  intro p l e Rm s m args below meth c D g ca H locs lsA hs hc
  exact lv_astore hs.1 hs.2.1 hd hc.2.2.2.2.2.2 hi (sL_cv g i (.ref x) ls) (fun lsB hl => (h p l e Rm s m args below meth c D g ca H locs lsB hs ⟨hc.1, hc.2.1, hc.2.2.1, hc.2.2.2.1, hc.2.2.2.2.1, hc.2.2.2.2.2.1, hl⟩))
theorem X_astore_n {mi : MI} {d mc ms : Nat} {al : Bool × Bool} {sr : Sr} {sx : Sx} {S : List Shp} {kc ks pc : Nat} {ls : Lc} {st : List Value} {I : Ints} {L : Lngs} {R : Rfs} {Q : Qt} {i : Fin 4} {x : Nat} (hi : (i : Nat) < mi.2.2.2.1) (hd : decode mi.2.2.1 pc = .ok (.astore_n i, 1)) (h : X mi d mc ms al sr sx S kc ks (pc + 1) (sL i (.ref x) ls) st I L R Q) : X mi d mc ms al sr sx S kc ks pc ls (.ref x :: st) I L R Q := by
  intro p l e Rm s m args below meth c D g ca H locs lsA hs hc
  exact lv_astore_n hs.1 hs.2.1 hd rfl hc.2.2.2.2.2.2 hi (sL_cv g i (.ref x) ls) (fun lsB hl => (h p l e Rm s m args below meth c D g ca H locs lsB hs ⟨hc.1, hc.2.1, hc.2.2.1, hc.2.2.2.1, hc.2.2.2.2.1, hc.2.2.2.2.2.1, hl⟩))
theorem X_iinc {mi : MI} {d mc ms : Nat} {al : Bool × Bool} {sr : Sr} {sx : Sx} {S : List Shp} {kc ks pc : Nat} {ls : Lc} {st : List Value} {I : Ints} {L : Lngs} {R : Rfs} {Q : Qt} {i : Nat} {n : Int} {x : Int32} (hl : gL ls i = some (.int x)) (hi : i < mi.2.2.2.1) (hd : decode mi.2.2.1 pc = .ok (.iinc i n, 3)) (h : X mi d mc ms al sr sx S kc ks (pc + 3) (sL i (.int (x + Int32.ofInt n)) ls) st I L R Q) : X mi d mc ms al sr sx S kc ks pc ls st I L R Q := by
  intro p l e Rm s m args below meth c D g ca H locs lsA hs hc
  obtain ⟨k, hk⟩ := List.getElem?_of_mem (List.mem_map.mpr ⟨(i, Value.int x), gL_mem hl, rfl⟩ : (i, cvV g (.int x)) ∈ cvL g ls)
  exact lv_iinc hs.1 hs.2.1 hd hc.2.2.2.2.2.2 hk rfl hi (sL_cv g i (.int (x + Int32.ofInt n)) ls) (fun lsB hl => (h p l e Rm s m args below meth c D g ca H locs lsB hs ⟨hc.1, hc.2.1, hc.2.2.1, hc.2.2.2.1, hc.2.2.2.2.1, hc.2.2.2.2.2.1, hl⟩))
theorem X_if_eq {mi : MI} {d mc ms : Nat} {al : Bool × Bool} {sr : Sr} {sx : Sx} {S : List Shp} {kc ks pc : Nat} {ls : Lc} {st : List Value} {I : Ints} {L : Lngs} {R : Rfs} {Q : Qt} {x : Int32} {off : Int} {tgt : Nat} (hd : decode mi.2.2.1 pc = .ok (.ifCond .eq off, 3)) (ht : (pc : Int) + off = (tgt : Int)) (kt : x = 0 → X mi d mc ms al sr sx S kc ks tgt ls st I L R Q) (kf : ¬ x = 0 → X mi d mc ms al sr sx S kc ks (pc + 3) ls st I L R Q) : X mi d mc ms al sr sx S kc ks pc ls (.int x :: st) I L R Q := by
  intro p l e Rm s m args below meth c D g ca H locs lsA hs hc
  exact lv_if_eq hs.1 hs.2.1 hd ht (fun z => kt z p l e Rm s m args below meth c D g ca H locs lsA hs hc) (fun z => kf z p l e Rm s m args below meth c D g ca H locs lsA hs hc)
theorem X_icmp_eq {mi : MI} {d mc ms : Nat} {al : Bool × Bool} {sr : Sr} {sx : Sx} {S : List Shp} {kc ks pc : Nat} {ls : Lc} {st : List Value} {I : Ints} {L : Lngs} {R : Rfs} {Q : Qt} {x y : Int32} {off : Int} {tgt : Nat} (hd : decode mi.2.2.1 pc = .ok (.if_icmp .eq off, 3)) (ht : (pc : Int) + off = (tgt : Int)) (kt : x = y → X mi d mc ms al sr sx S kc ks tgt ls st I L R Q) (kf : ¬ x = y → X mi d mc ms al sr sx S kc ks (pc + 3) ls st I L R Q) : X mi d mc ms al sr sx S kc ks pc ls (.int y :: .int x :: st) I L R Q := by
  intro p l e Rm s m args below meth c D g ca H locs lsA hs hc
  exact lv_icmp_eq hs.1 hs.2.1 hd ht (fun z => kt z p l e Rm s m args below meth c D g ca H locs lsA hs hc) (fun z => kf z p l e Rm s m args below meth c D g ca H locs lsA hs hc)
theorem X_if_ne {mi : MI} {d mc ms : Nat} {al : Bool × Bool} {sr : Sr} {sx : Sx} {S : List Shp} {kc ks pc : Nat} {ls : Lc} {st : List Value} {I : Ints} {L : Lngs} {R : Rfs} {Q : Qt} {x : Int32} {off : Int} {tgt : Nat} (hd : decode mi.2.2.1 pc = .ok (.ifCond .ne off, 3)) (ht : (pc : Int) + off = (tgt : Int)) (kt : ¬ x = 0 → X mi d mc ms al sr sx S kc ks tgt ls st I L R Q) (kf : x = 0 → X mi d mc ms al sr sx S kc ks (pc + 3) ls st I L R Q) : X mi d mc ms al sr sx S kc ks pc ls (.int x :: st) I L R Q := by
  intro p l e Rm s m args below meth c D g ca H locs lsA hs hc
  exact lv_if_ne hs.1 hs.2.1 hd ht (fun z => kt z p l e Rm s m args below meth c D g ca H locs lsA hs hc) (fun z => kf z p l e Rm s m args below meth c D g ca H locs lsA hs hc)
theorem X_icmp_ne {mi : MI} {d mc ms : Nat} {al : Bool × Bool} {sr : Sr} {sx : Sx} {S : List Shp} {kc ks pc : Nat} {ls : Lc} {st : List Value} {I : Ints} {L : Lngs} {R : Rfs} {Q : Qt} {x y : Int32} {off : Int} {tgt : Nat} (hd : decode mi.2.2.1 pc = .ok (.if_icmp .ne off, 3)) (ht : (pc : Int) + off = (tgt : Int)) (kt : ¬ x = y → X mi d mc ms al sr sx S kc ks tgt ls st I L R Q) (kf : x = y → X mi d mc ms al sr sx S kc ks (pc + 3) ls st I L R Q) : X mi d mc ms al sr sx S kc ks pc ls (.int y :: .int x :: st) I L R Q := by
  intro p l e Rm s m args below meth c D g ca H locs lsA hs hc
  exact lv_icmp_ne hs.1 hs.2.1 hd ht (fun z => kt z p l e Rm s m args below meth c D g ca H locs lsA hs hc) (fun z => kf z p l e Rm s m args below meth c D g ca H locs lsA hs hc)
theorem X_if_lt {mi : MI} {d mc ms : Nat} {al : Bool × Bool} {sr : Sr} {sx : Sx} {S : List Shp} {kc ks pc : Nat} {ls : Lc} {st : List Value} {I : Ints} {L : Lngs} {R : Rfs} {Q : Qt} {x : Int32} {off : Int} {tgt : Nat} (hd : decode mi.2.2.1 pc = .ok (.ifCond .lt off, 3)) (ht : (pc : Int) + off = (tgt : Int)) (kt : x < 0 → X mi d mc ms al sr sx S kc ks tgt ls st I L R Q) (kf : ¬ x < 0 → X mi d mc ms al sr sx S kc ks (pc + 3) ls st I L R Q) : X mi d mc ms al sr sx S kc ks pc ls (.int x :: st) I L R Q := by
  intro p l e Rm s m args below meth c D g ca H locs lsA hs hc
  exact lv_if_lt hs.1 hs.2.1 hd ht (fun z => kt z p l e Rm s m args below meth c D g ca H locs lsA hs hc) (fun z => kf z p l e Rm s m args below meth c D g ca H locs lsA hs hc)
theorem X_icmp_lt {mi : MI} {d mc ms : Nat} {al : Bool × Bool} {sr : Sr} {sx : Sx} {S : List Shp} {kc ks pc : Nat} {ls : Lc} {st : List Value} {I : Ints} {L : Lngs} {R : Rfs} {Q : Qt} {x y : Int32} {off : Int} {tgt : Nat} (hd : decode mi.2.2.1 pc = .ok (.if_icmp .lt off, 3)) (ht : (pc : Int) + off = (tgt : Int)) (kt : x < y → X mi d mc ms al sr sx S kc ks tgt ls st I L R Q) (kf : ¬ x < y → X mi d mc ms al sr sx S kc ks (pc + 3) ls st I L R Q) : X mi d mc ms al sr sx S kc ks pc ls (.int y :: .int x :: st) I L R Q := by
  intro p l e Rm s m args below meth c D g ca H locs lsA hs hc
  exact lv_icmp_lt hs.1 hs.2.1 hd ht (fun z => kt z p l e Rm s m args below meth c D g ca H locs lsA hs hc) (fun z => kf z p l e Rm s m args below meth c D g ca H locs lsA hs hc)
theorem X_if_ge {mi : MI} {d mc ms : Nat} {al : Bool × Bool} {sr : Sr} {sx : Sx} {S : List Shp} {kc ks pc : Nat} {ls : Lc} {st : List Value} {I : Ints} {L : Lngs} {R : Rfs} {Q : Qt} {x : Int32} {off : Int} {tgt : Nat} (hd : decode mi.2.2.1 pc = .ok (.ifCond .ge off, 3)) (ht : (pc : Int) + off = (tgt : Int)) (kt : 0 ≤ x → X mi d mc ms al sr sx S kc ks tgt ls st I L R Q) (kf : ¬ 0 ≤ x → X mi d mc ms al sr sx S kc ks (pc + 3) ls st I L R Q) : X mi d mc ms al sr sx S kc ks pc ls (.int x :: st) I L R Q := by
  intro p l e Rm s m args below meth c D g ca H locs lsA hs hc
  exact lv_if_ge hs.1 hs.2.1 hd ht (fun z => kt z p l e Rm s m args below meth c D g ca H locs lsA hs hc) (fun z => kf z p l e Rm s m args below meth c D g ca H locs lsA hs hc)
theorem X_icmp_ge {mi : MI} {d mc ms : Nat} {al : Bool × Bool} {sr : Sr} {sx : Sx} {S : List Shp} {kc ks pc : Nat} {ls : Lc} {st : List Value} {I : Ints} {L : Lngs} {R : Rfs} {Q : Qt} {x y : Int32} {off : Int} {tgt : Nat} (hd : decode mi.2.2.1 pc = .ok (.if_icmp .ge off, 3)) (ht : (pc : Int) + off = (tgt : Int)) (kt : y ≤ x → X mi d mc ms al sr sx S kc ks tgt ls st I L R Q) (kf : ¬ y ≤ x → X mi d mc ms al sr sx S kc ks (pc + 3) ls st I L R Q) : X mi d mc ms al sr sx S kc ks pc ls (.int y :: .int x :: st) I L R Q := by
  intro p l e Rm s m args below meth c D g ca H locs lsA hs hc
  exact lv_icmp_ge hs.1 hs.2.1 hd ht (fun z => kt z p l e Rm s m args below meth c D g ca H locs lsA hs hc) (fun z => kf z p l e Rm s m args below meth c D g ca H locs lsA hs hc)
theorem X_if_gt {mi : MI} {d mc ms : Nat} {al : Bool × Bool} {sr : Sr} {sx : Sx} {S : List Shp} {kc ks pc : Nat} {ls : Lc} {st : List Value} {I : Ints} {L : Lngs} {R : Rfs} {Q : Qt} {x : Int32} {off : Int} {tgt : Nat} (hd : decode mi.2.2.1 pc = .ok (.ifCond .gt off, 3)) (ht : (pc : Int) + off = (tgt : Int)) (kt : 0 < x → X mi d mc ms al sr sx S kc ks tgt ls st I L R Q) (kf : ¬ 0 < x → X mi d mc ms al sr sx S kc ks (pc + 3) ls st I L R Q) : X mi d mc ms al sr sx S kc ks pc ls (.int x :: st) I L R Q := by
  intro p l e Rm s m args below meth c D g ca H locs lsA hs hc
  exact lv_if_gt hs.1 hs.2.1 hd ht (fun z => kt z p l e Rm s m args below meth c D g ca H locs lsA hs hc) (fun z => kf z p l e Rm s m args below meth c D g ca H locs lsA hs hc)
theorem X_icmp_gt {mi : MI} {d mc ms : Nat} {al : Bool × Bool} {sr : Sr} {sx : Sx} {S : List Shp} {kc ks pc : Nat} {ls : Lc} {st : List Value} {I : Ints} {L : Lngs} {R : Rfs} {Q : Qt} {x y : Int32} {off : Int} {tgt : Nat} (hd : decode mi.2.2.1 pc = .ok (.if_icmp .gt off, 3)) (ht : (pc : Int) + off = (tgt : Int)) (kt : y < x → X mi d mc ms al sr sx S kc ks tgt ls st I L R Q) (kf : ¬ y < x → X mi d mc ms al sr sx S kc ks (pc + 3) ls st I L R Q) : X mi d mc ms al sr sx S kc ks pc ls (.int y :: .int x :: st) I L R Q := by
  intro p l e Rm s m args below meth c D g ca H locs lsA hs hc
  exact lv_icmp_gt hs.1 hs.2.1 hd ht (fun z => kt z p l e Rm s m args below meth c D g ca H locs lsA hs hc) (fun z => kf z p l e Rm s m args below meth c D g ca H locs lsA hs hc)
theorem X_if_le {mi : MI} {d mc ms : Nat} {al : Bool × Bool} {sr : Sr} {sx : Sx} {S : List Shp} {kc ks pc : Nat} {ls : Lc} {st : List Value} {I : Ints} {L : Lngs} {R : Rfs} {Q : Qt} {x : Int32} {off : Int} {tgt : Nat} (hd : decode mi.2.2.1 pc = .ok (.ifCond .le off, 3)) (ht : (pc : Int) + off = (tgt : Int)) (kt : x ≤ 0 → X mi d mc ms al sr sx S kc ks tgt ls st I L R Q) (kf : ¬ x ≤ 0 → X mi d mc ms al sr sx S kc ks (pc + 3) ls st I L R Q) : X mi d mc ms al sr sx S kc ks pc ls (.int x :: st) I L R Q := by
  intro p l e Rm s m args below meth c D g ca H locs lsA hs hc
  exact lv_if_le hs.1 hs.2.1 hd ht (fun z => kt z p l e Rm s m args below meth c D g ca H locs lsA hs hc) (fun z => kf z p l e Rm s m args below meth c D g ca H locs lsA hs hc)
theorem X_icmp_le {mi : MI} {d mc ms : Nat} {al : Bool × Bool} {sr : Sr} {sx : Sx} {S : List Shp} {kc ks pc : Nat} {ls : Lc} {st : List Value} {I : Ints} {L : Lngs} {R : Rfs} {Q : Qt} {x y : Int32} {off : Int} {tgt : Nat} (hd : decode mi.2.2.1 pc = .ok (.if_icmp .le off, 3)) (ht : (pc : Int) + off = (tgt : Int)) (kt : x ≤ y → X mi d mc ms al sr sx S kc ks tgt ls st I L R Q) (kf : ¬ x ≤ y → X mi d mc ms al sr sx S kc ks (pc + 3) ls st I L R Q) : X mi d mc ms al sr sx S kc ks pc ls (.int y :: .int x :: st) I L R Q := by
  intro p l e Rm s m args below meth c D g ca H locs lsA hs hc
  exact lv_icmp_le hs.1 hs.2.1 hd ht (fun z => kt z p l e Rm s m args below meth c D g ca H locs lsA hs hc) (fun z => kf z p l e Rm s m args below meth c D g ca H locs lsA hs hc)
theorem X_goto {mi : MI} {d mc ms : Nat} {al : Bool × Bool} {sr : Sr} {sx : Sx} {S : List Shp} {kc ks pc : Nat} {ls : Lc} {st : List Value} {I : Ints} {L : Lngs} {R : Rfs} {Q : Qt} {off : Int} {tgt : Nat} (hd : decode mi.2.2.1 pc = .ok (.goto off, 3)) (ht : (pc : Int) + off = (tgt : Int)) (h : X mi d mc ms al sr sx S kc ks tgt ls st I L R Q) : X mi d mc ms al sr sx S kc ks pc ls st I L R Q := by
  intro p l e Rm s m args below meth c D g ca H locs lsA hs hc
  exact lv_goto hs.1 hs.2.1 hd ht (h p l e Rm s m args below meth c D g ca H locs lsA hs hc)
theorem X_ldc {mi : MI} {d mc ms : Nat} {al : Bool × Bool} {sr : Sr} {sx : Sx} {S : List Shp} {kc ks pc : Nat} {ls : Lc} {st : List Value} {I : Ints} {L : Lngs} {R : Rfs} {Q : Qt} {k : Nat} {v : Int32} (hw : Cond.constant (rn mi.1) k v ∈ Ts) (hd : decode mi.2.2.1 pc = .ok (.ldc k, 2)) (h : X mi d mc ms al sr sx S kc ks (pc + 2) ls (.int v :: st) I L R Q) : X mi d mc ms al sr sx S kc ks pc ls st I L R Q := by
  intro p l e Rm s m args below meth c D g ca H locs lsA hs hc
  exact lv_ldc hs.1 hs.2.1 hs.2.2.2.2.1 (hs.2.2.2.2.2.1 _ hw) hd (h p l e Rm s m args below meth c D g ca H locs lsA hs hc)
theorem X_ldc2 {mi : MI} {d mc ms : Nat} {al : Bool × Bool} {sr : Sr} {sx : Sx} {S : List Shp} {kc ks pc : Nat} {ls : Lc} {st : List Value} {I : Ints} {L : Lngs} {R : Rfs} {Q : Qt} {k : Nat} {v : Int64} (hw : Cond.constantLong (rn mi.1) k v ∈ Ts) (hd : decode mi.2.2.1 pc = .ok (.ldc2_w k, 3)) (h : X mi d mc ms al sr sx S kc ks (pc + 3) ls (.long v :: st) I L R Q) : X mi d mc ms al sr sx S kc ks pc ls st I L R Q := by
  intro p l e Rm s m args below meth c D g ca H locs lsA hs hc
  exact lv_ldc2 hs.1 hs.2.1 hs.2.2.2.2.1 (hs.2.2.2.2.2.1 _ hw) hd (h p l e Rm s m args below meth c D g ca H locs lsA hs hc)
/-! fields -/
def isI : FieldType → Bool
  | .long => false
  | .object _ => false
  | .array _ => false
  | .float => false
  | .double => false
  | _ => true
def isR : FieldType → Bool
  | .object _ => true
  | .array _ => true
  | _ => false
theorem fval_i {g : Gv} {I : Ints} {L : Lngs} {R : Rfs} {o k : Nat} {ty : FieldType} (h : isI ty = true) : fval g I L R o k ty = .int (I o k) := by cases ty <;> first | rfl | cases h
theorem fval_r {g : Gv} {I : Ints} {L : Lngs} {R : Rfs} {o k : Nat} {ty : FieldType} (h : isR ty = true) : fval g I L R o k ty = va_rf (cvR g (R o k)) := by cases ty <;> first | rfl | cases h
def FLok (oc idx ci k : Nat) : Prop := ∃ q : vw_C, vwCl[ci]? = some q ∧ k < q.2.2 ∧ Cond.fieldLink (rn oc) idx (q.2.1 k).1 (q.2.1 k).2.1 (q.2.1 k).2.2.1 ∈ Ts
theorem EnvW.K {g : Gv} {sx : Sx} {D : va_G} {ca : FieldType → ClassId} {S : List Shp} {U : State} (h : EnvW g sx D ca S U) : va_K D vwCl [] U := ⟨h.1, fun k q hk => by cases hk⟩
theorem EnvW.KA {g : Gv} {sx : Sx} {D : va_G} {ca : FieldType → ClassId} {S : List Shp} {U : State} (h : EnvW g sx D ca S U) {o n : Nat} {ty : FieldType} (hS : S[o]? = some (Sum.inr (ty, n))) : va_K D vwCl [(ca ty, ty)] U := ⟨h.1, fun k q hk => by
  have hz : k = 0 := by have := (List.getElem?_eq_some_iff.mp hk).1; simp at this; exact this
  subst hz
  cases hk
  exact h.2.1 o ty n hS⟩
theorem fs_get {g : Gv} {I : Ints} {L : Lngs} {R : Rfs} {o k ci : Nat} (hk : k < nfl ci) : ((List.range (nfl ci)).map (fun k => fval g I L R o k (fty ci k)))[k]? = some (fval g I L R o k (fty ci k)) := by
  simp [List.getElem?_map, List.getElem?_range hk]
theorem fs_set {g : Gv} {I I' : Ints} {L L' : Lngs} {R R' : Rfs} {o k ci : Nat} {v : Value} (hk : k < nfl ci) (hv : v = fval g I' L' R' o k (fty ci k)) (hn : ∀ j, j ≠ k → fval g I' L' R' o j (fty ci j) = fval g I L R o j (fty ci j)) : ((List.range (nfl ci)).map (fun k => fval g I L R o k (fty ci k))).set k v = (List.range (nfl ci)).map (fun k => fval g I' L' R' o k (fty ci k)) := by
  apply List.ext_getElem?
  intro j
  by_cases hj : j = k
  · subst hj
    rw [List.getElem?_set_self (by simpa using hk), fs_get hk, hv]
  · rw [List.getElem?_set_ne (Ne.symm hj)]
    by_cases hl : j < nfl ci
    · rw [fs_get hl, fs_get hl, hn j hj]
    · rw [List.getElem?_eq_none (by simpa using hl), List.getElem?_eq_none (by simpa using hl)]
theorem fval_ne {g : Gv} {I I' : Ints} {L L' : Lngs} {R R' : Rfs} {o j : Nat} {ty : FieldType} (hI : I' o j = I o j) (hL : L' o j = L o j) (hR : R' o j = R o j) : fval g I' L' R' o j ty = fval g I L R o j ty := by
  unfold fval
  rw [hI, hL, hR]
theorem u2_self {α : Type} (f : Nat → Nat → α) (o k : Nat) (v : α) : u2 f o k v o k = v := by simp [u2]
theorem u2_nk {α : Type} (f : Nat → Nat → α) (o k j : Nat) (v : α) (h : j ≠ k) : u2 f o k v o j = f o j := by simp [u2, h]
theorem X_geti {mi : MI} {d mc ms : Nat} {al : Bool × Bool} {sr : Sr} {sx : Sx} {S : List Shp} {kc ks pc : Nat} {ls : Lc} {st : List Value} {I : Ints} {L : Lngs} {R : Rfs} {Q : Qt} {o ci k idx : Nat} (hf : FLok mi.1 idx ci k) (ht : isI (fty ci k) = true) (hS : S[o]? = some (Sum.inl ci)) (hd : decode mi.2.2.1 pc = .ok (.getfield idx, 3)) (h : X mi d mc ms al sr sx S kc ks (pc + 3) ls ((.int (I o k)) :: st) I L R Q) : X mi d mc ms al sr sx S kc ks pc ls (.ref o :: st) I L R Q := by
  intro p l e Rm s m args below meth c D g ca H locs lsA hs hc
  obtain ⟨w, h1, h2, h3⟩ := hf
  have ho := clOK ci w h1
  have hk : k < nfl ci := by rw [← ho.2.2.2]; exact h2
  exact va_get (D := D) (ci := ci) (v := .int (I o k)) (C := w.1) (T := w.2.1) (N := w.2.2) hs.1 hs.2.1 hs.2.2.2.2.2.1 ho.1 hs.2.2.2.2.1 hc.1.K hc.2.2.2.1 o (wsW_get hS) h1 k h2 (hs.2.2.2.2.2.1 _ h3) (fun _ h9 => h9) ((fs_get hk).trans (congrArg some (fval_i ht))) hd (h p l e Rm s m args below meth c D g ca H locs lsA hs hc)
theorem X_getl {mi : MI} {d mc ms : Nat} {al : Bool × Bool} {sr : Sr} {sx : Sx} {S : List Shp} {kc ks pc : Nat} {ls : Lc} {st : List Value} {I : Ints} {L : Lngs} {R : Rfs} {Q : Qt} {o ci k idx : Nat} (hf : FLok mi.1 idx ci k) (ht : fty ci k = .long) (hS : S[o]? = some (Sum.inl ci)) (hd : decode mi.2.2.1 pc = .ok (.getfield idx, 3)) (h : X mi d mc ms al sr sx S kc ks (pc + 3) ls ((.long (L o k)) :: st) I L R Q) : X mi d mc ms al sr sx S kc ks pc ls (.ref o :: st) I L R Q := by
  intro p l e Rm s m args below meth c D g ca H locs lsA hs hc
  obtain ⟨w, h1, h2, h3⟩ := hf
  have ho := clOK ci w h1
  have hk : k < nfl ci := by rw [← ho.2.2.2]; exact h2
  exact va_get (D := D) (ci := ci) (v := .long (L o k)) (C := w.1) (T := w.2.1) (N := w.2.2) hs.1 hs.2.1 hs.2.2.2.2.2.1 ho.1 hs.2.2.2.2.1 hc.1.K hc.2.2.2.1 o (wsW_get hS) h1 k h2 (hs.2.2.2.2.2.1 _ h3) (fun _ h9 => h9) ((fs_get hk).trans (congrArg some ((by rw [ht]; rfl)))) hd (h p l e Rm s m args below meth c D g ca H locs lsA hs hc)
theorem X_getr {mi : MI} {d mc ms : Nat} {al : Bool × Bool} {sr : Sr} {sx : Sx} {S : List Shp} {kc ks pc : Nat} {ls : Lc} {st : List Value} {I : Ints} {L : Lngs} {R : Rfs} {Q : Qt} {o ci k idx : Nat} {q : Nat} (hq : R o k = some q) (hf : FLok mi.1 idx ci k) (ht : isR (fty ci k) = true) (hS : S[o]? = some (Sum.inl ci)) (hd : decode mi.2.2.1 pc = .ok (.getfield idx, 3)) (h : X mi d mc ms al sr sx S kc ks (pc + 3) ls ((.ref q) :: st) I L R Q) : X mi d mc ms al sr sx S kc ks pc ls (.ref o :: st) I L R Q := by
  intro p l e Rm s m args below meth c D g ca H locs lsA hs hc
  obtain ⟨w, h1, h2, h3⟩ := hf
  have ho := clOK ci w h1
  have hk : k < nfl ci := by rw [← ho.2.2.2]; exact h2
  exact va_get (D := D) (ci := ci) (v := .ref (g.1 + q)) (C := w.1) (T := w.2.1) (N := w.2.2) hs.1 hs.2.1 hs.2.2.2.2.2.1 ho.1 hs.2.2.2.2.1 hc.1.K hc.2.2.2.1 o (wsW_get hS) h1 k h2 (hs.2.2.2.2.2.1 _ h3) (fun _ h9 => h9) ((fs_get hk).trans (congrArg some (((fval_r ht).trans (by rw [hq]; rfl))))) hd (h p l e Rm s m args below meth c D g ca H locs lsA hs hc)
theorem X_puti {mi : MI} {d mc ms : Nat} {al : Bool × Bool} {sr : Sr} {sx : Sx} {S : List Shp} {kc ks pc : Nat} {ls : Lc} {st : List Value} {I : Ints} {L : Lngs} {R : Rfs} {Q : Qt} {o ci k idx : Nat} {x : Int32} (hf : FLok mi.1 idx ci k) (ht : fty ci k = .int) (hfin : ∀ q, vwCl[ci]? = some q → (q.2.1 k).2.2.2 = false) (hS : S[o]? = some (Sum.inl ci)) (hd : decode mi.2.2.1 pc = .ok (.putfield idx, 3)) (h : X mi d mc ms al sr sx S kc ks (pc + 3) ls st (u2 I o k x) L R Q) : X mi d mc ms al sr sx S kc ks pc ls (.int x :: .ref o :: st) I L R Q := by
  intro p l e Rm s m args below meth c D g ca H locs lsA hs hc
  obtain ⟨w, h1, h2, h3⟩ := hf
  have ho := clOK ci w h1
  have hk : k < nfl ci := by rw [← ho.2.2.2]; exact h2
  refine va_put (D := D) (ci := ci) (v := .int x) (ty := fty ci k) (C := w.1) (T := w.2.1) (N := w.2.2) hs.1 hs.2.1 hs.2.2.2.2.2.1 ho.1 (fty ci) ho.2.2.1 ho.2.1 hs.2.2.2.2.1 hc.1.K hc.2.2.2.1 (wsW_D g ca S I L R) hc.2.2.2.2.1 o (wsW_get hS) h1 k h2 (hs.2.2.2.2.2.1 _ h3) (fun _ h9 => h9) (hfin _ h1) (ho.2.2.1 k h2) (by rw [ht]; rfl) (by rw [ht]; rfl) (by simpa using hk) hd (fun H1 locs1 hP hD hS1 => ?_)
  have e9 := wsW_set (g := g) (ca := ca) (S := S) (I := I) (L := L) (R := R) (I' := u2 I o k x) (L' := L) (R' := R) (s := Sum.inl ci) hS (congrArg (fun z => Sum.inr (ci, z)) (fs_set (v := .int x) (g := g) (I := I) (L := L) (R := R) (I' := u2 I o k x) (L' := L) (R' := R) hk ((fval_i (by rw [ht]; rfl)).trans (by rw [u2_self])).symm (fun j hj => fval_ne (u2_nk _ _ _ _ _ hj) rfl rfl))) (fun j hj t => celW_ne (u2_ne _ _ _ hj) rfl rfl t)
  rw [e9] at hP
  exact h p l e Rm s m args below meth c D g ca H1 locs1 lsA hs ⟨hc.1, hc.2.1, hc.2.2.1, hP, hS1, hc.2.2.2.2.2.1, hc.2.2.2.2.2.2⟩
theorem X_putiF {mi : MI} {d mc ms : Nat} {al : Bool × Bool} {sr : Sr} {sx : Sx} {S : List Shp} {kc ks pc : Nat} {ls : Lc} {st : List Value} {I : Ints} {L : Lngs} {R : Rfs} {Q : Qt} {o ci k idx : Nat} {x : Int32} (hf : FLok mi.1 idx ci k) (ht : fty ci k = .int) (hfin : ∀ q, vwCl[ci]? = some q → (q.2.1 k).2.2.2 = true ∧ (q.2.1 k).1 = rn mi.1) (hin : mi.2.1.name = "<init>") (hS : S[o]? = some (Sum.inl ci)) (hd : decode mi.2.2.1 pc = .ok (.putfield idx, 3)) (h : X mi d mc ms al sr sx S kc ks (pc + 3) ls st (u2 I o k x) L R Q) : X mi d mc ms al sr sx S kc ks pc ls (.int x :: .ref o :: st) I L R Q := by
  intro p l e Rm s m args below meth c D g ca H locs lsA hs hc
  obtain ⟨w, h1, h2, h3⟩ := hf
  have ho := clOK ci w h1
  have hk : k < nfl ci := by rw [← ho.2.2.2]; exact h2
  refine va_putF (D := D) (ci := ci) (v := .int x) (ty := fty ci k) (C := w.1) (T := w.2.1) (N := w.2.2) hs.1 hs.2.1 hs.2.2.2.2.2.1 ho.1 (fty ci) ho.2.2.1 ho.2.1 hs.2.2.2.2.1 hc.1.K hc.2.2.2.1 (wsW_D g ca S I L R) hc.2.2.2.2.1 o (wsW_get hS) h1 k h2 (hs.2.2.2.2.2.1 _ h3) (fun _ h9 => h9) (hfin _ h1).1 (hs.2.2.2.2.2.2.2.1.trans hin) (hfin _ h1).2 (ho.2.2.1 k h2) (by rw [ht]; rfl) (by rw [ht]; rfl) (by simpa using hk) hd (fun H1 locs1 hP hD hS1 => ?_)
  have e9 := wsW_set (g := g) (ca := ca) (S := S) (I := I) (L := L) (R := R) (I' := u2 I o k x) (L' := L) (R' := R) (s := Sum.inl ci) hS (congrArg (fun z => Sum.inr (ci, z)) (fs_set (v := .int x) (g := g) (I := I) (L := L) (R := R) (I' := u2 I o k x) (L' := L) (R' := R) hk ((fval_i (by rw [ht]; rfl)).trans (by rw [u2_self])).symm (fun j hj => fval_ne (u2_nk _ _ _ _ _ hj) rfl rfl))) (fun j hj t => celW_ne (u2_ne _ _ _ hj) rfl rfl t)
  rw [e9] at hP
  exact h p l e Rm s m args below meth c D g ca H1 locs1 lsA hs ⟨hc.1, hc.2.1, hc.2.2.1, hP, hS1, hc.2.2.2.2.2.1, hc.2.2.2.2.2.2⟩
theorem X_putz {mi : MI} {d mc ms : Nat} {al : Bool × Bool} {sr : Sr} {sx : Sx} {S : List Shp} {kc ks pc : Nat} {ls : Lc} {st : List Value} {I : Ints} {L : Lngs} {R : Rfs} {Q : Qt} {o ci k idx : Nat} {x : Int32} (hf : FLok mi.1 idx ci k) (ht : fty ci k = .boolean) (hz : x = 0 ∨ x = 1) (hfin : ∀ q, vwCl[ci]? = some q → (q.2.1 k).2.2.2 = false) (hS : S[o]? = some (Sum.inl ci)) (hd : decode mi.2.2.1 pc = .ok (.putfield idx, 3)) (h : X mi d mc ms al sr sx S kc ks (pc + 3) ls st (u2 I o k x) L R Q) : X mi d mc ms al sr sx S kc ks pc ls (.int x :: .ref o :: st) I L R Q := by
  intro p l e Rm s m args below meth c D g ca H locs lsA hs hc
  obtain ⟨w, h1, h2, h3⟩ := hf
  have ho := clOK ci w h1
  have hk : k < nfl ci := by rw [← ho.2.2.2]; exact h2
  refine va_put (D := D) (ci := ci) (v := .int x) (ty := fty ci k) (C := w.1) (T := w.2.1) (N := w.2.2) hs.1 hs.2.1 hs.2.2.2.2.2.1 ho.1 (fty ci) ho.2.2.1 ho.2.1 hs.2.2.2.2.1 hc.1.K hc.2.2.2.1 (wsW_D g ca S I L R) hc.2.2.2.2.1 o (wsW_get hS) h1 k h2 (hs.2.2.2.2.2.1 _ h3) (fun _ h9 => h9) (hfin _ h1) (ho.2.2.1 k h2) (by rw [ht]; rcases hz with rfl | rfl <;> rfl) (by rw [ht]; first | rfl | (rcases hz with rfl | rfl <;> rfl)) (by simpa using hk) hd (fun H1 locs1 hP hD hS1 => ?_)
  have e9 := wsW_set (g := g) (ca := ca) (S := S) (I := I) (L := L) (R := R) (I' := u2 I o k x) (L' := L) (R' := R) (s := Sum.inl ci) hS (congrArg (fun z => Sum.inr (ci, z)) (fs_set (v := .int x) (g := g) (I := I) (L := L) (R := R) (I' := u2 I o k x) (L' := L) (R' := R) hk ((fval_i (by rw [ht]; rfl)).trans (by rw [u2_self])).symm (fun j hj => fval_ne (u2_nk _ _ _ _ _ hj) rfl rfl))) (fun j hj t => celW_ne (u2_ne _ _ _ hj) rfl rfl t)
  rw [e9] at hP
  exact h p l e Rm s m args below meth c D g ca H1 locs1 lsA hs ⟨hc.1, hc.2.1, hc.2.2.1, hP, hS1, hc.2.2.2.2.2.1, hc.2.2.2.2.2.2⟩
theorem X_putzF {mi : MI} {d mc ms : Nat} {al : Bool × Bool} {sr : Sr} {sx : Sx} {S : List Shp} {kc ks pc : Nat} {ls : Lc} {st : List Value} {I : Ints} {L : Lngs} {R : Rfs} {Q : Qt} {o ci k idx : Nat} {x : Int32} (hf : FLok mi.1 idx ci k) (ht : fty ci k = .boolean) (hz : x = 0 ∨ x = 1) (hfin : ∀ q, vwCl[ci]? = some q → (q.2.1 k).2.2.2 = true ∧ (q.2.1 k).1 = rn mi.1) (hin : mi.2.1.name = "<init>") (hS : S[o]? = some (Sum.inl ci)) (hd : decode mi.2.2.1 pc = .ok (.putfield idx, 3)) (h : X mi d mc ms al sr sx S kc ks (pc + 3) ls st (u2 I o k x) L R Q) : X mi d mc ms al sr sx S kc ks pc ls (.int x :: .ref o :: st) I L R Q := by
  intro p l e Rm s m args below meth c D g ca H locs lsA hs hc
  obtain ⟨w, h1, h2, h3⟩ := hf
  have ho := clOK ci w h1
  have hk : k < nfl ci := by rw [← ho.2.2.2]; exact h2
  refine va_putF (D := D) (ci := ci) (v := .int x) (ty := fty ci k) (C := w.1) (T := w.2.1) (N := w.2.2) hs.1 hs.2.1 hs.2.2.2.2.2.1 ho.1 (fty ci) ho.2.2.1 ho.2.1 hs.2.2.2.2.1 hc.1.K hc.2.2.2.1 (wsW_D g ca S I L R) hc.2.2.2.2.1 o (wsW_get hS) h1 k h2 (hs.2.2.2.2.2.1 _ h3) (fun _ h9 => h9) (hfin _ h1).1 (hs.2.2.2.2.2.2.2.1.trans hin) (hfin _ h1).2 (ho.2.2.1 k h2) (by rw [ht]; rcases hz with rfl | rfl <;> rfl) (by rw [ht]; first | rfl | (rcases hz with rfl | rfl <;> rfl)) (by simpa using hk) hd (fun H1 locs1 hP hD hS1 => ?_)
  have e9 := wsW_set (g := g) (ca := ca) (S := S) (I := I) (L := L) (R := R) (I' := u2 I o k x) (L' := L) (R' := R) (s := Sum.inl ci) hS (congrArg (fun z => Sum.inr (ci, z)) (fs_set (v := .int x) (g := g) (I := I) (L := L) (R := R) (I' := u2 I o k x) (L' := L) (R' := R) hk ((fval_i (by rw [ht]; rfl)).trans (by rw [u2_self])).symm (fun j hj => fval_ne (u2_nk _ _ _ _ _ hj) rfl rfl))) (fun j hj t => celW_ne (u2_ne _ _ _ hj) rfl rfl t)
  rw [e9] at hP
  exact h p l e Rm s m args below meth c D g ca H1 locs1 lsA hs ⟨hc.1, hc.2.1, hc.2.2.1, hP, hS1, hc.2.2.2.2.2.1, hc.2.2.2.2.2.2⟩
theorem X_putl {mi : MI} {d mc ms : Nat} {al : Bool × Bool} {sr : Sr} {sx : Sx} {S : List Shp} {kc ks pc : Nat} {ls : Lc} {st : List Value} {I : Ints} {L : Lngs} {R : Rfs} {Q : Qt} {o ci k idx : Nat} {x : Int64} (hf : FLok mi.1 idx ci k) (ht : fty ci k = .long) (hfin : ∀ q, vwCl[ci]? = some q → (q.2.1 k).2.2.2 = false) (hS : S[o]? = some (Sum.inl ci)) (hd : decode mi.2.2.1 pc = .ok (.putfield idx, 3)) (h : X mi d mc ms al sr sx S kc ks (pc + 3) ls st I (u2 L o k x) R Q) : X mi d mc ms al sr sx S kc ks pc ls (.long x :: .ref o :: st) I L R Q := by
  intro p l e Rm s m args below meth c D g ca H locs lsA hs hc
  obtain ⟨w, h1, h2, h3⟩ := hf
  have ho := clOK ci w h1
  have hk : k < nfl ci := by rw [← ho.2.2.2]; exact h2
  refine va_put (D := D) (ci := ci) (v := .long x) (ty := fty ci k) (C := w.1) (T := w.2.1) (N := w.2.2) hs.1 hs.2.1 hs.2.2.2.2.2.1 ho.1 (fty ci) ho.2.2.1 ho.2.1 hs.2.2.2.2.1 hc.1.K hc.2.2.2.1 (wsW_D g ca S I L R) hc.2.2.2.2.1 o (wsW_get hS) h1 k h2 (hs.2.2.2.2.2.1 _ h3) (fun _ h9 => h9) (hfin _ h1) (ho.2.2.1 k h2) (by rw [ht]; rfl) (by rw [ht]; rfl) (by simpa using hk) hd (fun H1 locs1 hP hD hS1 => ?_)
  have e9 := wsW_set (g := g) (ca := ca) (S := S) (I := I) (L := L) (R := R) (I' := I) (L' := u2 L o k x) (R' := R) (s := Sum.inl ci) hS (congrArg (fun z => Sum.inr (ci, z)) (fs_set (v := .long x) (g := g) (I := I) (L := L) (R := R) (I' := I) (L' := u2 L o k x) (R' := R) hk (by rw [ht]; show Value.long x = Value.long (u2 L o k x o k); rw [u2_self]) (fun j hj => fval_ne rfl (u2_nk _ _ _ _ _ hj) rfl))) (fun j hj t => celW_ne rfl (u2_ne _ _ _ hj) rfl t)
  rw [e9] at hP
  exact h p l e Rm s m args below meth c D g ca H1 locs1 lsA hs ⟨hc.1, hc.2.1, hc.2.2.1, hP, hS1, hc.2.2.2.2.2.1, hc.2.2.2.2.2.2⟩
theorem X_putlF {mi : MI} {d mc ms : Nat} {al : Bool × Bool} {sr : Sr} {sx : Sx} {S : List Shp} {kc ks pc : Nat} {ls : Lc} {st : List Value} {I : Ints} {L : Lngs} {R : Rfs} {Q : Qt} {o ci k idx : Nat} {x : Int64} (hf : FLok mi.1 idx ci k) (ht : fty ci k = .long) (hfin : ∀ q, vwCl[ci]? = some q → (q.2.1 k).2.2.2 = true ∧ (q.2.1 k).1 = rn mi.1) (hin : mi.2.1.name = "<init>") (hS : S[o]? = some (Sum.inl ci)) (hd : decode mi.2.2.1 pc = .ok (.putfield idx, 3)) (h : X mi d mc ms al sr sx S kc ks (pc + 3) ls st I (u2 L o k x) R Q) : X mi d mc ms al sr sx S kc ks pc ls (.long x :: .ref o :: st) I L R Q := by
  intro p l e Rm s m args below meth c D g ca H locs lsA hs hc
  obtain ⟨w, h1, h2, h3⟩ := hf
  have ho := clOK ci w h1
  have hk : k < nfl ci := by rw [← ho.2.2.2]; exact h2
  refine va_putF (D := D) (ci := ci) (v := .long x) (ty := fty ci k) (C := w.1) (T := w.2.1) (N := w.2.2) hs.1 hs.2.1 hs.2.2.2.2.2.1 ho.1 (fty ci) ho.2.2.1 ho.2.1 hs.2.2.2.2.1 hc.1.K hc.2.2.2.1 (wsW_D g ca S I L R) hc.2.2.2.2.1 o (wsW_get hS) h1 k h2 (hs.2.2.2.2.2.1 _ h3) (fun _ h9 => h9) (hfin _ h1).1 (hs.2.2.2.2.2.2.2.1.trans hin) (hfin _ h1).2 (ho.2.2.1 k h2) (by rw [ht]; rfl) (by rw [ht]; rfl) (by simpa using hk) hd (fun H1 locs1 hP hD hS1 => ?_)
  have e9 := wsW_set (g := g) (ca := ca) (S := S) (I := I) (L := L) (R := R) (I' := I) (L' := u2 L o k x) (R' := R) (s := Sum.inl ci) hS (congrArg (fun z => Sum.inr (ci, z)) (fs_set (v := .long x) (g := g) (I := I) (L := L) (R := R) (I' := I) (L' := u2 L o k x) (R' := R) hk (by rw [ht]; show Value.long x = Value.long (u2 L o k x o k); rw [u2_self]) (fun j hj => fval_ne rfl (u2_nk _ _ _ _ _ hj) rfl))) (fun j hj t => celW_ne rfl (u2_ne _ _ _ hj) rfl t)
  rw [e9] at hP
  exact h p l e Rm s m args below meth c D g ca H1 locs1 lsA hs ⟨hc.1, hc.2.1, hc.2.2.1, hP, hS1, hc.2.2.2.2.2.1, hc.2.2.2.2.2.2⟩
theorem X_putr {mi : MI} {d mc ms : Nat} {al : Bool × Bool} {sr : Sr} {sx : Sx} {S : List Shp} {kc ks pc : Nat} {ls : Lc} {st : List Value} {I : Ints} {L : Lngs} {R : Rfs} {Q : Qt} {o ci k idx : Nat} {x : Nat} (hf : FLok mi.1 idx ci k) (ht : isR (fty ci k) = true) (hsr : sr o k = none) (hfin : ∀ q, vwCl[ci]? = some q → (q.2.1 k).2.2.2 = false) (hS : S[o]? = some (Sum.inl ci)) (hd : decode mi.2.2.1 pc = .ok (.putfield idx, 3)) (h : X mi d mc ms al sr sx S kc ks (pc + 3) ls st I L (u2 R o k (some x)) Q) : X mi d mc ms al sr sx S kc ks pc ls (.ref x :: .ref o :: st) I L R Q := by
  intro p l e Rm s m args below meth c D g ca H locs lsA hs hc
  obtain ⟨w, h1, h2, h3⟩ := hf
  have ho := clOK ci w h1
  have hk : k < nfl ci := by rw [← ho.2.2.2]; exact h2
  refine va_put (D := D) (ci := ci) (v := .ref (g.1 + x)) (ty := fty ci k) (C := w.1) (T := w.2.1) (N := w.2.2) hs.1 hs.2.1 hs.2.2.2.2.2.1 ho.1 (fty ci) ho.2.2.1 ho.2.1 hs.2.2.2.2.1 hc.1.K hc.2.2.2.1 (wsW_D g ca S I L R) hc.2.2.2.2.1 o (wsW_get hS) h1 k h2 (hs.2.2.2.2.2.1 _ h3) (fun _ h9 => h9) (hfin _ h1) (ho.2.2.1 k h2) (by revert ht; cases fty ci k <;> intro ht <;> first | rfl | cases ht) (by revert ht; cases fty ci k <;> intro ht <;> first | rfl | cases ht) (by simpa using hk) hd (fun H1 locs1 hP hD hS1 => ?_)
  have e9 := wsW_set (g := g) (ca := ca) (S := S) (I := I) (L := L) (R := R) (I' := I) (L' := L) (R' := u2 R o k (some x)) (s := Sum.inl ci) hS (congrArg (fun z => Sum.inr (ci, z)) (fs_set (v := .ref (g.1 + x)) (g := g) (I := I) (L := L) (R := R) (I' := I) (L' := L) (R' := u2 R o k (some x)) hk ((fval_r ht).trans (by rw [u2_self]; rfl)).symm (fun j hj => fval_ne rfl rfl (u2_nk _ _ _ _ _ hj)))) (fun j hj t => celW_ne rfl rfl (u2_ne _ _ _ hj) t)
  rw [e9] at hP
  exact h p l e Rm s m args below meth c D g ca H1 locs1 lsA hs ⟨hc.1, (fun o2 k2 q2 hq2 => by
      by_cases e1 : o2 = o ∧ k2 = k
      · rw [e1.1, e1.2, hsr] at hq2; cases hq2
      · rw [← hc.2.1 o2 k2 q2 hq2]; unfold u2; by_cases e2 : o2 = o
        · rw [if_pos e2, if_neg (fun z => e1 ⟨e2, z⟩)]
        · rw [if_neg e2]), hc.2.2.1, hP, hS1, hc.2.2.2.2.2.1, hc.2.2.2.2.2.2⟩
theorem X_putrF {mi : MI} {d mc ms : Nat} {al : Bool × Bool} {sr : Sr} {sx : Sx} {S : List Shp} {kc ks pc : Nat} {ls : Lc} {st : List Value} {I : Ints} {L : Lngs} {R : Rfs} {Q : Qt} {o ci k idx : Nat} {x : Nat} (hf : FLok mi.1 idx ci k) (ht : isR (fty ci k) = true) (hsr : sr o k = none) (hfin : ∀ q, vwCl[ci]? = some q → (q.2.1 k).2.2.2 = true ∧ (q.2.1 k).1 = rn mi.1) (hin : mi.2.1.name = "<init>") (hS : S[o]? = some (Sum.inl ci)) (hd : decode mi.2.2.1 pc = .ok (.putfield idx, 3)) (h : X mi d mc ms al sr sx S kc ks (pc + 3) ls st I L (u2 R o k (some x)) Q) : X mi d mc ms al sr sx S kc ks pc ls (.ref x :: .ref o :: st) I L R Q := by
  intro p l e Rm s m args below meth c D g ca H locs lsA hs hc
  obtain ⟨w, h1, h2, h3⟩ := hf
  have ho := clOK ci w h1
  have hk : k < nfl ci := by rw [← ho.2.2.2]; exact h2
  refine va_putF (D := D) (ci := ci) (v := .ref (g.1 + x)) (ty := fty ci k) (C := w.1) (T := w.2.1) (N := w.2.2) hs.1 hs.2.1 hs.2.2.2.2.2.1 ho.1 (fty ci) ho.2.2.1 ho.2.1 hs.2.2.2.2.1 hc.1.K hc.2.2.2.1 (wsW_D g ca S I L R) hc.2.2.2.2.1 o (wsW_get hS) h1 k h2 (hs.2.2.2.2.2.1 _ h3) (fun _ h9 => h9) (hfin _ h1).1 (hs.2.2.2.2.2.2.2.1.trans hin) (hfin _ h1).2 (ho.2.2.1 k h2) (by revert ht; cases fty ci k <;> intro ht <;> first | rfl | cases ht) (by revert ht; cases fty ci k <;> intro ht <;> first | rfl | cases ht) (by simpa using hk) hd (fun H1 locs1 hP hD hS1 => ?_)
  have e9 := wsW_set (g := g) (ca := ca) (S := S) (I := I) (L := L) (R := R) (I' := I) (L' := L) (R' := u2 R o k (some x)) (s := Sum.inl ci) hS (congrArg (fun z => Sum.inr (ci, z)) (fs_set (v := .ref (g.1 + x)) (g := g) (I := I) (L := L) (R := R) (I' := I) (L' := L) (R' := u2 R o k (some x)) hk ((fval_r ht).trans (by rw [u2_self]; rfl)).symm (fun j hj => fval_ne rfl rfl (u2_nk _ _ _ _ _ hj)))) (fun j hj t => celW_ne rfl rfl (u2_ne _ _ _ hj) t)
  rw [e9] at hP
  exact h p l e Rm s m args below meth c D g ca H1 locs1 lsA hs ⟨hc.1, (fun o2 k2 q2 hq2 => by
      by_cases e1 : o2 = o ∧ k2 = k
      · rw [e1.1, e1.2, hsr] at hq2; cases hq2
      · rw [← hc.2.1 o2 k2 q2 hq2]; unfold u2; by_cases e2 : o2 = o
        · rw [if_pos e2, if_neg (fun z => e1 ⟨e2, z⟩)]
        · rw [if_neg e2]), hc.2.2.1, hP, hS1, hc.2.2.2.2.2.1, hc.2.2.2.2.2.2⟩
theorem X_putn {mi : MI} {d mc ms : Nat} {al : Bool × Bool} {sr : Sr} {sx : Sx} {S : List Shp} {kc ks pc : Nat} {ls : Lc} {st : List Value} {I : Ints} {L : Lngs} {R : Rfs} {Q : Qt} {o ci k idx : Nat} (hf : FLok mi.1 idx ci k) (ht : isR (fty ci k) = true) (hsr : sr o k = none) (hfin : ∀ q, vwCl[ci]? = some q → (q.2.1 k).2.2.2 = false) (hS : S[o]? = some (Sum.inl ci)) (hd : decode mi.2.2.1 pc = .ok (.putfield idx, 3)) (h : X mi d mc ms al sr sx S kc ks (pc + 3) ls st I L (u2 R o k none) Q) : X mi d mc ms al sr sx S kc ks pc ls (.null :: .ref o :: st) I L R Q := by
  intro p l e Rm s m args below meth c D g ca H locs lsA hs hc
  obtain ⟨w, h1, h2, h3⟩ := hf
  have ho := clOK ci w h1
  have hk : k < nfl ci := by rw [← ho.2.2.2]; exact h2
  refine va_put (D := D) (ci := ci) (v := .null) (ty := fty ci k) (C := w.1) (T := w.2.1) (N := w.2.2) hs.1 hs.2.1 hs.2.2.2.2.2.1 ho.1 (fty ci) ho.2.2.1 ho.2.1 hs.2.2.2.2.1 hc.1.K hc.2.2.2.1 (wsW_D g ca S I L R) hc.2.2.2.2.1 o (wsW_get hS) h1 k h2 (hs.2.2.2.2.2.1 _ h3) (fun _ h9 => h9) (hfin _ h1) (ho.2.2.1 k h2) (by revert ht; cases fty ci k <;> intro ht <;> first | rfl | cases ht) (by revert ht; cases fty ci k <;> intro ht <;> first | rfl | cases ht) (by simpa using hk) hd (fun H1 locs1 hP hD hS1 => ?_)
  have e9 := wsW_set (g := g) (ca := ca) (S := S) (I := I) (L := L) (R := R) (I' := I) (L' := L) (R' := u2 R o k none) (s := Sum.inl ci) hS (congrArg (fun z => Sum.inr (ci, z)) (fs_set (v := .null) (g := g) (I := I) (L := L) (R := R) (I' := I) (L' := L) (R' := u2 R o k none) hk ((fval_r ht).trans (by rw [u2_self]; rfl)).symm (fun j hj => fval_ne rfl rfl (u2_nk _ _ _ _ _ hj)))) (fun j hj t => celW_ne rfl rfl (u2_ne _ _ _ hj) t)
  rw [e9] at hP
  exact h p l e Rm s m args below meth c D g ca H1 locs1 lsA hs ⟨hc.1, (fun o2 k2 q2 hq2 => by
      by_cases e1 : o2 = o ∧ k2 = k
      · rw [e1.1, e1.2, hsr] at hq2; cases hq2
      · rw [← hc.2.1 o2 k2 q2 hq2]; unfold u2; by_cases e2 : o2 = o
        · rw [if_pos e2, if_neg (fun z => e1 ⟨e2, z⟩)]
        · rw [if_neg e2]), hc.2.2.1, hP, hS1, hc.2.2.2.2.2.1, hc.2.2.2.2.2.2⟩
theorem X_putnF {mi : MI} {d mc ms : Nat} {al : Bool × Bool} {sr : Sr} {sx : Sx} {S : List Shp} {kc ks pc : Nat} {ls : Lc} {st : List Value} {I : Ints} {L : Lngs} {R : Rfs} {Q : Qt} {o ci k idx : Nat} (hf : FLok mi.1 idx ci k) (ht : isR (fty ci k) = true) (hsr : sr o k = none) (hfin : ∀ q, vwCl[ci]? = some q → (q.2.1 k).2.2.2 = true ∧ (q.2.1 k).1 = rn mi.1) (hin : mi.2.1.name = "<init>") (hS : S[o]? = some (Sum.inl ci)) (hd : decode mi.2.2.1 pc = .ok (.putfield idx, 3)) (h : X mi d mc ms al sr sx S kc ks (pc + 3) ls st I L (u2 R o k none) Q) : X mi d mc ms al sr sx S kc ks pc ls (.null :: .ref o :: st) I L R Q := by
  intro p l e Rm s m args below meth c D g ca H locs lsA hs hc
  obtain ⟨w, h1, h2, h3⟩ := hf
  have ho := clOK ci w h1
  have hk : k < nfl ci := by rw [← ho.2.2.2]; exact h2
  refine va_putF (D := D) (ci := ci) (v := .null) (ty := fty ci k) (C := w.1) (T := w.2.1) (N := w.2.2) hs.1 hs.2.1 hs.2.2.2.2.2.1 ho.1 (fty ci) ho.2.2.1 ho.2.1 hs.2.2.2.2.1 hc.1.K hc.2.2.2.1 (wsW_D g ca S I L R) hc.2.2.2.2.1 o (wsW_get hS) h1 k h2 (hs.2.2.2.2.2.1 _ h3) (fun _ h9 => h9) (hfin _ h1).1 (hs.2.2.2.2.2.2.2.1.trans hin) (hfin _ h1).2 (ho.2.2.1 k h2) (by revert ht; cases fty ci k <;> intro ht <;> first | rfl | cases ht) (by revert ht; cases fty ci k <;> intro ht <;> first | rfl | cases ht) (by simpa using hk) hd (fun H1 locs1 hP hD hS1 => ?_)
  have e9 := wsW_set (g := g) (ca := ca) (S := S) (I := I) (L := L) (R := R) (I' := I) (L' := L) (R' := u2 R o k none) (s := Sum.inl ci) hS (congrArg (fun z => Sum.inr (ci, z)) (fs_set (v := .null) (g := g) (I := I) (L := L) (R := R) (I' := I) (L' := L) (R' := u2 R o k none) hk ((fval_r ht).trans (by rw [u2_self]; rfl)).symm (fun j hj => fval_ne rfl rfl (u2_nk _ _ _ _ _ hj)))) (fun j hj t => celW_ne rfl rfl (u2_ne _ _ _ hj) t)
  rw [e9] at hP
  exact h p l e Rm s m args below meth c D g ca H1 locs1 lsA hs ⟨hc.1, (fun o2 k2 q2 hq2 => by
      by_cases e1 : o2 = o ∧ k2 = k
      · rw [e1.1, e1.2, hsr] at hq2; cases hq2
      · rw [← hc.2.1 o2 k2 q2 hq2]; unfold u2; by_cases e2 : o2 = o
        · rw [if_pos e2, if_neg (fun z => e1 ⟨e2, z⟩)]
        · rw [if_neg e2]), hc.2.2.1, hP, hS1, hc.2.2.2.2.2.1, hc.2.2.2.2.2.2⟩
/-! arrays -/
theorem X_iald {mi : MI} {d mc ms : Nat} {al : Bool × Bool} {sr : Sr} {sx : Sx} {S : List Shp} {kc ks pc : Nat} {ls : Lc} {st : List Value} {I : Ints} {L : Lngs} {R : Rfs} {Q : Qt} {o n : Nat} {i : Int32} (hS : S[o]? = some (Sum.inr (.int, n))) (hi : vp_in i n) (hd : decode mi.2.2.1 pc = .ok (.iaload, 1)) (h : X mi d mc ms al sr sx S kc ks (pc + 1) ls (.int (I o i.toNatClampNeg) :: st) I L R Q) : X mi d mc ms al sr sx S kc ks pc ls (.int i :: .ref o :: st) I L R Q := by
  intro p l e Rm s m args below meth c D g ca H locs lsA hs hc
  exact va_iald hs.1 hs.2.1 (hc.1.KA hS) hc.2.2.2.1 o 0 (wsW_get hS) rfl hi hd (h p l e Rm s m args below meth c D g ca H locs lsA hs hc)
theorem X_cald {mi : MI} {d mc ms : Nat} {al : Bool × Bool} {sr : Sr} {sx : Sx} {S : List Shp} {kc ks pc : Nat} {ls : Lc} {st : List Value} {I : Ints} {L : Lngs} {R : Rfs} {Q : Qt} {o n : Nat} {i : Int32} (hS : S[o]? = some (Sum.inr (.char, n))) (hi : vp_in i n) (hd : decode mi.2.2.1 pc = .ok (.caload, 1)) (h : X mi d mc ms al sr sx S kc ks (pc + 1) ls (.int (I o i.toNatClampNeg) :: st) I L R Q) : X mi d mc ms al sr sx S kc ks pc ls (.int i :: .ref o :: st) I L R Q := by
  intro p l e Rm s m args below meth c D g ca H locs lsA hs hc
  exact va_cald hs.1 hs.2.1 (hc.1.KA hS) hc.2.2.2.1 o 0 (wsW_get hS) rfl hi hd (h p l e Rm s m args below meth c D g ca H locs lsA hs hc)
theorem X_sald {mi : MI} {d mc ms : Nat} {al : Bool × Bool} {sr : Sr} {sx : Sx} {S : List Shp} {kc ks pc : Nat} {ls : Lc} {st : List Value} {I : Ints} {L : Lngs} {R : Rfs} {Q : Qt} {o n : Nat} {i : Int32} (hS : S[o]? = some (Sum.inr (.short, n))) (hi : vp_in i n) (hd : decode mi.2.2.1 pc = .ok (.saload, 1)) (h : X mi d mc ms al sr sx S kc ks (pc + 1) ls (.int (I o i.toNatClampNeg) :: st) I L R Q) : X mi d mc ms al sr sx S kc ks pc ls (.int i :: .ref o :: st) I L R Q := by
  intro p l e Rm s m args below meth c D g ca H locs lsA hs hc
  exact va_sald hs.1 hs.2.1 (hc.1.KA hS) hc.2.2.2.1 o 0 (wsW_get hS) rfl hi hd (h p l e Rm s m args below meth c D g ca H locs lsA hs hc)
theorem X_zald {mi : MI} {d mc ms : Nat} {al : Bool × Bool} {sr : Sr} {sx : Sx} {S : List Shp} {kc ks pc : Nat} {ls : Lc} {st : List Value} {I : Ints} {L : Lngs} {R : Rfs} {Q : Qt} {o n : Nat} {i : Int32} (hS : S[o]? = some (Sum.inr (.boolean, n))) (hi : vp_in i n) (hd : decode mi.2.2.1 pc = .ok (.baload, 1)) (h : X mi d mc ms al sr sx S kc ks (pc + 1) ls (.int (I o i.toNatClampNeg) :: st) I L R Q) : X mi d mc ms al sr sx S kc ks pc ls (.int i :: .ref o :: st) I L R Q := by
  intro p l e Rm s m args below meth c D g ca H locs lsA hs hc
  exact va_zald hs.1 hs.2.1 (hc.1.KA hS) hc.2.2.2.1 o 0 (wsW_get hS) rfl hi hd (h p l e Rm s m args below meth c D g ca H locs lsA hs hc)
theorem X_lald {mi : MI} {d mc ms : Nat} {al : Bool × Bool} {sr : Sr} {sx : Sx} {S : List Shp} {kc ks pc : Nat} {ls : Lc} {st : List Value} {I : Ints} {L : Lngs} {R : Rfs} {Q : Qt} {o n : Nat} {i : Int32} (hS : S[o]? = some (Sum.inr (.long, n))) (hi : vp_in i n) (hd : decode mi.2.2.1 pc = .ok (.laload, 1)) (h : X mi d mc ms al sr sx S kc ks (pc + 1) ls (.long (L o i.toNatClampNeg) :: st) I L R Q) : X mi d mc ms al sr sx S kc ks pc ls (.int i :: .ref o :: st) I L R Q := by
  intro p l e Rm s m args below meth c D g ca H locs lsA hs hc
  exact va_lald hs.1 hs.2.1 (hc.1.KA hS) hc.2.2.2.1 o 0 (wsW_get hS) rfl hi hd (h p l e Rm s m args below meth c D g ca H locs lsA hs hc)
theorem X_aald {mi : MI} {d mc ms : Nat} {al : Bool × Bool} {sr : Sr} {sx : Sx} {S : List Shp} {kc ks pc : Nat} {ls : Lc} {st : List Value} {I : Ints} {L : Lngs} {R : Rfs} {Q : Qt} {o n q : Nat} {C : String} {i : Int32} (hS : S[o]? = some (Sum.inr (.object C, n))) (hi : vp_in i n) (hq : R o i.toNatClampNeg = some q) (hd : decode mi.2.2.1 pc = .ok (.aaload, 1)) (h : X mi d mc ms al sr sx S kc ks (pc + 1) ls (.ref q :: st) I L R Q) : X mi d mc ms al sr sx S kc ks pc ls (.int i :: .ref o :: st) I L R Q := by
  intro p l e Rm s m args below meth c D g ca H locs lsA hs hc
  have h9 := h p l e Rm s m args below meth c D g ca H locs lsA hs hc
  refine va_aldq hs.1 hs.2.1 (hc.1.KA hS) hc.2.2.2.1 o 0 (C := C) (f := fun j => cvR g (R o j)) (wsW_get hS) rfl hi hd ?_
  show W p l e Rm s m args below meth c H locs kc ks _ (F0 m (pc + 1) lsA (va_rf (cvR g (R o i.toNatClampNeg)) :: st.map (cvV g)))
  rw [hq]
  exact h9
theorem X_iast {mi : MI} {d mc ms : Nat} {al : Bool × Bool} {sr : Sr} {sx : Sx} {S : List Shp} {kc ks pc : Nat} {ls : Lc} {st : List Value} {I : Ints} {L : Lngs} {R : Rfs} {Q : Qt} {o n : Nat} {i x : Int32} (hS : S[o]? = some (Sum.inr (.int, n))) (hi : vp_in i n) (hd : decode mi.2.2.1 pc = .ok (.iastore, 1)) (h : X mi d mc ms al sr sx S kc ks (pc + 1) ls st (u2 I o i.toNatClampNeg x) L R Q) : X mi d mc ms al sr sx S kc ks pc ls (.int x :: .int i :: .ref o :: st) I L R Q := by
  intro p l e Rm s m args below meth c D g ca H locs lsA hs hc
  refine va_iast hs.1 hs.2.1 (hc.1.KA hS) hc.2.2.2.1 (wsW_D g ca S I L R) hc.2.2.2.2.1 o 0 (wsW_get hS) rfl hi hd (fun H1 locs1 hP hD hS1 => ?_)
  have e9 := wsW_set (g := g) (ca := ca) (S := S) (I := I) (L := L) (R := R) (I' := u2 I o i.toNatClampNeg x) (L' := L) (R' := R) (s := Sum.inr (.int, n)) (e := Sum.inl (ca .int, n, .inl (upd (I o) i.toNatClampNeg x))) hS (by show _ = Sum.inl (ca .int, n, Sum.inl (u2 I o i.toNatClampNeg x o)); rw [u2_o]; rfl) (fun j hj t => celW_ne (u2_ne _ _ _ hj) rfl rfl t)
  rw [e9] at hP
  exact h p l e Rm s m args below meth c D g ca H1 locs1 lsA hs ⟨hc.1, hc.2.1, hc.2.2.1, hP, hS1, hc.2.2.2.2.2.1, hc.2.2.2.2.2.2⟩
theorem X_cast {mi : MI} {d mc ms : Nat} {al : Bool × Bool} {sr : Sr} {sx : Sx} {S : List Shp} {kc ks pc : Nat} {ls : Lc} {st : List Value} {I : Ints} {L : Lngs} {R : Rfs} {Q : Qt} {o n : Nat} {i x : Int32} (hS : S[o]? = some (Sum.inr (.char, n))) (hi : vp_in i n) (hd : decode mi.2.2.1 pc = .ok (.castore, 1)) (h : X mi d mc ms al sr sx S kc ks (pc + 1) ls st (u2 I o i.toNatClampNeg (vp_nar .char x)) L R Q) : X mi d mc ms al sr sx S kc ks pc ls (.int x :: .int i :: .ref o :: st) I L R Q := by
  intro p l e Rm s m args below meth c D g ca H locs lsA hs hc
  refine va_cast hs.1 hs.2.1 (hc.1.KA hS) hc.2.2.2.1 (wsW_D g ca S I L R) hc.2.2.2.2.1 o 0 (wsW_get hS) rfl hi hd (fun H1 locs1 hP hD hS1 => ?_)
  have e9 := wsW_set (g := g) (ca := ca) (S := S) (I := I) (L := L) (R := R) (I' := u2 I o i.toNatClampNeg (vp_nar .char x)) (L' := L) (R' := R) (s := Sum.inr (.char, n)) (e := Sum.inl (ca .char, n, .inl (upd (I o) i.toNatClampNeg (vp_nar .char x)))) hS (by show _ = Sum.inl (ca .char, n, Sum.inl (u2 I o i.toNatClampNeg (vp_nar .char x) o)); rw [u2_o]; rfl) (fun j hj t => celW_ne (u2_ne _ _ _ hj) rfl rfl t)
  rw [e9] at hP
  exact h p l e Rm s m args below meth c D g ca H1 locs1 lsA hs ⟨hc.1, hc.2.1, hc.2.2.1, hP, hS1, hc.2.2.2.2.2.1, hc.2.2.2.2.2.2⟩
theorem X_sast {mi : MI} {d mc ms : Nat} {al : Bool × Bool} {sr : Sr} {sx : Sx} {S : List Shp} {kc ks pc : Nat} {ls : Lc} {st : List Value} {I : Ints} {L : Lngs} {R : Rfs} {Q : Qt} {o n : Nat} {i x : Int32} (hS : S[o]? = some (Sum.inr (.short, n))) (hi : vp_in i n) (hd : decode mi.2.2.1 pc = .ok (.sastore, 1)) (h : X mi d mc ms al sr sx S kc ks (pc + 1) ls st (u2 I o i.toNatClampNeg (vp_nar .short x)) L R Q) : X mi d mc ms al sr sx S kc ks pc ls (.int x :: .int i :: .ref o :: st) I L R Q := by
  intro p l e Rm s m args below meth c D g ca H locs lsA hs hc
  refine va_sast hs.1 hs.2.1 (hc.1.KA hS) hc.2.2.2.1 (wsW_D g ca S I L R) hc.2.2.2.2.1 o 0 (wsW_get hS) rfl hi hd (fun H1 locs1 hP hD hS1 => ?_)
  have e9 := wsW_set (g := g) (ca := ca) (S := S) (I := I) (L := L) (R := R) (I' := u2 I o i.toNatClampNeg (vp_nar .short x)) (L' := L) (R' := R) (s := Sum.inr (.short, n)) (e := Sum.inl (ca .short, n, .inl (upd (I o) i.toNatClampNeg (vp_nar .short x)))) hS (by show _ = Sum.inl (ca .short, n, Sum.inl (u2 I o i.toNatClampNeg (vp_nar .short x) o)); rw [u2_o]; rfl) (fun j hj t => celW_ne (u2_ne _ _ _ hj) rfl rfl t)
  rw [e9] at hP
  exact h p l e Rm s m args below meth c D g ca H1 locs1 lsA hs ⟨hc.1, hc.2.1, hc.2.2.1, hP, hS1, hc.2.2.2.2.2.1, hc.2.2.2.2.2.2⟩
theorem X_zast {mi : MI} {d mc ms : Nat} {al : Bool × Bool} {sr : Sr} {sx : Sx} {S : List Shp} {kc ks pc : Nat} {ls : Lc} {st : List Value} {I : Ints} {L : Lngs} {R : Rfs} {Q : Qt} {o n : Nat} {i x : Int32} (hS : S[o]? = some (Sum.inr (.boolean, n))) (hi : vp_in i n) (hd : decode mi.2.2.1 pc = .ok (.bastore, 1)) (h : X mi d mc ms al sr sx S kc ks (pc + 1) ls st (u2 I o i.toNatClampNeg (vp_nar .boolean x)) L R Q) : X mi d mc ms al sr sx S kc ks pc ls (.int x :: .int i :: .ref o :: st) I L R Q := by
  intro p l e Rm s m args below meth c D g ca H locs lsA hs hc
  refine va_zast hs.1 hs.2.1 (hc.1.KA hS) hc.2.2.2.1 (wsW_D g ca S I L R) hc.2.2.2.2.1 o 0 (wsW_get hS) rfl hi hd (fun H1 locs1 hP hD hS1 => ?_)
  have e9 := wsW_set (g := g) (ca := ca) (S := S) (I := I) (L := L) (R := R) (I' := u2 I o i.toNatClampNeg (vp_nar .boolean x)) (L' := L) (R' := R) (s := Sum.inr (.boolean, n)) (e := Sum.inl (ca .boolean, n, .inl (upd (I o) i.toNatClampNeg (vp_nar .boolean x)))) hS (by show _ = Sum.inl (ca .boolean, n, Sum.inl (u2 I o i.toNatClampNeg (vp_nar .boolean x) o)); rw [u2_o]; rfl) (fun j hj t => celW_ne (u2_ne _ _ _ hj) rfl rfl t)
  rw [e9] at hP
  exact h p l e Rm s m args below meth c D g ca H1 locs1 lsA hs ⟨hc.1, hc.2.1, hc.2.2.1, hP, hS1, hc.2.2.2.2.2.1, hc.2.2.2.2.2.2⟩
theorem X_last {mi : MI} {d mc ms : Nat} {al : Bool × Bool} {sr : Sr} {sx : Sx} {S : List Shp} {kc ks pc : Nat} {ls : Lc} {st : List Value} {I : Ints} {L : Lngs} {R : Rfs} {Q : Qt} {o n : Nat} {i : Int32} {x : Int64} (hS : S[o]? = some (Sum.inr (.long, n))) (hi : vp_in i n) (hd : decode mi.2.2.1 pc = .ok (.lastore, 1)) (h : X mi d mc ms al sr sx S kc ks (pc + 1) ls st I (u2 L o i.toNatClampNeg x) R Q) : X mi d mc ms al sr sx S kc ks pc ls (.long x :: .int i :: .ref o :: st) I L R Q := by
  intro p l e Rm s m args below meth c D g ca H locs lsA hs hc
  refine va_last hs.1 hs.2.1 (hc.1.KA hS) hc.2.2.2.1 (wsW_D g ca S I L R) hc.2.2.2.2.1 o 0 (wsW_get hS) rfl hi hd (fun H1 locs1 hP hD hS1 => ?_)
  have e9 := wsW_set (g := g) (ca := ca) (S := S) (I := I) (L := L) (R := R) (I' := I) (L' := u2 L o i.toNatClampNeg x) (R' := R) (s := Sum.inr (.long, n)) (e := Sum.inl (ca .long, n, .inr (.inl (vp_updL (L o) i.toNatClampNeg x)))) hS (by show _ = Sum.inl (ca .long, n, Sum.inr (Sum.inl (u2 L o i.toNatClampNeg x o))); rw [u2_o]; rfl) (fun j hj t => celW_ne rfl (u2_ne _ _ _ hj) rfl t)
  rw [e9] at hP
  exact h p l e Rm s m args below meth c D g ca H1 locs1 lsA hs ⟨hc.1, hc.2.1, hc.2.2.1, hP, hS1, hc.2.2.2.2.2.1, hc.2.2.2.2.2.2⟩
theorem X_aast {mi : MI} {d mc ms : Nat} {al : Bool × Bool} {sr : Sr} {sx : Sx} {S : List Shp} {kc ks pc : Nat} {ls : Lc} {st : List Value} {I : Ints} {L : Lngs} {R : Rfs} {Q : Qt} {o n q ci : Nat} {r : vw_C} {i : Int32} (hS : S[o]? = some (Sum.inr (.object r.1, n))) (hV : S[q]? = some (Sum.inl ci)) (hr : vwCl[ci]? = some r) (hi : vp_in i n) (hsr : sr o i.toNatClampNeg = none) (hd : decode mi.2.2.1 pc = .ok (.aastore, 1)) (h : X mi d mc ms al sr sx S kc ks (pc + 1) ls st I L (u2 R o i.toNatClampNeg (some q)) Q) : X mi d mc ms al sr sx S kc ks pc ls (.ref q :: .int i :: .ref o :: st) I L R Q := by
  intro p l e Rm s m args below meth c D g ca H locs lsA hs hc
  refine va_astq hs.1 hs.2.1 (hc.1.KA hS) hc.2.2.2.1 (wsW_D g ca S I L R) hc.2.2.2.2.1 o 0 q ci (f := fun j => cvR g (R o j)) (wsW_get hS) rfl (wsW_get hV) hr hi hd (fun H1 locs1 hP hD hS1 => ?_)
  have e9 := wsW_set (g := g) (ca := ca) (S := S) (I := I) (L := L) (R := R) (I' := I) (L' := L) (R' := u2 R o i.toNatClampNeg (some q)) (s := Sum.inr (.object r.1, n)) (e := Sum.inl (ca (.object r.1), n, .inr (.inr (.inr (.inr (va_up (fun j => cvR g (R o j)) i.toNatClampNeg (some (g.1 + q)))))))) hS (by
    show _ = Sum.inl (ca (.object r.1), n, Sum.inr (Sum.inr (Sum.inr (Sum.inr (fun j => cvR g (u2 R o i.toNatClampNeg (some q) o j))))))
    rw [u2_o]
    congr 7
    funext j
    unfold va_up
    by_cases hj : j = i.toNatClampNeg
    · simp only [hj, if_true]; rfl
    · simp only [hj, if_false]) (fun j hj t => celW_ne rfl rfl (u2_ne _ _ _ hj) t)
  rw [e9] at hP
  exact h p l e Rm s m args below meth c D g ca H1 locs1 lsA hs ⟨hc.1, (fun o2 k2 q2 hq2 => by
      by_cases e1 : o2 = o ∧ k2 = i.toNatClampNeg
      · rw [e1.1, e1.2, hsr] at hq2; cases hq2
      · rw [← hc.2.1 o2 k2 q2 hq2]; unfold u2; by_cases e2 : o2 = o
        · rw [if_pos e2, if_neg (fun z => e1 ⟨e2, z⟩)]
        · rw [if_neg e2]), hc.2.2.1, hP, hS1, hc.2.2.2.2.2.1, hc.2.2.2.2.2.2⟩
theorem X_alen {mi : MI} {d mc ms : Nat} {al : Bool × Bool} {sr : Sr} {sx : Sx} {S : List Shp} {kc ks pc : Nat} {ls : Lc} {st : List Value} {I : Ints} {L : Lngs} {R : Rfs} {Q : Qt} {o n : Nat} {ty : FieldType} (hS : S[o]? = some (Sum.inr (ty, n))) (hd : decode mi.2.2.1 pc = .ok (.arraylength, 1)) (h : X mi d mc ms al sr sx S kc ks (pc + 1) ls (.int (Int32.ofNat n) :: st) I L R Q) : X mi d mc ms al sr sx S kc ks pc ls (.ref o :: st) I L R Q := by
  intro p l e Rm s m args below meth c D g ca H locs lsA hs hc
  exact va_alen hs.1 hs.2.1 (hc.1.KA hS) hc.2.2.2.1 o 0 (x := arrC g I L R o n ty) (wsW_get hS) rfl rfl hd (h p l e Rm s m args below meth c D g ca H locs lsA hs hc)
theorem EnvW.scr {g : Gv} {sx : Sx} {D : va_G} {ca : FieldType → ClassId} {S : List Shp} {U : State} (h : EnvW g sx D ca S U) : va_X g.2 sx.1 sx.2 U U.heap ∧ g.2 < g.1 := by
  obtain ⟨s0, -, -, h3, h4, h5, h6, h7⟩ := h.2.2.2
  exact ⟨(h3.moved h6.alike).kept (h7 g.2 h4), h4⟩
theorem X_sld {mi : MI} {d mc ms : Nat} {al : Bool × Bool} {sr : Sr} {sx : Sx} {S : List Shp} {kc ks pc : Nat} {ls : Lc} {st : List Value} {I : Ints} {L : Lngs} {R : Rfs} {Q : Qt} {z : Nat} {i : Int32} (hi : vp_in i sx.1) (hd : decode mi.2.2.1 pc = .ok (.iaload, 1)) (h : X mi d mc ms al sr sx S kc ks (pc + 1) ls (.int (sx.2 i.toNatClampNeg) :: st) I L R Q) : X mi d mc ms al sr sx S kc ks pc ls (.int i :: .retAddr z :: st) I L R Q := by
  intro p l e Rm s m args below meth c D g ca H locs lsA hs hc
  exact va_sld hs.1 hs.2.1 hc.1.scr.1 (Nat.lt_of_lt_of_le hc.1.scr.2 hc.2.2.1) (Nat.not_le.mpr hc.1.scr.2) hc.2.2.2.2.1 hi hd (h p l e Rm s m args below meth c D g ca H locs lsA hs hc)
theorem X_slen {mi : MI} {d mc ms : Nat} {al : Bool × Bool} {sr : Sr} {sx : Sx} {S : List Shp} {kc ks pc : Nat} {ls : Lc} {st : List Value} {I : Ints} {L : Lngs} {R : Rfs} {Q : Qt} {z : Nat} (hd : decode mi.2.2.1 pc = .ok (.arraylength, 1)) (h : X mi d mc ms al sr sx S kc ks (pc + 1) ls (.int (Int32.ofNat sx.1) :: st) I L R Q) : X mi d mc ms al sr sx S kc ks pc ls (.retAddr z :: st) I L R Q := by
  intro p l e Rm s m args below meth c D g ca H locs lsA hs hc
  exact va_slen hs.1 hs.2.1 hc.1.scr.1 (Nat.lt_of_lt_of_le hc.1.scr.2 hc.2.2.1) (Nat.not_le.mpr hc.1.scr.2) hc.2.2.2.2.1 hd (h p l e Rm s m args below meth c D g ca H locs lsA hs hc)
/-! the ends -/
theorem EnvA.moved {ca : FieldType → ClassId} {S : List Shp} {u U : State} (hv : u.vm.Alike U.vm) (h : EnvA ca S u) : EnvA ca S U := fun k ty n hk => ⟨arrOfT_moved hv (h k ty n hk).1, (h k ty n hk).2.moved hv⟩
theorem X_iret {mi : MI} {d mc ms : Nat} {al : Bool × Bool} {sr : Sr} {sx : Sx} {S : List Shp} {kc ks pc : Nat} {ls : Lc} {st : List Value} {I : Ints} {L : Lngs} {R : Rfs} {Q : Qt} {x : Int32} (hr : mi.2.2.2.2 = some .int) (hk : kc ≤ mc) (hk2 : ks ≤ ms) (ha : al.2 = true → al.1 = true ∧ kc = mc) (hd : decode mi.2.2.1 pc = .ok (.ireturn, 1)) (hq : Q (some (.int x)) S I L R) : X mi d mc ms al sr sx S kc ks pc ls [.int x] I L R Q := by
  intro p l e Rm s m args below meth c D g ca H locs lsA hs hc
  refine W.widen (k := mc) (n := ms) hk hk2 ?_
  have hlk := hs.2.2.2.2.2.2.1
  exact W.iret (v := x) hs.1 hs.2.1 (hs.2.2.1.trans hr) (fun t ht hW => ⟨⟨(some (.int x)), S, I, L, R, rfl, hq, by rw [ht]; exact hc.2.2.2.1, hc.1.2.1.moved hW.alike, hc.2.1, fun z => by rw [← (ha z).2]; exact hc.2.2.2.2.2.1 (ha z).1⟩, hc.2.2.2.2.1.F ht⟩) hc.2.2.2.2.1.2.2 hd
theorem X_zret {mi : MI} {d mc ms : Nat} {al : Bool × Bool} {sr : Sr} {sx : Sx} {S : List Shp} {kc ks pc : Nat} {ls : Lc} {st : List Value} {I : Ints} {L : Lngs} {R : Rfs} {Q : Qt} {x : Int32} (hr : mi.2.2.2.2 = some .boolean) (hz : x = 0 ∨ x = 1) (hk : kc ≤ mc) (hk2 : ks ≤ ms) (ha : al.2 = true → al.1 = true ∧ kc = mc) (hd : decode mi.2.2.1 pc = .ok (.ireturn, 1)) (hq : Q (some (.int x)) S I L R) : X mi d mc ms al sr sx S kc ks pc ls [.int x] I L R Q := by
  intro p l e Rm s m args below meth c D g ca H locs lsA hs hc
  refine W.widen (k := mc) (n := ms) hk hk2 ?_
  have hlk := hs.2.2.2.2.2.2.1
  exact W.zret (v := x) (ty := .boolean) hs.1 hs.2.1 (hs.2.2.1.trans hr) (by rcases hz with rfl | rfl <;> rfl) (fun t ht hW => ⟨⟨(some (.int x)), S, I, L, R, rfl, hq, by rw [ht]; exact hc.2.2.2.1, hc.1.2.1.moved hW.alike, hc.2.1, fun z => by rw [← (ha z).2]; exact hc.2.2.2.2.2.1 (ha z).1⟩, hc.2.2.2.2.1.F ht⟩) hc.2.2.2.2.1.2.2 hd
theorem X_lret {mi : MI} {d mc ms : Nat} {al : Bool × Bool} {sr : Sr} {sx : Sx} {S : List Shp} {kc ks pc : Nat} {ls : Lc} {st : List Value} {I : Ints} {L : Lngs} {R : Rfs} {Q : Qt} {x : Int64} (hr : mi.2.2.2.2 = some .long) (hk : kc ≤ mc) (hk2 : ks ≤ ms) (ha : al.2 = true → al.1 = true ∧ kc = mc) (hd : decode mi.2.2.1 pc = .ok (.lreturn, 1)) (hq : Q (some (.long x)) S I L R) : X mi d mc ms al sr sx S kc ks pc ls [.long x] I L R Q := by
  intro p l e Rm s m args below meth c D g ca H locs lsA hs hc
  refine W.widen (k := mc) (n := ms) hk hk2 ?_
  have hlk := hs.2.2.2.2.2.2.1
  exact W.lret (v := x) hs.1 hs.2.1 (hs.2.2.1.trans hr) (fun t ht hW => ⟨⟨(some (.long x)), S, I, L, R, rfl, hq, by rw [ht]; exact hc.2.2.2.1, hc.1.2.1.moved hW.alike, hc.2.1, fun z => by rw [← (ha z).2]; exact hc.2.2.2.2.2.1 (ha z).1⟩, hc.2.2.2.2.1.F ht⟩) hc.2.2.2.2.1.2.2 hd
theorem X_vret {mi : MI} {d mc ms : Nat} {al : Bool × Bool} {sr : Sr} {sx : Sx} {S : List Shp} {kc ks pc : Nat} {ls : Lc} {st : List Value} {I : Ints} {L : Lngs} {R : Rfs} {Q : Qt} (hr : mi.2.2.2.2 = none) (hk : kc ≤ mc) (hk2 : ks ≤ ms) (ha : al.2 = true → al.1 = true ∧ kc = mc) (hd : decode mi.2.2.1 pc = .ok (.return_, 1)) (hq : Q none S I L R) : X mi d mc ms al sr sx S kc ks pc ls [] I L R Q := by
  intro p l e Rm s m args below meth c D g ca H locs lsA hs hc
  refine W.widen (k := mc) (n := ms) hk hk2 ?_
  have hlk := hs.2.2.2.2.2.2.1
  exact W.vret hs.1 hs.2.1 (hs.2.2.1.trans hr) (fun t ht hW => ⟨⟨none, S, I, L, R, rfl, hq, by rw [ht]; exact hc.2.2.2.1, hc.1.2.1.moved hW.alike, hc.2.1, fun z => by rw [← (ha z).2]; exact hc.2.2.2.2.2.1 (ha z).1⟩, hc.2.2.2.2.1.F ht⟩) hc.2.2.2.2.1.2.2 hd
theorem X_aret {mi : MI} {d mc ms : Nat} {al : Bool × Bool} {sr : Sr} {sx : Sx} {S : List Shp} {kc ks pc : Nat} {ls : Lc} {st : List Value} {I : Ints} {L : Lngs} {R : Rfs} {Q : Qt} {x : Nat} {C : String} (hr : mi.2.2.2.2 = some (.object C)) (hk : kc ≤ mc) (hk2 : ks ≤ ms) (ha : al.2 = true → al.1 = true ∧ kc = mc) (hd : decode mi.2.2.1 pc = .ok (.areturn, 1)) (hq : Q (some (.ref x)) S I L R) : X mi d mc ms al sr sx S kc ks pc ls [.ref x] I L R Q := by
  intro p l e Rm s m args below meth c D g ca H locs lsA hs hc
  refine W.widen (k := mc) (n := ms) hk hk2 ?_
  have hlk := hs.2.2.2.2.2.2.1
  exact W.aret (v := .ref (g.1 + x)) (rt := .object C) hs.1 hs.2.1 (hs.2.2.1.trans hr) (Or.inl ⟨C, rfl⟩) (Or.inr ⟨_, rfl⟩) (fun t ht hW => ⟨⟨(some (.ref x)), S, I, L, R, rfl, hq, by rw [ht]; exact hc.2.2.2.1, hc.1.2.1.moved hW.alike, hc.2.1, fun z => by rw [← (ha z).2]; exact hc.2.2.2.2.2.1 (ha z).1⟩, hc.2.2.2.2.1.F ht⟩) hc.2.2.2.2.1.2.2 hd
