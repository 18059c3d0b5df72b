/-! the constructors -/
def srN : Sr := fun _ _ => none
theorem tk {n o : Nat} {s : Shp} (hn : o < n) (h : S0[o]? = some s) : (S0.take n)[o]? = some s := by rw [List.getElem?_take_of_lt hn]; exact h
theorem tkS {n : Nat} {s : Shp} (h : S0[n]? = some s) : S0.take n ++ [s] = S0.take (n + 1) := by
  rw [List.take_succ, h]
  rfl
theorem tkL {n : Nat} {s : Shp} (h : S0[n]? = some s) : (S0.take n).length = n := by
  have := (List.getElem?_eq_some_iff.mp h).1
  rw [List.length_take]
  omega
theorem XT_new {mi : MI} {d mc ms : Nat} {ao : Bool} {sr : Sr} {sx : Sx} {n kc ks pc : Nat} {ls : Lc} {st : List Value} {I : Ints} {L : Lngs} {R : Rfs} {Q : Qt} {idx ci : Nat} (hn : S0[n]? = some (Sum.inl ci)) (hw : NWok mi.1 idx ci) (hci : ci < 13) (hz : ∀ k, I n k = 0 ∧ L n k = 0 ∧ R n k = none) (hk1 : kc + 1 ≤ mc) (hk2 : ks + nfl ci ≤ ms) (hd : decode mi.2.2.1 pc = .ok (.new idx, 3))
    (h : X mi d mc ms (true, ao) sr sx (S0.take (n + 1)) (kc + 1) (ks + nfl ci) (pc + 3) ls (.ref n :: st) I L R Q) : X mi d mc ms (true, ao) sr sx (S0.take n) kc ks pc ls st I L R Q := by
  have hl := tkL hn
  have e : S0.take n ++ [] = S0.take n := List.append_nil _
  rw [← e]
  refine X_new (S1 := S0.take n) (l := []) hw hci (by rw [hl]; exact hz) hk1 hk2 hd ?_
  rw [hl, List.nil_append, tkS hn]
  exact h
theorem XT_newarr {mi : MI} {d mc ms : Nat} {ao : Bool} {sr : Sr} {sx : Sx} {n kc ks pc N : Nat} {ls : Lc} {st : List Value} {I : Ints} {L : Lngs} {R : Rfs} {Q : Qt} {atype : ArrayType} {ty : FieldType} {x : Int32} (hn : S0[n]? = some (Sum.inr (ty, N))) (hty : newarray.typeOf atype = ty) (hpr : primT ty = true) (hw : Cond.arrayClass ty ∈ Ts) (hx : ¬ x < 0) (hN : x.toNatClampNeg = N) (hb : N * componentBytes ty ≤ 536870912) (hz : ∀ k, I n k = 0 ∧ L n k = 0) (hk1 : kc + 1 ≤ mc) (hk2 : ks + N ≤ ms) (hd : decode mi.2.2.1 pc = .ok (.newarray atype, 2))
    (h : X mi d mc ms (true, ao) sr sx (S0.take (n + 1)) (kc + 1) (ks + N) (pc + 2) ls (.ref n :: st) I L R Q) : X mi d mc ms (true, ao) sr sx (S0.take n) kc ks pc ls (.int x :: st) I L R Q := by
  have hl := tkL hn
  have e : S0.take n ++ [] = S0.take n := List.append_nil _
  rw [← e]
  refine X_newarr (S1 := S0.take n) (l := []) hty hpr hw hx hN hb (by rw [hl]; exact hz) hk1 hk2 hd ?_
  rw [hl, List.nil_append, tkS hn]
  exact h
theorem XT_newrow {mi : MI} {d mc ms : Nat} {ao : Bool} {sr : Sr} {sx : Sx} {n kc ks pc N idx : Nat} {ls : Lc} {st : List Value} {I : Ints} {L : Lngs} {R : Rfs} {Q : Qt} {C : String} {x : Int32} (hn : S0[n]? = some (Sum.inr (.object C, N))) (hw : Cond.classLink (rn mi.1) idx C ∈ Ts) (hao : Cond.arrayOver (.object C) ∈ lw_tbl) (hx : ¬ x < 0) (hN : x.toNatClampNeg = N) (hb : N * 4 ≤ 536870912) (hz : ∀ k, R n k = none) (hk1 : kc + 1 ≤ mc) (hk2 : ks + N ≤ ms) (hd : decode mi.2.2.1 pc = .ok (.anewarray idx, 3))
    (h : X mi d mc ms (true, ao) sr sx (S0.take (n + 1)) (kc + 1) (ks + N) (pc + 3) ls (.ref n :: st) I L R Q) : X mi d mc ms (true, ao) sr sx (S0.take n) kc ks pc ls (.int x :: st) I L R Q := by
  have hl := tkL hn
  have e : S0.take n ++ [] = S0.take n := List.append_nil _
  rw [← e]
  refine X_newrow (S1 := S0.take n) (l := []) hw hao hx hN hb (by rw [hl]; exact hz) hk1 hk2 hd ?_
  rw [hl, List.nil_append, tkS hn]
  exact h
/-- all behind a place is as new -/
def zr (n e : Nat) (I : Ints) (L : Lngs) (R : Rfs) : Prop := ∀ j, n ≤ j → j < e → ∀ k, I j k = 0 ∧ L j k = 0 ∧ R j k = none
theorem ow_i : Cond.instanceMethod objectInit ∈ Ts := (tsI (inT1 _ (List.mem_of_getElem? (i := 32) rfl)) rfl)
theorem ow_c : Cond.code objectInit ⟨#[0xb1]⟩ 1 none ∈ Ts := (tsI (inT1 _ (List.mem_of_getElem? (i := 33) rfl)) rfl)
theorem aw_int : Cond.arrayClass .int ∈ Ts := (tsI (inT1 _ (List.mem_of_getElem? (i := 67) rfl)) rfl)
theorem aw_char : Cond.arrayClass .char ∈ Ts := (tsI (inT1 _ (List.mem_of_getElem? (i := 66) rfl)) rfl)
theorem aw_long : Cond.arrayClass .long ∈ Ts := (tsI (inT1 _ (List.mem_of_getElem? (i := 202) rfl)) rfl)
theorem aw_short : Cond.arrayClass .short ∈ Ts := (tsI (inT2 _ (List.mem_of_getElem? (i := 123) rfl)) rfl)
theorem aw_boolean : Cond.arrayClass .boolean ∈ Ts := (tsI (inT2 _ (List.mem_of_getElem? (i := 75) rfl)) rfl)
theorem ao_Evening : Cond.arrayOver (.object "DanceWine$Evening") ∈ lw_tbl := (inT2 _ (List.mem_of_getElem? (i := 40) rfl))
theorem ao_Routine : Cond.arrayOver (.object "DanceWine$Routine") ∈ lw_tbl := (inT2 _ (List.mem_of_getElem? (i := 42) rfl))
theorem dJ7_fill_53178_0 : decode cJ7_fill_53178 0 = .ok (.iconst 0, 1) := by decide +kernel
theorem dJ7_fill_53178_1 : decode cJ7_fill_53178 1 = .ok (.istore_n 2, 1) := by decide +kernel
theorem dJ7_fill_53178_2 : decode cJ7_fill_53178 2 = .ok (.aload_n 0, 1) := by decide +kernel
theorem dJ7_fill_53178_3 : decode cJ7_fill_53178 3 = .ok (.arraylength, 1) := by decide +kernel
theorem dJ7_fill_53178_4 : decode cJ7_fill_53178 4 = .ok (.istore_n 3, 1) := by decide +kernel
theorem dJ7_fill_53178_5 : decode cJ7_fill_53178 5 = .ok (.iload_n 2, 1) := by decide +kernel
theorem dJ7_fill_53178_6 : decode cJ7_fill_53178 6 = .ok (.iload_n 3, 1) := by decide +kernel
theorem dJ7_fill_53178_7 : decode cJ7_fill_53178 7 = .ok (.if_icmp .ge 13, 3) := by decide +kernel
theorem dJ7_fill_53178_10 : decode cJ7_fill_53178 10 = .ok (.aload_n 0, 1) := by decide +kernel
theorem dJ7_fill_53178_11 : decode cJ7_fill_53178 11 = .ok (.iload_n 2, 1) := by decide +kernel
theorem dJ7_fill_53178_12 : decode cJ7_fill_53178 12 = .ok (.iload_n 1, 1) := by decide +kernel
theorem dJ7_fill_53178_13 : decode cJ7_fill_53178 13 = .ok (.iastore, 1) := by decide +kernel
theorem dJ7_fill_53178_14 : decode cJ7_fill_53178 14 = .ok (.iinc 2 1, 3) := by decide +kernel
theorem dJ7_fill_53178_17 : decode cJ7_fill_53178 17 = .ok (.goto (-12), 3) := by decide +kernel
theorem dJ7_fill_53178_20 : decode cJ7_fill_53178 20 = .ok (.return_, 1) := by decide +kernel
theorem dX0_init_0 : decode cX0_init 0 = .ok (.aload_n 0, 1) := by decide +kernel
theorem dX0_init_1 : decode cX0_init 1 = .ok (.invokespecial 3, 3) := by decide +kernel
theorem dX0_init_4 : decode cX0_init 4 = .ok (.aload_n 0, 1) := by decide +kernel
theorem dX0_init_5 : decode cX0_init 5 = .ok (.iconst 2, 1) := by decide +kernel
theorem dX0_init_6 : decode cX0_init 6 = .ok (.putfield 9, 3) := by decide +kernel
theorem dX0_init_9 : decode cX0_init 9 = .ok (.aload_n 0, 1) := by decide +kernel
theorem dX0_init_10 : decode cX0_init 10 = .ok (.iconst 2, 1) := by decide +kernel
theorem dX0_init_11 : decode cX0_init 11 = .ok (.putfield 15, 3) := by decide +kernel
theorem dX0_init_14 : decode cX0_init 14 = .ok (.aload_n 0, 1) := by decide +kernel
theorem dX0_init_15 : decode cX0_init 15 = .ok (.lconst 0, 1) := by decide +kernel
theorem dX0_init_16 : decode cX0_init 16 = .ok (.putfield 18, 3) := by decide +kernel
theorem dX0_init_19 : decode cX0_init 19 = .ok (.aload_n 0, 1) := by decide +kernel
theorem dX0_init_20 : decode cX0_init 20 = .ok (.iconst 0, 1) := by decide +kernel
theorem dX0_init_21 : decode cX0_init 21 = .ok (.putfield 22, 3) := by decide +kernel
theorem dX0_init_24 : decode cX0_init 24 = .ok (.aload_n 0, 1) := by decide +kernel
theorem dX0_init_25 : decode cX0_init 25 = .ok (.iconst 0, 1) := by decide +kernel
theorem dX0_init_26 : decode cX0_init 26 = .ok (.putfield 25, 3) := by decide +kernel
theorem dX0_init_29 : decode cX0_init 29 = .ok (.aload_n 0, 1) := by decide +kernel
theorem dX0_init_30 : decode cX0_init 30 = .ok (.bipush 6, 2) := by decide +kernel
theorem dX0_init_32 : decode cX0_init 32 = .ok (.newarray .int, 2) := by decide +kernel
theorem dX0_init_34 : decode cX0_init 34 = .ok (.putfield 28, 3) := by decide +kernel
theorem dX0_init_37 : decode cX0_init 37 = .ok (.aload_n 0, 1) := by decide +kernel
theorem dX0_init_38 : decode cX0_init 38 = .ok (.bipush 48, 2) := by decide +kernel
theorem dX0_init_40 : decode cX0_init 40 = .ok (.newarray .int, 2) := by decide +kernel
theorem dX0_init_42 : decode cX0_init 42 = .ok (.putfield 32, 3) := by decide +kernel
theorem dX0_init_45 : decode cX0_init 45 = .ok (.aload_n 0, 1) := by decide +kernel
theorem dX0_init_46 : decode cX0_init 46 = .ok (.iconst 0, 1) := by decide +kernel
theorem dX0_init_47 : decode cX0_init 47 = .ok (.putfield 35, 3) := by decide +kernel
theorem dX0_init_50 : decode cX0_init 50 = .ok (.aload_n 0, 1) := by decide +kernel
theorem dX0_init_51 : decode cX0_init 51 = .ok (.bipush 6, 2) := by decide +kernel
theorem dX0_init_53 : decode cX0_init 53 = .ok (.newarray .int, 2) := by decide +kernel
theorem dX0_init_55 : decode cX0_init 55 = .ok (.putfield 38, 3) := by decide +kernel
theorem dX0_init_58 : decode cX0_init 58 = .ok (.aload_n 0, 1) := by decide +kernel
theorem dX0_init_59 : decode cX0_init 59 = .ok (.bipush 6, 2) := by decide +kernel
theorem dX0_init_61 : decode cX0_init 61 = .ok (.newarray .int, 2) := by decide +kernel
theorem dX0_init_63 : decode cX0_init 63 = .ok (.putfield 41, 3) := by decide +kernel
theorem dX0_init_66 : decode cX0_init 66 = .ok (.aload_n 0, 1) := by decide +kernel
theorem dX0_init_67 : decode cX0_init 67 = .ok (.sipush 576, 3) := by decide +kernel
theorem dX0_init_70 : decode cX0_init 70 = .ok (.newarray .int, 2) := by decide +kernel
theorem dX0_init_72 : decode cX0_init 72 = .ok (.putfield 44, 3) := by decide +kernel
theorem dX0_init_75 : decode cX0_init 75 = .ok (.aload_n 0, 1) := by decide +kernel
theorem dX0_init_76 : decode cX0_init 76 = .ok (.iconst 0, 1) := by decide +kernel
theorem dX0_init_77 : decode cX0_init 77 = .ok (.putfield 47, 3) := by decide +kernel
theorem dX0_init_80 : decode cX0_init 80 = .ok (.aload_n 0, 1) := by decide +kernel
theorem dX0_init_81 : decode cX0_init 81 = .ok (.bipush 6, 2) := by decide +kernel
theorem dX0_init_83 : decode cX0_init 83 = .ok (.newarray .int, 2) := by decide +kernel
theorem dX0_init_85 : decode cX0_init 85 = .ok (.putfield 50, 3) := by decide +kernel
theorem dX0_init_88 : decode cX0_init 88 = .ok (.aload_n 0, 1) := by decide +kernel
theorem dX0_init_89 : decode cX0_init 89 = .ok (.bipush 6, 2) := by decide +kernel
theorem dX0_init_91 : decode cX0_init 91 = .ok (.newarray .int, 2) := by decide +kernel
theorem dX0_init_93 : decode cX0_init 93 = .ok (.putfield 53, 3) := by decide +kernel
theorem dX0_init_96 : decode cX0_init 96 = .ok (.aload_n 0, 1) := by decide +kernel
theorem dX0_init_97 : decode cX0_init 97 = .ok (.bipush 6, 2) := by decide +kernel
theorem dX0_init_99 : decode cX0_init 99 = .ok (.newarray .int, 2) := by decide +kernel
theorem dX0_init_101 : decode cX0_init 101 = .ok (.putfield 56, 3) := by decide +kernel
theorem dX0_init_104 : decode cX0_init 104 = .ok (.aload_n 0, 1) := by decide +kernel
theorem dX0_init_105 : decode cX0_init 105 = .ok (.new 59, 3) := by decide +kernel
theorem dX0_init_108 : decode cX0_init 108 = .ok (.dup, 1) := by decide +kernel
theorem dX0_init_109 : decode cX0_init 109 = .ok (.invokespecial 61, 3) := by decide +kernel
theorem dX0_init_112 : decode cX0_init 112 = .ok (.putfield 62, 3) := by decide +kernel
theorem dX0_init_115 : decode cX0_init 115 = .ok (.return_, 1) := by decide +kernel
theorem dX10_init_0 : decode cX10_init 0 = .ok (.aload_n 0, 1) := by decide +kernel
theorem dX10_init_1 : decode cX10_init 1 = .ok (.invokespecial 3, 3) := by decide +kernel
theorem dX10_init_4 : decode cX10_init 4 = .ok (.aload_n 0, 1) := by decide +kernel
theorem dX10_init_5 : decode cX10_init 5 = .ok (.sipush 1001, 3) := by decide +kernel
theorem dX10_init_8 : decode cX10_init 8 = .ok (.newarray .int, 2) := by decide +kernel
theorem dX10_init_10 : decode cX10_init 10 = .ok (.putfield 9, 3) := by decide +kernel
theorem dX10_init_13 : decode cX10_init 13 = .ok (.aload_n 0, 1) := by decide +kernel
theorem dX10_init_14 : decode cX10_init 14 = .ok (.sipush 1001, 3) := by decide +kernel
theorem dX10_init_17 : decode cX10_init 17 = .ok (.newarray .int, 2) := by decide +kernel
theorem dX10_init_19 : decode cX10_init 19 = .ok (.putfield 15, 3) := by decide +kernel
theorem dX10_init_22 : decode cX10_init 22 = .ok (.aload_n 0, 1) := by decide +kernel
theorem dX10_init_23 : decode cX10_init 23 = .ok (.sipush 1001, 3) := by decide +kernel
theorem dX10_init_26 : decode cX10_init 26 = .ok (.newarray .long, 2) := by decide +kernel
theorem dX10_init_28 : decode cX10_init 28 = .ok (.putfield 18, 3) := by decide +kernel
theorem dX10_init_31 : decode cX10_init 31 = .ok (.aload_n 0, 1) := by decide +kernel
theorem dX10_init_32 : decode cX10_init 32 = .ok (.iconst 0, 1) := by decide +kernel
theorem dX10_init_33 : decode cX10_init 33 = .ok (.putfield 22, 3) := by decide +kernel
theorem dX10_init_36 : decode cX10_init 36 = .ok (.return_, 1) := by decide +kernel
theorem dX11_init_0 : decode cX11_init 0 = .ok (.aload_n 0, 1) := by decide +kernel
theorem dX11_init_1 : decode cX11_init 1 = .ok (.invokespecial 3, 3) := by decide +kernel
theorem dX11_init_4 : decode cX11_init 4 = .ok (.aload_n 0, 1) := by decide +kernel
theorem dX11_init_5 : decode cX11_init 5 = .ok (.sipush 1000, 3) := by decide +kernel
theorem dX11_init_8 : decode cX11_init 8 = .ok (.newarray .char, 2) := by decide +kernel
theorem dX11_init_10 : decode cX11_init 10 = .ok (.putfield 9, 3) := by decide +kernel
theorem dX11_init_13 : decode cX11_init 13 = .ok (.aload_n 0, 1) := by decide +kernel
theorem dX11_init_14 : decode cX11_init 14 = .ok (.iconst 0, 1) := by decide +kernel
theorem dX11_init_15 : decode cX11_init 15 = .ok (.putfield 13, 3) := by decide +kernel
theorem dX11_init_18 : decode cX11_init 18 = .ok (.aload_n 0, 1) := by decide +kernel
theorem dX11_init_19 : decode cX11_init 19 = .ok (.new 17, 3) := by decide +kernel
theorem dX11_init_22 : decode cX11_init 22 = .ok (.dup, 1) := by decide +kernel
theorem dX11_init_23 : decode cX11_init 23 = .ok (.invokespecial 19, 3) := by decide +kernel
theorem dX11_init_26 : decode cX11_init 26 = .ok (.putfield 20, 3) := by decide +kernel
theorem dX11_init_29 : decode cX11_init 29 = .ok (.aload_n 0, 1) := by decide +kernel
theorem dX11_init_30 : decode cX11_init 30 = .ok (.new 17, 3) := by decide +kernel
theorem dX11_init_33 : decode cX11_init 33 = .ok (.dup, 1) := by decide +kernel
theorem dX11_init_34 : decode cX11_init 34 = .ok (.invokespecial 19, 3) := by decide +kernel
theorem dX11_init_37 : decode cX11_init 37 = .ok (.putfield 24, 3) := by decide +kernel
theorem dX11_init_40 : decode cX11_init 40 = .ok (.aload_n 0, 1) := by decide +kernel
theorem dX11_init_41 : decode cX11_init 41 = .ok (.new 27, 3) := by decide +kernel
theorem dX11_init_44 : decode cX11_init 44 = .ok (.dup, 1) := by decide +kernel
theorem dX11_init_45 : decode cX11_init 45 = .ok (.invokespecial 29, 3) := by decide +kernel
theorem dX11_init_48 : decode cX11_init 48 = .ok (.putfield 30, 3) := by decide +kernel
theorem dX11_init_51 : decode cX11_init 51 = .ok (.aload_n 0, 1) := by decide +kernel
theorem dX11_init_52 : decode cX11_init 52 = .ok (.new 34, 3) := by decide +kernel
theorem dX11_init_55 : decode cX11_init 55 = .ok (.dup, 1) := by decide +kernel
theorem dX11_init_56 : decode cX11_init 56 = .ok (.invokespecial 36, 3) := by decide +kernel
theorem dX11_init_59 : decode cX11_init 59 = .ok (.putfield 37, 3) := by decide +kernel
theorem dX11_init_62 : decode cX11_init 62 = .ok (.aload_n 0, 1) := by decide +kernel
theorem dX11_init_63 : decode cX11_init 63 = .ok (.new 41, 3) := by decide +kernel
theorem dX11_init_66 : decode cX11_init 66 = .ok (.dup, 1) := by decide +kernel
theorem dX11_init_67 : decode cX11_init 67 = .ok (.invokespecial 43, 3) := by decide +kernel
theorem dX11_init_70 : decode cX11_init 70 = .ok (.putfield 44, 3) := by decide +kernel
theorem dX11_init_73 : decode cX11_init 73 = .ok (.aload_n 0, 1) := by decide +kernel
theorem dX11_init_74 : decode cX11_init 74 = .ok (.iconst 4, 1) := by decide +kernel
theorem dX11_init_75 : decode cX11_init 75 = .ok (.anewarray 34, 3) := by decide +kernel
theorem dX11_init_78 : decode cX11_init 78 = .ok (.putfield 48, 3) := by decide +kernel
theorem dX11_init_81 : decode cX11_init 81 = .ok (.aload_n 0, 1) := by decide +kernel
theorem dX11_init_82 : decode cX11_init 82 = .ok (.iconst 4, 1) := by decide +kernel
theorem dX11_init_83 : decode cX11_init 83 = .ok (.newarray .boolean, 2) := by decide +kernel
theorem dX11_init_85 : decode cX11_init 85 = .ok (.putfield 52, 3) := by decide +kernel
theorem dX11_init_88 : decode cX11_init 88 = .ok (.aload_n 0, 1) := by decide +kernel
theorem dX11_init_89 : decode cX11_init 89 = .ok (.bipush 6, 2) := by decide +kernel
theorem dX11_init_91 : decode cX11_init 91 = .ok (.anewarray 56, 3) := by decide +kernel
theorem dX11_init_94 : decode cX11_init 94 = .ok (.putfield 58, 3) := by decide +kernel
theorem dX11_init_97 : decode cX11_init 97 = .ok (.aload_n 0, 1) := by decide +kernel
theorem dX11_init_98 : decode cX11_init 98 = .ok (.bipush 6, 2) := by decide +kernel
theorem dX11_init_100 : decode cX11_init 100 = .ok (.newarray .boolean, 2) := by decide +kernel
theorem dX11_init_102 : decode cX11_init 102 = .ok (.putfield 62, 3) := by decide +kernel
theorem dX11_init_105 : decode cX11_init 105 = .ok (.aload_n 0, 1) := by decide +kernel
theorem dX11_init_106 : decode cX11_init 106 = .ok (.new 56, 3) := by decide +kernel
theorem dX11_init_109 : decode cX11_init 109 = .ok (.dup, 1) := by decide +kernel
theorem dX11_init_110 : decode cX11_init 110 = .ok (.invokespecial 65, 3) := by decide +kernel
theorem dX11_init_113 : decode cX11_init 113 = .ok (.putfield 66, 3) := by decide +kernel
theorem dX11_init_116 : decode cX11_init 116 = .ok (.aload_n 0, 1) := by decide +kernel
theorem dX11_init_117 : decode cX11_init 117 = .ok (.iconst 1, 1) := by decide +kernel
theorem dX11_init_118 : decode cX11_init 118 = .ok (.newarray .int, 2) := by decide +kernel
theorem dX11_init_120 : decode cX11_init 120 = .ok (.putfield 70, 3) := by decide +kernel
theorem dX11_init_123 : decode cX11_init 123 = .ok (.aload_n 0, 1) := by decide +kernel
theorem dX11_init_124 : decode cX11_init 124 = .ok (.bipush 6, 2) := by decide +kernel
theorem dX11_init_126 : decode cX11_init 126 = .ok (.newarray .int, 2) := by decide +kernel
theorem dX11_init_128 : decode cX11_init 128 = .ok (.putfield 74, 3) := by decide +kernel
theorem dX11_init_131 : decode cX11_init 131 = .ok (.aload_n 0, 1) := by decide +kernel
theorem dX11_init_132 : decode cX11_init 132 = .ok (.new 77, 3) := by decide +kernel
theorem dX11_init_135 : decode cX11_init 135 = .ok (.dup, 1) := by decide +kernel
theorem dX11_init_136 : decode cX11_init 136 = .ok (.invokespecial 79, 3) := by decide +kernel
theorem dX11_init_139 : decode cX11_init 139 = .ok (.putfield 80, 3) := by decide +kernel
theorem dX11_init_142 : decode cX11_init 142 = .ok (.aload_n 0, 1) := by decide +kernel
theorem dX11_init_143 : decode cX11_init 143 = .ok (.new 84, 3) := by decide +kernel
theorem dX11_init_146 : decode cX11_init 146 = .ok (.dup, 1) := by decide +kernel
theorem dX11_init_147 : decode cX11_init 147 = .ok (.invokespecial 86, 3) := by decide +kernel
theorem dX11_init_150 : decode cX11_init 150 = .ok (.putfield 87, 3) := by decide +kernel
theorem dX11_init_153 : decode cX11_init 153 = .ok (.aload_n 0, 1) := by decide +kernel
theorem dX11_init_154 : decode cX11_init 154 = .ok (.new 91, 3) := by decide +kernel
theorem dX11_init_157 : decode cX11_init 157 = .ok (.dup, 1) := by decide +kernel
theorem dX11_init_158 : decode cX11_init 158 = .ok (.invokespecial 93, 3) := by decide +kernel
theorem dX11_init_161 : decode cX11_init 161 = .ok (.putfield 94, 3) := by decide +kernel
theorem dX11_init_164 : decode cX11_init 164 = .ok (.aload_n 0, 1) := by decide +kernel
theorem dX11_init_165 : decode cX11_init 165 = .ok (.new 98, 3) := by decide +kernel
theorem dX11_init_168 : decode cX11_init 168 = .ok (.dup, 1) := by decide +kernel
theorem dX11_init_169 : decode cX11_init 169 = .ok (.invokespecial 100, 3) := by decide +kernel
theorem dX11_init_172 : decode cX11_init 172 = .ok (.putfield 101, 3) := by decide +kernel
theorem dX11_init_175 : decode cX11_init 175 = .ok (.iconst 0, 1) := by decide +kernel
theorem dX11_init_176 : decode cX11_init 176 = .ok (.istore_n 1, 1) := by decide +kernel
theorem dX11_init_177 : decode cX11_init 177 = .ok (.iload_n 1, 1) := by decide +kernel
theorem dX11_init_178 : decode cX11_init 178 = .ok (.iconst 4, 1) := by decide +kernel
theorem dX11_init_179 : decode cX11_init 179 = .ok (.if_icmp .ge 22, 3) := by decide +kernel
theorem dX11_init_182 : decode cX11_init 182 = .ok (.aload_n 0, 1) := by decide +kernel
theorem dX11_init_183 : decode cX11_init 183 = .ok (.getfield 48, 3) := by decide +kernel
theorem dX11_init_186 : decode cX11_init 186 = .ok (.iload_n 1, 1) := by decide +kernel
theorem dX11_init_187 : decode cX11_init 187 = .ok (.new 34, 3) := by decide +kernel
theorem dX11_init_190 : decode cX11_init 190 = .ok (.dup, 1) := by decide +kernel
theorem dX11_init_191 : decode cX11_init 191 = .ok (.invokespecial 36, 3) := by decide +kernel
theorem dX11_init_194 : decode cX11_init 194 = .ok (.aastore, 1) := by decide +kernel
theorem dX11_init_195 : decode cX11_init 195 = .ok (.iinc 1 1, 3) := by decide +kernel
theorem dX11_init_198 : decode cX11_init 198 = .ok (.goto (-21), 3) := by decide +kernel
theorem dX11_init_201 : decode cX11_init 201 = .ok (.iconst 0, 1) := by decide +kernel
theorem dX11_init_202 : decode cX11_init 202 = .ok (.istore_n 1, 1) := by decide +kernel
theorem dX11_init_203 : decode cX11_init 203 = .ok (.iload_n 1, 1) := by decide +kernel
theorem dX11_init_204 : decode cX11_init 204 = .ok (.bipush 6, 2) := by decide +kernel
theorem dX11_init_206 : decode cX11_init 206 = .ok (.if_icmp .ge 22, 3) := by decide +kernel
theorem dX11_init_209 : decode cX11_init 209 = .ok (.aload_n 0, 1) := by decide +kernel
theorem dX11_init_210 : decode cX11_init 210 = .ok (.getfield 58, 3) := by decide +kernel
theorem dX11_init_213 : decode cX11_init 213 = .ok (.iload_n 1, 1) := by decide +kernel
theorem dX11_init_214 : decode cX11_init 214 = .ok (.new 56, 3) := by decide +kernel
theorem dX11_init_217 : decode cX11_init 217 = .ok (.dup, 1) := by decide +kernel
theorem dX11_init_218 : decode cX11_init 218 = .ok (.invokespecial 65, 3) := by decide +kernel
theorem dX11_init_221 : decode cX11_init 221 = .ok (.aastore, 1) := by decide +kernel
theorem dX11_init_222 : decode cX11_init 222 = .ok (.iinc 1 1, 3) := by decide +kernel
theorem dX11_init_225 : decode cX11_init 225 = .ok (.goto (-22), 3) := by decide +kernel
theorem dX11_init_228 : decode cX11_init 228 = .ok (.return_, 1) := by decide +kernel
theorem dX12_init_0 : decode cX12_init 0 = .ok (.aload_n 0, 1) := by decide +kernel
theorem dX12_init_1 : decode cX12_init 1 = .ok (.invokespecial 18, 3) := by decide +kernel
theorem dX12_init_4 : decode cX12_init 4 = .ok (.aload_n 0, 1) := by decide +kernel
theorem dX12_init_5 : decode cX12_init 5 = .ok (.sipush 1000, 3) := by decide +kernel
theorem dX12_init_8 : decode cX12_init 8 = .ok (.newarray .int, 2) := by decide +kernel
theorem dX12_init_10 : decode cX12_init 10 = .ok (.putfield 14, 3) := by decide +kernel
theorem dX12_init_13 : decode cX12_init 13 = .ok (.aload_n 0, 1) := by decide +kernel
theorem dX12_init_14 : decode cX12_init 14 = .ok (.sipush 1002, 3) := by decide +kernel
theorem dX12_init_17 : decode cX12_init 17 = .ok (.newarray .int, 2) := by decide +kernel
theorem dX12_init_19 : decode cX12_init 19 = .ok (.putfield 24, 3) := by decide +kernel
theorem dX12_init_22 : decode cX12_init 22 = .ok (.aload_n 0, 1) := by decide +kernel
theorem dX12_init_23 : decode cX12_init 23 = .ok (.sipush 1002, 3) := by decide +kernel
theorem dX12_init_26 : decode cX12_init 26 = .ok (.newarray .int, 2) := by decide +kernel
theorem dX12_init_28 : decode cX12_init 28 = .ok (.putfield 27, 3) := by decide +kernel
theorem dX12_init_31 : decode cX12_init 31 = .ok (.aload_n 0, 1) := by decide +kernel
theorem dX12_init_32 : decode cX12_init 32 = .ok (.sipush 1002, 3) := by decide +kernel
theorem dX12_init_35 : decode cX12_init 35 = .ok (.newarray .long, 2) := by decide +kernel
theorem dX12_init_37 : decode cX12_init 37 = .ok (.putfield 30, 3) := by decide +kernel
theorem dX12_init_40 : decode cX12_init 40 = .ok (.aload_n 0, 1) := by decide +kernel
theorem dX12_init_41 : decode cX12_init 41 = .ok (.bipush 28, 2) := by decide +kernel
theorem dX12_init_43 : decode cX12_init 43 = .ok (.newarray .long, 2) := by decide +kernel
theorem dX12_init_45 : decode cX12_init 45 = .ok (.dup, 1) := by decide +kernel
theorem dX12_init_46 : decode cX12_init 46 = .ok (.iconst 0, 1) := by decide +kernel
theorem dX12_init_47 : decode cX12_init 47 = .ok (.ldc2_w 34, 3) := by decide +kernel
theorem dX12_init_50 : decode cX12_init 50 = .ok (.lastore, 1) := by decide +kernel
theorem dX12_init_51 : decode cX12_init 51 = .ok (.dup, 1) := by decide +kernel
theorem dX12_init_52 : decode cX12_init 52 = .ok (.iconst 1, 1) := by decide +kernel
theorem dX12_init_53 : decode cX12_init 53 = .ok (.ldc2_w 36, 3) := by decide +kernel
theorem dX12_init_56 : decode cX12_init 56 = .ok (.lastore, 1) := by decide +kernel
theorem dX12_init_57 : decode cX12_init 57 = .ok (.dup, 1) := by decide +kernel
theorem dX12_init_58 : decode cX12_init 58 = .ok (.iconst 2, 1) := by decide +kernel
theorem dX12_init_59 : decode cX12_init 59 = .ok (.ldc2_w 38, 3) := by decide +kernel
theorem dX12_init_62 : decode cX12_init 62 = .ok (.lastore, 1) := by decide +kernel
theorem dX12_init_63 : decode cX12_init 63 = .ok (.dup, 1) := by decide +kernel
theorem dX12_init_64 : decode cX12_init 64 = .ok (.iconst 3, 1) := by decide +kernel
theorem dX12_init_65 : decode cX12_init 65 = .ok (.ldc2_w 40, 3) := by decide +kernel
theorem dX12_init_68 : decode cX12_init 68 = .ok (.lastore, 1) := by decide +kernel
theorem dX12_init_69 : decode cX12_init 69 = .ok (.dup, 1) := by decide +kernel
theorem dX12_init_70 : decode cX12_init 70 = .ok (.iconst 4, 1) := by decide +kernel
theorem dX12_init_71 : decode cX12_init 71 = .ok (.ldc2_w 42, 3) := by decide +kernel
theorem dX12_init_74 : decode cX12_init 74 = .ok (.lastore, 1) := by decide +kernel
theorem dX12_init_75 : decode cX12_init 75 = .ok (.dup, 1) := by decide +kernel
theorem dX12_init_76 : decode cX12_init 76 = .ok (.iconst 5, 1) := by decide +kernel
theorem dX12_init_77 : decode cX12_init 77 = .ok (.ldc2_w 44, 3) := by decide +kernel
theorem dX12_init_80 : decode cX12_init 80 = .ok (.lastore, 1) := by decide +kernel
theorem dX12_init_81 : decode cX12_init 81 = .ok (.dup, 1) := by decide +kernel
theorem dX12_init_82 : decode cX12_init 82 = .ok (.bipush 6, 2) := by decide +kernel
theorem dX12_init_84 : decode cX12_init 84 = .ok (.ldc2_w 46, 3) := by decide +kernel
theorem dX12_init_87 : decode cX12_init 87 = .ok (.lastore, 1) := by decide +kernel
theorem dX12_init_88 : decode cX12_init 88 = .ok (.dup, 1) := by decide +kernel
theorem dX12_init_89 : decode cX12_init 89 = .ok (.bipush 7, 2) := by decide +kernel
theorem dX12_init_91 : decode cX12_init 91 = .ok (.ldc2_w 48, 3) := by decide +kernel
theorem dX12_init_94 : decode cX12_init 94 = .ok (.lastore, 1) := by decide +kernel
theorem dX12_init_95 : decode cX12_init 95 = .ok (.dup, 1) := by decide +kernel
theorem dX12_init_96 : decode cX12_init 96 = .ok (.bipush 8, 2) := by decide +kernel
theorem dX12_init_98 : decode cX12_init 98 = .ok (.ldc2_w 50, 3) := by decide +kernel
theorem dX12_init_101 : decode cX12_init 101 = .ok (.lastore, 1) := by decide +kernel
theorem dX12_init_102 : decode cX12_init 102 = .ok (.dup, 1) := by decide +kernel
theorem dX12_init_103 : decode cX12_init 103 = .ok (.bipush 9, 2) := by decide +kernel
theorem dX12_init_105 : decode cX12_init 105 = .ok (.ldc2_w 52, 3) := by decide +kernel
theorem dX12_init_108 : decode cX12_init 108 = .ok (.lastore, 1) := by decide +kernel
theorem dX12_init_109 : decode cX12_init 109 = .ok (.dup, 1) := by decide +kernel
theorem dX12_init_110 : decode cX12_init 110 = .ok (.bipush 10, 2) := by decide +kernel
theorem dX12_init_112 : decode cX12_init 112 = .ok (.ldc2_w 54, 3) := by decide +kernel
theorem dX12_init_115 : decode cX12_init 115 = .ok (.lastore, 1) := by decide +kernel
theorem dX12_init_116 : decode cX12_init 116 = .ok (.dup, 1) := by decide +kernel
theorem dX12_init_117 : decode cX12_init 117 = .ok (.bipush 11, 2) := by decide +kernel
theorem dX12_init_119 : decode cX12_init 119 = .ok (.ldc2_w 56, 3) := by decide +kernel
theorem dX12_init_122 : decode cX12_init 122 = .ok (.lastore, 1) := by decide +kernel
theorem dX12_init_123 : decode cX12_init 123 = .ok (.dup, 1) := by decide +kernel
theorem dX12_init_124 : decode cX12_init 124 = .ok (.bipush 12, 2) := by decide +kernel
theorem dX12_init_126 : decode cX12_init 126 = .ok (.ldc2_w 58, 3) := by decide +kernel
theorem dX12_init_129 : decode cX12_init 129 = .ok (.lastore, 1) := by decide +kernel
theorem dX12_init_130 : decode cX12_init 130 = .ok (.dup, 1) := by decide +kernel
theorem dX12_init_131 : decode cX12_init 131 = .ok (.bipush 13, 2) := by decide +kernel
theorem dX12_init_133 : decode cX12_init 133 = .ok (.ldc2_w 60, 3) := by decide +kernel
theorem dX12_init_136 : decode cX12_init 136 = .ok (.lastore, 1) := by decide +kernel
theorem dX12_init_137 : decode cX12_init 137 = .ok (.dup, 1) := by decide +kernel
theorem dX12_init_138 : decode cX12_init 138 = .ok (.bipush 14, 2) := by decide +kernel
theorem dX12_init_140 : decode cX12_init 140 = .ok (.ldc2_w 62, 3) := by decide +kernel
theorem dX12_init_143 : decode cX12_init 143 = .ok (.lastore, 1) := by decide +kernel
theorem dX12_init_144 : decode cX12_init 144 = .ok (.dup, 1) := by decide +kernel
theorem dX12_init_145 : decode cX12_init 145 = .ok (.bipush 15, 2) := by decide +kernel
theorem dX12_init_147 : decode cX12_init 147 = .ok (.ldc2_w 64, 3) := by decide +kernel
theorem dX12_init_150 : decode cX12_init 150 = .ok (.lastore, 1) := by decide +kernel
theorem dX12_init_151 : decode cX12_init 151 = .ok (.dup, 1) := by decide +kernel
theorem dX12_init_152 : decode cX12_init 152 = .ok (.bipush 16, 2) := by decide +kernel
theorem dX12_init_154 : decode cX12_init 154 = .ok (.ldc2_w 66, 3) := by decide +kernel
theorem dX12_init_157 : decode cX12_init 157 = .ok (.lastore, 1) := by decide +kernel
theorem dX12_init_158 : decode cX12_init 158 = .ok (.dup, 1) := by decide +kernel
theorem dX12_init_159 : decode cX12_init 159 = .ok (.bipush 17, 2) := by decide +kernel
theorem dX12_init_161 : decode cX12_init 161 = .ok (.ldc2_w 68, 3) := by decide +kernel
theorem dX12_init_164 : decode cX12_init 164 = .ok (.lastore, 1) := by decide +kernel
theorem dX12_init_165 : decode cX12_init 165 = .ok (.dup, 1) := by decide +kernel
theorem dX12_init_166 : decode cX12_init 166 = .ok (.bipush 18, 2) := by decide +kernel
theorem dX12_init_168 : decode cX12_init 168 = .ok (.ldc2_w 70, 3) := by decide +kernel
theorem dX12_init_171 : decode cX12_init 171 = .ok (.lastore, 1) := by decide +kernel
theorem dX12_init_172 : decode cX12_init 172 = .ok (.dup, 1) := by decide +kernel
theorem dX12_init_173 : decode cX12_init 173 = .ok (.bipush 19, 2) := by decide +kernel
theorem dX12_init_175 : decode cX12_init 175 = .ok (.ldc2_w 72, 3) := by decide +kernel
theorem dX12_init_178 : decode cX12_init 178 = .ok (.lastore, 1) := by decide +kernel
theorem dX12_init_179 : decode cX12_init 179 = .ok (.dup, 1) := by decide +kernel
theorem dX12_init_180 : decode cX12_init 180 = .ok (.bipush 20, 2) := by decide +kernel
theorem dX12_init_182 : decode cX12_init 182 = .ok (.ldc2_w 74, 3) := by decide +kernel
theorem dX12_init_185 : decode cX12_init 185 = .ok (.lastore, 1) := by decide +kernel
theorem dX12_init_186 : decode cX12_init 186 = .ok (.dup, 1) := by decide +kernel
theorem dX12_init_187 : decode cX12_init 187 = .ok (.bipush 21, 2) := by decide +kernel
theorem dX12_init_189 : decode cX12_init 189 = .ok (.ldc2_w 76, 3) := by decide +kernel
theorem dX12_init_192 : decode cX12_init 192 = .ok (.lastore, 1) := by decide +kernel
theorem dX12_init_193 : decode cX12_init 193 = .ok (.dup, 1) := by decide +kernel
theorem dX12_init_194 : decode cX12_init 194 = .ok (.bipush 22, 2) := by decide +kernel
theorem dX12_init_196 : decode cX12_init 196 = .ok (.ldc2_w 78, 3) := by decide +kernel
theorem dX12_init_199 : decode cX12_init 199 = .ok (.lastore, 1) := by decide +kernel
theorem dX12_init_200 : decode cX12_init 200 = .ok (.dup, 1) := by decide +kernel
theorem dX12_init_201 : decode cX12_init 201 = .ok (.bipush 23, 2) := by decide +kernel
theorem dX12_init_203 : decode cX12_init 203 = .ok (.ldc2_w 80, 3) := by decide +kernel
theorem dX12_init_206 : decode cX12_init 206 = .ok (.lastore, 1) := by decide +kernel
theorem dX12_init_207 : decode cX12_init 207 = .ok (.dup, 1) := by decide +kernel
theorem dX12_init_208 : decode cX12_init 208 = .ok (.bipush 24, 2) := by decide +kernel
theorem dX12_init_210 : decode cX12_init 210 = .ok (.ldc2_w 82, 3) := by decide +kernel
theorem dX12_init_213 : decode cX12_init 213 = .ok (.lastore, 1) := by decide +kernel
theorem dX12_init_214 : decode cX12_init 214 = .ok (.dup, 1) := by decide +kernel
theorem dX12_init_215 : decode cX12_init 215 = .ok (.bipush 25, 2) := by decide +kernel
theorem dX12_init_217 : decode cX12_init 217 = .ok (.ldc2_w 84, 3) := by decide +kernel
theorem dX12_init_220 : decode cX12_init 220 = .ok (.lastore, 1) := by decide +kernel
theorem dX12_init_221 : decode cX12_init 221 = .ok (.dup, 1) := by decide +kernel
theorem dX12_init_222 : decode cX12_init 222 = .ok (.bipush 26, 2) := by decide +kernel
theorem dX12_init_224 : decode cX12_init 224 = .ok (.ldc2_w 86, 3) := by decide +kernel
theorem dX12_init_227 : decode cX12_init 227 = .ok (.lastore, 1) := by decide +kernel
theorem dX12_init_228 : decode cX12_init 228 = .ok (.dup, 1) := by decide +kernel
theorem dX12_init_229 : decode cX12_init 229 = .ok (.bipush 27, 2) := by decide +kernel
theorem dX12_init_231 : decode cX12_init 231 = .ok (.ldc2_w 88, 3) := by decide +kernel
theorem dX12_init_234 : decode cX12_init 234 = .ok (.lastore, 1) := by decide +kernel
theorem dX12_init_235 : decode cX12_init 235 = .ok (.putfield 90, 3) := by decide +kernel
theorem dX12_init_238 : decode cX12_init 238 = .ok (.aload_n 0, 1) := by decide +kernel
theorem dX12_init_239 : decode cX12_init 239 = .ok (.sipush 408, 3) := by decide +kernel
theorem dX12_init_242 : decode cX12_init 242 = .ok (.newarray .int, 2) := by decide +kernel
theorem dX12_init_244 : decode cX12_init 244 = .ok (.putfield 93, 3) := by decide +kernel
theorem dX12_init_247 : decode cX12_init 247 = .ok (.aload_n 0, 1) := by decide +kernel
theorem dX12_init_248 : decode cX12_init 248 = .ok (.sipush 2200, 3) := by decide +kernel
theorem dX12_init_251 : decode cX12_init 251 = .ok (.newarray .int, 2) := by decide +kernel
theorem dX12_init_253 : decode cX12_init 253 = .ok (.putfield 96, 3) := by decide +kernel
theorem dX12_init_256 : decode cX12_init 256 = .ok (.aload_n 0, 1) := by decide +kernel
theorem dX12_init_257 : decode cX12_init 257 = .ok (.sipush 2200, 3) := by decide +kernel
theorem dX12_init_260 : decode cX12_init 260 = .ok (.newarray .int, 2) := by decide +kernel
theorem dX12_init_262 : decode cX12_init 262 = .ok (.putfield 99, 3) := by decide +kernel
theorem dX12_init_265 : decode cX12_init 265 = .ok (.aload_n 0, 1) := by decide +kernel
theorem dX12_init_266 : decode cX12_init 266 = .ok (.bipush 18, 2) := by decide +kernel
theorem dX12_init_268 : decode cX12_init 268 = .ok (.newarray .long, 2) := by decide +kernel
theorem dX12_init_270 : decode cX12_init 270 = .ok (.putfield 102, 3) := by decide +kernel
theorem dX12_init_273 : decode cX12_init 273 = .ok (.aload_n 0, 1) := by decide +kernel
theorem dX12_init_274 : decode cX12_init 274 = .ok (.bipush 18, 2) := by decide +kernel
theorem dX12_init_276 : decode cX12_init 276 = .ok (.newarray .int, 2) := by decide +kernel
theorem dX12_init_278 : decode cX12_init 278 = .ok (.putfield 105, 3) := by decide +kernel
theorem dX12_init_281 : decode cX12_init 281 = .ok (.aload_n 0, 1) := by decide +kernel
theorem dX12_init_282 : decode cX12_init 282 = .ok (.iconst 4, 1) := by decide +kernel
theorem dX12_init_283 : decode cX12_init 283 = .ok (.newarray .int, 2) := by decide +kernel
theorem dX12_init_285 : decode cX12_init 285 = .ok (.dup, 1) := by decide +kernel
theorem dX12_init_286 : decode cX12_init 286 = .ok (.iconst 0, 1) := by decide +kernel
theorem dX12_init_287 : decode cX12_init 287 = .ok (.bipush 25, 2) := by decide +kernel
theorem dX12_init_289 : decode cX12_init 289 = .ok (.iastore, 1) := by decide +kernel
theorem dX12_init_290 : decode cX12_init 290 = .ok (.dup, 1) := by decide +kernel
theorem dX12_init_291 : decode cX12_init 291 = .ok (.iconst 1, 1) := by decide +kernel
theorem dX12_init_292 : decode cX12_init 292 = .ok (.bipush 26, 2) := by decide +kernel
theorem dX12_init_294 : decode cX12_init 294 = .ok (.iastore, 1) := by decide +kernel
theorem dX12_init_295 : decode cX12_init 295 = .ok (.dup, 1) := by decide +kernel
theorem dX12_init_296 : decode cX12_init 296 = .ok (.iconst 2, 1) := by decide +kernel
theorem dX12_init_297 : decode cX12_init 297 = .ok (.bipush 10, 2) := by decide +kernel
theorem dX12_init_299 : decode cX12_init 299 = .ok (.iastore, 1) := by decide +kernel
theorem dX12_init_300 : decode cX12_init 300 = .ok (.dup, 1) := by decide +kernel
theorem dX12_init_301 : decode cX12_init 301 = .ok (.iconst 3, 1) := by decide +kernel
theorem dX12_init_302 : decode cX12_init 302 = .ok (.bipush 27, 2) := by decide +kernel
theorem dX12_init_304 : decode cX12_init 304 = .ok (.iastore, 1) := by decide +kernel
theorem dX12_init_305 : decode cX12_init 305 = .ok (.putfield 108, 3) := by decide +kernel
theorem dX12_init_308 : decode cX12_init 308 = .ok (.aload_n 0, 1) := by decide +kernel
theorem dX12_init_309 : decode cX12_init 309 = .ok (.iconst 4, 1) := by decide +kernel
theorem dX12_init_310 : decode cX12_init 310 = .ok (.newarray .int, 2) := by decide +kernel
theorem dX12_init_312 : decode cX12_init 312 = .ok (.putfield 111, 3) := by decide +kernel
theorem dX12_init_315 : decode cX12_init 315 = .ok (.aload_n 0, 1) := by decide +kernel
theorem dX12_init_316 : decode cX12_init 316 = .ok (.sipush 1100, 3) := by decide +kernel
theorem dX12_init_319 : decode cX12_init 319 = .ok (.newarray .int, 2) := by decide +kernel
theorem dX12_init_321 : decode cX12_init 321 = .ok (.putfield 114, 3) := by decide +kernel
theorem dX12_init_324 : decode cX12_init 324 = .ok (.aload_n 0, 1) := by decide +kernel
theorem dX12_init_325 : decode cX12_init 325 = .ok (.sipush 1400, 3) := by decide +kernel
theorem dX12_init_328 : decode cX12_init 328 = .ok (.newarray .int, 2) := by decide +kernel
theorem dX12_init_330 : decode cX12_init 330 = .ok (.putfield 117, 3) := by decide +kernel
theorem dX12_init_333 : decode cX12_init 333 = .ok (.aload_n 0, 1) := by decide +kernel
theorem dX12_init_334 : decode cX12_init 334 = .ok (.iconst 4, 1) := by decide +kernel
theorem dX12_init_335 : decode cX12_init 335 = .ok (.newarray .boolean, 2) := by decide +kernel
theorem dX12_init_337 : decode cX12_init 337 = .ok (.putfield 120, 3) := by decide +kernel
theorem dX12_init_340 : decode cX12_init 340 = .ok (.aload_n 0, 1) := by decide +kernel
theorem dX12_init_341 : decode cX12_init 341 = .ok (.sipush 600, 3) := by decide +kernel
theorem dX12_init_344 : decode cX12_init 344 = .ok (.newarray .int, 2) := by decide +kernel
theorem dX12_init_346 : decode cX12_init 346 = .ok (.putfield 124, 3) := by decide +kernel
theorem dX12_init_349 : decode cX12_init 349 = .ok (.aload_n 0, 1) := by decide +kernel
theorem dX12_init_350 : decode cX12_init 350 = .ok (.bipush 6, 2) := by decide +kernel
theorem dX12_init_352 : decode cX12_init 352 = .ok (.newarray .int, 2) := by decide +kernel
theorem dX12_init_354 : decode cX12_init 354 = .ok (.putfield 127, 3) := by decide +kernel
theorem dX12_init_357 : decode cX12_init 357 = .ok (.aload_n 0, 1) := by decide +kernel
theorem dX12_init_358 : decode cX12_init 358 = .ok (.bipush 6, 2) := by decide +kernel
theorem dX12_init_360 : decode cX12_init 360 = .ok (.newarray .int, 2) := by decide +kernel
theorem dX12_init_362 : decode cX12_init 362 = .ok (.putfield 130, 3) := by decide +kernel
theorem dX12_init_365 : decode cX12_init 365 = .ok (.aload_n 0, 1) := by decide +kernel
theorem dX12_init_366 : decode cX12_init 366 = .ok (.bipush 6, 2) := by decide +kernel
theorem dX12_init_368 : decode cX12_init 368 = .ok (.newarray .int, 2) := by decide +kernel
theorem dX12_init_370 : decode cX12_init 370 = .ok (.putfield 133, 3) := by decide +kernel
theorem dX12_init_373 : decode cX12_init 373 = .ok (.aload_n 0, 1) := by decide +kernel
theorem dX12_init_374 : decode cX12_init 374 = .ok (.sipush 3600, 3) := by decide +kernel
theorem dX12_init_377 : decode cX12_init 377 = .ok (.newarray .int, 2) := by decide +kernel
theorem dX12_init_379 : decode cX12_init 379 = .ok (.putfield 136, 3) := by decide +kernel
theorem dX12_init_382 : decode cX12_init 382 = .ok (.aload_n 0, 1) := by decide +kernel
theorem dX12_init_383 : decode cX12_init 383 = .ok (.bipush 6, 2) := by decide +kernel
theorem dX12_init_385 : decode cX12_init 385 = .ok (.newarray .int, 2) := by decide +kernel
theorem dX12_init_387 : decode cX12_init 387 = .ok (.putfield 139, 3) := by decide +kernel
theorem dX12_init_390 : decode cX12_init 390 = .ok (.aload_n 0, 1) := by decide +kernel
theorem dX12_init_391 : decode cX12_init 391 = .ok (.bipush 6, 2) := by decide +kernel
theorem dX12_init_393 : decode cX12_init 393 = .ok (.newarray .int, 2) := by decide +kernel
theorem dX12_init_395 : decode cX12_init 395 = .ok (.putfield 142, 3) := by decide +kernel
theorem dX12_init_398 : decode cX12_init 398 = .ok (.aload_n 0, 1) := by decide +kernel
theorem dX12_init_399 : decode cX12_init 399 = .ok (.bipush 6, 2) := by decide +kernel
theorem dX12_init_401 : decode cX12_init 401 = .ok (.newarray .int, 2) := by decide +kernel
theorem dX12_init_403 : decode cX12_init 403 = .ok (.putfield 145, 3) := by decide +kernel
theorem dX12_init_406 : decode cX12_init 406 = .ok (.aload_n 0, 1) := by decide +kernel
theorem dX12_init_407 : decode cX12_init 407 = .ok (.getfield 93, 3) := by decide +kernel
theorem dX12_init_410 : decode cX12_init 410 = .ok (.iconst 0, 1) := by decide +kernel
theorem dX12_init_411 : decode cX12_init 411 = .ok (.iconst 2, 1) := by decide +kernel
theorem dX12_init_412 : decode cX12_init 412 = .ok (.iastore, 1) := by decide +kernel
theorem dX12_init_413 : decode cX12_init 413 = .ok (.aload_n 0, 1) := by decide +kernel
theorem dX12_init_414 : decode cX12_init 414 = .ok (.getfield 93, 3) := by decide +kernel
theorem dX12_init_417 : decode cX12_init 417 = .ok (.iconst 1, 1) := by decide +kernel
theorem dX12_init_418 : decode cX12_init 418 = .ok (.iconst 2, 1) := by decide +kernel
theorem dX12_init_419 : decode cX12_init 419 = .ok (.iastore, 1) := by decide +kernel
theorem dX12_init_420 : decode cX12_init 420 = .ok (.aload_n 0, 1) := by decide +kernel
theorem dX12_init_421 : decode cX12_init 421 = .ok (.getfield 93, 3) := by decide +kernel
theorem dX12_init_424 : decode cX12_init 424 = .ok (.bipush 6, 2) := by decide +kernel
theorem dX12_init_426 : decode cX12_init 426 = .ok (.iconst (-1), 1) := by decide +kernel
theorem dX12_init_427 : decode cX12_init 427 = .ok (.iastore, 1) := by decide +kernel
theorem dX12_init_428 : decode cX12_init 428 = .ok (.iconst 0, 1) := by decide +kernel
theorem dX12_init_429 : decode cX12_init 429 = .ok (.istore_n 1, 1) := by decide +kernel
theorem dX12_init_430 : decode cX12_init 430 = .ok (.iload_n 1, 1) := by decide +kernel
theorem dX12_init_431 : decode cX12_init 431 = .ok (.bipush 6, 2) := by decide +kernel
theorem dX12_init_433 : decode cX12_init 433 = .ok (.if_icmp .ge 19, 3) := by decide +kernel
theorem dX12_init_436 : decode cX12_init 436 = .ok (.aload_n 0, 1) := by decide +kernel
theorem dX12_init_437 : decode cX12_init 437 = .ok (.getfield 117, 3) := by decide +kernel
theorem dX12_init_440 : decode cX12_init 440 = .ok (.bipush 48, 2) := by decide +kernel
theorem dX12_init_442 : decode cX12_init 442 = .ok (.iload_n 1, 1) := by decide +kernel
theorem dX12_init_443 : decode cX12_init 443 = .ok (.iadd, 1) := by decide +kernel
theorem dX12_init_444 : decode cX12_init 444 = .ok (.iconst (-1), 1) := by decide +kernel
theorem dX12_init_445 : decode cX12_init 445 = .ok (.iastore, 1) := by decide +kernel
theorem dX12_init_446 : decode cX12_init 446 = .ok (.iinc 1 1, 3) := by decide +kernel
theorem dX12_init_449 : decode cX12_init 449 = .ok (.goto (-19), 3) := by decide +kernel
theorem dX12_init_452 : decode cX12_init 452 = .ok (.return_, 1) := by decide +kernel
theorem dX1_init_0 : decode cX1_init 0 = .ok (.aload_n 0, 1) := by decide +kernel
theorem dX1_init_1 : decode cX1_init 1 = .ok (.invokespecial 3, 3) := by decide +kernel
theorem dX1_init_4 : decode cX1_init 4 = .ok (.aload_n 0, 1) := by decide +kernel
theorem dX1_init_5 : decode cX1_init 5 = .ok (.bipush 6, 2) := by decide +kernel
theorem dX1_init_7 : decode cX1_init 7 = .ok (.newarray .int, 2) := by decide +kernel
theorem dX1_init_9 : decode cX1_init 9 = .ok (.putfield 9, 3) := by decide +kernel
theorem dX1_init_12 : decode cX1_init 12 = .ok (.aload_n 0, 1) := by decide +kernel
theorem dX1_init_13 : decode cX1_init 13 = .ok (.bipush 6, 2) := by decide +kernel
theorem dX1_init_15 : decode cX1_init 15 = .ok (.newarray .int, 2) := by decide +kernel
theorem dX1_init_17 : decode cX1_init 17 = .ok (.putfield 15, 3) := by decide +kernel
theorem dX1_init_20 : decode cX1_init 20 = .ok (.aload_n 0, 1) := by decide +kernel
theorem dX1_init_21 : decode cX1_init 21 = .ok (.bipush 36, 2) := by decide +kernel
theorem dX1_init_23 : decode cX1_init 23 = .ok (.newarray .int, 2) := by decide +kernel
theorem dX1_init_25 : decode cX1_init 25 = .ok (.putfield 18, 3) := by decide +kernel
theorem dX1_init_28 : decode cX1_init 28 = .ok (.aload_n 0, 1) := by decide +kernel
theorem dX1_init_29 : decode cX1_init 29 = .ok (.bipush 6, 2) := by decide +kernel
theorem dX1_init_31 : decode cX1_init 31 = .ok (.newarray .int, 2) := by decide +kernel
theorem dX1_init_33 : decode cX1_init 33 = .ok (.putfield 21, 3) := by decide +kernel
theorem dX1_init_36 : decode cX1_init 36 = .ok (.aload_n 0, 1) := by decide +kernel
theorem dX1_init_37 : decode cX1_init 37 = .ok (.getfield 21, 3) := by decide +kernel
theorem dX1_init_40 : decode cX1_init 40 = .ok (.iconst (-1), 1) := by decide +kernel
theorem dX1_init_41 : decode cX1_init 41 = .ok (.invokestatic 24, 3) := by decide +kernel
theorem dX1_init_44 : decode cX1_init 44 = .ok (.return_, 1) := by decide +kernel
theorem dX2_init_0 : decode cX2_init 0 = .ok (.aload_n 0, 1) := by decide +kernel
theorem dX2_init_1 : decode cX2_init 1 = .ok (.invokespecial 3, 3) := by decide +kernel
theorem dX2_init_4 : decode cX2_init 4 = .ok (.aload_n 0, 1) := by decide +kernel
theorem dX2_init_5 : decode cX2_init 5 = .ok (.bipush 6, 2) := by decide +kernel
theorem dX2_init_7 : decode cX2_init 7 = .ok (.newarray .int, 2) := by decide +kernel
theorem dX2_init_9 : decode cX2_init 9 = .ok (.putfield 9, 3) := by decide +kernel
theorem dX2_init_12 : decode cX2_init 12 = .ok (.aload_n 0, 1) := by decide +kernel
theorem dX2_init_13 : decode cX2_init 13 = .ok (.iconst 0, 1) := by decide +kernel
theorem dX2_init_14 : decode cX2_init 14 = .ok (.putfield 15, 3) := by decide +kernel
theorem dX2_init_17 : decode cX2_init 17 = .ok (.aload_n 0, 1) := by decide +kernel
theorem dX2_init_18 : decode cX2_init 18 = .ok (.lconst 0, 1) := by decide +kernel
theorem dX2_init_19 : decode cX2_init 19 = .ok (.putfield 19, 3) := by decide +kernel
theorem dX2_init_22 : decode cX2_init 22 = .ok (.return_, 1) := by decide +kernel
theorem dX3_init_0 : decode cX3_init 0 = .ok (.aload_n 0, 1) := by decide +kernel
theorem dX3_init_1 : decode cX3_init 1 = .ok (.invokespecial 3, 3) := by decide +kernel
theorem dX3_init_4 : decode cX3_init 4 = .ok (.aload_n 0, 1) := by decide +kernel
theorem dX3_init_5 : decode cX3_init 5 = .ok (.sipush 1000, 3) := by decide +kernel
theorem dX3_init_8 : decode cX3_init 8 = .ok (.newarray .int, 2) := by decide +kernel
theorem dX3_init_10 : decode cX3_init 10 = .ok (.putfield 9, 3) := by decide +kernel
theorem dX3_init_13 : decode cX3_init 13 = .ok (.aload_n 0, 1) := by decide +kernel
theorem dX3_init_14 : decode cX3_init 14 = .ok (.iconst 0, 1) := by decide +kernel
theorem dX3_init_15 : decode cX3_init 15 = .ok (.putfield 15, 3) := by decide +kernel
theorem dX3_init_18 : decode cX3_init 18 = .ok (.aload_n 0, 1) := by decide +kernel
theorem dX3_init_19 : decode cX3_init 19 = .ok (.bipush 64, 2) := by decide +kernel
theorem dX3_init_21 : decode cX3_init 21 = .ok (.newarray .int, 2) := by decide +kernel
theorem dX3_init_23 : decode cX3_init 23 = .ok (.putfield 19, 3) := by decide +kernel
theorem dX3_init_26 : decode cX3_init 26 = .ok (.aload_n 0, 1) := by decide +kernel
theorem dX3_init_27 : decode cX3_init 27 = .ok (.iconst 0, 1) := by decide +kernel
theorem dX3_init_28 : decode cX3_init 28 = .ok (.putfield 22, 3) := by decide +kernel
theorem dX3_init_31 : decode cX3_init 31 = .ok (.aload_n 0, 1) := by decide +kernel
theorem dX3_init_32 : decode cX3_init 32 = .ok (.iconst 0, 1) := by decide +kernel
theorem dX3_init_33 : decode cX3_init 33 = .ok (.putfield 25, 3) := by decide +kernel
theorem dX3_init_36 : decode cX3_init 36 = .ok (.aload_n 0, 1) := by decide +kernel
theorem dX3_init_37 : decode cX3_init 37 = .ok (.iconst 0, 1) := by decide +kernel
theorem dX3_init_38 : decode cX3_init 38 = .ok (.putfield 28, 3) := by decide +kernel
theorem dX3_init_41 : decode cX3_init 41 = .ok (.return_, 1) := by decide +kernel
theorem dX4_init_0 : decode cX4_init 0 = .ok (.aload_n 0, 1) := by decide +kernel
theorem dX4_init_1 : decode cX4_init 1 = .ok (.invokespecial 3, 3) := by decide +kernel
theorem dX4_init_4 : decode cX4_init 4 = .ok (.aload_n 0, 1) := by decide +kernel
theorem dX4_init_5 : decode cX4_init 5 = .ok (.bipush 20, 2) := by decide +kernel
theorem dX4_init_7 : decode cX4_init 7 = .ok (.newarray .int, 2) := by decide +kernel
theorem dX4_init_9 : decode cX4_init 9 = .ok (.putfield 9, 3) := by decide +kernel
theorem dX4_init_12 : decode cX4_init 12 = .ok (.aload_n 0, 1) := by decide +kernel
theorem dX4_init_13 : decode cX4_init 13 = .ok (.iconst 0, 1) := by decide +kernel
theorem dX4_init_14 : decode cX4_init 14 = .ok (.putfield 15, 3) := by decide +kernel
theorem dX4_init_17 : decode cX4_init 17 = .ok (.return_, 1) := by decide +kernel
theorem dX5_init_0 : decode cX5_init 0 = .ok (.aload_n 0, 1) := by decide +kernel
theorem dX5_init_1 : decode cX5_init 1 = .ok (.invokespecial 3, 3) := by decide +kernel
theorem dX5_init_4 : decode cX5_init 4 = .ok (.aload_n 0, 1) := by decide +kernel
theorem dX5_init_5 : decode cX5_init 5 = .ok (.new 9, 3) := by decide +kernel
theorem dX5_init_8 : decode cX5_init 8 = .ok (.dup, 1) := by decide +kernel
theorem dX5_init_9 : decode cX5_init 9 = .ok (.invokespecial 11, 3) := by decide +kernel
theorem dX5_init_12 : decode cX5_init 12 = .ok (.putfield 12, 3) := by decide +kernel
theorem dX5_init_15 : decode cX5_init 15 = .ok (.aload_n 0, 1) := by decide +kernel
theorem dX5_init_16 : decode cX5_init 16 = .ok (.aconst_null, 1) := by decide +kernel
theorem dX5_init_17 : decode cX5_init 17 = .ok (.putfield 18, 3) := by decide +kernel
theorem dX5_init_20 : decode cX5_init 20 = .ok (.aload_n 0, 1) := by decide +kernel
theorem dX5_init_21 : decode cX5_init 21 = .ok (.iconst 0, 1) := by decide +kernel
theorem dX5_init_22 : decode cX5_init 22 = .ok (.putfield 22, 3) := by decide +kernel
theorem dX5_init_25 : decode cX5_init 25 = .ok (.aload_n 0, 1) := by decide +kernel
theorem dX5_init_26 : decode cX5_init 26 = .ok (.iconst 0, 1) := by decide +kernel
theorem dX5_init_27 : decode cX5_init 27 = .ok (.putfield 26, 3) := by decide +kernel
theorem dX5_init_30 : decode cX5_init 30 = .ok (.aload_n 0, 1) := by decide +kernel
theorem dX5_init_31 : decode cX5_init 31 = .ok (.bipush 18, 2) := by decide +kernel
theorem dX5_init_33 : decode cX5_init 33 = .ok (.newarray .long, 2) := by decide +kernel
theorem dX5_init_35 : decode cX5_init 35 = .ok (.putfield 29, 3) := by decide +kernel
theorem dX5_init_38 : decode cX5_init 38 = .ok (.aload_n 0, 1) := by decide +kernel
theorem dX5_init_39 : decode cX5_init 39 = .ok (.iconst 0, 1) := by decide +kernel
theorem dX5_init_40 : decode cX5_init 40 = .ok (.putfield 33, 3) := by decide +kernel
theorem dX5_init_43 : decode cX5_init 43 = .ok (.aload_n 0, 1) := by decide +kernel
theorem dX5_init_44 : decode cX5_init 44 = .ok (.bipush 6, 2) := by decide +kernel
theorem dX5_init_46 : decode cX5_init 46 = .ok (.newarray .long, 2) := by decide +kernel
theorem dX5_init_48 : decode cX5_init 48 = .ok (.putfield 36, 3) := by decide +kernel
theorem dX5_init_51 : decode cX5_init 51 = .ok (.aload_n 0, 1) := by decide +kernel
theorem dX5_init_52 : decode cX5_init 52 = .ok (.lconst 0, 1) := by decide +kernel
theorem dX5_init_53 : decode cX5_init 53 = .ok (.putfield 39, 3) := by decide +kernel
theorem dX5_init_56 : decode cX5_init 56 = .ok (.aload_n 0, 1) := by decide +kernel
theorem dX5_init_57 : decode cX5_init 57 = .ok (.iconst 0, 1) := by decide +kernel
theorem dX5_init_58 : decode cX5_init 58 = .ok (.putfield 43, 3) := by decide +kernel
theorem dX5_init_61 : decode cX5_init 61 = .ok (.aload_n 0, 1) := by decide +kernel
theorem dX5_init_62 : decode cX5_init 62 = .ok (.iconst 0, 1) := by decide +kernel
theorem dX5_init_63 : decode cX5_init 63 = .ok (.putfield 47, 3) := by decide +kernel
theorem dX5_init_66 : decode cX5_init 66 = .ok (.aload_n 0, 1) := by decide +kernel
theorem dX5_init_67 : decode cX5_init 67 = .ok (.iconst 0, 1) := by decide +kernel
theorem dX5_init_68 : decode cX5_init 68 = .ok (.putfield 50, 3) := by decide +kernel
theorem dX5_init_71 : decode cX5_init 71 = .ok (.aload_n 0, 1) := by decide +kernel
theorem dX5_init_72 : decode cX5_init 72 = .ok (.iconst 0, 1) := by decide +kernel
theorem dX5_init_73 : decode cX5_init 73 = .ok (.putfield 53, 3) := by decide +kernel
theorem dX5_init_76 : decode cX5_init 76 = .ok (.return_, 1) := by decide +kernel
theorem dX6_init_0 : decode cX6_init 0 = .ok (.aload_n 0, 1) := by decide +kernel
theorem dX6_init_1 : decode cX6_init 1 = .ok (.invokespecial 3, 3) := by decide +kernel
theorem dX6_init_4 : decode cX6_init 4 = .ok (.aload_n 0, 1) := by decide +kernel
theorem dX6_init_5 : decode cX6_init 5 = .ok (.iconst 0, 1) := by decide +kernel
theorem dX6_init_6 : decode cX6_init 6 = .ok (.putfield 9, 3) := by decide +kernel
theorem dX6_init_9 : decode cX6_init 9 = .ok (.aload_n 0, 1) := by decide +kernel
theorem dX6_init_10 : decode cX6_init 10 = .ok (.iconst (-1), 1) := by decide +kernel
theorem dX6_init_11 : decode cX6_init 11 = .ok (.putfield 15, 3) := by decide +kernel
theorem dX6_init_14 : decode cX6_init 14 = .ok (.aload_n 0, 1) := by decide +kernel
theorem dX6_init_15 : decode cX6_init 15 = .ok (.iconst (-1), 1) := by decide +kernel
theorem dX6_init_16 : decode cX6_init 16 = .ok (.putfield 18, 3) := by decide +kernel
theorem dX6_init_19 : decode cX6_init 19 = .ok (.aload_n 0, 1) := by decide +kernel
theorem dX6_init_20 : decode cX6_init 20 = .ok (.iconst 0, 1) := by decide +kernel
theorem dX6_init_21 : decode cX6_init 21 = .ok (.putfield 21, 3) := by decide +kernel
theorem dX6_init_24 : decode cX6_init 24 = .ok (.aload_n 0, 1) := by decide +kernel
theorem dX6_init_25 : decode cX6_init 25 = .ok (.aconst_null, 1) := by decide +kernel
theorem dX6_init_26 : decode cX6_init 26 = .ok (.putfield 24, 3) := by decide +kernel
theorem dX6_init_29 : decode cX6_init 29 = .ok (.aload_n 0, 1) := by decide +kernel
theorem dX6_init_30 : decode cX6_init 30 = .ok (.aconst_null, 1) := by decide +kernel
theorem dX6_init_31 : decode cX6_init 31 = .ok (.putfield 28, 3) := by decide +kernel
theorem dX6_init_34 : decode cX6_init 34 = .ok (.aload_n 0, 1) := by decide +kernel
theorem dX6_init_35 : decode cX6_init 35 = .ok (.bipush 36, 2) := by decide +kernel
theorem dX6_init_37 : decode cX6_init 37 = .ok (.newarray .int, 2) := by decide +kernel
theorem dX6_init_39 : decode cX6_init 39 = .ok (.putfield 32, 3) := by decide +kernel
theorem dX6_init_42 : decode cX6_init 42 = .ok (.return_, 1) := by decide +kernel
theorem dX7_init_0 : decode cX7_init 0 = .ok (.aload_n 0, 1) := by decide +kernel
theorem dX7_init_1 : decode cX7_init 1 = .ok (.invokespecial 3, 3) := by decide +kernel
theorem dX7_init_4 : decode cX7_init 4 = .ok (.aload_n 0, 1) := by decide +kernel
theorem dX7_init_5 : decode cX7_init 5 = .ok (.sipush 576, 3) := by decide +kernel
theorem dX7_init_8 : decode cX7_init 8 = .ok (.newarray .int, 2) := by decide +kernel
theorem dX7_init_10 : decode cX7_init 10 = .ok (.putfield 9, 3) := by decide +kernel
theorem dX7_init_13 : decode cX7_init 13 = .ok (.aload_n 0, 1) := by decide +kernel
theorem dX7_init_14 : decode cX7_init 14 = .ok (.iconst 0, 1) := by decide +kernel
theorem dX7_init_15 : decode cX7_init 15 = .ok (.putfield 15, 3) := by decide +kernel
theorem dX7_init_18 : decode cX7_init 18 = .ok (.aload_n 0, 1) := by decide +kernel
theorem dX7_init_19 : decode cX7_init 19 = .ok (.iconst 0, 1) := by decide +kernel
theorem dX7_init_20 : decode cX7_init 20 = .ok (.putfield 19, 3) := by decide +kernel
theorem dX7_init_23 : decode cX7_init 23 = .ok (.aload_n 0, 1) := by decide +kernel
theorem dX7_init_24 : decode cX7_init 24 = .ok (.iconst 0, 1) := by decide +kernel
theorem dX7_init_25 : decode cX7_init 25 = .ok (.putfield 22, 3) := by decide +kernel
theorem dX7_init_28 : decode cX7_init 28 = .ok (.aload_n 0, 1) := by decide +kernel
theorem dX7_init_29 : decode cX7_init 29 = .ok (.lconst 0, 1) := by decide +kernel
theorem dX7_init_30 : decode cX7_init 30 = .ok (.putfield 25, 3) := by decide +kernel
theorem dX7_init_33 : decode cX7_init 33 = .ok (.aload_n 0, 1) := by decide +kernel
theorem dX7_init_34 : decode cX7_init 34 = .ok (.iconst 0, 1) := by decide +kernel
theorem dX7_init_35 : decode cX7_init 35 = .ok (.putfield 29, 3) := by decide +kernel
theorem dX7_init_38 : decode cX7_init 38 = .ok (.aload_n 0, 1) := by decide +kernel
theorem dX7_init_39 : decode cX7_init 39 = .ok (.iconst 0, 1) := by decide +kernel
theorem dX7_init_40 : decode cX7_init 40 = .ok (.putfield 32, 3) := by decide +kernel
theorem dX7_init_43 : decode cX7_init 43 = .ok (.return_, 1) := by decide +kernel
theorem dX8_init_0 : decode cX8_init 0 = .ok (.aload_n 0, 1) := by decide +kernel
theorem dX8_init_1 : decode cX8_init 1 = .ok (.invokespecial 3, 3) := by decide +kernel
theorem dX8_init_4 : decode cX8_init 4 = .ok (.aload_n 0, 1) := by decide +kernel
theorem dX8_init_5 : decode cX8_init 5 = .ok (.bipush 6, 2) := by decide +kernel
theorem dX8_init_7 : decode cX8_init 7 = .ok (.newarray .int, 2) := by decide +kernel
theorem dX8_init_9 : decode cX8_init 9 = .ok (.putfield 9, 3) := by decide +kernel
theorem dX8_init_12 : decode cX8_init 12 = .ok (.aload_n 0, 1) := by decide +kernel
theorem dX8_init_13 : decode cX8_init 13 = .ok (.iconst 0, 1) := by decide +kernel
theorem dX8_init_14 : decode cX8_init 14 = .ok (.putfield 15, 3) := by decide +kernel
theorem dX8_init_17 : decode cX8_init 17 = .ok (.aload_n 0, 1) := by decide +kernel
theorem dX8_init_18 : decode cX8_init 18 = .ok (.iconst 0, 1) := by decide +kernel
theorem dX8_init_19 : decode cX8_init 19 = .ok (.putfield 19, 3) := by decide +kernel
theorem dX8_init_22 : decode cX8_init 22 = .ok (.aload_n 0, 1) := by decide +kernel
theorem dX8_init_23 : decode cX8_init 23 = .ok (.iconst 0, 1) := by decide +kernel
theorem dX8_init_24 : decode cX8_init 24 = .ok (.putfield 22, 3) := by decide +kernel
theorem dX8_init_27 : decode cX8_init 27 = .ok (.aload_n 0, 1) := by decide +kernel
theorem dX8_init_28 : decode cX8_init 28 = .ok (.iconst 0, 1) := by decide +kernel
theorem dX8_init_29 : decode cX8_init 29 = .ok (.putfield 26, 3) := by decide +kernel
theorem dX8_init_32 : decode cX8_init 32 = .ok (.aload_n 0, 1) := by decide +kernel
theorem dX8_init_33 : decode cX8_init 33 = .ok (.iconst 0, 1) := by decide +kernel
theorem dX8_init_34 : decode cX8_init 34 = .ok (.putfield 29, 3) := by decide +kernel
theorem dX8_init_37 : decode cX8_init 37 = .ok (.aload_n 0, 1) := by decide +kernel
theorem dX8_init_38 : decode cX8_init 38 = .ok (.aconst_null, 1) := by decide +kernel
theorem dX8_init_39 : decode cX8_init 39 = .ok (.putfield 32, 3) := by decide +kernel
theorem dX8_init_42 : decode cX8_init 42 = .ok (.aload_n 0, 1) := by decide +kernel
theorem dX8_init_43 : decode cX8_init 43 = .ok (.iconst 0, 1) := by decide +kernel
theorem dX8_init_44 : decode cX8_init 44 = .ok (.putfield 36, 3) := by decide +kernel
theorem dX8_init_47 : decode cX8_init 47 = .ok (.aload_n 0, 1) := by decide +kernel
theorem dX8_init_48 : decode cX8_init 48 = .ok (.bipush 6, 2) := by decide +kernel
theorem dX8_init_50 : decode cX8_init 50 = .ok (.newarray .int, 2) := by decide +kernel
theorem dX8_init_52 : decode cX8_init 52 = .ok (.putfield 39, 3) := by decide +kernel
theorem dX8_init_55 : decode cX8_init 55 = .ok (.aload_n 0, 1) := by decide +kernel
theorem dX8_init_56 : decode cX8_init 56 = .ok (.sipush 576, 3) := by decide +kernel
theorem dX8_init_59 : decode cX8_init 59 = .ok (.newarray .boolean, 2) := by decide +kernel
theorem dX8_init_61 : decode cX8_init 61 = .ok (.putfield 42, 3) := by decide +kernel
theorem dX8_init_64 : decode cX8_init 64 = .ok (.aload_n 0, 1) := by decide +kernel
theorem dX8_init_65 : decode cX8_init 65 = .ok (.sipush 9216, 3) := by decide +kernel
theorem dX8_init_68 : decode cX8_init 68 = .ok (.newarray .short, 2) := by decide +kernel
theorem dX8_init_70 : decode cX8_init 70 = .ok (.putfield 46, 3) := by decide +kernel
theorem dX8_init_73 : decode cX8_init 73 = .ok (.aload_n 0, 1) := by decide +kernel
theorem dX8_init_74 : decode cX8_init 74 = .ok (.sipush 256, 3) := by decide +kernel
theorem dX8_init_77 : decode cX8_init 77 = .ok (.newarray .int, 2) := by decide +kernel
theorem dX8_init_79 : decode cX8_init 79 = .ok (.putfield 50, 3) := by decide +kernel
theorem dX8_init_82 : decode cX8_init 82 = .ok (.return_, 1) := by decide +kernel
theorem dX9_init_0 : decode cX9_init 0 = .ok (.aload_n 0, 1) := by decide +kernel
theorem dX9_init_1 : decode cX9_init 1 = .ok (.invokespecial 3, 3) := by decide +kernel
theorem dX9_init_4 : decode cX9_init 4 = .ok (.aload_n 0, 1) := by decide +kernel
theorem dX9_init_5 : decode cX9_init 5 = .ok (.iconst 0, 1) := by decide +kernel
theorem dX9_init_6 : decode cX9_init 6 = .ok (.putfield 9, 3) := by decide +kernel
theorem dX9_init_9 : decode cX9_init 9 = .ok (.aload_n 0, 1) := by decide +kernel
theorem dX9_init_10 : decode cX9_init 10 = .ok (.iconst 0, 1) := by decide +kernel
theorem dX9_init_11 : decode cX9_init 11 = .ok (.putfield 15, 3) := by decide +kernel
theorem dX9_init_14 : decode cX9_init 14 = .ok (.aload_n 0, 1) := by decide +kernel
theorem dX9_init_15 : decode cX9_init 15 = .ok (.iconst 0, 1) := by decide +kernel
theorem dX9_init_16 : decode cX9_init 16 = .ok (.putfield 19, 3) := by decide +kernel
theorem dX9_init_19 : decode cX9_init 19 = .ok (.aload_n 0, 1) := by decide +kernel
theorem dX9_init_20 : decode cX9_init 20 = .ok (.aconst_null, 1) := by decide +kernel
theorem dX9_init_21 : decode cX9_init 21 = .ok (.putfield 22, 3) := by decide +kernel
theorem dX9_init_24 : decode cX9_init 24 = .ok (.aload_n 0, 1) := by decide +kernel
theorem dX9_init_25 : decode cX9_init 25 = .ok (.aconst_null, 1) := by decide +kernel
theorem dX9_init_26 : decode cX9_init 26 = .ok (.putfield 26, 3) := by decide +kernel
theorem dX9_init_29 : decode cX9_init 29 = .ok (.aload_n 0, 1) := by decide +kernel
theorem dX9_init_30 : decode cX9_init 30 = .ok (.bipush 6, 2) := by decide +kernel
theorem dX9_init_32 : decode cX9_init 32 = .ok (.newarray .int, 2) := by decide +kernel
theorem dX9_init_34 : decode cX9_init 34 = .ok (.putfield 30, 3) := by decide +kernel
theorem dX9_init_37 : decode cX9_init 37 = .ok (.aload_n 0, 1) := by decide +kernel
theorem dX9_init_38 : decode cX9_init 38 = .ok (.iconst 0, 1) := by decide +kernel
theorem dX9_init_39 : decode cX9_init 39 = .ok (.putfield 34, 3) := by decide +kernel
theorem dX9_init_42 : decode cX9_init 42 = .ok (.return_, 1) := by decide +kernel
theorem u2_off {α : Type} {f : Nat → Nat → α} {o k a b : Nat} {v : α} (h : a ≠ o) : u2 f o k v a b = f a b := by simp [u2, h]
set_option maxHeartbeats 4000000 in
set_option maxRecDepth 100000 in
theorem fill6 {d : Nat} {sr : Sr} {sx : Sx} {S : List Shp} {I : Ints} {L : Lngs} {R : Rfs} {Q : Qt} {o : Nat} {v : Int32} (hS : S[o]? = some (Sum.inr (.int, 6))) (hq : Q none S (u2 (u2 (u2 (u2 (u2 (u2 I o 0 v) o 1 v) o 2 v) o 3 v) o 4 v) o 5 v) L R) : EV mJ7_fill_53178 (d + 1) 0 0 (true, true) sr sx S [.ref o, .int v] I L R Q := by
  refine EV_of_X rfl rfl (Nat.le_of_ble_eq_true rfl) ?_
  refine X_iconst dJ7_fill_53178_0 ?_
  refine X_istore_n (by decide) dJ7_fill_53178_1 ?_
  refine X_aload_n rfl dJ7_fill_53178_2 ?_
  refine X_alen hS dJ7_fill_53178_3 ?_
  refine X_istore_n (by decide) dJ7_fill_53178_4 ?_
  refine X_iload_n rfl dJ7_fill_53178_5 ?_
  refine X_iload_n rfl dJ7_fill_53178_6 ?_
  refine X_icmp_ge (tgt := 20) dJ7_fill_53178_7 rfl (fun z => absurd z (by decide)) (fun _ => ?_)
  refine X_aload_n rfl dJ7_fill_53178_10 ?_
  refine X_iload_n rfl dJ7_fill_53178_11 ?_
  refine X_iload_n rfl dJ7_fill_53178_12 ?_
  refine X_iast hS (by unfold vp_in; decide) dJ7_fill_53178_13 ?_
  refine X_iinc rfl (by decide) dJ7_fill_53178_14 ?_
  refine X_goto (tgt := 5) dJ7_fill_53178_17 rfl ?_
  refine X_iload_n rfl dJ7_fill_53178_5 ?_
  refine X_iload_n rfl dJ7_fill_53178_6 ?_
  refine X_icmp_ge (tgt := 20) dJ7_fill_53178_7 rfl (fun z => absurd z (by decide)) (fun _ => ?_)
  refine X_aload_n rfl dJ7_fill_53178_10 ?_
  refine X_iload_n rfl dJ7_fill_53178_11 ?_
  refine X_iload_n rfl dJ7_fill_53178_12 ?_
  refine X_iast hS (by unfold vp_in; decide) dJ7_fill_53178_13 ?_
  refine X_iinc rfl (by decide) dJ7_fill_53178_14 ?_
  refine X_goto (tgt := 5) dJ7_fill_53178_17 rfl ?_
  refine X_iload_n rfl dJ7_fill_53178_5 ?_
  refine X_iload_n rfl dJ7_fill_53178_6 ?_
  refine X_icmp_ge (tgt := 20) dJ7_fill_53178_7 rfl (fun z => absurd z (by decide)) (fun _ => ?_)
  refine X_aload_n rfl dJ7_fill_53178_10 ?_
  refine X_iload_n rfl dJ7_fill_53178_11 ?_
  refine X_iload_n rfl dJ7_fill_53178_12 ?_
  refine X_iast hS (by unfold vp_in; decide) dJ7_fill_53178_13 ?_
  refine X_iinc rfl (by decide) dJ7_fill_53178_14 ?_
  refine X_goto (tgt := 5) dJ7_fill_53178_17 rfl ?_
  refine X_iload_n rfl dJ7_fill_53178_5 ?_
  refine X_iload_n rfl dJ7_fill_53178_6 ?_
  refine X_icmp_ge (tgt := 20) dJ7_fill_53178_7 rfl (fun z => absurd z (by decide)) (fun _ => ?_)
  refine X_aload_n rfl dJ7_fill_53178_10 ?_
  refine X_iload_n rfl dJ7_fill_53178_11 ?_
  refine X_iload_n rfl dJ7_fill_53178_12 ?_
  refine X_iast hS (by unfold vp_in; decide) dJ7_fill_53178_13 ?_
  refine X_iinc rfl (by decide) dJ7_fill_53178_14 ?_
  refine X_goto (tgt := 5) dJ7_fill_53178_17 rfl ?_
  refine X_iload_n rfl dJ7_fill_53178_5 ?_
  refine X_iload_n rfl dJ7_fill_53178_6 ?_
  refine X_icmp_ge (tgt := 20) dJ7_fill_53178_7 rfl (fun z => absurd z (by decide)) (fun _ => ?_)
  refine X_aload_n rfl dJ7_fill_53178_10 ?_
  refine X_iload_n rfl dJ7_fill_53178_11 ?_
  refine X_iload_n rfl dJ7_fill_53178_12 ?_
  refine X_iast hS (by unfold vp_in; decide) dJ7_fill_53178_13 ?_
  refine X_iinc rfl (by decide) dJ7_fill_53178_14 ?_
  refine X_goto (tgt := 5) dJ7_fill_53178_17 rfl ?_
  refine X_iload_n rfl dJ7_fill_53178_5 ?_
  refine X_iload_n rfl dJ7_fill_53178_6 ?_
  refine X_icmp_ge (tgt := 20) dJ7_fill_53178_7 rfl (fun z => absurd z (by decide)) (fun _ => ?_)
  refine X_aload_n rfl dJ7_fill_53178_10 ?_
  refine X_iload_n rfl dJ7_fill_53178_11 ?_
  refine X_iload_n rfl dJ7_fill_53178_12 ?_
  refine X_iast hS (by unfold vp_in; decide) dJ7_fill_53178_13 ?_
  refine X_iinc rfl (by decide) dJ7_fill_53178_14 ?_
  refine X_goto (tgt := 5) dJ7_fill_53178_17 rfl ?_
  refine X_iload_n rfl dJ7_fill_53178_5 ?_
  refine X_iload_n rfl dJ7_fill_53178_6 ?_
  refine X_icmp_ge (tgt := 20) dJ7_fill_53178_7 rfl (fun _ => ?_) (fun z => absurd z (by decide))
  exact X_vret (st := []) rfl (by decide) (by decide) (fun _ => ⟨rfl, rfl⟩) dJ7_fill_53178_20 hq
theorem mjX3_init : MJ mX3_init 0 := ⟨kX3_init, tsI (inT1 _ (List.mem_of_getElem? (i := 3) rfl)) rfl, by decide +kernel, by decide⟩
set_option maxHeartbeats 4000000 in
set_option maxRecDepth 100000 in
theorem ct_X3_init {d : Nat} {sx : Sx} {I : Ints} {L : Lngs} {R : Rfs} {Q : Qt} {o n : Nat} (hon : o < n) (ho : S0[o]? = some (Sum.inl 3)) (h0 : S0[n]? = some (Sum.inr (.int, 1000))) (h1 : S0[(n + 1)]? = some (Sum.inr (.int, 64))) (hz : zr n (n + 2) I L R) (hq : Q none (S0.take (n + 2)) (u2 (u2 (u2 (u2 I o 1 0) o 3 0) o 4 0) o 5 0) L (u2 (u2 R o 0 (some n)) o 2 (some (n + 1)))) : EV mX3_init (d + 1) 2 1064 (true, true) srN sx (S0.take n) [.ref o] I L R Q := by
  refine EV_of_X rfl rfl (Nat.le_of_ble_eq_true rfl) ?_
  refine X_aload_n rfl dX3_init_0 ?_
  refine X_obj (tsI (inT1 _ (List.mem_of_getElem? (i := 45) rfl)) rfl) ow_i ow_c (Nat.le_of_ble_eq_true rfl) (by omega) dX3_init_1 ?_
  refine X_aload_n rfl dX3_init_4 ?_
  refine X_sipush dX3_init_5 ?_
  refine XT_newarr (n := n) (N := 1000) (ty := .int) h0 rfl rfl aw_int (by decide) (by decide) (by decide) (fun k => ?_) (by decide) (by decide) dX3_init_8 ?_
  · have hb := hz n (by omega) (by omega) k
    exact ⟨by (try simp (disch := omega) only [u2_off]); exact hb.1, by (try simp (disch := omega) only [u2_off]); exact hb.2.1⟩
  refine X_putrF fl_3_9 rfl rfl (fun q hq => by cases hq; exact ⟨rfl, rfl⟩) rfl (tk (by omega) ho) dX3_init_10 ?_
  refine X_aload_n rfl dX3_init_13 ?_
  refine X_iconst dX3_init_14 ?_
  refine X_puti fl_3_15 rfl (fun q hq => by cases hq; exact rfl) (tk (by omega) ho) dX3_init_15 ?_
  refine X_aload_n rfl dX3_init_18 ?_
  refine X_bipush dX3_init_19 ?_
  refine XT_newarr (n := (n + 1)) (N := 64) (ty := .int) h1 rfl rfl aw_int (by decide) (by decide) (by decide) (fun k => ?_) (by decide) (by decide) dX3_init_21 ?_
  · have hb := hz (n + 1) (by omega) (by omega) k
    exact ⟨by (try simp (disch := omega) only [u2_off]); exact hb.1, by (try simp (disch := omega) only [u2_off]); exact hb.2.1⟩
  refine X_putrF fl_3_19 rfl rfl (fun q hq => by cases hq; exact ⟨rfl, rfl⟩) rfl (tk (by omega) ho) dX3_init_23 ?_
  refine X_aload_n rfl dX3_init_26 ?_
  refine X_iconst dX3_init_27 ?_
  refine X_puti fl_3_22 rfl (fun q hq => by cases hq; exact rfl) (tk (by omega) ho) dX3_init_28 ?_
  refine X_aload_n rfl dX3_init_31 ?_
  refine X_iconst dX3_init_32 ?_
  refine X_puti fl_3_25 rfl (fun q hq => by cases hq; exact rfl) (tk (by omega) ho) dX3_init_33 ?_
  refine X_aload_n rfl dX3_init_36 ?_
  refine X_iconst dX3_init_37 ?_
  refine X_puti fl_3_28 rfl (fun q hq => by cases hq; exact rfl) (tk (by omega) ho) dX3_init_38 ?_
  exact X_vret (st := []) rfl (by decide) (by decide) (fun _ => ⟨rfl, rfl⟩) dX3_init_41 hq
theorem mjX0_init : MJ mX0_init 0 := ⟨kX0_init, tsI (inT1 _ (List.mem_of_getElem? (i := 2) rfl)) rfl, by decide +kernel, by decide⟩
set_option maxHeartbeats 4000000 in
set_option maxRecDepth 100000 in
theorem ct_X0_init {d : Nat} {sx : Sx} {I : Ints} {L : Lngs} {R : Rfs} {Q : Qt} {o n : Nat} (hon : o < n) (ho : S0[o]? = some (Sum.inl 0)) (h0 : S0[n]? = some (Sum.inr (.int, 6))) (h1 : S0[(n + 1)]? = some (Sum.inr (.int, 48))) (h2 : S0[(n + 2)]? = some (Sum.inr (.int, 6))) (h3 : S0[(n + 3)]? = some (Sum.inr (.int, 6))) (h4 : S0[(n + 4)]? = some (Sum.inr (.int, 576))) (h5 : S0[(n + 5)]? = some (Sum.inr (.int, 6))) (h6 : S0[(n + 6)]? = some (Sum.inr (.int, 6))) (h7 : S0[(n + 7)]? = some (Sum.inr (.int, 6))) (h8 : S0[(n + 8)]? = some (Sum.inl 3)) (h9 : S0[(n + 9)]? = some (Sum.inr (.int, 1000))) (h10 : S0[(n + 10)]? = some (Sum.inr (.int, 64))) (hz : zr n (n + 11) I L R) (hq : Q none (S0.take (n + 11)) (u2 (u2 (u2 (u2 (u2 (u2 (u2 (u2 (u2 (u2 I o 0 2) o 1 2) o 3 0) o 4 0) o 7 0) o 11 0) (n + 8) 1 0) (n + 8) 3 0) (n + 8) 4 0) (n + 8) 5 0) (u2 L o 2 0) (u2 (u2 (u2 (u2 (u2 (u2 (u2 (u2 (u2 (u2 (u2 R o 5 (some n)) o 6 (some (n + 1))) o 8 (some (n + 2))) o 9 (some (n + 3))) o 10 (some (n + 4))) o 12 (some (n + 5))) o 13 (some (n + 6))) o 14 (some (n + 7))) (n + 8) 0 (some (n + 9))) (n + 8) 2 (some (n + 10))) o 15 (some (n + 8)))) : EV mX0_init (d + 2) 11 1730 (true, true) srN sx (S0.take n) [.ref o] I L R Q := by
  refine EV_of_X rfl rfl (Nat.le_of_ble_eq_true rfl) ?_
  refine X_aload_n rfl dX0_init_0 ?_
  refine X_obj (tsI (inT1 _ (List.mem_of_getElem? (i := 39) rfl)) rfl) ow_i ow_c (Nat.le_of_ble_eq_true rfl) (by omega) dX0_init_1 ?_
  refine X_aload_n rfl dX0_init_4 ?_
  refine X_iconst dX0_init_5 ?_
  refine X_puti fl_0_9 rfl (fun q hq => by cases hq; exact rfl) (tk (by omega) ho) dX0_init_6 ?_
  refine X_aload_n rfl dX0_init_9 ?_
  refine X_iconst dX0_init_10 ?_
  refine X_puti fl_0_15 rfl (fun q hq => by cases hq; exact rfl) (tk (by omega) ho) dX0_init_11 ?_
  refine X_aload_n rfl dX0_init_14 ?_
  refine X_lconst dX0_init_15 ?_
  refine X_putl fl_0_18 rfl (fun q hq => by cases hq; exact rfl) (tk (by omega) ho) dX0_init_16 ?_
  refine X_aload_n rfl dX0_init_19 ?_
  refine X_iconst dX0_init_20 ?_
  refine X_puti fl_0_22 rfl (fun q hq => by cases hq; exact rfl) (tk (by omega) ho) dX0_init_21 ?_
  refine X_aload_n rfl dX0_init_24 ?_
  refine X_iconst dX0_init_25 ?_
  refine X_puti fl_0_25 rfl (fun q hq => by cases hq; exact rfl) (tk (by omega) ho) dX0_init_26 ?_
  refine X_aload_n rfl dX0_init_29 ?_
  refine X_bipush dX0_init_30 ?_
  refine XT_newarr (n := n) (N := 6) (ty := .int) h0 rfl rfl aw_int (by decide) (by decide) (by decide) (fun k => ?_) (by decide) (by decide) dX0_init_32 ?_
  · have hb := hz n (by omega) (by omega) k
    exact ⟨by (try simp (disch := omega) only [u2_off]); exact hb.1, by (try simp (disch := omega) only [u2_off]); exact hb.2.1⟩
  refine X_putrF fl_0_28 rfl rfl (fun q hq => by cases hq; exact ⟨rfl, rfl⟩) rfl (tk (by omega) ho) dX0_init_34 ?_
  refine X_aload_n rfl dX0_init_37 ?_
  refine X_bipush dX0_init_38 ?_
  refine XT_newarr (n := (n + 1)) (N := 48) (ty := .int) h1 rfl rfl aw_int (by decide) (by decide) (by decide) (fun k => ?_) (by decide) (by decide) dX0_init_40 ?_
  · have hb := hz (n + 1) (by omega) (by omega) k
    exact ⟨by (try simp (disch := omega) only [u2_off]); exact hb.1, by (try simp (disch := omega) only [u2_off]); exact hb.2.1⟩
  refine X_putrF fl_0_32 rfl rfl (fun q hq => by cases hq; exact ⟨rfl, rfl⟩) rfl (tk (by omega) ho) dX0_init_42 ?_
  refine X_aload_n rfl dX0_init_45 ?_
  refine X_iconst dX0_init_46 ?_
  refine X_puti fl_0_35 rfl (fun q hq => by cases hq; exact rfl) (tk (by omega) ho) dX0_init_47 ?_
  refine X_aload_n rfl dX0_init_50 ?_
  refine X_bipush dX0_init_51 ?_
  refine XT_newarr (n := (n + 2)) (N := 6) (ty := .int) h2 rfl rfl aw_int (by decide) (by decide) (by decide) (fun k => ?_) (by decide) (by decide) dX0_init_53 ?_
  · have hb := hz (n + 2) (by omega) (by omega) k
    exact ⟨by (try simp (disch := omega) only [u2_off]); exact hb.1, by (try simp (disch := omega) only [u2_off]); exact hb.2.1⟩
  refine X_putrF fl_0_38 rfl rfl (fun q hq => by cases hq; exact ⟨rfl, rfl⟩) rfl (tk (by omega) ho) dX0_init_55 ?_
  refine X_aload_n rfl dX0_init_58 ?_
  refine X_bipush dX0_init_59 ?_
  refine XT_newarr (n := (n + 3)) (N := 6) (ty := .int) h3 rfl rfl aw_int (by decide) (by decide) (by decide) (fun k => ?_) (by decide) (by decide) dX0_init_61 ?_
  · have hb := hz (n + 3) (by omega) (by omega) k
    exact ⟨by (try simp (disch := omega) only [u2_off]); exact hb.1, by (try simp (disch := omega) only [u2_off]); exact hb.2.1⟩
  refine X_putrF fl_0_41 rfl rfl (fun q hq => by cases hq; exact ⟨rfl, rfl⟩) rfl (tk (by omega) ho) dX0_init_63 ?_
  refine X_aload_n rfl dX0_init_66 ?_
  refine X_sipush dX0_init_67 ?_
  refine XT_newarr (n := (n + 4)) (N := 576) (ty := .int) h4 rfl rfl aw_int (by decide) (by decide) (by decide) (fun k => ?_) (by decide) (by decide) dX0_init_70 ?_
  · have hb := hz (n + 4) (by omega) (by omega) k
    exact ⟨by (try simp (disch := omega) only [u2_off]); exact hb.1, by (try simp (disch := omega) only [u2_off]); exact hb.2.1⟩
  refine X_putrF fl_0_44 rfl rfl (fun q hq => by cases hq; exact ⟨rfl, rfl⟩) rfl (tk (by omega) ho) dX0_init_72 ?_
  refine X_aload_n rfl dX0_init_75 ?_
  refine X_iconst dX0_init_76 ?_
  refine X_puti fl_0_47 rfl (fun q hq => by cases hq; exact rfl) (tk (by omega) ho) dX0_init_77 ?_
  refine X_aload_n rfl dX0_init_80 ?_
  refine X_bipush dX0_init_81 ?_
  refine XT_newarr (n := (n + 5)) (N := 6) (ty := .int) h5 rfl rfl aw_int (by decide) (by decide) (by decide) (fun k => ?_) (by decide) (by decide) dX0_init_83 ?_
  · have hb := hz (n + 5) (by omega) (by omega) k
    exact ⟨by (try simp (disch := omega) only [u2_off]); exact hb.1, by (try simp (disch := omega) only [u2_off]); exact hb.2.1⟩
  refine X_putrF fl_0_50 rfl rfl (fun q hq => by cases hq; exact ⟨rfl, rfl⟩) rfl (tk (by omega) ho) dX0_init_85 ?_
  refine X_aload_n rfl dX0_init_88 ?_
  refine X_bipush dX0_init_89 ?_
  refine XT_newarr (n := (n + 6)) (N := 6) (ty := .int) h6 rfl rfl aw_int (by decide) (by decide) (by decide) (fun k => ?_) (by decide) (by decide) dX0_init_91 ?_
  · have hb := hz (n + 6) (by omega) (by omega) k
    exact ⟨by (try simp (disch := omega) only [u2_off]); exact hb.1, by (try simp (disch := omega) only [u2_off]); exact hb.2.1⟩
  refine X_putrF fl_0_53 rfl rfl (fun q hq => by cases hq; exact ⟨rfl, rfl⟩) rfl (tk (by omega) ho) dX0_init_93 ?_
  refine X_aload_n rfl dX0_init_96 ?_
  refine X_bipush dX0_init_97 ?_
  refine XT_newarr (n := (n + 7)) (N := 6) (ty := .int) h7 rfl rfl aw_int (by decide) (by decide) (by decide) (fun k => ?_) (by decide) (by decide) dX0_init_99 ?_
  · have hb := hz (n + 7) (by omega) (by omega) k
    exact ⟨by (try simp (disch := omega) only [u2_off]); exact hb.1, by (try simp (disch := omega) only [u2_off]); exact hb.2.1⟩
  refine X_putrF fl_0_56 rfl rfl (fun q hq => by cases hq; exact ⟨rfl, rfl⟩) rfl (tk (by omega) ho) dX0_init_101 ?_
  refine X_aload_n rfl dX0_init_104 ?_
  refine XT_new (n := (n + 8)) (ci := 3) h8 ⟨(RX3, TX3, 6), rfl, (tsI (inT1 _ (List.mem_of_getElem? (i := 40) rfl)) rfl), (tsI (inT1 _ (List.mem_of_getElem? (i := 41) rfl)) rfl), (tsI (inT1 _ (List.mem_of_getElem? (i := 3) rfl)) rfl)⟩ (by decide) (fun k => ?_) (by decide) (by decide) dX0_init_105 ?_
  · have hb := hz (n + 8) (by omega) (by omega) k
    exact ⟨by (try simp (disch := omega) only [u2_off]); exact hb.1, by (try simp (disch := omega) only [u2_off]); exact hb.2.1, by (try simp (disch := omega) only [u2_off]); exact hb.2.2⟩
  refine X_dup rfl dX0_init_108 ?_
  refine X_callIN (al' := (true, true)) (mj := mX3_init) (d' := d + 1) (mc' := 2) (ms' := 1064) (fun z => z) (fun z => z) mjX3_init (inT1 _ (List.mem_of_getElem? (i := 42) rfl)) (tsI (inT1 _ (List.mem_of_getElem? (i := 43) rfl)) rfl) rfl rfl (Nat.le_of_ble_eq_true rfl) (by omega) (by decide) (by decide) dX0_init_109 ?_
  refine ct_X3_init (o := (n + 8)) (n := (n + 9)) (by omega) h8 h9 h10 ?_ ?_
  · intro j h1 h2 k
    have hb := hz j (by omega) (by omega) k
    exact ⟨by (try simp (disch := omega) only [u2_off]); exact hb.1, by (try simp (disch := omega) only [u2_off]); exact hb.2.1, by (try simp (disch := omega) only [u2_off]); exact hb.2.2⟩
  refine X_putrF fl_0_62 rfl rfl (fun q hq => by cases hq; exact ⟨rfl, rfl⟩) rfl (tk (by omega) ho) dX0_init_112 ?_
  exact X_vret (st := []) rfl (by decide) (by decide) (fun _ => ⟨rfl, rfl⟩) dX0_init_115 hq
theorem mjX10_init : MJ mX10_init 0 := ⟨kX10_init, tsI (inT1 _ (List.mem_of_getElem? (i := 5) rfl)) rfl, by decide +kernel, by decide⟩
set_option maxHeartbeats 4000000 in
set_option maxRecDepth 100000 in
theorem ct_X10_init {d : Nat} {sx : Sx} {I : Ints} {L : Lngs} {R : Rfs} {Q : Qt} {o n : Nat} (hon : o < n) (ho : S0[o]? = some (Sum.inl 10)) (h0 : S0[n]? = some (Sum.inr (.int, 1001))) (h1 : S0[(n + 1)]? = some (Sum.inr (.int, 1001))) (h2 : S0[(n + 2)]? = some (Sum.inr (.long, 1001))) (hz : zr n (n + 3) I L R) (hq : Q none (S0.take (n + 3)) (u2 I o 3 0) L (u2 (u2 (u2 R o 0 (some n)) o 1 (some (n + 1))) o 2 (some (n + 2)))) : EV mX10_init (d + 1) 3 3003 (true, true) srN sx (S0.take n) [.ref o] I L R Q := by
  refine EV_of_X rfl rfl (Nat.le_of_ble_eq_true rfl) ?_
  refine X_aload_n rfl dX10_init_0 ?_
  refine X_obj (tsI (inT1 _ (List.mem_of_getElem? (i := 181) rfl)) rfl) ow_i ow_c (Nat.le_of_ble_eq_true rfl) (by omega) dX10_init_1 ?_
  refine X_aload_n rfl dX10_init_4 ?_
  refine X_sipush dX10_init_5 ?_
  refine XT_newarr (n := n) (N := 1001) (ty := .int) h0 rfl rfl aw_int (by decide) (by decide) (by decide) (fun k => ?_) (by decide) (by decide) dX10_init_8 ?_
  · have hb := hz n (by omega) (by omega) k
    exact ⟨by (try simp (disch := omega) only [u2_off]); exact hb.1, by (try simp (disch := omega) only [u2_off]); exact hb.2.1⟩
  refine X_putrF fl_10_9 rfl rfl (fun q hq => by cases hq; exact ⟨rfl, rfl⟩) rfl (tk (by omega) ho) dX10_init_10 ?_
  refine X_aload_n rfl dX10_init_13 ?_
  refine X_sipush dX10_init_14 ?_
  refine XT_newarr (n := (n + 1)) (N := 1001) (ty := .int) h1 rfl rfl aw_int (by decide) (by decide) (by decide) (fun k => ?_) (by decide) (by decide) dX10_init_17 ?_
  · have hb := hz (n + 1) (by omega) (by omega) k
    exact ⟨by (try simp (disch := omega) only [u2_off]); exact hb.1, by (try simp (disch := omega) only [u2_off]); exact hb.2.1⟩
  refine X_putrF fl_10_15 rfl rfl (fun q hq => by cases hq; exact ⟨rfl, rfl⟩) rfl (tk (by omega) ho) dX10_init_19 ?_
  refine X_aload_n rfl dX10_init_22 ?_
  refine X_sipush dX10_init_23 ?_
  refine XT_newarr (n := (n + 2)) (N := 1001) (ty := .long) h2 rfl rfl aw_long (by decide) (by decide) (by decide) (fun k => ?_) (by decide) (by decide) dX10_init_26 ?_
  · have hb := hz (n + 2) (by omega) (by omega) k
    exact ⟨by (try simp (disch := omega) only [u2_off]); exact hb.1, by (try simp (disch := omega) only [u2_off]); exact hb.2.1⟩
  refine X_putrF fl_10_18 rfl rfl (fun q hq => by cases hq; exact ⟨rfl, rfl⟩) rfl (tk (by omega) ho) dX10_init_28 ?_
  refine X_aload_n rfl dX10_init_31 ?_
  refine X_iconst dX10_init_32 ?_
  refine X_puti fl_10_22 rfl (fun q hq => by cases hq; exact rfl) (tk (by omega) ho) dX10_init_33 ?_
  exact X_vret (st := []) rfl (by decide) (by decide) (fun _ => ⟨rfl, rfl⟩) dX10_init_36 hq
theorem mjX5_init : MJ mX5_init 0 := ⟨kX5_init, tsI (inT1 _ (List.mem_of_getElem? (i := 4) rfl)) rfl, by decide +kernel, by decide⟩
set_option maxHeartbeats 4000000 in
set_option maxRecDepth 100000 in
theorem ct_X5_init {d : Nat} {sx : Sx} {I : Ints} {L : Lngs} {R : Rfs} {Q : Qt} {o n : Nat} (hon : o < n) (ho : S0[o]? = some (Sum.inl 5)) (h0 : S0[n]? = some (Sum.inl 10)) (h1 : S0[(n + 1)]? = some (Sum.inr (.int, 1001))) (h2 : S0[(n + 2)]? = some (Sum.inr (.int, 1001))) (h3 : S0[(n + 3)]? = some (Sum.inr (.long, 1001))) (h4 : S0[(n + 4)]? = some (Sum.inr (.long, 18))) (h5 : S0[(n + 5)]? = some (Sum.inr (.long, 6))) (hz : zr n (n + 6) I L R) (hq : Q none (S0.take (n + 6)) (u2 (u2 (u2 (u2 (u2 (u2 (u2 (u2 I n 3 0) o 2 0) o 3 0) o 5 0) o 8 0) o 9 0) o 10 0) o 11 0) (u2 L o 7 0) (u2 (u2 (u2 (u2 (u2 (u2 (u2 R n 0 (some (n + 1))) n 1 (some (n + 2))) n 2 (some (n + 3))) o 0 (some n)) o 1 none) o 4 (some (n + 4))) o 6 (some (n + 5)))) : EV mX5_init (d + 2) 6 3031 (true, true) srN sx (S0.take n) [.ref o] I L R Q := by
  refine EV_of_X rfl rfl (Nat.le_of_ble_eq_true rfl) ?_
  refine X_aload_n rfl dX5_init_0 ?_
  refine X_obj (tsI (inT1 _ (List.mem_of_getElem? (i := 175) rfl)) rfl) ow_i ow_c (Nat.le_of_ble_eq_true rfl) (by omega) dX5_init_1 ?_
  refine X_aload_n rfl dX5_init_4 ?_
  refine XT_new (n := n) (ci := 10) h0 ⟨(RX10, TX10, 4), rfl, (tsI (inT1 _ (List.mem_of_getElem? (i := 176) rfl)) rfl), (tsI (inT1 _ (List.mem_of_getElem? (i := 177) rfl)) rfl), (tsI (inT1 _ (List.mem_of_getElem? (i := 5) rfl)) rfl)⟩ (by decide) (fun k => ?_) (by decide) (by decide) dX5_init_5 ?_
  · have hb := hz n (by omega) (by omega) k
    exact ⟨by (try simp (disch := omega) only [u2_off]); exact hb.1, by (try simp (disch := omega) only [u2_off]); exact hb.2.1, by (try simp (disch := omega) only [u2_off]); exact hb.2.2⟩
  refine X_dup rfl dX5_init_8 ?_
  refine X_callIN (al' := (true, true)) (mj := mX10_init) (d' := d + 1) (mc' := 3) (ms' := 3003) (fun z => z) (fun z => z) mjX10_init (inT1 _ (List.mem_of_getElem? (i := 178) rfl)) (tsI (inT1 _ (List.mem_of_getElem? (i := 179) rfl)) rfl) rfl rfl (Nat.le_of_ble_eq_true rfl) (by omega) (by decide) (by decide) dX5_init_9 ?_
  refine ct_X10_init (o := n) (n := (n + 1)) (by omega) h0 h1 h2 h3 ?_ ?_
  · intro j h1 h2 k
    have hb := hz j (by omega) (by omega) k
    exact ⟨by (try simp (disch := omega) only [u2_off]); exact hb.1, by (try simp (disch := omega) only [u2_off]); exact hb.2.1, by (try simp (disch := omega) only [u2_off]); exact hb.2.2⟩
  refine X_putrF fl_5_12 rfl rfl (fun q hq => by cases hq; exact ⟨rfl, rfl⟩) rfl (tk (by omega) ho) dX5_init_12 ?_
  refine X_aload_n rfl dX5_init_15 ?_
  refine X_null dX5_init_16 ?_
  refine X_putn fl_5_18 rfl rfl (fun q hq => by cases hq; exact rfl) (tk (by omega) ho) dX5_init_17 ?_
  refine X_aload_n rfl dX5_init_20 ?_
  refine X_iconst dX5_init_21 ?_
  refine X_puti fl_5_22 rfl (fun q hq => by cases hq; exact rfl) (tk (by omega) ho) dX5_init_22 ?_
  refine X_aload_n rfl dX5_init_25 ?_
  refine X_iconst dX5_init_26 ?_
  refine X_puti fl_5_26 rfl (fun q hq => by cases hq; exact rfl) (tk (by omega) ho) dX5_init_27 ?_
  refine X_aload_n rfl dX5_init_30 ?_
  refine X_bipush dX5_init_31 ?_
  refine XT_newarr (n := (n + 4)) (N := 18) (ty := .long) h4 rfl rfl aw_long (by decide) (by decide) (by decide) (fun k => ?_) (by decide) (by decide) dX5_init_33 ?_
  · have hb := hz (n + 4) (by omega) (by omega) k
    exact ⟨by (try simp (disch := omega) only [u2_off]); exact hb.1, by (try simp (disch := omega) only [u2_off]); exact hb.2.1⟩
  refine X_putrF fl_5_29 rfl rfl (fun q hq => by cases hq; exact ⟨rfl, rfl⟩) rfl (tk (by omega) ho) dX5_init_35 ?_
  refine X_aload_n rfl dX5_init_38 ?_
  refine X_iconst dX5_init_39 ?_
  refine X_puti fl_5_33 rfl (fun q hq => by cases hq; exact rfl) (tk (by omega) ho) dX5_init_40 ?_
  refine X_aload_n rfl dX5_init_43 ?_
  refine X_bipush dX5_init_44 ?_
  refine XT_newarr (n := (n + 5)) (N := 6) (ty := .long) h5 rfl rfl aw_long (by decide) (by decide) (by decide) (fun k => ?_) (by decide) (by decide) dX5_init_46 ?_
  · have hb := hz (n + 5) (by omega) (by omega) k
    exact ⟨by (try simp (disch := omega) only [u2_off]); exact hb.1, by (try simp (disch := omega) only [u2_off]); exact hb.2.1⟩
  refine X_putrF fl_5_36 rfl rfl (fun q hq => by cases hq; exact ⟨rfl, rfl⟩) rfl (tk (by omega) ho) dX5_init_48 ?_
  refine X_aload_n rfl dX5_init_51 ?_
  refine X_lconst dX5_init_52 ?_
  refine X_putl fl_5_39 rfl (fun q hq => by cases hq; exact rfl) (tk (by omega) ho) dX5_init_53 ?_
  refine X_aload_n rfl dX5_init_56 ?_
  refine X_iconst dX5_init_57 ?_
  refine X_putz fl_5_43 rfl (by decide) (fun q hq => by cases hq; exact rfl) (tk (by omega) ho) dX5_init_58 ?_
  refine X_aload_n rfl dX5_init_61 ?_
  refine X_iconst dX5_init_62 ?_
  refine X_putz fl_5_47 rfl (by decide) (fun q hq => by cases hq; exact rfl) (tk (by omega) ho) dX5_init_63 ?_
  refine X_aload_n rfl dX5_init_66 ?_
  refine X_iconst dX5_init_67 ?_
  refine X_puti fl_5_50 rfl (fun q hq => by cases hq; exact rfl) (tk (by omega) ho) dX5_init_68 ?_
  refine X_aload_n rfl dX5_init_71 ?_
  refine X_iconst dX5_init_72 ?_
  refine X_puti fl_5_53 rfl (fun q hq => by cases hq; exact rfl) (tk (by omega) ho) dX5_init_73 ?_
  exact X_vret (st := []) rfl (by decide) (by decide) (fun _ => ⟨rfl, rfl⟩) dX5_init_76 hq
theorem mjX1_init : MJ mX1_init 0 := ⟨kX1_init, tsI (inT1 _ (List.mem_of_getElem? (i := 6) rfl)) rfl, by decide +kernel, by decide⟩
set_option maxHeartbeats 4000000 in
set_option maxRecDepth 100000 in
theorem ct_X1_init {d : Nat} {sx : Sx} {I : Ints} {L : Lngs} {R : Rfs} {Q : Qt} {o n : Nat} (hon : o < n) (ho : S0[o]? = some (Sum.inl 1)) (h0 : S0[n]? = some (Sum.inr (.int, 6))) (h1 : S0[(n + 1)]? = some (Sum.inr (.int, 6))) (h2 : S0[(n + 2)]? = some (Sum.inr (.int, 36))) (h3 : S0[(n + 3)]? = some (Sum.inr (.int, 6))) (hz : zr n (n + 4) I L R) (hq : Q none (S0.take (n + 4)) (u2 (u2 (u2 (u2 (u2 (u2 I (n + 3) 0 (-1)) (n + 3) 1 (-1)) (n + 3) 2 (-1)) (n + 3) 3 (-1)) (n + 3) 4 (-1)) (n + 3) 5 (-1)) L (u2 (u2 (u2 (u2 R o 0 (some n)) o 1 (some (n + 1))) o 2 (some (n + 2))) o 3 (some (n + 3)))) : EV mX1_init (d + 2) 4 54 (true, true) srN sx (S0.take n) [.ref o] I L R Q := by
  refine EV_of_X rfl rfl (Nat.le_of_ble_eq_true rfl) ?_
  refine X_aload_n rfl dX1_init_0 ?_
  refine X_obj (tsI (inT2 _ (List.mem_of_getElem? (i := 5) rfl)) rfl) ow_i ow_c (Nat.le_of_ble_eq_true rfl) (by omega) dX1_init_1 ?_
  refine X_aload_n rfl dX1_init_4 ?_
  refine X_bipush dX1_init_5 ?_
  refine XT_newarr (n := n) (N := 6) (ty := .int) h0 rfl rfl aw_int (by decide) (by decide) (by decide) (fun k => ?_) (by decide) (by decide) dX1_init_7 ?_
  · have hb := hz n (by omega) (by omega) k
    exact ⟨by (try simp (disch := omega) only [u2_off]); exact hb.1, by (try simp (disch := omega) only [u2_off]); exact hb.2.1⟩
  refine X_putrF fl_1_9 rfl rfl (fun q hq => by cases hq; exact ⟨rfl, rfl⟩) rfl (tk (by omega) ho) dX1_init_9 ?_
  refine X_aload_n rfl dX1_init_12 ?_
  refine X_bipush dX1_init_13 ?_
  refine XT_newarr (n := (n + 1)) (N := 6) (ty := .int) h1 rfl rfl aw_int (by decide) (by decide) (by decide) (fun k => ?_) (by decide) (by decide) dX1_init_15 ?_
  · have hb := hz (n + 1) (by omega) (by omega) k
    exact ⟨by (try simp (disch := omega) only [u2_off]); exact hb.1, by (try simp (disch := omega) only [u2_off]); exact hb.2.1⟩
  refine X_putrF fl_1_15 rfl rfl (fun q hq => by cases hq; exact ⟨rfl, rfl⟩) rfl (tk (by omega) ho) dX1_init_17 ?_
  refine X_aload_n rfl dX1_init_20 ?_
  refine X_bipush dX1_init_21 ?_
  refine XT_newarr (n := (n + 2)) (N := 36) (ty := .int) h2 rfl rfl aw_int (by decide) (by decide) (by decide) (fun k => ?_) (by decide) (by decide) dX1_init_23 ?_
  · have hb := hz (n + 2) (by omega) (by omega) k
    exact ⟨by (try simp (disch := omega) only [u2_off]); exact hb.1, by (try simp (disch := omega) only [u2_off]); exact hb.2.1⟩
  refine X_putrF fl_1_18 rfl rfl (fun q hq => by cases hq; exact ⟨rfl, rfl⟩) rfl (tk (by omega) ho) dX1_init_25 ?_
  refine X_aload_n rfl dX1_init_28 ?_
  refine X_bipush dX1_init_29 ?_
  refine XT_newarr (n := (n + 3)) (N := 6) (ty := .int) h3 rfl rfl aw_int (by decide) (by decide) (by decide) (fun k => ?_) (by decide) (by decide) dX1_init_31 ?_
  · have hb := hz (n + 3) (by omega) (by omega) k
    exact ⟨by (try simp (disch := omega) only [u2_off]); exact hb.1, by (try simp (disch := omega) only [u2_off]); exact hb.2.1⟩
  refine X_putrF fl_1_21 rfl rfl (fun q hq => by cases hq; exact ⟨rfl, rfl⟩) rfl (tk (by omega) ho) dX1_init_33 ?_
  refine X_aload_n rfl dX1_init_36 ?_
  refine X_getr (q := (n + 3)) (by simp (disch := omega) only [u2_self, u2_nk, u2_off]) fl_1_21 rfl (tk (by omega) ho) dX1_init_37 ?_
  refine X_iconst dX1_init_40 ?_
  refine X_callS (mj := mJ7_fill_53178) (d' := d + 1) (mc' := 0) (ms' := 0) (as := [.ref (n + 3), .int (-1)]) rfl ((ml_ok (r := (mJ7_fill_53178, 2, none)) rfl).2 rfl) rfl rfl (Nat.le_of_ble_eq_true rfl) (by omega) (by decide) (by decide) dX1_init_41 ?_
  refine fill6 (tk (by omega) h3) ?_
  exact X_vret (st := []) rfl (by decide) (by decide) (fun _ => ⟨rfl, rfl⟩) dX1_init_44 hq
theorem mjX4_init : MJ mX4_init 0 := ⟨kX4_init, tsI (inT1 _ (List.mem_of_getElem? (i := 8) rfl)) rfl, by decide +kernel, by decide⟩
set_option maxHeartbeats 4000000 in
set_option maxRecDepth 100000 in
theorem ct_X4_init {d : Nat} {sx : Sx} {I : Ints} {L : Lngs} {R : Rfs} {Q : Qt} {o n : Nat} (hon : o < n) (ho : S0[o]? = some (Sum.inl 4)) (h0 : S0[n]? = some (Sum.inr (.int, 20))) (hz : zr n (n + 1) I L R) (hq : Q none (S0.take (n + 1)) (u2 I o 1 0) L (u2 R o 0 (some n))) : EV mX4_init (d + 1) 1 20 (true, true) srN sx (S0.take n) [.ref o] I L R Q := by
  refine EV_of_X rfl rfl (Nat.le_of_ble_eq_true rfl) ?_
  refine X_aload_n rfl dX4_init_0 ?_
  refine X_obj (tsI (inT2 _ (List.mem_of_getElem? (i := 31) rfl)) rfl) ow_i ow_c (Nat.le_of_ble_eq_true rfl) (by omega) dX4_init_1 ?_
  refine X_aload_n rfl dX4_init_4 ?_
  refine X_bipush dX4_init_5 ?_
  refine XT_newarr (n := n) (N := 20) (ty := .int) h0 rfl rfl aw_int (by decide) (by decide) (by decide) (fun k => ?_) (by decide) (by decide) dX4_init_7 ?_
  · have hb := hz n (by omega) (by omega) k
    exact ⟨by (try simp (disch := omega) only [u2_off]); exact hb.1, by (try simp (disch := omega) only [u2_off]); exact hb.2.1⟩
  refine X_putrF fl_4_9 rfl rfl (fun q hq => by cases hq; exact ⟨rfl, rfl⟩) rfl (tk (by omega) ho) dX4_init_9 ?_
  refine X_aload_n rfl dX4_init_12 ?_
  refine X_iconst dX4_init_13 ?_
  refine X_puti fl_4_15 rfl (fun q hq => by cases hq; exact rfl) (tk (by omega) ho) dX4_init_14 ?_
  exact X_vret (st := []) rfl (by decide) (by decide) (fun _ => ⟨rfl, rfl⟩) dX4_init_17 hq
theorem mjX7_init : MJ mX7_init 0 := ⟨kX7_init, tsI (inT1 _ (List.mem_of_getElem? (i := 9) rfl)) rfl, by decide +kernel, by decide⟩
set_option maxHeartbeats 4000000 in
set_option maxRecDepth 100000 in
theorem ct_X7_init {d : Nat} {sx : Sx} {I : Ints} {L : Lngs} {R : Rfs} {Q : Qt} {o n : Nat} (hon : o < n) (ho : S0[o]? = some (Sum.inl 7)) (h0 : S0[n]? = some (Sum.inr (.int, 576))) (hz : zr n (n + 1) I L R) (hq : Q none (S0.take (n + 1)) (u2 (u2 (u2 (u2 (u2 I o 1 0) o 2 0) o 3 0) o 5 0) o 6 0) (u2 L o 4 0) (u2 R o 0 (some n))) : EV mX7_init (d + 1) 1 576 (true, true) srN sx (S0.take n) [.ref o] I L R Q := by
  refine EV_of_X rfl rfl (Nat.le_of_ble_eq_true rfl) ?_
  refine X_aload_n rfl dX7_init_0 ?_
  refine X_obj (tsI (inT2 _ (List.mem_of_getElem? (i := 47) rfl)) rfl) ow_i ow_c (Nat.le_of_ble_eq_true rfl) (by omega) dX7_init_1 ?_
  refine X_aload_n rfl dX7_init_4 ?_
  refine X_sipush dX7_init_5 ?_
  refine XT_newarr (n := n) (N := 576) (ty := .int) h0 rfl rfl aw_int (by decide) (by decide) (by decide) (fun k => ?_) (by decide) (by decide) dX7_init_8 ?_
  · have hb := hz n (by omega) (by omega) k
    exact ⟨by (try simp (disch := omega) only [u2_off]); exact hb.1, by (try simp (disch := omega) only [u2_off]); exact hb.2.1⟩
  refine X_putrF fl_7_9 rfl rfl (fun q hq => by cases hq; exact ⟨rfl, rfl⟩) rfl (tk (by omega) ho) dX7_init_10 ?_
  refine X_aload_n rfl dX7_init_13 ?_
  refine X_iconst dX7_init_14 ?_
  refine X_puti fl_7_15 rfl (fun q hq => by cases hq; exact rfl) (tk (by omega) ho) dX7_init_15 ?_
  refine X_aload_n rfl dX7_init_18 ?_
  refine X_iconst dX7_init_19 ?_
  refine X_puti fl_7_19 rfl (fun q hq => by cases hq; exact rfl) (tk (by omega) ho) dX7_init_20 ?_
  refine X_aload_n rfl dX7_init_23 ?_
  refine X_iconst dX7_init_24 ?_
  refine X_puti fl_7_22 rfl (fun q hq => by cases hq; exact rfl) (tk (by omega) ho) dX7_init_25 ?_
  refine X_aload_n rfl dX7_init_28 ?_
  refine X_lconst dX7_init_29 ?_
  refine X_putl fl_7_25 rfl (fun q hq => by cases hq; exact rfl) (tk (by omega) ho) dX7_init_30 ?_
  refine X_aload_n rfl dX7_init_33 ?_
  refine X_iconst dX7_init_34 ?_
  refine X_puti fl_7_29 rfl (fun q hq => by cases hq; exact rfl) (tk (by omega) ho) dX7_init_35 ?_
  refine X_aload_n rfl dX7_init_38 ?_
  refine X_iconst dX7_init_39 ?_
  refine X_puti fl_7_32 rfl (fun q hq => by cases hq; exact rfl) (tk (by omega) ho) dX7_init_40 ?_
  exact X_vret (st := []) rfl (by decide) (by decide) (fun _ => ⟨rfl, rfl⟩) dX7_init_43 hq
theorem mjX8_init : MJ mX8_init 0 := ⟨kX8_init, tsI (inT1 _ (List.mem_of_getElem? (i := 10) rfl)) rfl, by decide +kernel, by decide⟩
set_option maxHeartbeats 4000000 in
set_option maxRecDepth 100000 in
theorem ct_X8_init {d : Nat} {sx : Sx} {I : Ints} {L : Lngs} {R : Rfs} {Q : Qt} {o n : Nat} (hon : o < n) (ho : S0[o]? = some (Sum.inl 8)) (h0 : S0[n]? = some (Sum.inr (.int, 6))) (h1 : S0[(n + 1)]? = some (Sum.inr (.int, 6))) (h2 : S0[(n + 2)]? = some (Sum.inr (.boolean, 576))) (h3 : S0[(n + 3)]? = some (Sum.inr (.short, 9216))) (h4 : S0[(n + 4)]? = some (Sum.inr (.int, 256))) (hz : zr n (n + 5) I L R) (hq : Q none (S0.take (n + 5)) (u2 (u2 (u2 (u2 (u2 (u2 I o 1 0) o 2 0) o 3 0) o 4 0) o 5 0) o 7 0) L (u2 (u2 (u2 (u2 (u2 (u2 R o 0 (some n)) o 6 none) o 8 (some (n + 1))) o 9 (some (n + 2))) o 10 (some (n + 3))) o 11 (some (n + 4)))) : EV mX8_init (d + 1) 5 10060 (true, true) srN sx (S0.take n) [.ref o] I L R Q := by
  refine EV_of_X rfl rfl (Nat.le_of_ble_eq_true rfl) ?_
  refine X_aload_n rfl dX8_init_0 ?_
  refine X_obj (tsI (inT2 _ (List.mem_of_getElem? (i := 81) rfl)) rfl) ow_i ow_c (Nat.le_of_ble_eq_true rfl) (by omega) dX8_init_1 ?_
  refine X_aload_n rfl dX8_init_4 ?_
  refine X_bipush dX8_init_5 ?_
  refine XT_newarr (n := n) (N := 6) (ty := .int) h0 rfl rfl aw_int (by decide) (by decide) (by decide) (fun k => ?_) (by decide) (by decide) dX8_init_7 ?_
  · have hb := hz n (by omega) (by omega) k
    exact ⟨by (try simp (disch := omega) only [u2_off]); exact hb.1, by (try simp (disch := omega) only [u2_off]); exact hb.2.1⟩
  refine X_putrF fl_8_9 rfl rfl (fun q hq => by cases hq; exact ⟨rfl, rfl⟩) rfl (tk (by omega) ho) dX8_init_9 ?_
  refine X_aload_n rfl dX8_init_12 ?_
  refine X_iconst dX8_init_13 ?_
  refine X_puti fl_8_15 rfl (fun q hq => by cases hq; exact rfl) (tk (by omega) ho) dX8_init_14 ?_
  refine X_aload_n rfl dX8_init_17 ?_
  refine X_iconst dX8_init_18 ?_
  refine X_puti fl_8_19 rfl (fun q hq => by cases hq; exact rfl) (tk (by omega) ho) dX8_init_19 ?_
  refine X_aload_n rfl dX8_init_22 ?_
  refine X_iconst dX8_init_23 ?_
  refine X_putz fl_8_22 rfl (by decide) (fun q hq => by cases hq; exact rfl) (tk (by omega) ho) dX8_init_24 ?_
  refine X_aload_n rfl dX8_init_27 ?_
  refine X_iconst dX8_init_28 ?_
  refine X_puti fl_8_26 rfl (fun q hq => by cases hq; exact rfl) (tk (by omega) ho) dX8_init_29 ?_
  refine X_aload_n rfl dX8_init_32 ?_
  refine X_iconst dX8_init_33 ?_
  refine X_puti fl_8_29 rfl (fun q hq => by cases hq; exact rfl) (tk (by omega) ho) dX8_init_34 ?_
  refine X_aload_n rfl dX8_init_37 ?_
  refine X_null dX8_init_38 ?_
  refine X_putn fl_8_32 rfl rfl (fun q hq => by cases hq; exact rfl) (tk (by omega) ho) dX8_init_39 ?_
  refine X_aload_n rfl dX8_init_42 ?_
  refine X_iconst dX8_init_43 ?_
  refine X_puti fl_8_36 rfl (fun q hq => by cases hq; exact rfl) (tk (by omega) ho) dX8_init_44 ?_
  refine X_aload_n rfl dX8_init_47 ?_
  refine X_bipush dX8_init_48 ?_
  refine XT_newarr (n := (n + 1)) (N := 6) (ty := .int) h1 rfl rfl aw_int (by decide) (by decide) (by decide) (fun k => ?_) (by decide) (by decide) dX8_init_50 ?_
  · have hb := hz (n + 1) (by omega) (by omega) k
    exact ⟨by (try simp (disch := omega) only [u2_off]); exact hb.1, by (try simp (disch := omega) only [u2_off]); exact hb.2.1⟩
  refine X_putrF fl_8_39 rfl rfl (fun q hq => by cases hq; exact ⟨rfl, rfl⟩) rfl (tk (by omega) ho) dX8_init_52 ?_
  refine X_aload_n rfl dX8_init_55 ?_
  refine X_sipush dX8_init_56 ?_
  refine XT_newarr (n := (n + 2)) (N := 576) (ty := .boolean) h2 rfl rfl aw_boolean (by decide) (by decide) (by decide) (fun k => ?_) (by decide) (by decide) dX8_init_59 ?_
  · have hb := hz (n + 2) (by omega) (by omega) k
    exact ⟨by (try simp (disch := omega) only [u2_off]); exact hb.1, by (try simp (disch := omega) only [u2_off]); exact hb.2.1⟩
  refine X_putrF fl_8_42 rfl rfl (fun q hq => by cases hq; exact ⟨rfl, rfl⟩) rfl (tk (by omega) ho) dX8_init_61 ?_
  refine X_aload_n rfl dX8_init_64 ?_
  refine X_sipush dX8_init_65 ?_
  refine XT_newarr (n := (n + 3)) (N := 9216) (ty := .short) h3 rfl rfl aw_short (by decide) (by decide) (by decide) (fun k => ?_) (by decide) (by decide) dX8_init_68 ?_
  · have hb := hz (n + 3) (by omega) (by omega) k
    exact ⟨by (try simp (disch := omega) only [u2_off]); exact hb.1, by (try simp (disch := omega) only [u2_off]); exact hb.2.1⟩
  refine X_putrF fl_8_46 rfl rfl (fun q hq => by cases hq; exact ⟨rfl, rfl⟩) rfl (tk (by omega) ho) dX8_init_70 ?_
  refine X_aload_n rfl dX8_init_73 ?_
  refine X_sipush dX8_init_74 ?_
  refine XT_newarr (n := (n + 4)) (N := 256) (ty := .int) h4 rfl rfl aw_int (by decide) (by decide) (by decide) (fun k => ?_) (by decide) (by decide) dX8_init_77 ?_
  · have hb := hz (n + 4) (by omega) (by omega) k
    exact ⟨by (try simp (disch := omega) only [u2_off]); exact hb.1, by (try simp (disch := omega) only [u2_off]); exact hb.2.1⟩
  refine X_putrF fl_8_50 rfl rfl (fun q hq => by cases hq; exact ⟨rfl, rfl⟩) rfl (tk (by omega) ho) dX8_init_79 ?_
  exact X_vret (st := []) rfl (by decide) (by decide) (fun _ => ⟨rfl, rfl⟩) dX8_init_82 hq
theorem mjX2_init : MJ mX2_init 0 := ⟨kX2_init, tsI (inT1 _ (List.mem_of_getElem? (i := 11) rfl)) rfl, by decide +kernel, by decide⟩
set_option maxHeartbeats 4000000 in
set_option maxRecDepth 100000 in
theorem ct_X2_init {d : Nat} {sx : Sx} {I : Ints} {L : Lngs} {R : Rfs} {Q : Qt} {o n : Nat} (hon : o < n) (ho : S0[o]? = some (Sum.inl 2)) (h0 : S0[n]? = some (Sum.inr (.int, 6))) (hz : zr n (n + 1) I L R) (hq : Q none (S0.take (n + 1)) (u2 I o 1 0) (u2 L o 2 0) (u2 R o 0 (some n))) : EV mX2_init (d + 1) 1 6 (true, true) srN sx (S0.take n) [.ref o] I L R Q := by
  refine EV_of_X rfl rfl (Nat.le_of_ble_eq_true rfl) ?_
  refine X_aload_n rfl dX2_init_0 ?_
  refine X_obj (tsI (inT2 _ (List.mem_of_getElem? (i := 129) rfl)) rfl) ow_i ow_c (Nat.le_of_ble_eq_true rfl) (by omega) dX2_init_1 ?_
  refine X_aload_n rfl dX2_init_4 ?_
  refine X_bipush dX2_init_5 ?_
  refine XT_newarr (n := n) (N := 6) (ty := .int) h0 rfl rfl aw_int (by decide) (by decide) (by decide) (fun k => ?_) (by decide) (by decide) dX2_init_7 ?_
  · have hb := hz n (by omega) (by omega) k
    exact ⟨by (try simp (disch := omega) only [u2_off]); exact hb.1, by (try simp (disch := omega) only [u2_off]); exact hb.2.1⟩
  refine X_putrF fl_2_9 rfl rfl (fun q hq => by cases hq; exact ⟨rfl, rfl⟩) rfl (tk (by omega) ho) dX2_init_9 ?_
  refine X_aload_n rfl dX2_init_12 ?_
  refine X_iconst dX2_init_13 ?_
  refine X_puti fl_2_15 rfl (fun q hq => by cases hq; exact rfl) (tk (by omega) ho) dX2_init_14 ?_
  refine X_aload_n rfl dX2_init_17 ?_
  refine X_lconst dX2_init_18 ?_
  refine X_putl fl_2_19 rfl (fun q hq => by cases hq; exact rfl) (tk (by omega) ho) dX2_init_19 ?_
  exact X_vret (st := []) rfl (by decide) (by decide) (fun _ => ⟨rfl, rfl⟩) dX2_init_22 hq
theorem mjX9_init : MJ mX9_init 0 := ⟨kX9_init, tsI (inT1 _ (List.mem_of_getElem? (i := 12) rfl)) rfl, by decide +kernel, by decide⟩
set_option maxHeartbeats 4000000 in
set_option maxRecDepth 100000 in
theorem ct_X9_init {d : Nat} {sx : Sx} {I : Ints} {L : Lngs} {R : Rfs} {Q : Qt} {o n : Nat} (hon : o < n) (ho : S0[o]? = some (Sum.inl 9)) (h0 : S0[n]? = some (Sum.inr (.int, 6))) (hz : zr n (n + 1) I L R) (hq : Q none (S0.take (n + 1)) (u2 (u2 (u2 (u2 I o 0 0) o 1 0) o 2 0) o 6 0) L (u2 (u2 (u2 R o 3 none) o 4 none) o 5 (some n))) : EV mX9_init (d + 1) 1 6 (true, true) srN sx (S0.take n) [.ref o] I L R Q := by
  refine EV_of_X rfl rfl (Nat.le_of_ble_eq_true rfl) ?_
  refine X_aload_n rfl dX9_init_0 ?_
  refine X_obj (tsI (inT2 _ (List.mem_of_getElem? (i := 147) rfl)) rfl) ow_i ow_c (Nat.le_of_ble_eq_true rfl) (by omega) dX9_init_1 ?_
  refine X_aload_n rfl dX9_init_4 ?_
  refine X_iconst dX9_init_5 ?_
  refine X_putz fl_9_9 rfl (by decide) (fun q hq => by cases hq; exact rfl) (tk (by omega) ho) dX9_init_6 ?_
  refine X_aload_n rfl dX9_init_9 ?_
  refine X_iconst dX9_init_10 ?_
  refine X_puti fl_9_15 rfl (fun q hq => by cases hq; exact rfl) (tk (by omega) ho) dX9_init_11 ?_
  refine X_aload_n rfl dX9_init_14 ?_
  refine X_iconst dX9_init_15 ?_
  refine X_puti fl_9_19 rfl (fun q hq => by cases hq; exact rfl) (tk (by omega) ho) dX9_init_16 ?_
  refine X_aload_n rfl dX9_init_19 ?_
  refine X_null dX9_init_20 ?_
  refine X_putn fl_9_22 rfl rfl (fun q hq => by cases hq; exact rfl) (tk (by omega) ho) dX9_init_21 ?_
  refine X_aload_n rfl dX9_init_24 ?_
  refine X_null dX9_init_25 ?_
  refine X_putn fl_9_26 rfl rfl (fun q hq => by cases hq; exact rfl) (tk (by omega) ho) dX9_init_26 ?_
  refine X_aload_n rfl dX9_init_29 ?_
  refine X_bipush dX9_init_30 ?_
  refine XT_newarr (n := n) (N := 6) (ty := .int) h0 rfl rfl aw_int (by decide) (by decide) (by decide) (fun k => ?_) (by decide) (by decide) dX9_init_32 ?_
  · have hb := hz n (by omega) (by omega) k
    exact ⟨by (try simp (disch := omega) only [u2_off]); exact hb.1, by (try simp (disch := omega) only [u2_off]); exact hb.2.1⟩
  refine X_putrF fl_9_30 rfl rfl (fun q hq => by cases hq; exact ⟨rfl, rfl⟩) rfl (tk (by omega) ho) dX9_init_34 ?_
  refine X_aload_n rfl dX9_init_37 ?_
  refine X_iconst dX9_init_38 ?_
  refine X_puti fl_9_34 rfl (fun q hq => by cases hq; exact rfl) (tk (by omega) ho) dX9_init_39 ?_
  exact X_vret (st := []) rfl (by decide) (by decide) (fun _ => ⟨rfl, rfl⟩) dX9_init_42 hq
theorem mjX6_init : MJ mX6_init 0 := ⟨kX6_init, tsI (inT1 _ (List.mem_of_getElem? (i := 13) rfl)) rfl, by decide +kernel, by decide⟩
set_option maxHeartbeats 4000000 in
set_option maxRecDepth 100000 in
theorem ct_X6_init {d : Nat} {sx : Sx} {I : Ints} {L : Lngs} {R : Rfs} {Q : Qt} {o n : Nat} (hon : o < n) (ho : S0[o]? = some (Sum.inl 6)) (h0 : S0[n]? = some (Sum.inr (.int, 36))) (hz : zr n (n + 1) I L R) (hq : Q none (S0.take (n + 1)) (u2 (u2 (u2 (u2 I o 0 0) o 1 (-1)) o 2 (-1)) o 3 0) L (u2 (u2 (u2 R o 4 none) o 5 none) o 6 (some n))) : EV mX6_init (d + 1) 1 36 (true, true) srN sx (S0.take n) [.ref o] I L R Q := by
  refine EV_of_X rfl rfl (Nat.le_of_ble_eq_true rfl) ?_
  refine X_aload_n rfl dX6_init_0 ?_
  refine X_obj (tsI (inT2 _ (List.mem_of_getElem? (i := 178) rfl)) rfl) ow_i ow_c (Nat.le_of_ble_eq_true rfl) (by omega) dX6_init_1 ?_
  refine X_aload_n rfl dX6_init_4 ?_
  refine X_iconst dX6_init_5 ?_
  refine X_puti fl_6_9 rfl (fun q hq => by cases hq; exact rfl) (tk (by omega) ho) dX6_init_6 ?_
  refine X_aload_n rfl dX6_init_9 ?_
  refine X_iconst dX6_init_10 ?_
  refine X_puti fl_6_15 rfl (fun q hq => by cases hq; exact rfl) (tk (by omega) ho) dX6_init_11 ?_
  refine X_aload_n rfl dX6_init_14 ?_
  refine X_iconst dX6_init_15 ?_
  refine X_puti fl_6_18 rfl (fun q hq => by cases hq; exact rfl) (tk (by omega) ho) dX6_init_16 ?_
  refine X_aload_n rfl dX6_init_19 ?_
  refine X_iconst dX6_init_20 ?_
  refine X_puti fl_6_21 rfl (fun q hq => by cases hq; exact rfl) (tk (by omega) ho) dX6_init_21 ?_
  refine X_aload_n rfl dX6_init_24 ?_
  refine X_null dX6_init_25 ?_
  refine X_putn fl_6_24 rfl rfl (fun q hq => by cases hq; exact rfl) (tk (by omega) ho) dX6_init_26 ?_
  refine X_aload_n rfl dX6_init_29 ?_
  refine X_null dX6_init_30 ?_
  refine X_putn fl_6_28 rfl rfl (fun q hq => by cases hq; exact rfl) (tk (by omega) ho) dX6_init_31 ?_
  refine X_aload_n rfl dX6_init_34 ?_
  refine X_bipush dX6_init_35 ?_
  refine XT_newarr (n := n) (N := 36) (ty := .int) h0 rfl rfl aw_int (by decide) (by decide) (by decide) (fun k => ?_) (by decide) (by decide) dX6_init_37 ?_
  · have hb := hz n (by omega) (by omega) k
    exact ⟨by (try simp (disch := omega) only [u2_off]); exact hb.1, by (try simp (disch := omega) only [u2_off]); exact hb.2.1⟩
  refine X_putrF fl_6_32 rfl rfl (fun q hq => by cases hq; exact ⟨rfl, rfl⟩) rfl (tk (by omega) ho) dX6_init_39 ?_
  exact X_vret (st := []) rfl (by decide) (by decide) (fun _ => ⟨rfl, rfl⟩) dX6_init_42 hq
