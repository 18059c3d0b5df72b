theorem mjX11_init : MJ mX11_init 0 := ⟨kX11_init, tsI (inT1 _ (List.mem_of_getElem? (i := 1) rfl)) rfl, by decide +kernel, by decide⟩
set_option maxHeartbeats 4000000 in
set_option maxRecDepth 100000 in
theorem ct_X11_init {d : Nat} {sx : Sx} {I : Ints} {L : Lngs} {R : Rfs} {Q : Qt}  (hz : zr 1 (1 + 91) I L R) (hq : Q none (S0.take (1 + 91)) (u2 (u2 (u2 (u2 (u2 (u2 (u2 (u2 (u2 (u2 (u2 (u2 (u2 (u2 (u2 (u2 (u2 (u2 (u2 (u2 (u2 (u2 (u2 (u2 (u2 (u2 (u2 (u2 (u2 (u2 (u2 (u2 (u2 (u2 (u2 (u2 (u2 (u2 (u2 (u2 (u2 (u2 (u2 (u2 (u2 (u2 (u2 (u2 (u2 (u2 (u2 (u2 (u2 (u2 (u2 (u2 (u2 (u2 (u2 (u2 (u2 (u2 (u2 (u2 (u2 (u2 (u2 (u2 (u2 (u2 (u2 (u2 (u2 (u2 (u2 (u2 (u2 (u2 (u2 (u2 (u2 (u2 (u2 (u2 (u2 (u2 (u2 (u2 (u2 (u2 (u2 (u2 (u2 (u2 (u2 (u2 (u2 (u2 (u2 (u2 (u2 (u2 (u2 (u2 (u2 (u2 (u2 (u2 (u2 (u2 I 0 1 0) 2 0 2) 2 1 2) 2 3 0) 2 4 0) 2 7 0) 2 11 0) 11 1 0) 11 3 0) 11 4 0) 11 5 0) 14 0 2) 14 1 2) 14 3 0) 14 4 0) 14 7 0) 14 11 0) 23 1 0) 23 3 0) 23 4 0) 23 5 0) 27 3 0) 26 2 0) 26 3 0) 26 5 0) 26 8 0) 26 9 0) 26 10 0) 26 11 0) 37 0 (-1)) 37 1 (-1)) 37 2 (-1)) 37 3 (-1)) 37 4 (-1)) 37 5 (-1)) 38 1 0) 44 1 0) 44 2 0) 44 3 0) 44 5 0) 44 6 0) 48 1 0) 48 2 0) 48 3 0) 48 4 0) 48 5 0) 48 7 0) 54 1 0) 56 0 0) 56 1 0) 56 2 0) 56 6 0) 58 0 0) 58 1 (-1)) 58 2 (-1)) 58 3 0) 64 0 (-1)) 64 1 (-1)) 64 2 (-1)) 64 3 (-1)) 64 4 (-1)) 64 5 (-1)) 69 0 (-1)) 69 1 (-1)) 69 2 (-1)) 69 3 (-1)) 69 4 (-1)) 69 5 (-1)) 74 0 (-1)) 74 1 (-1)) 74 2 (-1)) 74 3 (-1)) 74 4 (-1)) 74 5 (-1)) 79 0 (-1)) 79 1 (-1)) 79 2 (-1)) 79 3 (-1)) 79 4 (-1)) 79 5 (-1)) 80 1 0) 80 2 0) 80 3 0) 80 5 0) 80 6 0) 82 1 0) 82 2 0) 82 3 0) 82 5 0) 82 6 0) 84 1 0) 84 2 0) 84 3 0) 84 5 0) 84 6 0) 86 1 0) 86 2 0) 86 3 0) 86 5 0) 86 6 0) 88 1 0) 88 2 0) 88 3 0) 88 5 0) 88 6 0) 90 1 0) 90 2 0) 90 3 0) 90 5 0) 90 6 0) (u2 (u2 (u2 (u2 (u2 (u2 (u2 (u2 (u2 (u2 (u2 L 2 2 0) 14 2 0) 26 7 0) 44 4 0) 54 2 0) 80 4 0) 82 4 0) 84 4 0) 86 4 0) 88 4 0) 90 4 0) (u2 (u2 (u2 (u2 (u2 (u2 (u2 (u2 (u2 (u2 (u2 (u2 (u2 (u2 (u2 (u2 (u2 (u2 (u2 (u2 (u2 (u2 (u2 (u2 (u2 (u2 (u2 (u2 (u2 (u2 (u2 (u2 (u2 (u2 (u2 (u2 (u2 (u2 (u2 (u2 (u2 (u2 (u2 (u2 (u2 (u2 (u2 (u2 (u2 (u2 (u2 (u2 (u2 (u2 (u2 (u2 (u2 (u2 (u2 (u2 (u2 (u2 (u2 (u2 (u2 (u2 (u2 (u2 (u2 (u2 (u2 (u2 (u2 (u2 (u2 (u2 (u2 (u2 (u2 (u2 (u2 (u2 (u2 (u2 (u2 (u2 (u2 (u2 (u2 (u2 (u2 (u2 (u2 (u2 (u2 (u2 (u2 R 0 0 (some 1)) 2 5 (some 3)) 2 6 (some 4)) 2 8 (some 5)) 2 9 (some 6)) 2 10 (some 7)) 2 12 (some 8)) 2 13 (some 9)) 2 14 (some 10)) 11 0 (some 12)) 11 2 (some 13)) 2 15 (some 11)) 0 2 (some 2)) 14 5 (some 15)) 14 6 (some 16)) 14 8 (some 17)) 14 9 (some 18)) 14 10 (some 19)) 14 12 (some 20)) 14 13 (some 21)) 14 14 (some 22)) 23 0 (some 24)) 23 2 (some 25)) 14 15 (some 23)) 0 3 (some 14)) 27 0 (some 28)) 27 1 (some 29)) 27 2 (some 30)) 26 0 (some 27)) 26 1 none) 26 4 (some 31)) 26 6 (some 32)) 0 4 (some 26)) 33 0 (some 34)) 33 1 (some 35)) 33 2 (some 36)) 33 3 (some 37)) 0 5 (some 33)) 38 0 (some 39)) 0 6 (some 38)) 0 7 (some 40)) 0 8 (some 41)) 0 9 (some 42)) 0 10 (some 43)) 44 0 (some 45)) 0 11 (some 44)) 0 12 (some 46)) 0 13 (some 47)) 48 0 (some 49)) 48 6 none) 48 8 (some 50)) 48 9 (some 51)) 48 10 (some 52)) 48 11 (some 53)) 0 14 (some 48)) 54 0 (some 55)) 0 15 (some 54)) 56 3 none) 56 4 none) 56 5 (some 57)) 0 16 (some 56)) 58 4 none) 58 5 none) 58 6 (some 59)) 0 17 (some 58)) 60 0 (some 61)) 60 1 (some 62)) 60 2 (some 63)) 60 3 (some 64)) 40 0 (some 60)) 65 0 (some 66)) 65 1 (some 67)) 65 2 (some 68)) 65 3 (some 69)) 40 1 (some 65)) 70 0 (some 71)) 70 1 (some 72)) 70 2 (some 73)) 70 3 (some 74)) 40 2 (some 70)) 75 0 (some 76)) 75 1 (some 77)) 75 2 (some 78)) 75 3 (some 79)) 40 3 (some 75)) 80 0 (some 81)) 42 0 (some 80)) 82 0 (some 83)) 42 1 (some 82)) 84 0 (some 85)) 42 2 (some 84)) 86 0 (some 87)) 42 3 (some 86)) 88 0 (some 89)) 42 4 (some 88)) 90 0 (some 91)) 42 5 (some 90))) : EV mX11_init (d + 3) 91 22092 (true, true) srN sx (S0.take 1) [.ref 0] I L R Q := by
  refine EV_of_X rfl rfl (Nat.le_of_ble_eq_true rfl) ?_
  refine X_aload_n rfl dX11_init_0 ?_
  refine X_obj (tsI (inT1 _ (List.mem_of_getElem? (i := 31) rfl)) rfl) ow_i ow_c (Nat.le_of_ble_eq_true rfl) (by omega) dX11_init_1 ?_
  refine X_aload_n rfl dX11_init_4 ?_
  refine X_sipush dX11_init_5 ?_
  refine XT_newarr (n := 1) (N := 1000) (ty := .char) sh_1 rfl rfl aw_char (by decide) (by decide) (by decide) (fun k => ?_) (by decide) (by decide) dX11_init_8 ?_
  · have hb := hz 1 (by omega) (by omega) k
    exact ⟨by (try simp (disch := omega) only [u2_off]); exact hb.1, by (try simp (disch := omega) only [u2_off]); exact hb.2.1⟩
  refine X_putrF fl_11_9 rfl rfl (fun q hq => by cases hq; exact ⟨rfl, rfl⟩) rfl (tk (by decide) sh_0) dX11_init_10 ?_
  refine X_aload_n rfl dX11_init_13 ?_
  refine X_iconst dX11_init_14 ?_
  refine X_puti fl_11_13 rfl (fun q hq => by cases hq; exact rfl) (tk (by decide) sh_0) dX11_init_15 ?_
  refine X_aload_n rfl dX11_init_18 ?_
  refine XT_new (n := 2) (ci := 0) sh_2 ⟨(RX0, TX0, 16), rfl, (tsI (inT1 _ (List.mem_of_getElem? (i := 34) rfl)) rfl), (tsI (inT1 _ (List.mem_of_getElem? (i := 35) rfl)) rfl), (tsI (inT1 _ (List.mem_of_getElem? (i := 2) rfl)) rfl)⟩ (by decide) (fun k => ?_) (by decide) (by decide) dX11_init_19 ?_
  · have hb := hz 2 (by omega) (by omega) k
    exact ⟨by (try simp (disch := omega) only [u2_off]); exact hb.1, by (try simp (disch := omega) only [u2_off]); exact hb.2.1, by (try simp (disch := omega) only [u2_off]); exact hb.2.2⟩
  refine X_dup rfl dX11_init_22 ?_
  refine X_callIN (al' := (true, true)) (mj := mX0_init) (d' := d + 2) (mc' := 11) (ms' := 1730) (fun z => z) (fun z => z) mjX0_init (inT1 _ (List.mem_of_getElem? (i := 36) rfl)) (tsI (inT1 _ (List.mem_of_getElem? (i := 37) rfl)) rfl) rfl rfl (Nat.le_of_ble_eq_true rfl) (by omega) (by decide) (by decide) dX11_init_23 ?_
  refine ct_X0_init (o := 2) (n := 3) (by decide) sh_2 sh_3 sh_4 sh_5 sh_6 sh_7 sh_8 sh_9 sh_10 sh_11 sh_12 sh_13 ?_ ?_
  · intro j h1 h2 k
    have hb := hz j (by omega) (by omega) k
    exact ⟨by (try simp (disch := omega) only [u2_off]); exact hb.1, by (try simp (disch := omega) only [u2_off]); exact hb.2.1, by (try simp (disch := omega) only [u2_off]); exact hb.2.2⟩
  refine X_putr fl_11_20 rfl rfl (fun q hq => by cases hq; exact rfl) (tk (by decide) sh_0) dX11_init_26 ?_
  refine X_aload_n rfl dX11_init_29 ?_
  refine XT_new (n := 14) (ci := 0) sh_14 ⟨(RX0, TX0, 16), rfl, (tsI (inT1 _ (List.mem_of_getElem? (i := 34) rfl)) rfl), (tsI (inT1 _ (List.mem_of_getElem? (i := 35) rfl)) rfl), (tsI (inT1 _ (List.mem_of_getElem? (i := 2) rfl)) rfl)⟩ (by decide) (fun k => ?_) (by decide) (by decide) dX11_init_30 ?_
  · have hb := hz 14 (by omega) (by omega) k
    exact ⟨by (try simp (disch := omega) only [u2_off]); exact hb.1, by (try simp (disch := omega) only [u2_off]); exact hb.2.1, by (try simp (disch := omega) only [u2_off]); exact hb.2.2⟩
  refine X_dup rfl dX11_init_33 ?_
  refine X_callIN (al' := (true, true)) (mj := mX0_init) (d' := d + 2) (mc' := 11) (ms' := 1730) (fun z => z) (fun z => z) mjX0_init (inT1 _ (List.mem_of_getElem? (i := 36) rfl)) (tsI (inT1 _ (List.mem_of_getElem? (i := 37) rfl)) rfl) rfl rfl (Nat.le_of_ble_eq_true rfl) (by omega) (by decide) (by decide) dX11_init_34 ?_
  refine ct_X0_init (o := 14) (n := 15) (by decide) sh_14 sh_15 sh_16 sh_17 sh_18 sh_19 sh_20 sh_21 sh_22 sh_23 sh_24 sh_25 ?_ ?_
  · intro j h1 h2 k
    have hb := hz j (by omega) (by omega) k
    exact ⟨by (try simp (disch := omega) only [u2_off]); exact hb.1, by (try simp (disch := omega) only [u2_off]); exact hb.2.1, by (try simp (disch := omega) only [u2_off]); exact hb.2.2⟩
  refine X_putr fl_11_24 rfl rfl (fun q hq => by cases hq; exact rfl) (tk (by decide) sh_0) dX11_init_37 ?_
  refine X_aload_n rfl dX11_init_40 ?_
  refine XT_new (n := 26) (ci := 5) sh_26 ⟨(RX5, TX5, 12), rfl, (tsI (inT1 _ (List.mem_of_getElem? (i := 170) rfl)) rfl), (tsI (inT1 _ (List.mem_of_getElem? (i := 171) rfl)) rfl), (tsI (inT1 _ (List.mem_of_getElem? (i := 4) rfl)) rfl)⟩ (by decide) (fun k => ?_) (by decide) (by decide) dX11_init_41 ?_
  · have hb := hz 26 (by omega) (by omega) k
    exact ⟨by (try simp (disch := omega) only [u2_off]); exact hb.1, by (try simp (disch := omega) only [u2_off]); exact hb.2.1, by (try simp (disch := omega) only [u2_off]); exact hb.2.2⟩
  refine X_dup rfl dX11_init_44 ?_
  refine X_callIN (al' := (true, true)) (mj := mX5_init) (d' := d + 2) (mc' := 6) (ms' := 3031) (fun z => z) (fun z => z) mjX5_init (inT1 _ (List.mem_of_getElem? (i := 172) rfl)) (tsI (inT1 _ (List.mem_of_getElem? (i := 173) rfl)) rfl) rfl rfl (Nat.le_of_ble_eq_true rfl) (by omega) (by decide) (by decide) dX11_init_45 ?_
  refine ct_X5_init (o := 26) (n := 27) (by decide) sh_26 sh_27 sh_28 sh_29 sh_30 sh_31 sh_32 ?_ ?_
  · intro j h1 h2 k
    have hb := hz j (by omega) (by omega) k
    exact ⟨by (try simp (disch := omega) only [u2_off]); exact hb.1, by (try simp (disch := omega) only [u2_off]); exact hb.2.1, by (try simp (disch := omega) only [u2_off]); exact hb.2.2⟩
  refine X_putrF fl_11_30 rfl rfl (fun q hq => by cases hq; exact ⟨rfl, rfl⟩) rfl (tk (by decide) sh_0) dX11_init_48 ?_
  refine X_aload_n rfl dX11_init_51 ?_
  refine XT_new (n := 33) (ci := 1) sh_33 ⟨(RX1, TX1, 4), rfl, (tsI (inT2 _ (List.mem_of_getElem? (i := 0) rfl)) rfl), (tsI (inT2 _ (List.mem_of_getElem? (i := 1) rfl)) rfl), (tsI (inT1 _ (List.mem_of_getElem? (i := 6) rfl)) rfl)⟩ (by decide) (fun k => ?_) (by decide) (by decide) dX11_init_52 ?_
  · have hb := hz 33 (by omega) (by omega) k
    exact ⟨by (try simp (disch := omega) only [u2_off]); exact hb.1, by (try simp (disch := omega) only [u2_off]); exact hb.2.1, by (try simp (disch := omega) only [u2_off]); exact hb.2.2⟩
  refine X_dup rfl dX11_init_55 ?_
  refine X_callI (al' := (true, true)) (mj := mX1_init) (d' := d + 2) (mc' := 4) (ms' := 54) (fun z => z) (fun z => z) mjX1_init (tsI (inT2 _ (List.mem_of_getElem? (i := 2) rfl)) rfl) (tsI (inT2 _ (List.mem_of_getElem? (i := 3) rfl)) rfl) rfl rfl (Nat.le_of_ble_eq_true rfl) (by omega) (by decide) (by decide) dX11_init_56 ?_
  refine ct_X1_init (o := 33) (n := 34) (by decide) sh_33 sh_34 sh_35 sh_36 sh_37 ?_ ?_
  · intro j h1 h2 k
    have hb := hz j (by omega) (by omega) k
    exact ⟨by (try simp (disch := omega) only [u2_off]); exact hb.1, by (try simp (disch := omega) only [u2_off]); exact hb.2.1, by (try simp (disch := omega) only [u2_off]); exact hb.2.2⟩
  refine X_putrF fl_11_37 rfl rfl (fun q hq => by cases hq; exact ⟨rfl, rfl⟩) rfl (tk (by decide) sh_0) dX11_init_59 ?_
  refine X_aload_n rfl dX11_init_62 ?_
  refine XT_new (n := 38) (ci := 4) sh_38 ⟨(RX4, TX4, 2), rfl, (tsI (inT2 _ (List.mem_of_getElem? (i := 26) rfl)) rfl), (tsI (inT2 _ (List.mem_of_getElem? (i := 27) rfl)) rfl), (tsI (inT1 _ (List.mem_of_getElem? (i := 8) rfl)) rfl)⟩ (by decide) (fun k => ?_) (by decide) (by decide) dX11_init_63 ?_
  · have hb := hz 38 (by omega) (by omega) k
    exact ⟨by (try simp (disch := omega) only [u2_off]); exact hb.1, by (try simp (disch := omega) only [u2_off]); exact hb.2.1, by (try simp (disch := omega) only [u2_off]); exact hb.2.2⟩
  refine X_dup rfl dX11_init_66 ?_
  refine X_callIN (al' := (true, true)) (mj := mX4_init) (d' := d + 1) (mc' := 1) (ms' := 20) (fun z => z) (fun z => z) mjX4_init (inT2 _ (List.mem_of_getElem? (i := 28) rfl)) (tsI (inT2 _ (List.mem_of_getElem? (i := 29) rfl)) rfl) rfl rfl (Nat.le_of_ble_eq_true rfl) (by omega) (by decide) (by decide) dX11_init_67 ?_
  refine ct_X4_init (o := 38) (n := 39) (by decide) sh_38 sh_39 ?_ ?_
  · intro j h1 h2 k
    have hb := hz j (by omega) (by omega) k
    exact ⟨by (try simp (disch := omega) only [u2_off]); exact hb.1, by (try simp (disch := omega) only [u2_off]); exact hb.2.1, by (try simp (disch := omega) only [u2_off]); exact hb.2.2⟩
  refine X_putrF fl_11_44 rfl rfl (fun q hq => by cases hq; exact ⟨rfl, rfl⟩) rfl (tk (by decide) sh_0) dX11_init_70 ?_
  refine X_aload_n rfl dX11_init_73 ?_
  refine X_iconst dX11_init_74 ?_
  refine XT_newrow (n := 40) (N := 4) (C := "DanceWine$Evening") sh_40 (tsI (inT2 _ (List.mem_of_getElem? (i := 0) rfl)) rfl) ao_Evening (by decide) (by decide) (by decide) (fun k => ?_) (by decide) (by decide) dX11_init_75 ?_
  · have hb := hz 40 (by omega) (by omega) k
    (try simp (disch := omega) only [u2_off]); exact hb.2.2
  refine X_putrF fl_11_48 rfl rfl (fun q hq => by cases hq; exact ⟨rfl, rfl⟩) rfl (tk (by decide) sh_0) dX11_init_78 ?_
  refine X_aload_n rfl dX11_init_81 ?_
  refine X_iconst dX11_init_82 ?_
  refine XT_newarr (n := 41) (N := 4) (ty := .boolean) sh_41 rfl rfl aw_boolean (by decide) (by decide) (by decide) (fun k => ?_) (by decide) (by decide) dX11_init_83 ?_
  · have hb := hz 41 (by omega) (by omega) k
    exact ⟨by (try simp (disch := omega) only [u2_off]); exact hb.1, by (try simp (disch := omega) only [u2_off]); exact hb.2.1⟩
  refine X_putrF fl_11_52 rfl rfl (fun q hq => by cases hq; exact ⟨rfl, rfl⟩) rfl (tk (by decide) sh_0) dX11_init_85 ?_
  refine X_aload_n rfl dX11_init_88 ?_
  refine X_bipush dX11_init_89 ?_
  refine XT_newrow (n := 42) (N := 6) (C := "DanceWine$Routine") sh_42 (tsI (inT2 _ (List.mem_of_getElem? (i := 41) rfl)) rfl) ao_Routine (by decide) (by decide) (by decide) (fun k => ?_) (by decide) (by decide) dX11_init_91 ?_
  · have hb := hz 42 (by omega) (by omega) k
    (try simp (disch := omega) only [u2_off]); exact hb.2.2
  refine X_putrF fl_11_58 rfl rfl (fun q hq => by cases hq; exact ⟨rfl, rfl⟩) rfl (tk (by decide) sh_0) dX11_init_94 ?_
  refine X_aload_n rfl dX11_init_97 ?_
  refine X_bipush dX11_init_98 ?_
  refine XT_newarr (n := 43) (N := 6) (ty := .boolean) sh_43 rfl rfl aw_boolean (by decide) (by decide) (by decide) (fun k => ?_) (by decide) (by decide) dX11_init_100 ?_
  · have hb := hz 43 (by omega) (by omega) k
    exact ⟨by (try simp (disch := omega) only [u2_off]); exact hb.1, by (try simp (disch := omega) only [u2_off]); exact hb.2.1⟩
  refine X_putrF fl_11_62 rfl rfl (fun q hq => by cases hq; exact ⟨rfl, rfl⟩) rfl (tk (by decide) sh_0) dX11_init_102 ?_
  refine X_aload_n rfl dX11_init_105 ?_
  refine XT_new (n := 44) (ci := 7) sh_44 ⟨(RX7, TX7, 7), rfl, (tsI (inT2 _ (List.mem_of_getElem? (i := 41) rfl)) rfl), (tsI (inT2 _ (List.mem_of_getElem? (i := 43) rfl)) rfl), (tsI (inT1 _ (List.mem_of_getElem? (i := 9) rfl)) rfl)⟩ (by decide) (fun k => ?_) (by decide) (by decide) dX11_init_106 ?_
  · have hb := hz 44 (by omega) (by omega) k
    exact ⟨by (try simp (disch := omega) only [u2_off]); exact hb.1, by (try simp (disch := omega) only [u2_off]); exact hb.2.1, by (try simp (disch := omega) only [u2_off]); exact hb.2.2⟩
  refine X_dup rfl dX11_init_109 ?_
  refine X_callIN (al' := (true, true)) (mj := mX7_init) (d' := d + 1) (mc' := 1) (ms' := 576) (fun z => z) (fun z => z) mjX7_init (inT2 _ (List.mem_of_getElem? (i := 44) rfl)) (tsI (inT2 _ (List.mem_of_getElem? (i := 45) rfl)) rfl) rfl rfl (Nat.le_of_ble_eq_true rfl) (by omega) (by decide) (by decide) dX11_init_110 ?_
  refine ct_X7_init (o := 44) (n := 45) (by decide) sh_44 sh_45 ?_ ?_
  · intro j h1 h2 k
    have hb := hz j (by omega) (by omega) k
    exact ⟨by (try simp (disch := omega) only [u2_off]); exact hb.1, by (try simp (disch := omega) only [u2_off]); exact hb.2.1, by (try simp (disch := omega) only [u2_off]); exact hb.2.2⟩
  refine X_putrF fl_11_66 rfl rfl (fun q hq => by cases hq; exact ⟨rfl, rfl⟩) rfl (tk (by decide) sh_0) dX11_init_113 ?_
  refine X_aload_n rfl dX11_init_116 ?_
  refine X_iconst dX11_init_117 ?_
  refine XT_newarr (n := 46) (N := 1) (ty := .int) sh_46 rfl rfl aw_int (by decide) (by decide) (by decide) (fun k => ?_) (by decide) (by decide) dX11_init_118 ?_
  · have hb := hz 46 (by omega) (by omega) k
    exact ⟨by (try simp (disch := omega) only [u2_off]); exact hb.1, by (try simp (disch := omega) only [u2_off]); exact hb.2.1⟩
  refine X_putrF fl_11_70 rfl rfl (fun q hq => by cases hq; exact ⟨rfl, rfl⟩) rfl (tk (by decide) sh_0) dX11_init_120 ?_
  refine X_aload_n rfl dX11_init_123 ?_
  refine X_bipush dX11_init_124 ?_
  refine XT_newarr (n := 47) (N := 6) (ty := .int) sh_47 rfl rfl aw_int (by decide) (by decide) (by decide) (fun k => ?_) (by decide) (by decide) dX11_init_126 ?_
  · have hb := hz 47 (by omega) (by omega) k
    exact ⟨by (try simp (disch := omega) only [u2_off]); exact hb.1, by (try simp (disch := omega) only [u2_off]); exact hb.2.1⟩
  refine X_putrF fl_11_74 rfl rfl (fun q hq => by cases hq; exact ⟨rfl, rfl⟩) rfl (tk (by decide) sh_0) dX11_init_128 ?_
  refine X_aload_n rfl dX11_init_131 ?_
  refine XT_new (n := 48) (ci := 8) sh_48 ⟨(RX8, TX8, 12), rfl, (tsI (inT2 _ (List.mem_of_getElem? (i := 76) rfl)) rfl), (tsI (inT2 _ (List.mem_of_getElem? (i := 77) rfl)) rfl), (tsI (inT1 _ (List.mem_of_getElem? (i := 10) rfl)) rfl)⟩ (by decide) (fun k => ?_) (by decide) (by decide) dX11_init_132 ?_
  · have hb := hz 48 (by omega) (by omega) k
    exact ⟨by (try simp (disch := omega) only [u2_off]); exact hb.1, by (try simp (disch := omega) only [u2_off]); exact hb.2.1, by (try simp (disch := omega) only [u2_off]); exact hb.2.2⟩
  refine X_dup rfl dX11_init_135 ?_
  refine X_callIN (al' := (true, true)) (mj := mX8_init) (d' := d + 1) (mc' := 5) (ms' := 10060) (fun z => z) (fun z => z) mjX8_init (inT2 _ (List.mem_of_getElem? (i := 78) rfl)) (tsI (inT2 _ (List.mem_of_getElem? (i := 79) rfl)) rfl) rfl rfl (Nat.le_of_ble_eq_true rfl) (by omega) (by decide) (by decide) dX11_init_136 ?_
  refine ct_X8_init (o := 48) (n := 49) (by decide) sh_48 sh_49 sh_50 sh_51 sh_52 sh_53 ?_ ?_
  · intro j h1 h2 k
    have hb := hz j (by omega) (by omega) k
    exact ⟨by (try simp (disch := omega) only [u2_off]); exact hb.1, by (try simp (disch := omega) only [u2_off]); exact hb.2.1, by (try simp (disch := omega) only [u2_off]); exact hb.2.2⟩
  refine X_putrF fl_11_80 rfl rfl (fun q hq => by cases hq; exact ⟨rfl, rfl⟩) rfl (tk (by decide) sh_0) dX11_init_139 ?_
  refine X_aload_n rfl dX11_init_142 ?_
  refine XT_new (n := 54) (ci := 2) sh_54 ⟨(RX2, TX2, 3), rfl, (tsI (inT2 _ (List.mem_of_getElem? (i := 124) rfl)) rfl), (tsI (inT2 _ (List.mem_of_getElem? (i := 125) rfl)) rfl), (tsI (inT1 _ (List.mem_of_getElem? (i := 11) rfl)) rfl)⟩ (by decide) (fun k => ?_) (by decide) (by decide) dX11_init_143 ?_
  · have hb := hz 54 (by omega) (by omega) k
    exact ⟨by (try simp (disch := omega) only [u2_off]); exact hb.1, by (try simp (disch := omega) only [u2_off]); exact hb.2.1, by (try simp (disch := omega) only [u2_off]); exact hb.2.2⟩
  refine X_dup rfl dX11_init_146 ?_
  refine X_callIN (al' := (true, true)) (mj := mX2_init) (d' := d + 1) (mc' := 1) (ms' := 6) (fun z => z) (fun z => z) mjX2_init (inT2 _ (List.mem_of_getElem? (i := 126) rfl)) (tsI (inT2 _ (List.mem_of_getElem? (i := 127) rfl)) rfl) rfl rfl (Nat.le_of_ble_eq_true rfl) (by omega) (by decide) (by decide) dX11_init_147 ?_
  refine ct_X2_init (o := 54) (n := 55) (by decide) sh_54 sh_55 ?_ ?_
  · intro j h1 h2 k
    have hb := hz j (by omega) (by omega) k
    exact ⟨by (try simp (disch := omega) only [u2_off]); exact hb.1, by (try simp (disch := omega) only [u2_off]); exact hb.2.1, by (try simp (disch := omega) only [u2_off]); exact hb.2.2⟩
  refine X_putrF fl_11_87 rfl rfl (fun q hq => by cases hq; exact ⟨rfl, rfl⟩) rfl (tk (by decide) sh_0) dX11_init_150 ?_
  refine X_aload_n rfl dX11_init_153 ?_
  refine XT_new (n := 56) (ci := 9) sh_56 ⟨(RX9, TX9, 7), rfl, (tsI (inT2 _ (List.mem_of_getElem? (i := 142) rfl)) rfl), (tsI (inT2 _ (List.mem_of_getElem? (i := 143) rfl)) rfl), (tsI (inT1 _ (List.mem_of_getElem? (i := 12) rfl)) rfl)⟩ (by decide) (fun k => ?_) (by decide) (by decide) dX11_init_154 ?_
  · have hb := hz 56 (by omega) (by omega) k
    exact ⟨by (try simp (disch := omega) only [u2_off]); exact hb.1, by (try simp (disch := omega) only [u2_off]); exact hb.2.1, by (try simp (disch := omega) only [u2_off]); exact hb.2.2⟩
  refine X_dup rfl dX11_init_157 ?_
  refine X_callIN (al' := (true, true)) (mj := mX9_init) (d' := d + 1) (mc' := 1) (ms' := 6) (fun z => z) (fun z => z) mjX9_init (inT2 _ (List.mem_of_getElem? (i := 144) rfl)) (tsI (inT2 _ (List.mem_of_getElem? (i := 145) rfl)) rfl) rfl rfl (Nat.le_of_ble_eq_true rfl) (by omega) (by decide) (by decide) dX11_init_158 ?_
  refine ct_X9_init (o := 56) (n := 57) (by decide) sh_56 sh_57 ?_ ?_
  · intro j h1 h2 k
    have hb := hz j (by omega) (by omega) k
    exact ⟨by (try simp (disch := omega) only [u2_off]); exact hb.1, by (try simp (disch := omega) only [u2_off]); exact hb.2.1, by (try simp (disch := omega) only [u2_off]); exact hb.2.2⟩
  refine X_putrF fl_11_94 rfl rfl (fun q hq => by cases hq; exact ⟨rfl, rfl⟩) rfl (tk (by decide) sh_0) dX11_init_161 ?_
  refine X_aload_n rfl dX11_init_164 ?_
  refine XT_new (n := 58) (ci := 6) sh_58 ⟨(RX6, TX6, 7), rfl, (tsI (inT2 _ (List.mem_of_getElem? (i := 173) rfl)) rfl), (tsI (inT2 _ (List.mem_of_getElem? (i := 174) rfl)) rfl), (tsI (inT1 _ (List.mem_of_getElem? (i := 13) rfl)) rfl)⟩ (by decide) (fun k => ?_) (by decide) (by decide) dX11_init_165 ?_
  · have hb := hz 58 (by omega) (by omega) k
    exact ⟨by (try simp (disch := omega) only [u2_off]); exact hb.1, by (try simp (disch := omega) only [u2_off]); exact hb.2.1, by (try simp (disch := omega) only [u2_off]); exact hb.2.2⟩
  refine X_dup rfl dX11_init_168 ?_
  refine X_callIN (al' := (true, true)) (mj := mX6_init) (d' := d + 1) (mc' := 1) (ms' := 36) (fun z => z) (fun z => z) mjX6_init (inT2 _ (List.mem_of_getElem? (i := 175) rfl)) (tsI (inT2 _ (List.mem_of_getElem? (i := 176) rfl)) rfl) rfl rfl (Nat.le_of_ble_eq_true rfl) (by omega) (by decide) (by decide) dX11_init_169 ?_
  refine ct_X6_init (o := 58) (n := 59) (by decide) sh_58 sh_59 ?_ ?_
  · intro j h1 h2 k
    have hb := hz j (by omega) (by omega) k
    exact ⟨by (try simp (disch := omega) only [u2_off]); exact hb.1, by (try simp (disch := omega) only [u2_off]); exact hb.2.1, by (try simp (disch := omega) only [u2_off]); exact hb.2.2⟩
  refine X_putrF fl_11_101 rfl rfl (fun q hq => by cases hq; exact ⟨rfl, rfl⟩) rfl (tk (by decide) sh_0) dX11_init_172 ?_
  refine X_iconst dX11_init_175 ?_
  refine X_istore_n (by decide) dX11_init_176 ?_
  refine X_iload_n rfl dX11_init_177 ?_
  refine X_iconst dX11_init_178 ?_
  refine X_icmp_ge (tgt := 201) dX11_init_179 rfl (fun z => absurd z (by decide)) (fun _ => ?_)
  refine X_aload_n rfl dX11_init_182 ?_
  refine X_getr (q := 40) (by simp (disch := omega) only [u2_self, u2_nk, u2_off]) fl_11_48 rfl (tk (by decide) sh_0) dX11_init_183 ?_
  refine X_iload_n rfl dX11_init_186 ?_
  refine XT_new (n := 60) (ci := 1) sh_60 ⟨(RX1, TX1, 4), rfl, (tsI (inT2 _ (List.mem_of_getElem? (i := 0) rfl)) rfl), (tsI (inT2 _ (List.mem_of_getElem? (i := 1) rfl)) rfl), (tsI (inT1 _ (List.mem_of_getElem? (i := 6) rfl)) rfl)⟩ (by decide) (fun k => ?_) (by decide) (by decide) dX11_init_187 ?_
  · have hb := hz 60 (by omega) (by omega) k
    exact ⟨by (try simp (disch := omega) only [u2_off]); exact hb.1, by (try simp (disch := omega) only [u2_off]); exact hb.2.1, by (try simp (disch := omega) only [u2_off]); exact hb.2.2⟩
  refine X_dup rfl dX11_init_190 ?_
  refine X_callI (al' := (true, true)) (mj := mX1_init) (d' := d + 2) (mc' := 4) (ms' := 54) (fun z => z) (fun z => z) mjX1_init (tsI (inT2 _ (List.mem_of_getElem? (i := 2) rfl)) rfl) (tsI (inT2 _ (List.mem_of_getElem? (i := 3) rfl)) rfl) rfl rfl (Nat.le_of_ble_eq_true rfl) (by omega) (by decide) (by decide) dX11_init_191 ?_
  refine ct_X1_init (o := 60) (n := 61) (by decide) sh_60 sh_61 sh_62 sh_63 sh_64 ?_ ?_
  · intro j h1 h2 k
    have hb := hz j (by omega) (by omega) k
    exact ⟨by (try simp (disch := omega) only [u2_off]); exact hb.1, by (try simp (disch := omega) only [u2_off]); exact hb.2.1, by (try simp (disch := omega) only [u2_off]); exact hb.2.2⟩
  refine X_aast (r := (RX1, TX1, 4)) (tk (by decide) sh_40) (tk (by decide) sh_60) rfl (by unfold vp_in; decide) rfl dX11_init_194 ?_
  refine X_iinc rfl (by decide) dX11_init_195 ?_
  refine X_goto (tgt := 177) dX11_init_198 rfl ?_
  refine X_iload_n rfl dX11_init_177 ?_
  refine X_iconst dX11_init_178 ?_
  refine X_icmp_ge (tgt := 201) dX11_init_179 rfl (fun z => absurd z (by decide)) (fun _ => ?_)
  refine X_aload_n rfl dX11_init_182 ?_
  refine X_getr (q := 40) (by simp (disch := omega) only [u2_self, u2_nk, u2_off]) fl_11_48 rfl (tk (by decide) sh_0) dX11_init_183 ?_
  refine X_iload_n rfl dX11_init_186 ?_
  refine XT_new (n := 65) (ci := 1) sh_65 ⟨(RX1, TX1, 4), rfl, (tsI (inT2 _ (List.mem_of_getElem? (i := 0) rfl)) rfl), (tsI (inT2 _ (List.mem_of_getElem? (i := 1) rfl)) rfl), (tsI (inT1 _ (List.mem_of_getElem? (i := 6) rfl)) rfl)⟩ (by decide) (fun k => ?_) (by decide) (by decide) dX11_init_187 ?_
  · have hb := hz 65 (by omega) (by omega) k
    exact ⟨by (try simp (disch := omega) only [u2_off]); exact hb.1, by (try simp (disch := omega) only [u2_off]); exact hb.2.1, by (try simp (disch := omega) only [u2_off]); exact hb.2.2⟩
  refine X_dup rfl dX11_init_190 ?_
  refine X_callI (al' := (true, true)) (mj := mX1_init) (d' := d + 2) (mc' := 4) (ms' := 54) (fun z => z) (fun z => z) mjX1_init (tsI (inT2 _ (List.mem_of_getElem? (i := 2) rfl)) rfl) (tsI (inT2 _ (List.mem_of_getElem? (i := 3) rfl)) rfl) rfl rfl (Nat.le_of_ble_eq_true rfl) (by omega) (by decide) (by decide) dX11_init_191 ?_
  refine ct_X1_init (o := 65) (n := 66) (by decide) sh_65 sh_66 sh_67 sh_68 sh_69 ?_ ?_
  · intro j h1 h2 k
    have hb := hz j (by omega) (by omega) k
    exact ⟨by (try simp (disch := omega) only [u2_off]); exact hb.1, by (try simp (disch := omega) only [u2_off]); exact hb.2.1, by (try simp (disch := omega) only [u2_off]); exact hb.2.2⟩
  refine X_aast (r := (RX1, TX1, 4)) (tk (by decide) sh_40) (tk (by decide) sh_65) rfl (by unfold vp_in; decide) rfl dX11_init_194 ?_
  refine X_iinc rfl (by decide) dX11_init_195 ?_
  refine X_goto (tgt := 177) dX11_init_198 rfl ?_
  refine X_iload_n rfl dX11_init_177 ?_
  refine X_iconst dX11_init_178 ?_
  refine X_icmp_ge (tgt := 201) dX11_init_179 rfl (fun z => absurd z (by decide)) (fun _ => ?_)
  refine X_aload_n rfl dX11_init_182 ?_
  refine X_getr (q := 40) (by simp (disch := omega) only [u2_self, u2_nk, u2_off]) fl_11_48 rfl (tk (by decide) sh_0) dX11_init_183 ?_
  refine X_iload_n rfl dX11_init_186 ?_
  refine XT_new (n := 70) (ci := 1) sh_70 ⟨(RX1, TX1, 4), rfl, (tsI (inT2 _ (List.mem_of_getElem? (i := 0) rfl)) rfl), (tsI (inT2 _ (List.mem_of_getElem? (i := 1) rfl)) rfl), (tsI (inT1 _ (List.mem_of_getElem? (i := 6) rfl)) rfl)⟩ (by decide) (fun k => ?_) (by decide) (by decide) dX11_init_187 ?_
  · have hb := hz 70 (by omega) (by omega) k
    exact ⟨by (try simp (disch := omega) only [u2_off]); exact hb.1, by (try simp (disch := omega) only [u2_off]); exact hb.2.1, by (try simp (disch := omega) only [u2_off]); exact hb.2.2⟩
  refine X_dup rfl dX11_init_190 ?_
  refine X_callI (al' := (true, true)) (mj := mX1_init) (d' := d + 2) (mc' := 4) (ms' := 54) (fun z => z) (fun z => z) mjX1_init (tsI (inT2 _ (List.mem_of_getElem? (i := 2) rfl)) rfl) (tsI (inT2 _ (List.mem_of_getElem? (i := 3) rfl)) rfl) rfl rfl (Nat.le_of_ble_eq_true rfl) (by omega) (by decide) (by decide) dX11_init_191 ?_
  refine ct_X1_init (o := 70) (n := 71) (by decide) sh_70 sh_71 sh_72 sh_73 sh_74 ?_ ?_
  · intro j h1 h2 k
    have hb := hz j (by omega) (by omega) k
    exact ⟨by (try simp (disch := omega) only [u2_off]); exact hb.1, by (try simp (disch := omega) only [u2_off]); exact hb.2.1, by (try simp (disch := omega) only [u2_off]); exact hb.2.2⟩
  refine X_aast (r := (RX1, TX1, 4)) (tk (by decide) sh_40) (tk (by decide) sh_70) rfl (by unfold vp_in; decide) rfl dX11_init_194 ?_
  refine X_iinc rfl (by decide) dX11_init_195 ?_
  refine X_goto (tgt := 177) dX11_init_198 rfl ?_
  refine X_iload_n rfl dX11_init_177 ?_
  refine X_iconst dX11_init_178 ?_
  refine X_icmp_ge (tgt := 201) dX11_init_179 rfl (fun z => absurd z (by decide)) (fun _ => ?_)
  refine X_aload_n rfl dX11_init_182 ?_
  refine X_getr (q := 40) (by simp (disch := omega) only [u2_self, u2_nk, u2_off]) fl_11_48 rfl (tk (by decide) sh_0) dX11_init_183 ?_
  refine X_iload_n rfl dX11_init_186 ?_
  refine XT_new (n := 75) (ci := 1) sh_75 ⟨(RX1, TX1, 4), rfl, (tsI (inT2 _ (List.mem_of_getElem? (i := 0) rfl)) rfl), (tsI (inT2 _ (List.mem_of_getElem? (i := 1) rfl)) rfl), (tsI (inT1 _ (List.mem_of_getElem? (i := 6) rfl)) rfl)⟩ (by decide) (fun k => ?_) (by decide) (by decide) dX11_init_187 ?_
  · have hb := hz 75 (by omega) (by omega) k
    exact ⟨by (try simp (disch := omega) only [u2_off]); exact hb.1, by (try simp (disch := omega) only [u2_off]); exact hb.2.1, by (try simp (disch := omega) only [u2_off]); exact hb.2.2⟩
  refine X_dup rfl dX11_init_190 ?_
  refine X_callI (al' := (true, true)) (mj := mX1_init) (d' := d + 2) (mc' := 4) (ms' := 54) (fun z => z) (fun z => z) mjX1_init (tsI (inT2 _ (List.mem_of_getElem? (i := 2) rfl)) rfl) (tsI (inT2 _ (List.mem_of_getElem? (i := 3) rfl)) rfl) rfl rfl (Nat.le_of_ble_eq_true rfl) (by omega) (by decide) (by decide) dX11_init_191 ?_
  refine ct_X1_init (o := 75) (n := 76) (by decide) sh_75 sh_76 sh_77 sh_78 sh_79 ?_ ?_
  · intro j h1 h2 k
    have hb := hz j (by omega) (by omega) k
    exact ⟨by (try simp (disch := omega) only [u2_off]); exact hb.1, by (try simp (disch := omega) only [u2_off]); exact hb.2.1, by (try simp (disch := omega) only [u2_off]); exact hb.2.2⟩
  refine X_aast (r := (RX1, TX1, 4)) (tk (by decide) sh_40) (tk (by decide) sh_75) rfl (by unfold vp_in; decide) rfl dX11_init_194 ?_
  refine X_iinc rfl (by decide) dX11_init_195 ?_
  refine X_goto (tgt := 177) dX11_init_198 rfl ?_
  refine X_iload_n rfl dX11_init_177 ?_
  refine X_iconst dX11_init_178 ?_
  refine X_icmp_ge (tgt := 201) dX11_init_179 rfl (fun _ => ?_) (fun z => absurd z (by decide))
  refine X_iconst dX11_init_201 ?_
  refine X_istore_n (by decide) dX11_init_202 ?_
  refine X_iload_n rfl dX11_init_203 ?_
  refine X_bipush dX11_init_204 ?_
  refine X_icmp_ge (tgt := 228) dX11_init_206 rfl (fun z => absurd z (by decide)) (fun _ => ?_)
  refine X_aload_n rfl dX11_init_209 ?_
  refine X_getr (q := 42) (by simp (disch := omega) only [u2_self, u2_nk, u2_off]) fl_11_58 rfl (tk (by decide) sh_0) dX11_init_210 ?_
  refine X_iload_n rfl dX11_init_213 ?_
  refine XT_new (n := 80) (ci := 7) sh_80 ⟨(RX7, TX7, 7), rfl, (tsI (inT2 _ (List.mem_of_getElem? (i := 41) rfl)) rfl), (tsI (inT2 _ (List.mem_of_getElem? (i := 43) rfl)) rfl), (tsI (inT1 _ (List.mem_of_getElem? (i := 9) rfl)) rfl)⟩ (by decide) (fun k => ?_) (by decide) (by decide) dX11_init_214 ?_
  · have hb := hz 80 (by omega) (by omega) k
    exact ⟨by (try simp (disch := omega) only [u2_off]); exact hb.1, by (try simp (disch := omega) only [u2_off]); exact hb.2.1, by (try simp (disch := omega) only [u2_off]); exact hb.2.2⟩
  refine X_dup rfl dX11_init_217 ?_
  refine X_callIN (al' := (true, true)) (mj := mX7_init) (d' := d + 1) (mc' := 1) (ms' := 576) (fun z => z) (fun z => z) mjX7_init (inT2 _ (List.mem_of_getElem? (i := 44) rfl)) (tsI (inT2 _ (List.mem_of_getElem? (i := 45) rfl)) rfl) rfl rfl (Nat.le_of_ble_eq_true rfl) (by omega) (by decide) (by decide) dX11_init_218 ?_
  refine ct_X7_init (o := 80) (n := 81) (by decide) sh_80 sh_81 ?_ ?_
  · intro j h1 h2 k
    have hb := hz j (by omega) (by omega) k
    exact ⟨by (try simp (disch := omega) only [u2_off]); exact hb.1, by (try simp (disch := omega) only [u2_off]); exact hb.2.1, by (try simp (disch := omega) only [u2_off]); exact hb.2.2⟩
  refine X_aast (r := (RX7, TX7, 7)) (tk (by decide) sh_42) (tk (by decide) sh_80) rfl (by unfold vp_in; decide) rfl dX11_init_221 ?_
  refine X_iinc rfl (by decide) dX11_init_222 ?_
  refine X_goto (tgt := 203) dX11_init_225 rfl ?_
  refine X_iload_n rfl dX11_init_203 ?_
  refine X_bipush dX11_init_204 ?_
  refine X_icmp_ge (tgt := 228) dX11_init_206 rfl (fun z => absurd z (by decide)) (fun _ => ?_)
  refine X_aload_n rfl dX11_init_209 ?_
  refine X_getr (q := 42) (by simp (disch := omega) only [u2_self, u2_nk, u2_off]) fl_11_58 rfl (tk (by decide) sh_0) dX11_init_210 ?_
  refine X_iload_n rfl dX11_init_213 ?_
  refine XT_new (n := 82) (ci := 7) sh_82 ⟨(RX7, TX7, 7), rfl, (tsI (inT2 _ (List.mem_of_getElem? (i := 41) rfl)) rfl), (tsI (inT2 _ (List.mem_of_getElem? (i := 43) rfl)) rfl), (tsI (inT1 _ (List.mem_of_getElem? (i := 9) rfl)) rfl)⟩ (by decide) (fun k => ?_) (by decide) (by decide) dX11_init_214 ?_
  · have hb := hz 82 (by omega) (by omega) k
    exact ⟨by (try simp (disch := omega) only [u2_off]); exact hb.1, by (try simp (disch := omega) only [u2_off]); exact hb.2.1, by (try simp (disch := omega) only [u2_off]); exact hb.2.2⟩
  refine X_dup rfl dX11_init_217 ?_
  refine X_callIN (al' := (true, true)) (mj := mX7_init) (d' := d + 1) (mc' := 1) (ms' := 576) (fun z => z) (fun z => z) mjX7_init (inT2 _ (List.mem_of_getElem? (i := 44) rfl)) (tsI (inT2 _ (List.mem_of_getElem? (i := 45) rfl)) rfl) rfl rfl (Nat.le_of_ble_eq_true rfl) (by omega) (by decide) (by decide) dX11_init_218 ?_
  refine ct_X7_init (o := 82) (n := 83) (by decide) sh_82 sh_83 ?_ ?_
  · intro j h1 h2 k
    have hb := hz j (by omega) (by omega) k
    exact ⟨by (try simp (disch := omega) only [u2_off]); exact hb.1, by (try simp (disch := omega) only [u2_off]); exact hb.2.1, by (try simp (disch := omega) only [u2_off]); exact hb.2.2⟩
  refine X_aast (r := (RX7, TX7, 7)) (tk (by decide) sh_42) (tk (by decide) sh_82) rfl (by unfold vp_in; decide) rfl dX11_init_221 ?_
  refine X_iinc rfl (by decide) dX11_init_222 ?_
  refine X_goto (tgt := 203) dX11_init_225 rfl ?_
  refine X_iload_n rfl dX11_init_203 ?_
  refine X_bipush dX11_init_204 ?_
  refine X_icmp_ge (tgt := 228) dX11_init_206 rfl (fun z => absurd z (by decide)) (fun _ => ?_)
  refine X_aload_n rfl dX11_init_209 ?_
  refine X_getr (q := 42) (by simp (disch := omega) only [u2_self, u2_nk, u2_off]) fl_11_58 rfl (tk (by decide) sh_0) dX11_init_210 ?_
  refine X_iload_n rfl dX11_init_213 ?_
  refine XT_new (n := 84) (ci := 7) sh_84 ⟨(RX7, TX7, 7), rfl, (tsI (inT2 _ (List.mem_of_getElem? (i := 41) rfl)) rfl), (tsI (inT2 _ (List.mem_of_getElem? (i := 43) rfl)) rfl), (tsI (inT1 _ (List.mem_of_getElem? (i := 9) rfl)) rfl)⟩ (by decide) (fun k => ?_) (by decide) (by decide) dX11_init_214 ?_
  · have hb := hz 84 (by omega) (by omega) k
    exact ⟨by (try simp (disch := omega) only [u2_off]); exact hb.1, by (try simp (disch := omega) only [u2_off]); exact hb.2.1, by (try simp (disch := omega) only [u2_off]); exact hb.2.2⟩
  refine X_dup rfl dX11_init_217 ?_
  refine X_callIN (al' := (true, true)) (mj := mX7_init) (d' := d + 1) (mc' := 1) (ms' := 576) (fun z => z) (fun z => z) mjX7_init (inT2 _ (List.mem_of_getElem? (i := 44) rfl)) (tsI (inT2 _ (List.mem_of_getElem? (i := 45) rfl)) rfl) rfl rfl (Nat.le_of_ble_eq_true rfl) (by omega) (by decide) (by decide) dX11_init_218 ?_
  refine ct_X7_init (o := 84) (n := 85) (by decide) sh_84 sh_85 ?_ ?_
  · intro j h1 h2 k
    have hb := hz j (by omega) (by omega) k
    exact ⟨by (try simp (disch := omega) only [u2_off]); exact hb.1, by (try simp (disch := omega) only [u2_off]); exact hb.2.1, by (try simp (disch := omega) only [u2_off]); exact hb.2.2⟩
  refine X_aast (r := (RX7, TX7, 7)) (tk (by decide) sh_42) (tk (by decide) sh_84) rfl (by unfold vp_in; decide) rfl dX11_init_221 ?_
  refine X_iinc rfl (by decide) dX11_init_222 ?_
  refine X_goto (tgt := 203) dX11_init_225 rfl ?_
  refine X_iload_n rfl dX11_init_203 ?_
  refine X_bipush dX11_init_204 ?_
  refine X_icmp_ge (tgt := 228) dX11_init_206 rfl (fun z => absurd z (by decide)) (fun _ => ?_)
  refine X_aload_n rfl dX11_init_209 ?_
  refine X_getr (q := 42) (by simp (disch := omega) only [u2_self, u2_nk, u2_off]) fl_11_58 rfl (tk (by decide) sh_0) dX11_init_210 ?_
  refine X_iload_n rfl dX11_init_213 ?_
  refine XT_new (n := 86) (ci := 7) sh_86 ⟨(RX7, TX7, 7), rfl, (tsI (inT2 _ (List.mem_of_getElem? (i := 41) rfl)) rfl), (tsI (inT2 _ (List.mem_of_getElem? (i := 43) rfl)) rfl), (tsI (inT1 _ (List.mem_of_getElem? (i := 9) rfl)) rfl)⟩ (by decide) (fun k => ?_) (by decide) (by decide) dX11_init_214 ?_
  · have hb := hz 86 (by omega) (by omega) k
    exact ⟨by (try simp (disch := omega) only [u2_off]); exact hb.1, by (try simp (disch := omega) only [u2_off]); exact hb.2.1, by (try simp (disch := omega) only [u2_off]); exact hb.2.2⟩
  refine X_dup rfl dX11_init_217 ?_
  refine X_callIN (al' := (true, true)) (mj := mX7_init) (d' := d + 1) (mc' := 1) (ms' := 576) (fun z => z) (fun z => z) mjX7_init (inT2 _ (List.mem_of_getElem? (i := 44) rfl)) (tsI (inT2 _ (List.mem_of_getElem? (i := 45) rfl)) rfl) rfl rfl (Nat.le_of_ble_eq_true rfl) (by omega) (by decide) (by decide) dX11_init_218 ?_
  refine ct_X7_init (o := 86) (n := 87) (by decide) sh_86 sh_87 ?_ ?_
  · intro j h1 h2 k
    have hb := hz j (by omega) (by omega) k
    exact ⟨by (try simp (disch := omega) only [u2_off]); exact hb.1, by (try simp (disch := omega) only [u2_off]); exact hb.2.1, by (try simp (disch := omega) only [u2_off]); exact hb.2.2⟩
  refine X_aast (r := (RX7, TX7, 7)) (tk (by decide) sh_42) (tk (by decide) sh_86) rfl (by unfold vp_in; decide) rfl dX11_init_221 ?_
  refine X_iinc rfl (by decide) dX11_init_222 ?_
  refine X_goto (tgt := 203) dX11_init_225 rfl ?_
  refine X_iload_n rfl dX11_init_203 ?_
  refine X_bipush dX11_init_204 ?_
  refine X_icmp_ge (tgt := 228) dX11_init_206 rfl (fun z => absurd z (by decide)) (fun _ => ?_)
  refine X_aload_n rfl dX11_init_209 ?_
  refine X_getr (q := 42) (by simp (disch := omega) only [u2_self, u2_nk, u2_off]) fl_11_58 rfl (tk (by decide) sh_0) dX11_init_210 ?_
  refine X_iload_n rfl dX11_init_213 ?_
  refine XT_new (n := 88) (ci := 7) sh_88 ⟨(RX7, TX7, 7), rfl, (tsI (inT2 _ (List.mem_of_getElem? (i := 41) rfl)) rfl), (tsI (inT2 _ (List.mem_of_getElem? (i := 43) rfl)) rfl), (tsI (inT1 _ (List.mem_of_getElem? (i := 9) rfl)) rfl)⟩ (by decide) (fun k => ?_) (by decide) (by decide) dX11_init_214 ?_
  · have hb := hz 88 (by omega) (by omega) k
    exact ⟨by (try simp (disch := omega) only [u2_off]); exact hb.1, by (try simp (disch := omega) only [u2_off]); exact hb.2.1, by (try simp (disch := omega) only [u2_off]); exact hb.2.2⟩
  refine X_dup rfl dX11_init_217 ?_
  refine X_callIN (al' := (true, true)) (mj := mX7_init) (d' := d + 1) (mc' := 1) (ms' := 576) (fun z => z) (fun z => z) mjX7_init (inT2 _ (List.mem_of_getElem? (i := 44) rfl)) (tsI (inT2 _ (List.mem_of_getElem? (i := 45) rfl)) rfl) rfl rfl (Nat.le_of_ble_eq_true rfl) (by omega) (by decide) (by decide) dX11_init_218 ?_
  refine ct_X7_init (o := 88) (n := 89) (by decide) sh_88 sh_89 ?_ ?_
  · intro j h1 h2 k
    have hb := hz j (by omega) (by omega) k
    exact ⟨by (try simp (disch := omega) only [u2_off]); exact hb.1, by (try simp (disch := omega) only [u2_off]); exact hb.2.1, by (try simp (disch := omega) only [u2_off]); exact hb.2.2⟩
  refine X_aast (r := (RX7, TX7, 7)) (tk (by decide) sh_42) (tk (by decide) sh_88) rfl (by unfold vp_in; decide) rfl dX11_init_221 ?_
  refine X_iinc rfl (by decide) dX11_init_222 ?_
  refine X_goto (tgt := 203) dX11_init_225 rfl ?_
  refine X_iload_n rfl dX11_init_203 ?_
  refine X_bipush dX11_init_204 ?_
  refine X_icmp_ge (tgt := 228) dX11_init_206 rfl (fun z => absurd z (by decide)) (fun _ => ?_)
  refine X_aload_n rfl dX11_init_209 ?_
  refine X_getr (q := 42) (by simp (disch := omega) only [u2_self, u2_nk, u2_off]) fl_11_58 rfl (tk (by decide) sh_0) dX11_init_210 ?_
  refine X_iload_n rfl dX11_init_213 ?_
  refine XT_new (n := 90) (ci := 7) sh_90 ⟨(RX7, TX7, 7), rfl, (tsI (inT2 _ (List.mem_of_getElem? (i := 41) rfl)) rfl), (tsI (inT2 _ (List.mem_of_getElem? (i := 43) rfl)) rfl), (tsI (inT1 _ (List.mem_of_getElem? (i := 9) rfl)) rfl)⟩ (by decide) (fun k => ?_) (by decide) (by decide) dX11_init_214 ?_
  · have hb := hz 90 (by omega) (by omega) k
    exact ⟨by (try simp (disch := omega) only [u2_off]); exact hb.1, by (try simp (disch := omega) only [u2_off]); exact hb.2.1, by (try simp (disch := omega) only [u2_off]); exact hb.2.2⟩
  refine X_dup rfl dX11_init_217 ?_
  refine X_callIN (al' := (true, true)) (mj := mX7_init) (d' := d + 1) (mc' := 1) (ms' := 576) (fun z => z) (fun z => z) mjX7_init (inT2 _ (List.mem_of_getElem? (i := 44) rfl)) (tsI (inT2 _ (List.mem_of_getElem? (i := 45) rfl)) rfl) rfl rfl (Nat.le_of_ble_eq_true rfl) (by omega) (by decide) (by decide) dX11_init_218 ?_
  refine ct_X7_init (o := 90) (n := 91) (by decide) sh_90 sh_91 ?_ ?_
  · intro j h1 h2 k
    have hb := hz j (by omega) (by omega) k
    exact ⟨by (try simp (disch := omega) only [u2_off]); exact hb.1, by (try simp (disch := omega) only [u2_off]); exact hb.2.1, by (try simp (disch := omega) only [u2_off]); exact hb.2.2⟩
  refine X_aast (r := (RX7, TX7, 7)) (tk (by decide) sh_42) (tk (by decide) sh_90) rfl (by unfold vp_in; decide) rfl dX11_init_221 ?_
  refine X_iinc rfl (by decide) dX11_init_222 ?_
  refine X_goto (tgt := 203) dX11_init_225 rfl ?_
  refine X_iload_n rfl dX11_init_203 ?_
  refine X_bipush dX11_init_204 ?_
  refine X_icmp_ge (tgt := 228) dX11_init_206 rfl (fun _ => ?_) (fun z => absurd z (by decide))
  exact X_vret (st := []) rfl (by decide) (by decide) (fun _ => ⟨rfl, rfl⟩) dX11_init_228 hq
