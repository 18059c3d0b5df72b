/-! the cells that the law makes, in their order -/
def S0 : List Shp := [.inl 11, .inr (.char, 1000), .inl 0, .inr (.int, 6), .inr (.int, 48), .inr (.int, 6), .inr (.int, 6), .inr (.int, 576), .inr (.int, 6), .inr (.int, 6), .inr (.int, 6), .inl 3, .inr (.int, 1000), .inr (.int, 64), .inl 0, .inr (.int, 6), .inr (.int, 48), .inr (.int, 6), .inr (.int, 6), .inr (.int, 576), .inr (.int, 6), .inr (.int, 6), .inr (.int, 6), .inl 3, .inr (.int, 1000), .inr (.int, 64), .inl 5, .inl 10, .inr (.int, 1001), .inr (.int, 1001), .inr (.long, 1001), .inr (.long, 18), .inr (.long, 6), .inl 1, .inr (.int, 6), .inr (.int, 6), .inr (.int, 36), .inr (.int, 6), .inl 4, .inr (.int, 20), .inr (.object "DanceWine$Evening", 4), .inr (.boolean, 4), .inr (.object "DanceWine$Routine", 6), .inr (.boolean, 6), .inl 7, .inr (.int, 576), .inr (.int, 1), .inr (.int, 6), .inl 8, .inr (.int, 6), .inr (.int, 6), .inr (.boolean, 576), .inr (.short, 9216), .inr (.int, 256), .inl 2, .inr (.int, 6), .inl 9, .inr (.int, 6), .inl 6, .inr (.int, 36), .inl 1, .inr (.int, 6), .inr (.int, 6), .inr (.int, 36), .inr (.int, 6), .inl 1, .inr (.int, 6), .inr (.int, 6), .inr (.int, 36), .inr (.int, 6), .inl 1, .inr (.int, 6), .inr (.int, 6), .inr (.int, 36), .inr (.int, 6), .inl 1, .inr (.int, 6), .inr (.int, 6), .inr (.int, 36), .inr (.int, 6), .inl 7, .inr (.int, 576), .inl 7, .inr (.int, 576), .inl 7, .inr (.int, 576), .inl 7, .inr (.int, 576), .inl 7, .inr (.int, 576), .inl 7, .inr (.int, 576), .inl 12, .inr (.int, 1000), .inr (.int, 1002), .inr (.int, 1002), .inr (.long, 1002), .inr (.long, 28), .inr (.int, 408), .inr (.int, 2200), .inr (.int, 2200), .inr (.long, 18), .inr (.int, 18), .inr (.int, 4), .inr (.int, 4), .inr (.int, 1100), .inr (.int, 1400), .inr (.boolean, 4), .inr (.int, 600), .inr (.int, 6), .inr (.int, 6), .inr (.int, 6), .inr (.int, 3600), .inr (.int, 6), .inr (.int, 6), .inr (.int, 6), .inr (.long, 1)]
def srT : List (List (Option Nat)) := [[some 1, none, none, none, some 26, some 33, some 38, some 40, some 41, some 42, some 43, some 44, some 46, some 47, some 48, some 54, some 56, some 58], [], [none, none, none, none, none, some 3, some 4, none, some 5, some 6, some 7, none, some 8, some 9, some 10, some 11], [], [], [], [], [], [], [], [], [some 12, none, some 13], [], [], [none, none, none, none, none, some 15, some 16, none, some 17, some 18, some 19, none, some 20, some 21, some 22, some 23], [], [], [], [], [], [], [], [], [some 24, none, some 25], [], [], [some 27, none, none, none, some 31, none, some 32], [some 28, some 29, some 30], [], [], [], [], [], [some 34, some 35, some 36, some 37], [], [], [], [], [some 39], [], [some 60, some 65, some 70, some 75], [], [some 80, some 82, some 84, some 86, some 88, some 90], [], [some 45], [], [], [], [some 49, none, none, none, none, none, none, none, some 50, some 51, some 52, some 53], [], [], [], [], [], [some 55], [], [none, none, none, none, none, some 57], [], [none, none, none, none, none, none, some 59], [], [some 61, some 62, some 63, some 64], [], [], [], [], [some 66, some 67, some 68, some 69], [], [], [], [], [some 71, some 72, some 73, some 74], [], [], [], [], [some 76, some 77, some 78, some 79], [], [], [], [], [some 81], [], [some 83], [], [some 85], [], [some 87], [], [some 89], [], [some 91], [], [none, some 93, none, none, some 94, some 95, some 96, none, none, some 97, some 98, some 99, some 100, none, some 101, some 102, none, none, some 103, some 104, some 105, some 106, none, some 107, some 108, none, none, some 109, none, none, none, some 110, some 111, none, some 112, some 113, some 114, none, some 115], [], [], [], [], [], [], [], [], [], [], [], [], [], [], [], [], [], [], [], [], [], [], [], []]
def sr0 : Sr := fun o k => (srT.getD o []).getD k none
def flT : List (List (Nat × Nat × Nat)) := [[(9, 0, 0), (15, 0, 1), (18, 0, 2), (22, 0, 3), (25, 0, 4), (28, 0, 5), (32, 0, 6), (35, 0, 7), (38, 0, 8), (41, 0, 9), (44, 0, 10), (47, 0, 11), (50, 0, 12), (53, 0, 13), (56, 0, 14), (62, 0, 15)], [(9, 1, 0), (15, 1, 1), (18, 1, 2), (21, 1, 3), (30, 0, 8), (35, 0, 7)], [(9, 2, 0), (15, 2, 1), (19, 2, 2), (23, 0, 11), (28, 0, 13), (31, 7, 1), (46, 7, 0), (49, 0, 2), (56, 0, 12)], [(9, 3, 0), (15, 3, 1), (19, 3, 2), (22, 3, 3), (25, 3, 4), (28, 3, 5), (31, 10, 3), (36, 10, 0), (46, 10, 2)], [(9, 4, 0), (15, 4, 1)], [(12, 5, 0), (18, 5, 1), (22, 5, 2), (26, 5, 3), (29, 5, 4), (33, 5, 5), (36, 5, 6), (39, 5, 7), (43, 5, 8), (47, 5, 9), (50, 5, 10), (53, 5, 11), (76, 10, 3), (79, 10, 0), (88, 10, 1), (98, 0, 0), (101, 0, 1), (113, 0, 4), (119, 0, 7), (125, 0, 11), (134, 0, 3), (137, 0, 2), (146, 0, 5), (152, 0, 6), (155, 0, 8), (158, 0, 9), (171, 10, 2), (178, 0, 10), (190, 0, 12), (193, 0, 13), (196, 0, 14), (199, 0, 15), (209, 3, 5)], [(9, 6, 0), (15, 6, 1), (18, 6, 2), (21, 6, 3), (24, 6, 4), (28, 6, 5), (32, 6, 6), (41, 0, 13), (46, 0, 11), (63, 0, 12), (66, 0, 2)], [(9, 7, 0), (15, 7, 1), (19, 7, 2), (22, 7, 3), (25, 7, 4), (29, 7, 5), (32, 7, 6), (35, 0, 12), (39, 0, 13), (49, 0, 9), (62, 0, 10), (65, 0, 2), (72, 0, 5), (75, 0, 6)], [(9, 8, 0), (15, 8, 1), (19, 8, 2), (22, 8, 3), (26, 8, 4), (29, 8, 5), (32, 8, 6), (36, 8, 7), (39, 8, 8), (42, 8, 9), (46, 8, 10), (50, 8, 11), (53, 0, 7), (58, 0, 12), (93, 0, 9), (103, 0, 13), (114, 0, 10), (117, 0, 2)], [(9, 9, 0), (15, 9, 1), (19, 9, 2), (22, 9, 3), (26, 9, 4), (30, 9, 5), (34, 9, 6), (41, 0, 11), (54, 0, 13), (63, 0, 3)], [(9, 10, 0), (15, 10, 1), (18, 10, 2), (22, 10, 3)], [(9, 11, 0), (13, 11, 1), (20, 11, 2), (24, 11, 3), (30, 11, 4), (37, 11, 5), (44, 11, 6), (48, 11, 7), (52, 11, 8), (58, 11, 9), (62, 11, 10), (66, 11, 11), (70, 11, 12), (74, 11, 13), (80, 11, 14), (87, 11, 15), (94, 11, 16), (101, 11, 17), (127, 0, 9), (130, 0, 10), (133, 1, 0), (139, 0, 12), (142, 0, 13), (145, 0, 14), (148, 1, 1), (155, 7, 1), (158, 1, 2), (177, 4, 1), (194, 7, 3), (197, 7, 2), (207, 2, 1), (210, 2, 0), (220, 8, 0), (223, 0, 11), (244, 9, 1), (247, 9, 2), (258, 8, 2), (261, 8, 1), (282, 1, 3), (291, 6, 0), (292, 6, 1), (299, 0, 0), (302, 0, 1), (305, 0, 4), (308, 0, 7), (314, 0, 3), (320, 9, 0), (324, 8, 3)], [(1, 12, 0), (11, 12, 2), (14, 12, 1), (24, 12, 4), (27, 12, 5), (30, 12, 6), (90, 12, 9), (93, 12, 10), (96, 12, 11), (99, 12, 12), (102, 12, 14), (105, 12, 15), (108, 12, 18), (111, 12, 19), (114, 12, 20), (117, 12, 21), (120, 12, 23), (124, 12, 24), (127, 12, 27), (130, 12, 31), (133, 12, 32), (136, 12, 34), (139, 12, 35), (142, 12, 36), (145, 12, 38), (152, 12, 3), (171, 12, 7), (174, 12, 8), (197, 12, 16), (203, 12, 13), (206, 12, 17), (216, 12, 22), (302, 12, 25), (305, 12, 26), (328, 12, 30), (331, 12, 28), (337, 12, 29), (377, 12, 33), (395, 12, 37), (414, 12, 39), (417, 12, 40), (423, 12, 41), (426, 12, 42)], [], [], [], []]
def lk {α : Type} : List (Nat × α) → Nat → Option α
  | [], _ => none
  | q :: r, i => if q.1 = i then some q.2 else lk r i
theorem lk_mem {α : Type} {l : List (Nat × α)} {i : Nat} {v : α} (h : lk l i = some v) : (i, v) ∈ l := by
  induction l with
  | nil => cases h
  | cons q r ih =>
    unfold lk at h
    by_cases hq : q.1 = i
    · rw [if_pos hq] at h
      cases h
      rw [← hq]
      exact List.mem_cons_self
    · rw [if_neg hq] at h
      exact List.mem_cons_of_mem _ (ih h)
def fl (oc idx : Nat) : Option (Nat × Nat) := lk (flT.getD oc []) idx
def Tn (ci k : Nat) : String × String × String × Bool := match vwCl[ci]? with
  | some q => q.2.1 k
  | none => ("", "", "", true)
def flok (oc : Nat) (e : Nat × Nat × Nat) : Prop := FLok oc e.1 e.2.1 e.2.2
theorem flok_of {oc idx ci k : Nat} {q : vw_C} (h1 : vwCl[ci]? = some q) (h2 : k < q.2.2) (h3 : Cond.fieldLink (rn oc) idx (q.2.1 k).1 (q.2.1 k).2.1 (q.2.1 k).2.2.1 ∈ lw_tbl) : flok oc (idx, ci, k) := ⟨q, h1, h2, tsI h3 rfl⟩
theorem fl_0_9 : flok 0 (9, 0, 0) := flok_of (q := (RX0, TX0, 16)) rfl (by decide) (inT1 _ (List.mem_of_getElem? (i := 68) rfl))
theorem fl_0_15 : flok 0 (15, 0, 1) := flok_of (q := (RX0, TX0, 16)) rfl (by decide) (inT1 _ (List.mem_of_getElem? (i := 71) rfl))
theorem fl_0_18 : flok 0 (18, 0, 2) := flok_of (q := (RX0, TX0, 16)) rfl (by decide) (inT1 _ (List.mem_of_getElem? (i := 74) rfl))
theorem fl_0_22 : flok 0 (22, 0, 3) := flok_of (q := (RX0, TX0, 16)) rfl (by decide) (inT1 _ (List.mem_of_getElem? (i := 80) rfl))
theorem fl_0_25 : flok 0 (25, 0, 4) := flok_of (q := (RX0, TX0, 16)) rfl (by decide) (inT1 _ (List.mem_of_getElem? (i := 84) rfl))
theorem fl_0_28 : flok 0 (28, 0, 5) := flok_of (q := (RX0, TX0, 16)) rfl (by decide) (inT1 _ (List.mem_of_getElem? (i := 87) rfl))
theorem fl_0_32 : flok 0 (32, 0, 6) := flok_of (q := (RX0, TX0, 16)) rfl (by decide) (inT1 _ (List.mem_of_getElem? (i := 90) rfl))
theorem fl_0_35 : flok 0 (35, 0, 7) := flok_of (q := (RX0, TX0, 16)) rfl (by decide) (inT1 _ (List.mem_of_getElem? (i := 93) rfl))
theorem fl_0_38 : flok 0 (38, 0, 8) := flok_of (q := (RX0, TX0, 16)) rfl (by decide) (inT1 _ (List.mem_of_getElem? (i := 98) rfl))
theorem fl_0_41 : flok 0 (41, 0, 9) := flok_of (q := (RX0, TX0, 16)) rfl (by decide) (inT1 _ (List.mem_of_getElem? (i := 101) rfl))
theorem fl_0_44 : flok 0 (44, 0, 10) := flok_of (q := (RX0, TX0, 16)) rfl (by decide) (inT1 _ (List.mem_of_getElem? (i := 106) rfl))
theorem fl_0_47 : flok 0 (47, 0, 11) := flok_of (q := (RX0, TX0, 16)) rfl (by decide) (inT1 _ (List.mem_of_getElem? (i := 111) rfl))
theorem fl_0_50 : flok 0 (50, 0, 12) := flok_of (q := (RX0, TX0, 16)) rfl (by decide) (inT1 _ (List.mem_of_getElem? (i := 117) rfl))
theorem fl_0_53 : flok 0 (53, 0, 13) := flok_of (q := (RX0, TX0, 16)) rfl (by decide) (inT1 _ (List.mem_of_getElem? (i := 124) rfl))
theorem fl_0_56 : flok 0 (56, 0, 14) := flok_of (q := (RX0, TX0, 16)) rfl (by decide) (inT1 _ (List.mem_of_getElem? (i := 132) rfl))
theorem fl_0_62 : flok 0 (62, 0, 15) := flok_of (q := (RX0, TX0, 16)) rfl (by decide) (inT1 _ (List.mem_of_getElem? (i := 135) rfl))
theorem fla_0 : ∀ e ∈ flT.getD 0 [], flok 0 e := List.forall_mem_cons.mpr ⟨fl_0_9, List.forall_mem_cons.mpr ⟨fl_0_15, List.forall_mem_cons.mpr ⟨fl_0_18, List.forall_mem_cons.mpr ⟨fl_0_22, List.forall_mem_cons.mpr ⟨fl_0_25, List.forall_mem_cons.mpr ⟨fl_0_28, List.forall_mem_cons.mpr ⟨fl_0_32, List.forall_mem_cons.mpr ⟨fl_0_35, List.forall_mem_cons.mpr ⟨fl_0_38, List.forall_mem_cons.mpr ⟨fl_0_41, List.forall_mem_cons.mpr ⟨fl_0_44, List.forall_mem_cons.mpr ⟨fl_0_47, List.forall_mem_cons.mpr ⟨fl_0_50, List.forall_mem_cons.mpr ⟨fl_0_53, List.forall_mem_cons.mpr ⟨fl_0_56, List.forall_mem_cons.mpr ⟨fl_0_62, fun _ h => absurd h List.not_mem_nil⟩⟩⟩⟩⟩⟩⟩⟩⟩⟩⟩⟩⟩⟩⟩⟩
theorem fl_1_9 : flok 1 (9, 1, 0) := flok_of (q := (RX1, TX1, 4)) rfl (by decide) (inT2 _ (List.mem_of_getElem? (i := 9) rfl))
theorem fl_1_15 : flok 1 (15, 1, 1) := flok_of (q := (RX1, TX1, 4)) rfl (by decide) (inT2 _ (List.mem_of_getElem? (i := 11) rfl))
theorem fl_1_18 : flok 1 (18, 1, 2) := flok_of (q := (RX1, TX1, 4)) rfl (by decide) (inT2 _ (List.mem_of_getElem? (i := 13) rfl))
theorem fl_1_21 : flok 1 (21, 1, 3) := flok_of (q := (RX1, TX1, 4)) rfl (by decide) (inT2 _ (List.mem_of_getElem? (i := 15) rfl))
theorem fl_1_30 : flok 1 (30, 0, 8) := flok_of (q := (RX0, TX0, 16)) rfl (by decide) (inT1 _ (List.mem_of_getElem? (i := 99) rfl))
theorem fl_1_35 : flok 1 (35, 0, 7) := flok_of (q := (RX0, TX0, 16)) rfl (by decide) (inT1 _ (List.mem_of_getElem? (i := 94) rfl))
theorem fla_1 : ∀ e ∈ flT.getD 1 [], flok 1 e := List.forall_mem_cons.mpr ⟨fl_1_9, List.forall_mem_cons.mpr ⟨fl_1_15, List.forall_mem_cons.mpr ⟨fl_1_18, List.forall_mem_cons.mpr ⟨fl_1_21, List.forall_mem_cons.mpr ⟨fl_1_30, List.forall_mem_cons.mpr ⟨fl_1_35, fun _ h => absurd h List.not_mem_nil⟩⟩⟩⟩⟩⟩
theorem fl_2_9 : flok 2 (9, 2, 0) := flok_of (q := (RX2, TX2, 3)) rfl (by decide) (inT2 _ (List.mem_of_getElem? (i := 130) rfl))
theorem fl_2_15 : flok 2 (15, 2, 1) := flok_of (q := (RX2, TX2, 3)) rfl (by decide) (inT2 _ (List.mem_of_getElem? (i := 132) rfl))
theorem fl_2_19 : flok 2 (19, 2, 2) := flok_of (q := (RX2, TX2, 3)) rfl (by decide) (inT2 _ (List.mem_of_getElem? (i := 134) rfl))
theorem fl_2_23 : flok 2 (23, 0, 11) := flok_of (q := (RX0, TX0, 16)) rfl (by decide) (inT1 _ (List.mem_of_getElem? (i := 112) rfl))
theorem fl_2_28 : flok 2 (28, 0, 13) := flok_of (q := (RX0, TX0, 16)) rfl (by decide) (inT1 _ (List.mem_of_getElem? (i := 126) rfl))
theorem fl_2_31 : flok 2 (31, 7, 1) := flok_of (q := (RX7, TX7, 7)) rfl (by decide) (inT2 _ (List.mem_of_getElem? (i := 51) rfl))
theorem fl_2_46 : flok 2 (46, 7, 0) := flok_of (q := (RX7, TX7, 7)) rfl (by decide) (inT2 _ (List.mem_of_getElem? (i := 49) rfl))
theorem fl_2_49 : flok 2 (49, 0, 2) := flok_of (q := (RX0, TX0, 16)) rfl (by decide) (inT1 _ (List.mem_of_getElem? (i := 75) rfl))
theorem fl_2_56 : flok 2 (56, 0, 12) := flok_of (q := (RX0, TX0, 16)) rfl (by decide) (inT1 _ (List.mem_of_getElem? (i := 120) rfl))
theorem fla_2 : ∀ e ∈ flT.getD 2 [], flok 2 e := List.forall_mem_cons.mpr ⟨fl_2_9, List.forall_mem_cons.mpr ⟨fl_2_15, List.forall_mem_cons.mpr ⟨fl_2_19, List.forall_mem_cons.mpr ⟨fl_2_23, List.forall_mem_cons.mpr ⟨fl_2_28, List.forall_mem_cons.mpr ⟨fl_2_31, List.forall_mem_cons.mpr ⟨fl_2_46, List.forall_mem_cons.mpr ⟨fl_2_49, List.forall_mem_cons.mpr ⟨fl_2_56, fun _ h => absurd h List.not_mem_nil⟩⟩⟩⟩⟩⟩⟩⟩⟩
theorem fl_3_9 : flok 3 (9, 3, 0) := flok_of (q := (RX3, TX3, 6)) rfl (by decide) (inT1 _ (List.mem_of_getElem? (i := 46) rfl))
theorem fl_3_15 : flok 3 (15, 3, 1) := flok_of (q := (RX3, TX3, 6)) rfl (by decide) (inT1 _ (List.mem_of_getElem? (i := 47) rfl))
theorem fl_3_19 : flok 3 (19, 3, 2) := flok_of (q := (RX3, TX3, 6)) rfl (by decide) (inT1 _ (List.mem_of_getElem? (i := 48) rfl))
theorem fl_3_22 : flok 3 (22, 3, 3) := flok_of (q := (RX3, TX3, 6)) rfl (by decide) (inT1 _ (List.mem_of_getElem? (i := 49) rfl))
theorem fl_3_25 : flok 3 (25, 3, 4) := flok_of (q := (RX3, TX3, 6)) rfl (by decide) (inT1 _ (List.mem_of_getElem? (i := 50) rfl))
theorem fl_3_28 : flok 3 (28, 3, 5) := flok_of (q := (RX3, TX3, 6)) rfl (by decide) (inT1 _ (List.mem_of_getElem? (i := 51) rfl))
theorem fl_3_31 : flok 3 (31, 10, 3) := flok_of (q := (RX10, TX10, 4)) rfl (by decide) (inT1 _ (List.mem_of_getElem? (i := 192) rfl))
theorem fl_3_36 : flok 3 (36, 10, 0) := flok_of (q := (RX10, TX10, 4)) rfl (by decide) (inT1 _ (List.mem_of_getElem? (i := 184) rfl))
theorem fl_3_46 : flok 3 (46, 10, 2) := flok_of (q := (RX10, TX10, 4)) rfl (by decide) (inT1 _ (List.mem_of_getElem? (i := 188) rfl))
theorem fla_3 : ∀ e ∈ flT.getD 3 [], flok 3 e := List.forall_mem_cons.mpr ⟨fl_3_9, List.forall_mem_cons.mpr ⟨fl_3_15, List.forall_mem_cons.mpr ⟨fl_3_19, List.forall_mem_cons.mpr ⟨fl_3_22, List.forall_mem_cons.mpr ⟨fl_3_25, List.forall_mem_cons.mpr ⟨fl_3_28, List.forall_mem_cons.mpr ⟨fl_3_31, List.forall_mem_cons.mpr ⟨fl_3_36, List.forall_mem_cons.mpr ⟨fl_3_46, fun _ h => absurd h List.not_mem_nil⟩⟩⟩⟩⟩⟩⟩⟩⟩
theorem fl_4_9 : flok 4 (9, 4, 0) := flok_of (q := (RX4, TX4, 2)) rfl (by decide) (inT2 _ (List.mem_of_getElem? (i := 32) rfl))
theorem fl_4_15 : flok 4 (15, 4, 1) := flok_of (q := (RX4, TX4, 2)) rfl (by decide) (inT2 _ (List.mem_of_getElem? (i := 33) rfl))
theorem fla_4 : ∀ e ∈ flT.getD 4 [], flok 4 e := List.forall_mem_cons.mpr ⟨fl_4_9, List.forall_mem_cons.mpr ⟨fl_4_15, fun _ h => absurd h List.not_mem_nil⟩⟩
theorem fl_5_12 : flok 5 (12, 5, 0) := flok_of (q := (RX5, TX5, 12)) rfl (by decide) (inT1 _ (List.mem_of_getElem? (i := 203) rfl))
theorem fl_5_18 : flok 5 (18, 5, 1) := flok_of (q := (RX5, TX5, 12)) rfl (by decide) (inT1 _ (List.mem_of_getElem? (i := 204) rfl))
theorem fl_5_22 : flok 5 (22, 5, 2) := flok_of (q := (RX5, TX5, 12)) rfl (by decide) (inT1 _ (List.mem_of_getElem? (i := 205) rfl))
theorem fl_5_26 : flok 5 (26, 5, 3) := flok_of (q := (RX5, TX5, 12)) rfl (by decide) (inT1 _ (List.mem_of_getElem? (i := 206) rfl))
theorem fl_5_29 : flok 5 (29, 5, 4) := flok_of (q := (RX5, TX5, 12)) rfl (by decide) (inT1 _ (List.mem_of_getElem? (i := 207) rfl))
theorem fl_5_33 : flok 5 (33, 5, 5) := flok_of (q := (RX5, TX5, 12)) rfl (by decide) (inT1 _ (List.mem_of_getElem? (i := 208) rfl))
theorem fl_5_36 : flok 5 (36, 5, 6) := flok_of (q := (RX5, TX5, 12)) rfl (by decide) (inT1 _ (List.mem_of_getElem? (i := 209) rfl))
theorem fl_5_39 : flok 5 (39, 5, 7) := flok_of (q := (RX5, TX5, 12)) rfl (by decide) (inT1 _ (List.mem_of_getElem? (i := 210) rfl))
theorem fl_5_43 : flok 5 (43, 5, 8) := flok_of (q := (RX5, TX5, 12)) rfl (by decide) (inT1 _ (List.mem_of_getElem? (i := 211) rfl))
theorem fl_5_47 : flok 5 (47, 5, 9) := flok_of (q := (RX5, TX5, 12)) rfl (by decide) (inT1 _ (List.mem_of_getElem? (i := 212) rfl))
theorem fl_5_50 : flok 5 (50, 5, 10) := flok_of (q := (RX5, TX5, 12)) rfl (by decide) (inT1 _ (List.mem_of_getElem? (i := 213) rfl))
theorem fl_5_53 : flok 5 (53, 5, 11) := flok_of (q := (RX5, TX5, 12)) rfl (by decide) (inT1 _ (List.mem_of_getElem? (i := 214) rfl))
theorem fl_5_76 : flok 5 (76, 10, 3) := flok_of (q := (RX10, TX10, 4)) rfl (by decide) (inT1 _ (List.mem_of_getElem? (i := 191) rfl))
theorem fl_5_79 : flok 5 (79, 10, 0) := flok_of (q := (RX10, TX10, 4)) rfl (by decide) (inT1 _ (List.mem_of_getElem? (i := 183) rfl))
theorem fl_5_88 : flok 5 (88, 10, 1) := flok_of (q := (RX10, TX10, 4)) rfl (by decide) (inT1 _ (List.mem_of_getElem? (i := 186) rfl))
theorem fl_5_98 : flok 5 (98, 0, 0) := flok_of (q := (RX0, TX0, 16)) rfl (by decide) (inT1 _ (List.mem_of_getElem? (i := 69) rfl))
theorem fl_5_101 : flok 5 (101, 0, 1) := flok_of (q := (RX0, TX0, 16)) rfl (by decide) (inT1 _ (List.mem_of_getElem? (i := 72) rfl))
theorem fl_5_113 : flok 5 (113, 0, 4) := flok_of (q := (RX0, TX0, 16)) rfl (by decide) (inT1 _ (List.mem_of_getElem? (i := 85) rfl))
theorem fl_5_119 : flok 5 (119, 0, 7) := flok_of (q := (RX0, TX0, 16)) rfl (by decide) (inT1 _ (List.mem_of_getElem? (i := 96) rfl))
theorem fl_5_125 : flok 5 (125, 0, 11) := flok_of (q := (RX0, TX0, 16)) rfl (by decide) (inT1 _ (List.mem_of_getElem? (i := 115) rfl))
theorem fl_5_134 : flok 5 (134, 0, 3) := flok_of (q := (RX0, TX0, 16)) rfl (by decide) (inT1 _ (List.mem_of_getElem? (i := 82) rfl))
theorem fl_5_137 : flok 5 (137, 0, 2) := flok_of (q := (RX0, TX0, 16)) rfl (by decide) (inT1 _ (List.mem_of_getElem? (i := 78) rfl))
theorem fl_5_146 : flok 5 (146, 0, 5) := flok_of (q := (RX0, TX0, 16)) rfl (by decide) (inT1 _ (List.mem_of_getElem? (i := 89) rfl))
theorem fl_5_152 : flok 5 (152, 0, 6) := flok_of (q := (RX0, TX0, 16)) rfl (by decide) (inT1 _ (List.mem_of_getElem? (i := 92) rfl))
theorem fl_5_155 : flok 5 (155, 0, 8) := flok_of (q := (RX0, TX0, 16)) rfl (by decide) (inT1 _ (List.mem_of_getElem? (i := 100) rfl))
theorem fl_5_158 : flok 5 (158, 0, 9) := flok_of (q := (RX0, TX0, 16)) rfl (by decide) (inT1 _ (List.mem_of_getElem? (i := 105) rfl))
theorem fl_5_171 : flok 5 (171, 10, 2) := flok_of (q := (RX10, TX10, 4)) rfl (by decide) (inT1 _ (List.mem_of_getElem? (i := 189) rfl))
theorem fl_5_178 : flok 5 (178, 0, 10) := flok_of (q := (RX0, TX0, 16)) rfl (by decide) (inT1 _ (List.mem_of_getElem? (i := 110) rfl))
theorem fl_5_190 : flok 5 (190, 0, 12) := flok_of (q := (RX0, TX0, 16)) rfl (by decide) (inT1 _ (List.mem_of_getElem? (i := 123) rfl))
theorem fl_5_193 : flok 5 (193, 0, 13) := flok_of (q := (RX0, TX0, 16)) rfl (by decide) (inT1 _ (List.mem_of_getElem? (i := 131) rfl))
theorem fl_5_196 : flok 5 (196, 0, 14) := flok_of (q := (RX0, TX0, 16)) rfl (by decide) (inT1 _ (List.mem_of_getElem? (i := 134) rfl))
theorem fl_5_199 : flok 5 (199, 0, 15) := flok_of (q := (RX0, TX0, 16)) rfl (by decide) (inT1 _ (List.mem_of_getElem? (i := 136) rfl))
theorem fl_5_209 : flok 5 (209, 3, 5) := flok_of (q := (RX3, TX3, 6)) rfl (by decide) (inT1 _ (List.mem_of_getElem? (i := 52) rfl))
theorem fla_5 : ∀ e ∈ flT.getD 5 [], flok 5 e := List.forall_mem_cons.mpr ⟨fl_5_12, List.forall_mem_cons.mpr ⟨fl_5_18, List.forall_mem_cons.mpr ⟨fl_5_22, List.forall_mem_cons.mpr ⟨fl_5_26, List.forall_mem_cons.mpr ⟨fl_5_29, List.forall_mem_cons.mpr ⟨fl_5_33, List.forall_mem_cons.mpr ⟨fl_5_36, List.forall_mem_cons.mpr ⟨fl_5_39, List.forall_mem_cons.mpr ⟨fl_5_43, List.forall_mem_cons.mpr ⟨fl_5_47, List.forall_mem_cons.mpr ⟨fl_5_50, List.forall_mem_cons.mpr ⟨fl_5_53, List.forall_mem_cons.mpr ⟨fl_5_76, List.forall_mem_cons.mpr ⟨fl_5_79, List.forall_mem_cons.mpr ⟨fl_5_88, List.forall_mem_cons.mpr ⟨fl_5_98, List.forall_mem_cons.mpr ⟨fl_5_101, List.forall_mem_cons.mpr ⟨fl_5_113, List.forall_mem_cons.mpr ⟨fl_5_119, List.forall_mem_cons.mpr ⟨fl_5_125, List.forall_mem_cons.mpr ⟨fl_5_134, List.forall_mem_cons.mpr ⟨fl_5_137, List.forall_mem_cons.mpr ⟨fl_5_146, List.forall_mem_cons.mpr ⟨fl_5_152, List.forall_mem_cons.mpr ⟨fl_5_155, List.forall_mem_cons.mpr ⟨fl_5_158, List.forall_mem_cons.mpr ⟨fl_5_171, List.forall_mem_cons.mpr ⟨fl_5_178, List.forall_mem_cons.mpr ⟨fl_5_190, List.forall_mem_cons.mpr ⟨fl_5_193, List.forall_mem_cons.mpr ⟨fl_5_196, List.forall_mem_cons.mpr ⟨fl_5_199, List.forall_mem_cons.mpr ⟨fl_5_209, fun _ h => absurd h List.not_mem_nil⟩⟩⟩⟩⟩⟩⟩⟩⟩⟩⟩⟩⟩⟩⟩⟩⟩⟩⟩⟩⟩⟩⟩⟩⟩⟩⟩⟩⟩⟩⟩⟩⟩
theorem fl_6_9 : flok 6 (9, 6, 0) := flok_of (q := (RX6, TX6, 7)) rfl (by decide) (inT2 _ (List.mem_of_getElem? (i := 179) rfl))
theorem fl_6_15 : flok 6 (15, 6, 1) := flok_of (q := (RX6, TX6, 7)) rfl (by decide) (inT2 _ (List.mem_of_getElem? (i := 181) rfl))
theorem fl_6_18 : flok 6 (18, 6, 2) := flok_of (q := (RX6, TX6, 7)) rfl (by decide) (inT2 _ (List.mem_of_getElem? (i := 183) rfl))
theorem fl_6_21 : flok 6 (21, 6, 3) := flok_of (q := (RX6, TX6, 7)) rfl (by decide) (inT2 _ (List.mem_of_getElem? (i := 184) rfl))
theorem fl_6_24 : flok 6 (24, 6, 4) := flok_of (q := (RX6, TX6, 7)) rfl (by decide) (inT2 _ (List.mem_of_getElem? (i := 185) rfl))
theorem fl_6_28 : flok 6 (28, 6, 5) := flok_of (q := (RX6, TX6, 7)) rfl (by decide) (inT2 _ (List.mem_of_getElem? (i := 186) rfl))
theorem fl_6_32 : flok 6 (32, 6, 6) := flok_of (q := (RX6, TX6, 7)) rfl (by decide) (inT2 _ (List.mem_of_getElem? (i := 187) rfl))
theorem fl_6_41 : flok 6 (41, 0, 13) := flok_of (q := (RX0, TX0, 16)) rfl (by decide) (inT1 _ (List.mem_of_getElem? (i := 127) rfl))
theorem fl_6_46 : flok 6 (46, 0, 11) := flok_of (q := (RX0, TX0, 16)) rfl (by decide) (inT1 _ (List.mem_of_getElem? (i := 113) rfl))
theorem fl_6_63 : flok 6 (63, 0, 12) := flok_of (q := (RX0, TX0, 16)) rfl (by decide) (inT1 _ (List.mem_of_getElem? (i := 121) rfl))
theorem fl_6_66 : flok 6 (66, 0, 2) := flok_of (q := (RX0, TX0, 16)) rfl (by decide) (inT1 _ (List.mem_of_getElem? (i := 76) rfl))
theorem fla_6 : ∀ e ∈ flT.getD 6 [], flok 6 e := List.forall_mem_cons.mpr ⟨fl_6_9, List.forall_mem_cons.mpr ⟨fl_6_15, List.forall_mem_cons.mpr ⟨fl_6_18, List.forall_mem_cons.mpr ⟨fl_6_21, List.forall_mem_cons.mpr ⟨fl_6_24, List.forall_mem_cons.mpr ⟨fl_6_28, List.forall_mem_cons.mpr ⟨fl_6_32, List.forall_mem_cons.mpr ⟨fl_6_41, List.forall_mem_cons.mpr ⟨fl_6_46, List.forall_mem_cons.mpr ⟨fl_6_63, List.forall_mem_cons.mpr ⟨fl_6_66, fun _ h => absurd h List.not_mem_nil⟩⟩⟩⟩⟩⟩⟩⟩⟩⟩⟩
theorem fl_7_9 : flok 7 (9, 7, 0) := flok_of (q := (RX7, TX7, 7)) rfl (by decide) (inT2 _ (List.mem_of_getElem? (i := 48) rfl))
theorem fl_7_15 : flok 7 (15, 7, 1) := flok_of (q := (RX7, TX7, 7)) rfl (by decide) (inT2 _ (List.mem_of_getElem? (i := 50) rfl))
theorem fl_7_19 : flok 7 (19, 7, 2) := flok_of (q := (RX7, TX7, 7)) rfl (by decide) (inT2 _ (List.mem_of_getElem? (i := 53) rfl))
theorem fl_7_22 : flok 7 (22, 7, 3) := flok_of (q := (RX7, TX7, 7)) rfl (by decide) (inT2 _ (List.mem_of_getElem? (i := 55) rfl))
theorem fl_7_25 : flok 7 (25, 7, 4) := flok_of (q := (RX7, TX7, 7)) rfl (by decide) (inT2 _ (List.mem_of_getElem? (i := 57) rfl))
theorem fl_7_29 : flok 7 (29, 7, 5) := flok_of (q := (RX7, TX7, 7)) rfl (by decide) (inT2 _ (List.mem_of_getElem? (i := 58) rfl))
theorem fl_7_32 : flok 7 (32, 7, 6) := flok_of (q := (RX7, TX7, 7)) rfl (by decide) (inT2 _ (List.mem_of_getElem? (i := 59) rfl))
theorem fl_7_35 : flok 7 (35, 0, 12) := flok_of (q := (RX0, TX0, 16)) rfl (by decide) (inT1 _ (List.mem_of_getElem? (i := 118) rfl))
theorem fl_7_39 : flok 7 (39, 0, 13) := flok_of (q := (RX0, TX0, 16)) rfl (by decide) (inT1 _ (List.mem_of_getElem? (i := 125) rfl))
theorem fl_7_49 : flok 7 (49, 0, 9) := flok_of (q := (RX0, TX0, 16)) rfl (by decide) (inT1 _ (List.mem_of_getElem? (i := 102) rfl))
theorem fl_7_62 : flok 7 (62, 0, 10) := flok_of (q := (RX0, TX0, 16)) rfl (by decide) (inT1 _ (List.mem_of_getElem? (i := 107) rfl))
theorem fl_7_65 : flok 7 (65, 0, 2) := flok_of (q := (RX0, TX0, 16)) rfl (by decide) (inT1 _ (List.mem_of_getElem? (i := 77) rfl))
theorem fl_7_72 : flok 7 (72, 0, 5) := flok_of (q := (RX0, TX0, 16)) rfl (by decide) (inT1 _ (List.mem_of_getElem? (i := 88) rfl))
theorem fl_7_75 : flok 7 (75, 0, 6) := flok_of (q := (RX0, TX0, 16)) rfl (by decide) (inT1 _ (List.mem_of_getElem? (i := 91) rfl))
theorem fla_7 : ∀ e ∈ flT.getD 7 [], flok 7 e := List.forall_mem_cons.mpr ⟨fl_7_9, List.forall_mem_cons.mpr ⟨fl_7_15, List.forall_mem_cons.mpr ⟨fl_7_19, List.forall_mem_cons.mpr ⟨fl_7_22, List.forall_mem_cons.mpr ⟨fl_7_25, List.forall_mem_cons.mpr ⟨fl_7_29, List.forall_mem_cons.mpr ⟨fl_7_32, List.forall_mem_cons.mpr ⟨fl_7_35, List.forall_mem_cons.mpr ⟨fl_7_39, List.forall_mem_cons.mpr ⟨fl_7_49, List.forall_mem_cons.mpr ⟨fl_7_62, List.forall_mem_cons.mpr ⟨fl_7_65, List.forall_mem_cons.mpr ⟨fl_7_72, List.forall_mem_cons.mpr ⟨fl_7_75, fun _ h => absurd h List.not_mem_nil⟩⟩⟩⟩⟩⟩⟩⟩⟩⟩⟩⟩⟩⟩
theorem fl_8_9 : flok 8 (9, 8, 0) := flok_of (q := (RX8, TX8, 12)) rfl (by decide) (inT2 _ (List.mem_of_getElem? (i := 82) rfl))
theorem fl_8_15 : flok 8 (15, 8, 1) := flok_of (q := (RX8, TX8, 12)) rfl (by decide) (inT2 _ (List.mem_of_getElem? (i := 84) rfl))
theorem fl_8_19 : flok 8 (19, 8, 2) := flok_of (q := (RX8, TX8, 12)) rfl (by decide) (inT2 _ (List.mem_of_getElem? (i := 86) rfl))
theorem fl_8_22 : flok 8 (22, 8, 3) := flok_of (q := (RX8, TX8, 12)) rfl (by decide) (inT2 _ (List.mem_of_getElem? (i := 88) rfl))
theorem fl_8_26 : flok 8 (26, 8, 4) := flok_of (q := (RX8, TX8, 12)) rfl (by decide) (inT2 _ (List.mem_of_getElem? (i := 90) rfl))
theorem fl_8_29 : flok 8 (29, 8, 5) := flok_of (q := (RX8, TX8, 12)) rfl (by decide) (inT2 _ (List.mem_of_getElem? (i := 91) rfl))
theorem fl_8_32 : flok 8 (32, 8, 6) := flok_of (q := (RX8, TX8, 12)) rfl (by decide) (inT2 _ (List.mem_of_getElem? (i := 92) rfl))
theorem fl_8_36 : flok 8 (36, 8, 7) := flok_of (q := (RX8, TX8, 12)) rfl (by decide) (inT2 _ (List.mem_of_getElem? (i := 93) rfl))
theorem fl_8_39 : flok 8 (39, 8, 8) := flok_of (q := (RX8, TX8, 12)) rfl (by decide) (inT2 _ (List.mem_of_getElem? (i := 94) rfl))
theorem fl_8_42 : flok 8 (42, 8, 9) := flok_of (q := (RX8, TX8, 12)) rfl (by decide) (inT2 _ (List.mem_of_getElem? (i := 95) rfl))
theorem fl_8_46 : flok 8 (46, 8, 10) := flok_of (q := (RX8, TX8, 12)) rfl (by decide) (inT2 _ (List.mem_of_getElem? (i := 96) rfl))
theorem fl_8_50 : flok 8 (50, 8, 11) := flok_of (q := (RX8, TX8, 12)) rfl (by decide) (inT2 _ (List.mem_of_getElem? (i := 97) rfl))
theorem fl_8_53 : flok 8 (53, 0, 7) := flok_of (q := (RX0, TX0, 16)) rfl (by decide) (inT1 _ (List.mem_of_getElem? (i := 95) rfl))
theorem fl_8_58 : flok 8 (58, 0, 12) := flok_of (q := (RX0, TX0, 16)) rfl (by decide) (inT1 _ (List.mem_of_getElem? (i := 119) rfl))
theorem fl_8_93 : flok 8 (93, 0, 9) := flok_of (q := (RX0, TX0, 16)) rfl (by decide) (inT1 _ (List.mem_of_getElem? (i := 104) rfl))
theorem fl_8_103 : flok 8 (103, 0, 13) := flok_of (q := (RX0, TX0, 16)) rfl (by decide) (inT1 _ (List.mem_of_getElem? (i := 130) rfl))
theorem fl_8_114 : flok 8 (114, 0, 10) := flok_of (q := (RX0, TX0, 16)) rfl (by decide) (inT1 _ (List.mem_of_getElem? (i := 109) rfl))
theorem fl_8_117 : flok 8 (117, 0, 2) := flok_of (q := (RX0, TX0, 16)) rfl (by decide) (inT1 _ (List.mem_of_getElem? (i := 79) rfl))
theorem fla_8 : ∀ e ∈ flT.getD 8 [], flok 8 e := List.forall_mem_cons.mpr ⟨fl_8_9, List.forall_mem_cons.mpr ⟨fl_8_15, List.forall_mem_cons.mpr ⟨fl_8_19, List.forall_mem_cons.mpr ⟨fl_8_22, List.forall_mem_cons.mpr ⟨fl_8_26, List.forall_mem_cons.mpr ⟨fl_8_29, List.forall_mem_cons.mpr ⟨fl_8_32, List.forall_mem_cons.mpr ⟨fl_8_36, List.forall_mem_cons.mpr ⟨fl_8_39, List.forall_mem_cons.mpr ⟨fl_8_42, List.forall_mem_cons.mpr ⟨fl_8_46, List.forall_mem_cons.mpr ⟨fl_8_50, List.forall_mem_cons.mpr ⟨fl_8_53, List.forall_mem_cons.mpr ⟨fl_8_58, List.forall_mem_cons.mpr ⟨fl_8_93, List.forall_mem_cons.mpr ⟨fl_8_103, List.forall_mem_cons.mpr ⟨fl_8_114, List.forall_mem_cons.mpr ⟨fl_8_117, fun _ h => absurd h List.not_mem_nil⟩⟩⟩⟩⟩⟩⟩⟩⟩⟩⟩⟩⟩⟩⟩⟩⟩⟩
theorem fl_9_9 : flok 9 (9, 9, 0) := flok_of (q := (RX9, TX9, 7)) rfl (by decide) (inT2 _ (List.mem_of_getElem? (i := 148) rfl))
theorem fl_9_15 : flok 9 (15, 9, 1) := flok_of (q := (RX9, TX9, 7)) rfl (by decide) (inT2 _ (List.mem_of_getElem? (i := 150) rfl))
theorem fl_9_19 : flok 9 (19, 9, 2) := flok_of (q := (RX9, TX9, 7)) rfl (by decide) (inT2 _ (List.mem_of_getElem? (i := 152) rfl))
theorem fl_9_22 : flok 9 (22, 9, 3) := flok_of (q := (RX9, TX9, 7)) rfl (by decide) (inT2 _ (List.mem_of_getElem? (i := 154) rfl))
theorem fl_9_26 : flok 9 (26, 9, 4) := flok_of (q := (RX9, TX9, 7)) rfl (by decide) (inT2 _ (List.mem_of_getElem? (i := 155) rfl))
theorem fl_9_30 : flok 9 (30, 9, 5) := flok_of (q := (RX9, TX9, 7)) rfl (by decide) (inT2 _ (List.mem_of_getElem? (i := 156) rfl))
theorem fl_9_34 : flok 9 (34, 9, 6) := flok_of (q := (RX9, TX9, 7)) rfl (by decide) (inT2 _ (List.mem_of_getElem? (i := 157) rfl))
theorem fl_9_41 : flok 9 (41, 0, 11) := flok_of (q := (RX0, TX0, 16)) rfl (by decide) (inT1 _ (List.mem_of_getElem? (i := 114) rfl))
theorem fl_9_54 : flok 9 (54, 0, 13) := flok_of (q := (RX0, TX0, 16)) rfl (by decide) (inT1 _ (List.mem_of_getElem? (i := 128) rfl))
theorem fl_9_63 : flok 9 (63, 0, 3) := flok_of (q := (RX0, TX0, 16)) rfl (by decide) (inT1 _ (List.mem_of_getElem? (i := 81) rfl))
theorem fla_9 : ∀ e ∈ flT.getD 9 [], flok 9 e := List.forall_mem_cons.mpr ⟨fl_9_9, List.forall_mem_cons.mpr ⟨fl_9_15, List.forall_mem_cons.mpr ⟨fl_9_19, List.forall_mem_cons.mpr ⟨fl_9_22, List.forall_mem_cons.mpr ⟨fl_9_26, List.forall_mem_cons.mpr ⟨fl_9_30, List.forall_mem_cons.mpr ⟨fl_9_34, List.forall_mem_cons.mpr ⟨fl_9_41, List.forall_mem_cons.mpr ⟨fl_9_54, List.forall_mem_cons.mpr ⟨fl_9_63, fun _ h => absurd h List.not_mem_nil⟩⟩⟩⟩⟩⟩⟩⟩⟩⟩
theorem fl_10_9 : flok 10 (9, 10, 0) := flok_of (q := (RX10, TX10, 4)) rfl (by decide) (inT1 _ (List.mem_of_getElem? (i := 182) rfl))
theorem fl_10_15 : flok 10 (15, 10, 1) := flok_of (q := (RX10, TX10, 4)) rfl (by decide) (inT1 _ (List.mem_of_getElem? (i := 185) rfl))
theorem fl_10_18 : flok 10 (18, 10, 2) := flok_of (q := (RX10, TX10, 4)) rfl (by decide) (inT1 _ (List.mem_of_getElem? (i := 187) rfl))
theorem fl_10_22 : flok 10 (22, 10, 3) := flok_of (q := (RX10, TX10, 4)) rfl (by decide) (inT1 _ (List.mem_of_getElem? (i := 190) rfl))
theorem fla_10 : ∀ e ∈ flT.getD 10 [], flok 10 e := List.forall_mem_cons.mpr ⟨fl_10_9, List.forall_mem_cons.mpr ⟨fl_10_15, List.forall_mem_cons.mpr ⟨fl_10_18, List.forall_mem_cons.mpr ⟨fl_10_22, fun _ h => absurd h List.not_mem_nil⟩⟩⟩⟩
theorem fl_11_9 : flok 11 (9, 11, 0) := flok_of (q := (RX11, TX11, 18)) rfl (by decide) (inT2 _ (List.mem_of_getElem? (i := 203) rfl))
theorem fl_11_13 : flok 11 (13, 11, 1) := flok_of (q := (RX11, TX11, 18)) rfl (by decide) (inT2 _ (List.mem_of_getElem? (i := 204) rfl))
theorem fl_11_20 : flok 11 (20, 11, 2) := flok_of (q := (RX11, TX11, 18)) rfl (by decide) (inT2 _ (List.mem_of_getElem? (i := 205) rfl))
theorem fl_11_24 : flok 11 (24, 11, 3) := flok_of (q := (RX11, TX11, 18)) rfl (by decide) (inT2 _ (List.mem_of_getElem? (i := 206) rfl))
theorem fl_11_30 : flok 11 (30, 11, 4) := flok_of (q := (RX11, TX11, 18)) rfl (by decide) (inT2 _ (List.mem_of_getElem? (i := 207) rfl))
theorem fl_11_37 : flok 11 (37, 11, 5) := flok_of (q := (RX11, TX11, 18)) rfl (by decide) (inT2 _ (List.mem_of_getElem? (i := 208) rfl))
theorem fl_11_44 : flok 11 (44, 11, 6) := flok_of (q := (RX11, TX11, 18)) rfl (by decide) (inT2 _ (List.mem_of_getElem? (i := 209) rfl))
theorem fl_11_48 : flok 11 (48, 11, 7) := flok_of (q := (RX11, TX11, 18)) rfl (by decide) (inT2 _ (List.mem_of_getElem? (i := 210) rfl))
theorem fl_11_52 : flok 11 (52, 11, 8) := flok_of (q := (RX11, TX11, 18)) rfl (by decide) (inT2 _ (List.mem_of_getElem? (i := 211) rfl))
theorem fl_11_58 : flok 11 (58, 11, 9) := flok_of (q := (RX11, TX11, 18)) rfl (by decide) (inT2 _ (List.mem_of_getElem? (i := 212) rfl))
theorem fl_11_62 : flok 11 (62, 11, 10) := flok_of (q := (RX11, TX11, 18)) rfl (by decide) (inT2 _ (List.mem_of_getElem? (i := 213) rfl))
theorem fl_11_66 : flok 11 (66, 11, 11) := flok_of (q := (RX11, TX11, 18)) rfl (by decide) (inT2 _ (List.mem_of_getElem? (i := 214) rfl))
theorem fl_11_70 : flok 11 (70, 11, 12) := flok_of (q := (RX11, TX11, 18)) rfl (by decide) (inT2 _ (List.mem_of_getElem? (i := 215) rfl))
theorem fl_11_74 : flok 11 (74, 11, 13) := flok_of (q := (RX11, TX11, 18)) rfl (by decide) (inT2 _ (List.mem_of_getElem? (i := 216) rfl))
theorem fl_11_80 : flok 11 (80, 11, 14) := flok_of (q := (RX11, TX11, 18)) rfl (by decide) (inT2 _ (List.mem_of_getElem? (i := 217) rfl))
theorem fl_11_87 : flok 11 (87, 11, 15) := flok_of (q := (RX11, TX11, 18)) rfl (by decide) (inT2 _ (List.mem_of_getElem? (i := 218) rfl))
theorem fl_11_94 : flok 11 (94, 11, 16) := flok_of (q := (RX11, TX11, 18)) rfl (by decide) (inT2 _ (List.mem_of_getElem? (i := 219) rfl))
theorem fl_11_101 : flok 11 (101, 11, 17) := flok_of (q := (RX11, TX11, 18)) rfl (by decide) (inT2 _ (List.mem_of_getElem? (i := 220) rfl))
theorem fl_11_127 : flok 11 (127, 0, 9) := flok_of (q := (RX0, TX0, 16)) rfl (by decide) (inT1 _ (List.mem_of_getElem? (i := 103) rfl))
theorem fl_11_130 : flok 11 (130, 0, 10) := flok_of (q := (RX0, TX0, 16)) rfl (by decide) (inT1 _ (List.mem_of_getElem? (i := 108) rfl))
theorem fl_11_133 : flok 11 (133, 1, 0) := flok_of (q := (RX1, TX1, 4)) rfl (by decide) (inT2 _ (List.mem_of_getElem? (i := 10) rfl))
theorem fl_11_139 : flok 11 (139, 0, 12) := flok_of (q := (RX0, TX0, 16)) rfl (by decide) (inT1 _ (List.mem_of_getElem? (i := 122) rfl))
theorem fl_11_142 : flok 11 (142, 0, 13) := flok_of (q := (RX0, TX0, 16)) rfl (by decide) (inT1 _ (List.mem_of_getElem? (i := 129) rfl))
theorem fl_11_145 : flok 11 (145, 0, 14) := flok_of (q := (RX0, TX0, 16)) rfl (by decide) (inT1 _ (List.mem_of_getElem? (i := 133) rfl))
theorem fl_11_148 : flok 11 (148, 1, 1) := flok_of (q := (RX1, TX1, 4)) rfl (by decide) (inT2 _ (List.mem_of_getElem? (i := 12) rfl))
theorem fl_11_155 : flok 11 (155, 7, 1) := flok_of (q := (RX7, TX7, 7)) rfl (by decide) (inT2 _ (List.mem_of_getElem? (i := 52) rfl))
theorem fl_11_158 : flok 11 (158, 1, 2) := flok_of (q := (RX1, TX1, 4)) rfl (by decide) (inT2 _ (List.mem_of_getElem? (i := 14) rfl))
theorem fl_11_177 : flok 11 (177, 4, 1) := flok_of (q := (RX4, TX4, 2)) rfl (by decide) (inT2 _ (List.mem_of_getElem? (i := 34) rfl))
theorem fl_11_194 : flok 11 (194, 7, 3) := flok_of (q := (RX7, TX7, 7)) rfl (by decide) (inT2 _ (List.mem_of_getElem? (i := 56) rfl))
theorem fl_11_197 : flok 11 (197, 7, 2) := flok_of (q := (RX7, TX7, 7)) rfl (by decide) (inT2 _ (List.mem_of_getElem? (i := 54) rfl))
theorem fl_11_207 : flok 11 (207, 2, 1) := flok_of (q := (RX2, TX2, 3)) rfl (by decide) (inT2 _ (List.mem_of_getElem? (i := 133) rfl))
theorem fl_11_210 : flok 11 (210, 2, 0) := flok_of (q := (RX2, TX2, 3)) rfl (by decide) (inT2 _ (List.mem_of_getElem? (i := 131) rfl))
theorem fl_11_220 : flok 11 (220, 8, 0) := flok_of (q := (RX8, TX8, 12)) rfl (by decide) (inT2 _ (List.mem_of_getElem? (i := 83) rfl))
theorem fl_11_223 : flok 11 (223, 0, 11) := flok_of (q := (RX0, TX0, 16)) rfl (by decide) (inT1 _ (List.mem_of_getElem? (i := 116) rfl))
theorem fl_11_244 : flok 11 (244, 9, 1) := flok_of (q := (RX9, TX9, 7)) rfl (by decide) (inT2 _ (List.mem_of_getElem? (i := 151) rfl))
theorem fl_11_247 : flok 11 (247, 9, 2) := flok_of (q := (RX9, TX9, 7)) rfl (by decide) (inT2 _ (List.mem_of_getElem? (i := 153) rfl))
theorem fl_11_258 : flok 11 (258, 8, 2) := flok_of (q := (RX8, TX8, 12)) rfl (by decide) (inT2 _ (List.mem_of_getElem? (i := 87) rfl))
theorem fl_11_261 : flok 11 (261, 8, 1) := flok_of (q := (RX8, TX8, 12)) rfl (by decide) (inT2 _ (List.mem_of_getElem? (i := 85) rfl))
theorem fl_11_282 : flok 11 (282, 1, 3) := flok_of (q := (RX1, TX1, 4)) rfl (by decide) (inT2 _ (List.mem_of_getElem? (i := 16) rfl))
theorem fl_11_291 : flok 11 (291, 6, 0) := flok_of (q := (RX6, TX6, 7)) rfl (by decide) (inT2 _ (List.mem_of_getElem? (i := 180) rfl))
theorem fl_11_292 : flok 11 (292, 6, 1) := flok_of (q := (RX6, TX6, 7)) rfl (by decide) (inT2 _ (List.mem_of_getElem? (i := 182) rfl))
theorem fl_11_299 : flok 11 (299, 0, 0) := flok_of (q := (RX0, TX0, 16)) rfl (by decide) (inT1 _ (List.mem_of_getElem? (i := 70) rfl))
theorem fl_11_302 : flok 11 (302, 0, 1) := flok_of (q := (RX0, TX0, 16)) rfl (by decide) (inT1 _ (List.mem_of_getElem? (i := 73) rfl))
theorem fl_11_305 : flok 11 (305, 0, 4) := flok_of (q := (RX0, TX0, 16)) rfl (by decide) (inT1 _ (List.mem_of_getElem? (i := 86) rfl))
theorem fl_11_308 : flok 11 (308, 0, 7) := flok_of (q := (RX0, TX0, 16)) rfl (by decide) (inT1 _ (List.mem_of_getElem? (i := 97) rfl))
theorem fl_11_314 : flok 11 (314, 0, 3) := flok_of (q := (RX0, TX0, 16)) rfl (by decide) (inT1 _ (List.mem_of_getElem? (i := 83) rfl))
theorem fl_11_320 : flok 11 (320, 9, 0) := flok_of (q := (RX9, TX9, 7)) rfl (by decide) (inT2 _ (List.mem_of_getElem? (i := 149) rfl))
theorem fl_11_324 : flok 11 (324, 8, 3) := flok_of (q := (RX8, TX8, 12)) rfl (by decide) (inT2 _ (List.mem_of_getElem? (i := 89) rfl))
theorem fla_11 : ∀ e ∈ flT.getD 11 [], flok 11 e := List.forall_mem_cons.mpr ⟨fl_11_9, List.forall_mem_cons.mpr ⟨fl_11_13, List.forall_mem_cons.mpr ⟨fl_11_20, List.forall_mem_cons.mpr ⟨fl_11_24, List.forall_mem_cons.mpr ⟨fl_11_30, List.forall_mem_cons.mpr ⟨fl_11_37, List.forall_mem_cons.mpr ⟨fl_11_44, List.forall_mem_cons.mpr ⟨fl_11_48, List.forall_mem_cons.mpr ⟨fl_11_52, List.forall_mem_cons.mpr ⟨fl_11_58, List.forall_mem_cons.mpr ⟨fl_11_62, List.forall_mem_cons.mpr ⟨fl_11_66, List.forall_mem_cons.mpr ⟨fl_11_70, List.forall_mem_cons.mpr ⟨fl_11_74, List.forall_mem_cons.mpr ⟨fl_11_80, List.forall_mem_cons.mpr ⟨fl_11_87, List.forall_mem_cons.mpr ⟨fl_11_94, List.forall_mem_cons.mpr ⟨fl_11_101, List.forall_mem_cons.mpr ⟨fl_11_127, List.forall_mem_cons.mpr ⟨fl_11_130, List.forall_mem_cons.mpr ⟨fl_11_133, List.forall_mem_cons.mpr ⟨fl_11_139, List.forall_mem_cons.mpr ⟨fl_11_142, List.forall_mem_cons.mpr ⟨fl_11_145, List.forall_mem_cons.mpr ⟨fl_11_148, List.forall_mem_cons.mpr ⟨fl_11_155, List.forall_mem_cons.mpr ⟨fl_11_158, List.forall_mem_cons.mpr ⟨fl_11_177, List.forall_mem_cons.mpr ⟨fl_11_194, List.forall_mem_cons.mpr ⟨fl_11_197, List.forall_mem_cons.mpr ⟨fl_11_207, List.forall_mem_cons.mpr ⟨fl_11_210, List.forall_mem_cons.mpr ⟨fl_11_220, List.forall_mem_cons.mpr ⟨fl_11_223, List.forall_mem_cons.mpr ⟨fl_11_244, List.forall_mem_cons.mpr ⟨fl_11_247, List.forall_mem_cons.mpr ⟨fl_11_258, List.forall_mem_cons.mpr ⟨fl_11_261, List.forall_mem_cons.mpr ⟨fl_11_282, List.forall_mem_cons.mpr ⟨fl_11_291, List.forall_mem_cons.mpr ⟨fl_11_292, List.forall_mem_cons.mpr ⟨fl_11_299, List.forall_mem_cons.mpr ⟨fl_11_302, List.forall_mem_cons.mpr ⟨fl_11_305, List.forall_mem_cons.mpr ⟨fl_11_308, List.forall_mem_cons.mpr ⟨fl_11_314, List.forall_mem_cons.mpr ⟨fl_11_320, List.forall_mem_cons.mpr ⟨fl_11_324, fun _ h => absurd h List.not_mem_nil⟩⟩⟩⟩⟩⟩⟩⟩⟩⟩⟩⟩⟩⟩⟩⟩⟩⟩⟩⟩⟩⟩⟩⟩⟩⟩⟩⟩⟩⟩⟩⟩⟩⟩⟩⟩⟩⟩⟩⟩⟩⟩⟩⟩⟩⟩⟩⟩
theorem fl_12_1 : flok 12 (1, 12, 0) := flok_of (q := (RX12, TX12, 43)) rfl (by decide) (inT5 _ (List.mem_of_getElem? (i := 221) rfl))
theorem fl_12_11 : flok 12 (11, 12, 2) := flok_of (q := (RX12, TX12, 43)) rfl (by decide) (inT5 _ (List.mem_of_getElem? (i := 223) rfl))
theorem fl_12_14 : flok 12 (14, 12, 1) := flok_of (q := (RX12, TX12, 43)) rfl (by decide) (inT5 _ (List.mem_of_getElem? (i := 222) rfl))
theorem fl_12_24 : flok 12 (24, 12, 4) := flok_of (q := (RX12, TX12, 43)) rfl (by decide) (inT5 _ (List.mem_of_getElem? (i := 225) rfl))
theorem fl_12_27 : flok 12 (27, 12, 5) := flok_of (q := (RX12, TX12, 43)) rfl (by decide) (inT5 _ (List.mem_of_getElem? (i := 226) rfl))
theorem fl_12_30 : flok 12 (30, 12, 6) := flok_of (q := (RX12, TX12, 43)) rfl (by decide) (inT5 _ (List.mem_of_getElem? (i := 227) rfl))
theorem fl_12_90 : flok 12 (90, 12, 9) := flok_of (q := (RX12, TX12, 43)) rfl (by decide) (inT5 _ (List.mem_of_getElem? (i := 230) rfl))
theorem fl_12_93 : flok 12 (93, 12, 10) := flok_of (q := (RX12, TX12, 43)) rfl (by decide) (inT5 _ (List.mem_of_getElem? (i := 231) rfl))
theorem fl_12_96 : flok 12 (96, 12, 11) := flok_of (q := (RX12, TX12, 43)) rfl (by decide) (inT5 _ (List.mem_of_getElem? (i := 232) rfl))
theorem fl_12_99 : flok 12 (99, 12, 12) := flok_of (q := (RX12, TX12, 43)) rfl (by decide) (inT5 _ (List.mem_of_getElem? (i := 233) rfl))
theorem fl_12_102 : flok 12 (102, 12, 14) := flok_of (q := (RX12, TX12, 43)) rfl (by decide) (inT5 _ (List.mem_of_getElem? (i := 235) rfl))
theorem fl_12_105 : flok 12 (105, 12, 15) := flok_of (q := (RX12, TX12, 43)) rfl (by decide) (inT5 _ (List.mem_of_getElem? (i := 236) rfl))
theorem fl_12_108 : flok 12 (108, 12, 18) := flok_of (q := (RX12, TX12, 43)) rfl (by decide) (inT5 _ (List.mem_of_getElem? (i := 239) rfl))
theorem fl_12_111 : flok 12 (111, 12, 19) := flok_of (q := (RX12, TX12, 43)) rfl (by decide) (inT6 _ (List.mem_of_getElem? (i := 0) rfl))
theorem fl_12_114 : flok 12 (114, 12, 20) := flok_of (q := (RX12, TX12, 43)) rfl (by decide) (inT6 _ (List.mem_of_getElem? (i := 1) rfl))
theorem fl_12_117 : flok 12 (117, 12, 21) := flok_of (q := (RX12, TX12, 43)) rfl (by decide) (inT6 _ (List.mem_of_getElem? (i := 2) rfl))
theorem fl_12_120 : flok 12 (120, 12, 23) := flok_of (q := (RX12, TX12, 43)) rfl (by decide) (inT6 _ (List.mem_of_getElem? (i := 4) rfl))
theorem fl_12_124 : flok 12 (124, 12, 24) := flok_of (q := (RX12, TX12, 43)) rfl (by decide) (inT6 _ (List.mem_of_getElem? (i := 5) rfl))
theorem fl_12_127 : flok 12 (127, 12, 27) := flok_of (q := (RX12, TX12, 43)) rfl (by decide) (inT6 _ (List.mem_of_getElem? (i := 8) rfl))
theorem fl_12_130 : flok 12 (130, 12, 31) := flok_of (q := (RX12, TX12, 43)) rfl (by decide) (inT6 _ (List.mem_of_getElem? (i := 12) rfl))
theorem fl_12_133 : flok 12 (133, 12, 32) := flok_of (q := (RX12, TX12, 43)) rfl (by decide) (inT6 _ (List.mem_of_getElem? (i := 13) rfl))
theorem fl_12_136 : flok 12 (136, 12, 34) := flok_of (q := (RX12, TX12, 43)) rfl (by decide) (inT6 _ (List.mem_of_getElem? (i := 15) rfl))
theorem fl_12_139 : flok 12 (139, 12, 35) := flok_of (q := (RX12, TX12, 43)) rfl (by decide) (inT6 _ (List.mem_of_getElem? (i := 16) rfl))
theorem fl_12_142 : flok 12 (142, 12, 36) := flok_of (q := (RX12, TX12, 43)) rfl (by decide) (inT6 _ (List.mem_of_getElem? (i := 17) rfl))
theorem fl_12_145 : flok 12 (145, 12, 38) := flok_of (q := (RX12, TX12, 43)) rfl (by decide) (inT6 _ (List.mem_of_getElem? (i := 19) rfl))
theorem fl_12_152 : flok 12 (152, 12, 3) := flok_of (q := (RX12, TX12, 43)) rfl (by decide) (inT5 _ (List.mem_of_getElem? (i := 224) rfl))
theorem fl_12_171 : flok 12 (171, 12, 7) := flok_of (q := (RX12, TX12, 43)) rfl (by decide) (inT5 _ (List.mem_of_getElem? (i := 228) rfl))
theorem fl_12_174 : flok 12 (174, 12, 8) := flok_of (q := (RX12, TX12, 43)) rfl (by decide) (inT5 _ (List.mem_of_getElem? (i := 229) rfl))
theorem fl_12_197 : flok 12 (197, 12, 16) := flok_of (q := (RX12, TX12, 43)) rfl (by decide) (inT5 _ (List.mem_of_getElem? (i := 237) rfl))
theorem fl_12_203 : flok 12 (203, 12, 13) := flok_of (q := (RX12, TX12, 43)) rfl (by decide) (inT5 _ (List.mem_of_getElem? (i := 234) rfl))
theorem fl_12_206 : flok 12 (206, 12, 17) := flok_of (q := (RX12, TX12, 43)) rfl (by decide) (inT5 _ (List.mem_of_getElem? (i := 238) rfl))
theorem fl_12_216 : flok 12 (216, 12, 22) := flok_of (q := (RX12, TX12, 43)) rfl (by decide) (inT6 _ (List.mem_of_getElem? (i := 3) rfl))
theorem fl_12_302 : flok 12 (302, 12, 25) := flok_of (q := (RX12, TX12, 43)) rfl (by decide) (inT6 _ (List.mem_of_getElem? (i := 6) rfl))
theorem fl_12_305 : flok 12 (305, 12, 26) := flok_of (q := (RX12, TX12, 43)) rfl (by decide) (inT6 _ (List.mem_of_getElem? (i := 7) rfl))
theorem fl_12_328 : flok 12 (328, 12, 30) := flok_of (q := (RX12, TX12, 43)) rfl (by decide) (inT6 _ (List.mem_of_getElem? (i := 11) rfl))
theorem fl_12_331 : flok 12 (331, 12, 28) := flok_of (q := (RX12, TX12, 43)) rfl (by decide) (inT6 _ (List.mem_of_getElem? (i := 9) rfl))
theorem fl_12_337 : flok 12 (337, 12, 29) := flok_of (q := (RX12, TX12, 43)) rfl (by decide) (inT6 _ (List.mem_of_getElem? (i := 10) rfl))
theorem fl_12_377 : flok 12 (377, 12, 33) := flok_of (q := (RX12, TX12, 43)) rfl (by decide) (inT6 _ (List.mem_of_getElem? (i := 14) rfl))
theorem fl_12_395 : flok 12 (395, 12, 37) := flok_of (q := (RX12, TX12, 43)) rfl (by decide) (inT6 _ (List.mem_of_getElem? (i := 18) rfl))
theorem fl_12_414 : flok 12 (414, 12, 39) := flok_of (q := (RX12, TX12, 43)) rfl (by decide) (inT6 _ (List.mem_of_getElem? (i := 20) rfl))
theorem fl_12_417 : flok 12 (417, 12, 40) := flok_of (q := (RX12, TX12, 43)) rfl (by decide) (inT6 _ (List.mem_of_getElem? (i := 21) rfl))
theorem fl_12_423 : flok 12 (423, 12, 41) := flok_of (q := (RX12, TX12, 43)) rfl (by decide) (inT6 _ (List.mem_of_getElem? (i := 22) rfl))
theorem fl_12_426 : flok 12 (426, 12, 42) := flok_of (q := (RX12, TX12, 43)) rfl (by decide) (inT6 _ (List.mem_of_getElem? (i := 23) rfl))
theorem fla_12 : ∀ e ∈ flT.getD 12 [], flok 12 e := List.forall_mem_cons.mpr ⟨fl_12_1, List.forall_mem_cons.mpr ⟨fl_12_11, List.forall_mem_cons.mpr ⟨fl_12_14, List.forall_mem_cons.mpr ⟨fl_12_24, List.forall_mem_cons.mpr ⟨fl_12_27, List.forall_mem_cons.mpr ⟨fl_12_30, List.forall_mem_cons.mpr ⟨fl_12_90, List.forall_mem_cons.mpr ⟨fl_12_93, List.forall_mem_cons.mpr ⟨fl_12_96, List.forall_mem_cons.mpr ⟨fl_12_99, List.forall_mem_cons.mpr ⟨fl_12_102, List.forall_mem_cons.mpr ⟨fl_12_105, List.forall_mem_cons.mpr ⟨fl_12_108, List.forall_mem_cons.mpr ⟨fl_12_111, List.forall_mem_cons.mpr ⟨fl_12_114, List.forall_mem_cons.mpr ⟨fl_12_117, List.forall_mem_cons.mpr ⟨fl_12_120, List.forall_mem_cons.mpr ⟨fl_12_124, List.forall_mem_cons.mpr ⟨fl_12_127, List.forall_mem_cons.mpr ⟨fl_12_130, List.forall_mem_cons.mpr ⟨fl_12_133, List.forall_mem_cons.mpr ⟨fl_12_136, List.forall_mem_cons.mpr ⟨fl_12_139, List.forall_mem_cons.mpr ⟨fl_12_142, List.forall_mem_cons.mpr ⟨fl_12_145, List.forall_mem_cons.mpr ⟨fl_12_152, List.forall_mem_cons.mpr ⟨fl_12_171, List.forall_mem_cons.mpr ⟨fl_12_174, List.forall_mem_cons.mpr ⟨fl_12_197, List.forall_mem_cons.mpr ⟨fl_12_203, List.forall_mem_cons.mpr ⟨fl_12_206, List.forall_mem_cons.mpr ⟨fl_12_216, List.forall_mem_cons.mpr ⟨fl_12_302, List.forall_mem_cons.mpr ⟨fl_12_305, List.forall_mem_cons.mpr ⟨fl_12_328, List.forall_mem_cons.mpr ⟨fl_12_331, List.forall_mem_cons.mpr ⟨fl_12_337, List.forall_mem_cons.mpr ⟨fl_12_377, List.forall_mem_cons.mpr ⟨fl_12_395, List.forall_mem_cons.mpr ⟨fl_12_414, List.forall_mem_cons.mpr ⟨fl_12_417, List.forall_mem_cons.mpr ⟨fl_12_423, List.forall_mem_cons.mpr ⟨fl_12_426, fun _ h => absurd h List.not_mem_nil⟩⟩⟩⟩⟩⟩⟩⟩⟩⟩⟩⟩⟩⟩⟩⟩⟩⟩⟩⟩⟩⟩⟩⟩⟩⟩⟩⟩⟩⟩⟩⟩⟩⟩⟩⟩⟩⟩⟩⟩⟩⟩⟩
theorem fla_13 : ∀ e ∈ flT.getD 13 [], flok 13 e := fun _ h => absurd h List.not_mem_nil
theorem fla_14 : ∀ e ∈ flT.getD 14 [], flok 14 e := fun _ h => absurd h List.not_mem_nil
theorem fla_15 : ∀ e ∈ flT.getD 15 [], flok 15 e := fun _ h => absurd h List.not_mem_nil
theorem fla_16 : ∀ e ∈ flT.getD 16 [], flok 16 e := fun _ h => absurd h List.not_mem_nil
theorem fl_ok {oc idx : Nat} {r : Nat × Nat} (h : fl oc idx = some r) : FLok oc idx r.1 r.2 := by
  have hm := lk_mem h
  have : ∀ e ∈ flT.getD oc [], flok oc e := by
    match oc with
    | 0 => exact fla_0
    | 1 => exact fla_1
    | 2 => exact fla_2
    | 3 => exact fla_3
    | 4 => exact fla_4
    | 5 => exact fla_5
    | 6 => exact fla_6
    | 7 => exact fla_7
    | 8 => exact fla_8
    | 9 => exact fla_9
    | 10 => exact fla_10
    | 11 => exact fla_11
    | 12 => exact fla_12
    | 13 => exact fla_13
    | 14 => exact fla_14
    | 15 => exact fla_15
    | 16 => exact fla_16
    | (n + 17) => intro e he; exact absurd he (by simp [flT])
  exact this _ hm
