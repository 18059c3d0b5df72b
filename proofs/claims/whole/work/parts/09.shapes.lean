theorem sh_0 : S0[0]? = some (Sum.inl 11) := rfl
theorem sh_1 : S0[1]? = some (Sum.inr (.char, 1000)) := rfl
theorem sh_2 : S0[2]? = some (Sum.inl 0) := rfl
theorem sh_3 : S0[3]? = some (Sum.inr (.int, 6)) := rfl
theorem sh_4 : S0[4]? = some (Sum.inr (.int, 48)) := rfl
theorem sh_5 : S0[5]? = some (Sum.inr (.int, 6)) := rfl
theorem sh_6 : S0[6]? = some (Sum.inr (.int, 6)) := rfl
theorem sh_7 : S0[7]? = some (Sum.inr (.int, 576)) := rfl
theorem sh_8 : S0[8]? = some (Sum.inr (.int, 6)) := rfl
theorem sh_9 : S0[9]? = some (Sum.inr (.int, 6)) := rfl
theorem sh_10 : S0[10]? = some (Sum.inr (.int, 6)) := rfl
theorem sh_11 : S0[11]? = some (Sum.inl 3) := rfl
theorem sh_12 : S0[12]? = some (Sum.inr (.int, 1000)) := rfl
theorem sh_13 : S0[13]? = some (Sum.inr (.int, 64)) := rfl
theorem sh_14 : S0[14]? = some (Sum.inl 0) := rfl
theorem sh_15 : S0[15]? = some (Sum.inr (.int, 6)) := rfl
theorem sh_16 : S0[16]? = some (Sum.inr (.int, 48)) := rfl
theorem sh_17 : S0[17]? = some (Sum.inr (.int, 6)) := rfl
theorem sh_18 : S0[18]? = some (Sum.inr (.int, 6)) := rfl
theorem sh_19 : S0[19]? = some (Sum.inr (.int, 576)) := rfl
theorem sh_20 : S0[20]? = some (Sum.inr (.int, 6)) := rfl
theorem sh_21 : S0[21]? = some (Sum.inr (.int, 6)) := rfl
theorem sh_22 : S0[22]? = some (Sum.inr (.int, 6)) := rfl
theorem sh_23 : S0[23]? = some (Sum.inl 3) := rfl
theorem sh_24 : S0[24]? = some (Sum.inr (.int, 1000)) := rfl
theorem sh_25 : S0[25]? = some (Sum.inr (.int, 64)) := rfl
theorem sh_26 : S0[26]? = some (Sum.inl 5) := rfl
theorem sh_27 : S0[27]? = some (Sum.inl 10) := rfl
theorem sh_28 : S0[28]? = some (Sum.inr (.int, 1001)) := rfl
theorem sh_29 : S0[29]? = some (Sum.inr (.int, 1001)) := rfl
theorem sh_30 : S0[30]? = some (Sum.inr (.long, 1001)) := rfl
theorem sh_31 : S0[31]? = some (Sum.inr (.long, 18)) := rfl
theorem sh_32 : S0[32]? = some (Sum.inr (.long, 6)) := rfl
theorem sh_33 : S0[33]? = some (Sum.inl 1) := rfl
theorem sh_34 : S0[34]? = some (Sum.inr (.int, 6)) := rfl
theorem sh_35 : S0[35]? = some (Sum.inr (.int, 6)) := rfl
theorem sh_36 : S0[36]? = some (Sum.inr (.int, 36)) := rfl
theorem sh_37 : S0[37]? = some (Sum.inr (.int, 6)) := rfl
theorem sh_38 : S0[38]? = some (Sum.inl 4) := rfl
theorem sh_39 : S0[39]? = some (Sum.inr (.int, 20)) := rfl
theorem sh_40 : S0[40]? = some (Sum.inr (.object "DanceWine$Evening", 4)) := rfl
theorem sh_41 : S0[41]? = some (Sum.inr (.boolean, 4)) := rfl
theorem sh_42 : S0[42]? = some (Sum.inr (.object "DanceWine$Routine", 6)) := rfl
theorem sh_43 : S0[43]? = some (Sum.inr (.boolean, 6)) := rfl
theorem sh_44 : S0[44]? = some (Sum.inl 7) := rfl
theorem sh_45 : S0[45]? = some (Sum.inr (.int, 576)) := rfl
theorem sh_46 : S0[46]? = some (Sum.inr (.int, 1)) := rfl
theorem sh_47 : S0[47]? = some (Sum.inr (.int, 6)) := rfl
theorem sh_48 : S0[48]? = some (Sum.inl 8) := rfl
theorem sh_49 : S0[49]? = some (Sum.inr (.int, 6)) := rfl
theorem sh_50 : S0[50]? = some (Sum.inr (.int, 6)) := rfl
theorem sh_51 : S0[51]? = some (Sum.inr (.boolean, 576)) := rfl
theorem sh_52 : S0[52]? = some (Sum.inr (.short, 9216)) := rfl
theorem sh_53 : S0[53]? = some (Sum.inr (.int, 256)) := rfl
theorem sh_54 : S0[54]? = some (Sum.inl 2) := rfl
theorem sh_55 : S0[55]? = some (Sum.inr (.int, 6)) := rfl
theorem sh_56 : S0[56]? = some (Sum.inl 9) := rfl
theorem sh_57 : S0[57]? = some (Sum.inr (.int, 6)) := rfl
theorem sh_58 : S0[58]? = some (Sum.inl 6) := rfl
theorem sh_59 : S0[59]? = some (Sum.inr (.int, 36)) := rfl
theorem sh_60 : S0[60]? = some (Sum.inl 1) := rfl
theorem sh_61 : S0[61]? = some (Sum.inr (.int, 6)) := rfl
theorem sh_62 : S0[62]? = some (Sum.inr (.int, 6)) := rfl
theorem sh_63 : S0[63]? = some (Sum.inr (.int, 36)) := rfl
theorem sh_64 : S0[64]? = some (Sum.inr (.int, 6)) := rfl
theorem sh_65 : S0[65]? = some (Sum.inl 1) := rfl
theorem sh_66 : S0[66]? = some (Sum.inr (.int, 6)) := rfl
theorem sh_67 : S0[67]? = some (Sum.inr (.int, 6)) := rfl
theorem sh_68 : S0[68]? = some (Sum.inr (.int, 36)) := rfl
theorem sh_69 : S0[69]? = some (Sum.inr (.int, 6)) := rfl
theorem sh_70 : S0[70]? = some (Sum.inl 1) := rfl
theorem sh_71 : S0[71]? = some (Sum.inr (.int, 6)) := rfl
theorem sh_72 : S0[72]? = some (Sum.inr (.int, 6)) := rfl
theorem sh_73 : S0[73]? = some (Sum.inr (.int, 36)) := rfl
theorem sh_74 : S0[74]? = some (Sum.inr (.int, 6)) := rfl
theorem sh_75 : S0[75]? = some (Sum.inl 1) := rfl
theorem sh_76 : S0[76]? = some (Sum.inr (.int, 6)) := rfl
theorem sh_77 : S0[77]? = some (Sum.inr (.int, 6)) := rfl
theorem sh_78 : S0[78]? = some (Sum.inr (.int, 36)) := rfl
theorem sh_79 : S0[79]? = some (Sum.inr (.int, 6)) := rfl
theorem sh_80 : S0[80]? = some (Sum.inl 7) := rfl
theorem sh_81 : S0[81]? = some (Sum.inr (.int, 576)) := rfl
theorem sh_82 : S0[82]? = some (Sum.inl 7) := rfl
theorem sh_83 : S0[83]? = some (Sum.inr (.int, 576)) := rfl
theorem sh_84 : S0[84]? = some (Sum.inl 7) := rfl
theorem sh_85 : S0[85]? = some (Sum.inr (.int, 576)) := rfl
theorem sh_86 : S0[86]? = some (Sum.inl 7) := rfl
theorem sh_87 : S0[87]? = some (Sum.inr (.int, 576)) := rfl
theorem sh_88 : S0[88]? = some (Sum.inl 7) := rfl
theorem sh_89 : S0[89]? = some (Sum.inr (.int, 576)) := rfl
theorem sh_90 : S0[90]? = some (Sum.inl 7) := rfl
theorem sh_91 : S0[91]? = some (Sum.inr (.int, 576)) := rfl
theorem sh_92 : S0[92]? = some (Sum.inl 12) := rfl
theorem sh_93 : S0[93]? = some (Sum.inr (.int, 1000)) := rfl
theorem sh_94 : S0[94]? = some (Sum.inr (.int, 1002)) := rfl
theorem sh_95 : S0[95]? = some (Sum.inr (.int, 1002)) := rfl
theorem sh_96 : S0[96]? = some (Sum.inr (.long, 1002)) := rfl
theorem sh_97 : S0[97]? = some (Sum.inr (.long, 28)) := rfl
theorem sh_98 : S0[98]? = some (Sum.inr (.int, 408)) := rfl
theorem sh_99 : S0[99]? = some (Sum.inr (.int, 2200)) := rfl
theorem sh_100 : S0[100]? = some (Sum.inr (.int, 2200)) := rfl
theorem sh_101 : S0[101]? = some (Sum.inr (.long, 18)) := rfl
theorem sh_102 : S0[102]? = some (Sum.inr (.int, 18)) := rfl
theorem sh_103 : S0[103]? = some (Sum.inr (.int, 4)) := rfl
theorem sh_104 : S0[104]? = some (Sum.inr (.int, 4)) := rfl
theorem sh_105 : S0[105]? = some (Sum.inr (.int, 1100)) := rfl
theorem sh_106 : S0[106]? = some (Sum.inr (.int, 1400)) := rfl
theorem sh_107 : S0[107]? = some (Sum.inr (.boolean, 4)) := rfl
theorem sh_108 : S0[108]? = some (Sum.inr (.int, 600)) := rfl
theorem sh_109 : S0[109]? = some (Sum.inr (.int, 6)) := rfl
theorem sh_110 : S0[110]? = some (Sum.inr (.int, 6)) := rfl
theorem sh_111 : S0[111]? = some (Sum.inr (.int, 6)) := rfl
theorem sh_112 : S0[112]? = some (Sum.inr (.int, 3600)) := rfl
theorem sh_113 : S0[113]? = some (Sum.inr (.int, 6)) := rfl
theorem sh_114 : S0[114]? = some (Sum.inr (.int, 6)) := rfl
theorem sh_115 : S0[115]? = some (Sum.inr (.int, 6)) := rfl
theorem sh_116 : S0[116]? = some (Sum.inr (.long, 1)) := rfl
theorem sr_0_0 : sr0 0 0 = some 1 := rfl
theorem sr_0_4 : sr0 0 4 = some 26 := rfl
theorem sr_0_5 : sr0 0 5 = some 33 := rfl
theorem sr_0_6 : sr0 0 6 = some 38 := rfl
theorem sr_0_7 : sr0 0 7 = some 40 := rfl
theorem sr_0_8 : sr0 0 8 = some 41 := rfl
theorem sr_0_9 : sr0 0 9 = some 42 := rfl
theorem sr_0_10 : sr0 0 10 = some 43 := rfl
theorem sr_0_11 : sr0 0 11 = some 44 := rfl
theorem sr_0_12 : sr0 0 12 = some 46 := rfl
theorem sr_0_13 : sr0 0 13 = some 47 := rfl
theorem sr_0_14 : sr0 0 14 = some 48 := rfl
theorem sr_0_15 : sr0 0 15 = some 54 := rfl
theorem sr_0_16 : sr0 0 16 = some 56 := rfl
theorem sr_0_17 : sr0 0 17 = some 58 := rfl
theorem sr_2_5 : sr0 2 5 = some 3 := rfl
theorem sr_2_6 : sr0 2 6 = some 4 := rfl
theorem sr_2_8 : sr0 2 8 = some 5 := rfl
theorem sr_2_9 : sr0 2 9 = some 6 := rfl
theorem sr_2_10 : sr0 2 10 = some 7 := rfl
theorem sr_2_12 : sr0 2 12 = some 8 := rfl
theorem sr_2_13 : sr0 2 13 = some 9 := rfl
theorem sr_2_14 : sr0 2 14 = some 10 := rfl
theorem sr_2_15 : sr0 2 15 = some 11 := rfl
theorem sr_11_0 : sr0 11 0 = some 12 := rfl
theorem sr_11_2 : sr0 11 2 = some 13 := rfl
theorem sr_14_5 : sr0 14 5 = some 15 := rfl
theorem sr_14_6 : sr0 14 6 = some 16 := rfl
theorem sr_14_8 : sr0 14 8 = some 17 := rfl
theorem sr_14_9 : sr0 14 9 = some 18 := rfl
theorem sr_14_10 : sr0 14 10 = some 19 := rfl
theorem sr_14_12 : sr0 14 12 = some 20 := rfl
theorem sr_14_13 : sr0 14 13 = some 21 := rfl
theorem sr_14_14 : sr0 14 14 = some 22 := rfl
theorem sr_14_15 : sr0 14 15 = some 23 := rfl
theorem sr_23_0 : sr0 23 0 = some 24 := rfl
theorem sr_23_2 : sr0 23 2 = some 25 := rfl
theorem sr_26_0 : sr0 26 0 = some 27 := rfl
theorem sr_26_4 : sr0 26 4 = some 31 := rfl
theorem sr_26_6 : sr0 26 6 = some 32 := rfl
theorem sr_27_0 : sr0 27 0 = some 28 := rfl
theorem sr_27_1 : sr0 27 1 = some 29 := rfl
theorem sr_27_2 : sr0 27 2 = some 30 := rfl
theorem sr_33_0 : sr0 33 0 = some 34 := rfl
theorem sr_33_1 : sr0 33 1 = some 35 := rfl
theorem sr_33_2 : sr0 33 2 = some 36 := rfl
theorem sr_33_3 : sr0 33 3 = some 37 := rfl
theorem sr_38_0 : sr0 38 0 = some 39 := rfl
theorem sr_44_0 : sr0 44 0 = some 45 := rfl
theorem sr_48_0 : sr0 48 0 = some 49 := rfl
theorem sr_48_8 : sr0 48 8 = some 50 := rfl
theorem sr_48_9 : sr0 48 9 = some 51 := rfl
theorem sr_48_10 : sr0 48 10 = some 52 := rfl
theorem sr_48_11 : sr0 48 11 = some 53 := rfl
theorem sr_54_0 : sr0 54 0 = some 55 := rfl
theorem sr_56_5 : sr0 56 5 = some 57 := rfl
theorem sr_58_6 : sr0 58 6 = some 59 := rfl
theorem sr_60_0 : sr0 60 0 = some 61 := rfl
theorem sr_60_1 : sr0 60 1 = some 62 := rfl
theorem sr_60_2 : sr0 60 2 = some 63 := rfl
theorem sr_60_3 : sr0 60 3 = some 64 := rfl
theorem sr_65_0 : sr0 65 0 = some 66 := rfl
theorem sr_65_1 : sr0 65 1 = some 67 := rfl
theorem sr_65_2 : sr0 65 2 = some 68 := rfl
theorem sr_65_3 : sr0 65 3 = some 69 := rfl
theorem sr_70_0 : sr0 70 0 = some 71 := rfl
theorem sr_70_1 : sr0 70 1 = some 72 := rfl
theorem sr_70_2 : sr0 70 2 = some 73 := rfl
theorem sr_70_3 : sr0 70 3 = some 74 := rfl
theorem sr_75_0 : sr0 75 0 = some 76 := rfl
theorem sr_75_1 : sr0 75 1 = some 77 := rfl
theorem sr_75_2 : sr0 75 2 = some 78 := rfl
theorem sr_75_3 : sr0 75 3 = some 79 := rfl
theorem sr_80_0 : sr0 80 0 = some 81 := rfl
theorem sr_82_0 : sr0 82 0 = some 83 := rfl
theorem sr_84_0 : sr0 84 0 = some 85 := rfl
theorem sr_86_0 : sr0 86 0 = some 87 := rfl
theorem sr_88_0 : sr0 88 0 = some 89 := rfl
theorem sr_90_0 : sr0 90 0 = some 91 := rfl
theorem sr_92_1 : sr0 92 1 = some 93 := rfl
theorem sr_92_4 : sr0 92 4 = some 94 := rfl
theorem sr_92_5 : sr0 92 5 = some 95 := rfl
theorem sr_92_6 : sr0 92 6 = some 96 := rfl
theorem sr_92_9 : sr0 92 9 = some 97 := rfl
theorem sr_92_10 : sr0 92 10 = some 98 := rfl
theorem sr_92_11 : sr0 92 11 = some 99 := rfl
theorem sr_92_12 : sr0 92 12 = some 100 := rfl
theorem sr_92_14 : sr0 92 14 = some 101 := rfl
theorem sr_92_15 : sr0 92 15 = some 102 := rfl
theorem sr_92_18 : sr0 92 18 = some 103 := rfl
theorem sr_92_19 : sr0 92 19 = some 104 := rfl
theorem sr_92_20 : sr0 92 20 = some 105 := rfl
theorem sr_92_21 : sr0 92 21 = some 106 := rfl
theorem sr_92_23 : sr0 92 23 = some 107 := rfl
theorem sr_92_24 : sr0 92 24 = some 108 := rfl
theorem sr_92_27 : sr0 92 27 = some 109 := rfl
theorem sr_92_31 : sr0 92 31 = some 110 := rfl
theorem sr_92_32 : sr0 92 32 = some 111 := rfl
theorem sr_92_34 : sr0 92 34 = some 112 := rfl
theorem sr_92_35 : sr0 92 35 = some 113 := rfl
theorem sr_92_36 : sr0 92 36 = some 114 := rfl
theorem sr_92_38 : sr0 92 38 = some 115 := rfl
def isCel (o : Nat) : Prop := o = 2 ∨ o = 14
theorem shCel_0 {o : Nat} (h : isCel o) : S0[o]? = some (Sum.inl 0) := by rcases h with rfl | rfl <;> rfl
theorem shCel_1 {o : Nat} (h : isCel o) : S0[o + 1]? = some (Sum.inr (.int, 6)) := by rcases h with rfl | rfl <;> rfl
theorem shCel_2 {o : Nat} (h : isCel o) : S0[o + 2]? = some (Sum.inr (.int, 48)) := by rcases h with rfl | rfl <;> rfl
theorem shCel_3 {o : Nat} (h : isCel o) : S0[o + 3]? = some (Sum.inr (.int, 6)) := by rcases h with rfl | rfl <;> rfl
theorem shCel_4 {o : Nat} (h : isCel o) : S0[o + 4]? = some (Sum.inr (.int, 6)) := by rcases h with rfl | rfl <;> rfl
theorem shCel_5 {o : Nat} (h : isCel o) : S0[o + 5]? = some (Sum.inr (.int, 576)) := by rcases h with rfl | rfl <;> rfl
theorem shCel_6 {o : Nat} (h : isCel o) : S0[o + 6]? = some (Sum.inr (.int, 6)) := by rcases h with rfl | rfl <;> rfl
theorem shCel_7 {o : Nat} (h : isCel o) : S0[o + 7]? = some (Sum.inr (.int, 6)) := by rcases h with rfl | rfl <;> rfl
theorem shCel_8 {o : Nat} (h : isCel o) : S0[o + 8]? = some (Sum.inr (.int, 6)) := by rcases h with rfl | rfl <;> rfl
theorem shCel_9 {o : Nat} (h : isCel o) : S0[o + 9]? = some (Sum.inl 3) := by rcases h with rfl | rfl <;> rfl
theorem shCel_10 {o : Nat} (h : isCel o) : S0[o + 10]? = some (Sum.inr (.int, 1000)) := by rcases h with rfl | rfl <;> rfl
theorem shCel_11 {o : Nat} (h : isCel o) : S0[o + 11]? = some (Sum.inr (.int, 64)) := by rcases h with rfl | rfl <;> rfl
theorem srCel_5 {o : Nat} (h : isCel o) : sr0 o 5 = some (o + 1) := by rcases h with rfl | rfl <;> rfl
theorem srCel_6 {o : Nat} (h : isCel o) : sr0 o 6 = some (o + 2) := by rcases h with rfl | rfl <;> rfl
theorem srCel_8 {o : Nat} (h : isCel o) : sr0 o 8 = some (o + 3) := by rcases h with rfl | rfl <;> rfl
theorem srCel_9 {o : Nat} (h : isCel o) : sr0 o 9 = some (o + 4) := by rcases h with rfl | rfl <;> rfl
theorem srCel_10 {o : Nat} (h : isCel o) : sr0 o 10 = some (o + 5) := by rcases h with rfl | rfl <;> rfl
theorem srCel_12 {o : Nat} (h : isCel o) : sr0 o 12 = some (o + 6) := by rcases h with rfl | rfl <;> rfl
theorem srCel_13 {o : Nat} (h : isCel o) : sr0 o 13 = some (o + 7) := by rcases h with rfl | rfl <;> rfl
theorem srCel_14 {o : Nat} (h : isCel o) : sr0 o 14 = some (o + 8) := by rcases h with rfl | rfl <;> rfl
theorem srCel_15 {o : Nat} (h : isCel o) : sr0 o 15 = some (o + 9) := by rcases h with rfl | rfl <;> rfl
def isLaw (o : Nat) : Prop := o = 11 ∨ o = 23
theorem shLaw_0 {o : Nat} (h : isLaw o) : S0[o]? = some (Sum.inl 3) := by rcases h with rfl | rfl <;> rfl
theorem shLaw_1 {o : Nat} (h : isLaw o) : S0[o + 1]? = some (Sum.inr (.int, 1000)) := by rcases h with rfl | rfl <;> rfl
theorem shLaw_2 {o : Nat} (h : isLaw o) : S0[o + 2]? = some (Sum.inr (.int, 64)) := by rcases h with rfl | rfl <;> rfl
theorem srLaw_0 {o : Nat} (h : isLaw o) : sr0 o 0 = some (o + 1) := by rcases h with rfl | rfl <;> rfl
theorem srLaw_2 {o : Nat} (h : isLaw o) : sr0 o 2 = some (o + 2) := by rcases h with rfl | rfl <;> rfl
def isEve (o : Nat) : Prop := o = 33 ∨ o = 60 ∨ o = 65 ∨ o = 70 ∨ o = 75
theorem shEve_0 {o : Nat} (h : isEve o) : S0[o]? = some (Sum.inl 1) := by rcases h with rfl | rfl | rfl | rfl | rfl <;> rfl
theorem shEve_1 {o : Nat} (h : isEve o) : S0[o + 1]? = some (Sum.inr (.int, 6)) := by rcases h with rfl | rfl | rfl | rfl | rfl <;> rfl
theorem shEve_2 {o : Nat} (h : isEve o) : S0[o + 2]? = some (Sum.inr (.int, 6)) := by rcases h with rfl | rfl | rfl | rfl | rfl <;> rfl
theorem shEve_3 {o : Nat} (h : isEve o) : S0[o + 3]? = some (Sum.inr (.int, 36)) := by rcases h with rfl | rfl | rfl | rfl | rfl <;> rfl
theorem shEve_4 {o : Nat} (h : isEve o) : S0[o + 4]? = some (Sum.inr (.int, 6)) := by rcases h with rfl | rfl | rfl | rfl | rfl <;> rfl
theorem srEve_0 {o : Nat} (h : isEve o) : sr0 o 0 = some (o + 1) := by rcases h with rfl | rfl | rfl | rfl | rfl <;> rfl
theorem srEve_1 {o : Nat} (h : isEve o) : sr0 o 1 = some (o + 2) := by rcases h with rfl | rfl | rfl | rfl | rfl <;> rfl
theorem srEve_2 {o : Nat} (h : isEve o) : sr0 o 2 = some (o + 3) := by rcases h with rfl | rfl | rfl | rfl | rfl <;> rfl
theorem srEve_3 {o : Nat} (h : isEve o) : sr0 o 3 = some (o + 4) := by rcases h with rfl | rfl | rfl | rfl | rfl <;> rfl
def isRou (o : Nat) : Prop := o = 44 ∨ o = 80 ∨ o = 82 ∨ o = 84 ∨ o = 86 ∨ o = 88 ∨ o = 90
theorem shRou_0 {o : Nat} (h : isRou o) : S0[o]? = some (Sum.inl 7) := by rcases h with rfl | rfl | rfl | rfl | rfl | rfl | rfl <;> rfl
theorem shRou_1 {o : Nat} (h : isRou o) : S0[o + 1]? = some (Sum.inr (.int, 576)) := by rcases h with rfl | rfl | rfl | rfl | rfl | rfl | rfl <;> rfl
theorem srRou_0 {o : Nat} (h : isRou o) : sr0 o 0 = some (o + 1) := by rcases h with rfl | rfl | rfl | rfl | rfl | rfl | rfl <;> rfl
theorem cel_law {o : Nat} (h : isCel o) : isLaw (o + 9) := by rcases h with rfl | rfl <;> simp [isLaw]
