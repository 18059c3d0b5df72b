theorem mjX12_init : MJ mX12_init 0 := ⟨kX12_init, tsI (inT1 _ (List.mem_of_getElem? (i := 14) rfl)) rfl, by decide +kernel, by decide⟩
set_option maxHeartbeats 4000000 in
set_option maxRecDepth 100000 in
theorem ct_X12_init {d : Nat} {sx : Sx} {I : Ints} {L : Lngs} {R : Rfs} {Q : Qt}  (hz : zr 93 (93 + 23) I L R) (hq : Q none (S0.take (93 + 23)) (u2 (u2 (u2 (u2 (u2 (u2 (u2 (u2 (u2 (u2 (u2 (u2 (u2 I 103 0 25) 103 1 26) 103 2 10) 103 3 27) 98 0 2) 98 1 2) 98 6 (-1)) 106 48 (-1)) 106 49 (-1)) 106 50 (-1)) 106 51 (-1)) 106 52 (-1)) 106 53 (-1)) (u2 (u2 (u2 (u2 (u2 (u2 (u2 (u2 (u2 (u2 (u2 (u2 (u2 (u2 (u2 (u2 (u2 (u2 (u2 (u2 (u2 (u2 (u2 (u2 (u2 (u2 (u2 (u2 L 97 0 407049) 97 1 1126995080) 97 2 288643741442) 97 3 7566579) 97 4 1177863) 97 5 18795075130) 97 6 561) 97 7 14190408) 97 8 57) 97 9 31549) 97 10 1633) 97 11 50137919429) 97 12 2286271) 97 13 11523) 97 14 614923) 97 15 34200674) 97 16 919322) 97 17 30596128) 97 18 1597268632) 97 19 609691) 97 20 40071079) 97 21 20983) 97 22 19741) 97 23 1891) 97 24 573) 97 25 13729054) 97 26 989988) 97 27 8437676) (u2 (u2 (u2 (u2 (u2 (u2 (u2 (u2 (u2 (u2 (u2 (u2 (u2 (u2 (u2 (u2 (u2 (u2 (u2 (u2 (u2 (u2 (u2 R 92 1 (some 93)) 92 4 (some 94)) 92 5 (some 95)) 92 6 (some 96)) 92 9 (some 97)) 92 10 (some 98)) 92 11 (some 99)) 92 12 (some 100)) 92 14 (some 101)) 92 15 (some 102)) 92 18 (some 103)) 92 19 (some 104)) 92 20 (some 105)) 92 21 (some 106)) 92 23 (some 107)) 92 24 (some 108)) 92 27 (some 109)) 92 31 (some 110)) 92 32 (some 111)) 92 34 (some 112)) 92 35 (some 113)) 92 36 (some 114)) 92 38 (some 115))) : EV mX12_init (d + 1) 23 15626 (true, true) srN sx (S0.take 93) [.ref 92] I L R Q := by
  refine EV_of_X rfl rfl (Nat.le_of_ble_eq_true rfl) ?_
  refine X_aload_n rfl dX12_init_0 ?_
  refine X_obj (tsI (inT5 _ (List.mem_of_getElem? (i := 192) rfl)) rfl) ow_i ow_c (Nat.le_of_ble_eq_true rfl) (by omega) dX12_init_1 ?_
  refine X_aload_n rfl dX12_init_4 ?_
  refine X_sipush dX12_init_5 ?_
  refine XT_newarr (n := 93) (N := 1000) (ty := .int) sh_93 rfl rfl aw_int (by decide) (by decide) (by decide) (fun k => ?_) (by decide) (by decide) dX12_init_8 ?_
  · have hb := hz 93 (by omega) (by omega) k
    exact ⟨by (try simp (disch := omega) only [u2_off]); exact hb.1, by (try simp (disch := omega) only [u2_off]); exact hb.2.1⟩
  refine X_putrF fl_12_14 rfl rfl (fun q hq => by cases hq; exact ⟨rfl, rfl⟩) rfl (tk (by decide) sh_92) dX12_init_10 ?_
  refine X_aload_n rfl dX12_init_13 ?_
  refine X_sipush dX12_init_14 ?_
  refine XT_newarr (n := 94) (N := 1002) (ty := .int) sh_94 rfl rfl aw_int (by decide) (by decide) (by decide) (fun k => ?_) (by decide) (by decide) dX12_init_17 ?_
  · have hb := hz 94 (by omega) (by omega) k
    exact ⟨by (try simp (disch := omega) only [u2_off]); exact hb.1, by (try simp (disch := omega) only [u2_off]); exact hb.2.1⟩
  refine X_putrF fl_12_24 rfl rfl (fun q hq => by cases hq; exact ⟨rfl, rfl⟩) rfl (tk (by decide) sh_92) dX12_init_19 ?_
  refine X_aload_n rfl dX12_init_22 ?_
  refine X_sipush dX12_init_23 ?_
  refine XT_newarr (n := 95) (N := 1002) (ty := .int) sh_95 rfl rfl aw_int (by decide) (by decide) (by decide) (fun k => ?_) (by decide) (by decide) dX12_init_26 ?_
  · have hb := hz 95 (by omega) (by omega) k
    exact ⟨by (try simp (disch := omega) only [u2_off]); exact hb.1, by (try simp (disch := omega) only [u2_off]); exact hb.2.1⟩
  refine X_putrF fl_12_27 rfl rfl (fun q hq => by cases hq; exact ⟨rfl, rfl⟩) rfl (tk (by decide) sh_92) dX12_init_28 ?_
  refine X_aload_n rfl dX12_init_31 ?_
  refine X_sipush dX12_init_32 ?_
  refine XT_newarr (n := 96) (N := 1002) (ty := .long) sh_96 rfl rfl aw_long (by decide) (by decide) (by decide) (fun k => ?_) (by decide) (by decide) dX12_init_35 ?_
  · have hb := hz 96 (by omega) (by omega) k
    exact ⟨by (try simp (disch := omega) only [u2_off]); exact hb.1, by (try simp (disch := omega) only [u2_off]); exact hb.2.1⟩
  refine X_putrF fl_12_30 rfl rfl (fun q hq => by cases hq; exact ⟨rfl, rfl⟩) rfl (tk (by decide) sh_92) dX12_init_37 ?_
  refine X_aload_n rfl dX12_init_40 ?_
  refine X_bipush dX12_init_41 ?_
  refine XT_newarr (n := 97) (N := 28) (ty := .long) sh_97 rfl rfl aw_long (by decide) (by decide) (by decide) (fun k => ?_) (by decide) (by decide) dX12_init_43 ?_
  · have hb := hz 97 (by omega) (by omega) k
    exact ⟨by (try simp (disch := omega) only [u2_off]); exact hb.1, by (try simp (disch := omega) only [u2_off]); exact hb.2.1⟩
  refine X_dup rfl dX12_init_45 ?_
  refine X_iconst dX12_init_46 ?_
  refine X_ldc2 (v := 407049) (kl_ok rfl) dX12_init_47 ?_
  refine X_last (tk (by decide) sh_97) (by unfold vp_in; decide) dX12_init_50 ?_
  refine X_dup rfl dX12_init_51 ?_
  refine X_iconst dX12_init_52 ?_
  refine X_ldc2 (v := 1126995080) (kl_ok rfl) dX12_init_53 ?_
  refine X_last (tk (by decide) sh_97) (by unfold vp_in; decide) dX12_init_56 ?_
  refine X_dup rfl dX12_init_57 ?_
  refine X_iconst dX12_init_58 ?_
  refine X_ldc2 (v := 288643741442) (kl_ok rfl) dX12_init_59 ?_
  refine X_last (tk (by decide) sh_97) (by unfold vp_in; decide) dX12_init_62 ?_
  refine X_dup rfl dX12_init_63 ?_
  refine X_iconst dX12_init_64 ?_
  refine X_ldc2 (v := 7566579) (kl_ok rfl) dX12_init_65 ?_
  refine X_last (tk (by decide) sh_97) (by unfold vp_in; decide) dX12_init_68 ?_
  refine X_dup rfl dX12_init_69 ?_
  refine X_iconst dX12_init_70 ?_
  refine X_ldc2 (v := 1177863) (kl_ok rfl) dX12_init_71 ?_
  refine X_last (tk (by decide) sh_97) (by unfold vp_in; decide) dX12_init_74 ?_
  refine X_dup rfl dX12_init_75 ?_
  refine X_iconst dX12_init_76 ?_
  refine X_ldc2 (v := 18795075130) (kl_ok rfl) dX12_init_77 ?_
  refine X_last (tk (by decide) sh_97) (by unfold vp_in; decide) dX12_init_80 ?_
  refine X_dup rfl dX12_init_81 ?_
  refine X_bipush dX12_init_82 ?_
  refine X_ldc2 (v := 561) (kl_ok rfl) dX12_init_84 ?_
  refine X_last (tk (by decide) sh_97) (by unfold vp_in; decide) dX12_init_87 ?_
  refine X_dup rfl dX12_init_88 ?_
  refine X_bipush dX12_init_89 ?_
  refine X_ldc2 (v := 14190408) (kl_ok rfl) dX12_init_91 ?_
  refine X_last (tk (by decide) sh_97) (by unfold vp_in; decide) dX12_init_94 ?_
  refine X_dup rfl dX12_init_95 ?_
  refine X_bipush dX12_init_96 ?_
  refine X_ldc2 (v := 57) (kl_ok rfl) dX12_init_98 ?_
  refine X_last (tk (by decide) sh_97) (by unfold vp_in; decide) dX12_init_101 ?_
  refine X_dup rfl dX12_init_102 ?_
  refine X_bipush dX12_init_103 ?_
  refine X_ldc2 (v := 31549) (kl_ok rfl) dX12_init_105 ?_
  refine X_last (tk (by decide) sh_97) (by unfold vp_in; decide) dX12_init_108 ?_
  refine X_dup rfl dX12_init_109 ?_
  refine X_bipush dX12_init_110 ?_
  refine X_ldc2 (v := 1633) (kl_ok rfl) dX12_init_112 ?_
  refine X_last (tk (by decide) sh_97) (by unfold vp_in; decide) dX12_init_115 ?_
  refine X_dup rfl dX12_init_116 ?_
  refine X_bipush dX12_init_117 ?_
  refine X_ldc2 (v := 50137919429) (kl_ok rfl) dX12_init_119 ?_
  refine X_last (tk (by decide) sh_97) (by unfold vp_in; decide) dX12_init_122 ?_
  refine X_dup rfl dX12_init_123 ?_
  refine X_bipush dX12_init_124 ?_
  refine X_ldc2 (v := 2286271) (kl_ok rfl) dX12_init_126 ?_
  refine X_last (tk (by decide) sh_97) (by unfold vp_in; decide) dX12_init_129 ?_
  refine X_dup rfl dX12_init_130 ?_
  refine X_bipush dX12_init_131 ?_
  refine X_ldc2 (v := 11523) (kl_ok rfl) dX12_init_133 ?_
  refine X_last (tk (by decide) sh_97) (by unfold vp_in; decide) dX12_init_136 ?_
  refine X_dup rfl dX12_init_137 ?_
  refine X_bipush dX12_init_138 ?_
  refine X_ldc2 (v := 614923) (kl_ok rfl) dX12_init_140 ?_
  refine X_last (tk (by decide) sh_97) (by unfold vp_in; decide) dX12_init_143 ?_
  refine X_dup rfl dX12_init_144 ?_
  refine X_bipush dX12_init_145 ?_
  refine X_ldc2 (v := 34200674) (kl_ok rfl) dX12_init_147 ?_
  refine X_last (tk (by decide) sh_97) (by unfold vp_in; decide) dX12_init_150 ?_
  refine X_dup rfl dX12_init_151 ?_
  refine X_bipush dX12_init_152 ?_
  refine X_ldc2 (v := 919322) (kl_ok rfl) dX12_init_154 ?_
  refine X_last (tk (by decide) sh_97) (by unfold vp_in; decide) dX12_init_157 ?_
  refine X_dup rfl dX12_init_158 ?_
  refine X_bipush dX12_init_159 ?_
  refine X_ldc2 (v := 30596128) (kl_ok rfl) dX12_init_161 ?_
  refine X_last (tk (by decide) sh_97) (by unfold vp_in; decide) dX12_init_164 ?_
  refine X_dup rfl dX12_init_165 ?_
  refine X_bipush dX12_init_166 ?_
  refine X_ldc2 (v := 1597268632) (kl_ok rfl) dX12_init_168 ?_
  refine X_last (tk (by decide) sh_97) (by unfold vp_in; decide) dX12_init_171 ?_
  refine X_dup rfl dX12_init_172 ?_
  refine X_bipush dX12_init_173 ?_
  refine X_ldc2 (v := 609691) (kl_ok rfl) dX12_init_175 ?_
  refine X_last (tk (by decide) sh_97) (by unfold vp_in; decide) dX12_init_178 ?_
  refine X_dup rfl dX12_init_179 ?_
  refine X_bipush dX12_init_180 ?_
  refine X_ldc2 (v := 40071079) (kl_ok rfl) dX12_init_182 ?_
  refine X_last (tk (by decide) sh_97) (by unfold vp_in; decide) dX12_init_185 ?_
  refine X_dup rfl dX12_init_186 ?_
  refine X_bipush dX12_init_187 ?_
  refine X_ldc2 (v := 20983) (kl_ok rfl) dX12_init_189 ?_
  refine X_last (tk (by decide) sh_97) (by unfold vp_in; decide) dX12_init_192 ?_
  refine X_dup rfl dX12_init_193 ?_
  refine X_bipush dX12_init_194 ?_
  refine X_ldc2 (v := 19741) (kl_ok rfl) dX12_init_196 ?_
  refine X_last (tk (by decide) sh_97) (by unfold vp_in; decide) dX12_init_199 ?_
  refine X_dup rfl dX12_init_200 ?_
  refine X_bipush dX12_init_201 ?_
  refine X_ldc2 (v := 1891) (kl_ok rfl) dX12_init_203 ?_
  refine X_last (tk (by decide) sh_97) (by unfold vp_in; decide) dX12_init_206 ?_
  refine X_dup rfl dX12_init_207 ?_
  refine X_bipush dX12_init_208 ?_
  refine X_ldc2 (v := 573) (kl_ok rfl) dX12_init_210 ?_
  refine X_last (tk (by decide) sh_97) (by unfold vp_in; decide) dX12_init_213 ?_
  refine X_dup rfl dX12_init_214 ?_
  refine X_bipush dX12_init_215 ?_
  refine X_ldc2 (v := 13729054) (kl_ok rfl) dX12_init_217 ?_
  refine X_last (tk (by decide) sh_97) (by unfold vp_in; decide) dX12_init_220 ?_
  refine X_dup rfl dX12_init_221 ?_
  refine X_bipush dX12_init_222 ?_
  refine X_ldc2 (v := 989988) (kl_ok rfl) dX12_init_224 ?_
  refine X_last (tk (by decide) sh_97) (by unfold vp_in; decide) dX12_init_227 ?_
  refine X_dup rfl dX12_init_228 ?_
  refine X_bipush dX12_init_229 ?_
  refine X_ldc2 (v := 8437676) (kl_ok rfl) dX12_init_231 ?_
  refine X_last (tk (by decide) sh_97) (by unfold vp_in; decide) dX12_init_234 ?_
  refine X_putrF fl_12_90 rfl rfl (fun q hq => by cases hq; exact ⟨rfl, rfl⟩) rfl (tk (by decide) sh_92) dX12_init_235 ?_
  refine X_aload_n rfl dX12_init_238 ?_
  refine X_sipush dX12_init_239 ?_
  refine XT_newarr (n := 98) (N := 408) (ty := .int) sh_98 rfl rfl aw_int (by decide) (by decide) (by decide) (fun k => ?_) (by decide) (by decide) dX12_init_242 ?_
  · have hb := hz 98 (by omega) (by omega) k
    exact ⟨by (try simp (disch := omega) only [u2_off]); exact hb.1, by (try simp (disch := omega) only [u2_off]); exact hb.2.1⟩
  refine X_putrF fl_12_93 rfl rfl (fun q hq => by cases hq; exact ⟨rfl, rfl⟩) rfl (tk (by decide) sh_92) dX12_init_244 ?_
  refine X_aload_n rfl dX12_init_247 ?_
  refine X_sipush dX12_init_248 ?_
  refine XT_newarr (n := 99) (N := 2200) (ty := .int) sh_99 rfl rfl aw_int (by decide) (by decide) (by decide) (fun k => ?_) (by decide) (by decide) dX12_init_251 ?_
  · have hb := hz 99 (by omega) (by omega) k
    exact ⟨by (try simp (disch := omega) only [u2_off]); exact hb.1, by (try simp (disch := omega) only [u2_off]); exact hb.2.1⟩
  refine X_putrF fl_12_96 rfl rfl (fun q hq => by cases hq; exact ⟨rfl, rfl⟩) rfl (tk (by decide) sh_92) dX12_init_253 ?_
  refine X_aload_n rfl dX12_init_256 ?_
  refine X_sipush dX12_init_257 ?_
  refine XT_newarr (n := 100) (N := 2200) (ty := .int) sh_100 rfl rfl aw_int (by decide) (by decide) (by decide) (fun k => ?_) (by decide) (by decide) dX12_init_260 ?_
  · have hb := hz 100 (by omega) (by omega) k
    exact ⟨by (try simp (disch := omega) only [u2_off]); exact hb.1, by (try simp (disch := omega) only [u2_off]); exact hb.2.1⟩
  refine X_putrF fl_12_99 rfl rfl (fun q hq => by cases hq; exact ⟨rfl, rfl⟩) rfl (tk (by decide) sh_92) dX12_init_262 ?_
  refine X_aload_n rfl dX12_init_265 ?_
  refine X_bipush dX12_init_266 ?_
  refine XT_newarr (n := 101) (N := 18) (ty := .long) sh_101 rfl rfl aw_long (by decide) (by decide) (by decide) (fun k => ?_) (by decide) (by decide) dX12_init_268 ?_
  · have hb := hz 101 (by omega) (by omega) k
    exact ⟨by (try simp (disch := omega) only [u2_off]); exact hb.1, by (try simp (disch := omega) only [u2_off]); exact hb.2.1⟩
  refine X_putrF fl_12_102 rfl rfl (fun q hq => by cases hq; exact ⟨rfl, rfl⟩) rfl (tk (by decide) sh_92) dX12_init_270 ?_
  refine X_aload_n rfl dX12_init_273 ?_
  refine X_bipush dX12_init_274 ?_
  refine XT_newarr (n := 102) (N := 18) (ty := .int) sh_102 rfl rfl aw_int (by decide) (by decide) (by decide) (fun k => ?_) (by decide) (by decide) dX12_init_276 ?_
  · have hb := hz 102 (by omega) (by omega) k
    exact ⟨by (try simp (disch := omega) only [u2_off]); exact hb.1, by (try simp (disch := omega) only [u2_off]); exact hb.2.1⟩
  refine X_putrF fl_12_105 rfl rfl (fun q hq => by cases hq; exact ⟨rfl, rfl⟩) rfl (tk (by decide) sh_92) dX12_init_278 ?_
  refine X_aload_n rfl dX12_init_281 ?_
  refine X_iconst dX12_init_282 ?_
  refine XT_newarr (n := 103) (N := 4) (ty := .int) sh_103 rfl rfl aw_int (by decide) (by decide) (by decide) (fun k => ?_) (by decide) (by decide) dX12_init_283 ?_
  · have hb := hz 103 (by omega) (by omega) k
    exact ⟨by (try simp (disch := omega) only [u2_off]); exact hb.1, by (try simp (disch := omega) only [u2_off]); exact hb.2.1⟩
  refine X_dup rfl dX12_init_285 ?_
  refine X_iconst dX12_init_286 ?_
  refine X_bipush dX12_init_287 ?_
  refine X_iast (tk (by decide) sh_103) (by unfold vp_in; decide) dX12_init_289 ?_
  refine X_dup rfl dX12_init_290 ?_
  refine X_iconst dX12_init_291 ?_
  refine X_bipush dX12_init_292 ?_
  refine X_iast (tk (by decide) sh_103) (by unfold vp_in; decide) dX12_init_294 ?_
  refine X_dup rfl dX12_init_295 ?_
  refine X_iconst dX12_init_296 ?_
  refine X_bipush dX12_init_297 ?_
  refine X_iast (tk (by decide) sh_103) (by unfold vp_in; decide) dX12_init_299 ?_
  refine X_dup rfl dX12_init_300 ?_
  refine X_iconst dX12_init_301 ?_
  refine X_bipush dX12_init_302 ?_
  refine X_iast (tk (by decide) sh_103) (by unfold vp_in; decide) dX12_init_304 ?_
  refine X_putrF fl_12_108 rfl rfl (fun q hq => by cases hq; exact ⟨rfl, rfl⟩) rfl (tk (by decide) sh_92) dX12_init_305 ?_
  refine X_aload_n rfl dX12_init_308 ?_
  refine X_iconst dX12_init_309 ?_
  refine XT_newarr (n := 104) (N := 4) (ty := .int) sh_104 rfl rfl aw_int (by decide) (by decide) (by decide) (fun k => ?_) (by decide) (by decide) dX12_init_310 ?_
  · have hb := hz 104 (by omega) (by omega) k
    exact ⟨by (try simp (disch := omega) only [u2_off]); exact hb.1, by (try simp (disch := omega) only [u2_off]); exact hb.2.1⟩
  refine X_putrF fl_12_111 rfl rfl (fun q hq => by cases hq; exact ⟨rfl, rfl⟩) rfl (tk (by decide) sh_92) dX12_init_312 ?_
  refine X_aload_n rfl dX12_init_315 ?_
  refine X_sipush dX12_init_316 ?_
  refine XT_newarr (n := 105) (N := 1100) (ty := .int) sh_105 rfl rfl aw_int (by decide) (by decide) (by decide) (fun k => ?_) (by decide) (by decide) dX12_init_319 ?_
  · have hb := hz 105 (by omega) (by omega) k
    exact ⟨by (try simp (disch := omega) only [u2_off]); exact hb.1, by (try simp (disch := omega) only [u2_off]); exact hb.2.1⟩
  refine X_putrF fl_12_114 rfl rfl (fun q hq => by cases hq; exact ⟨rfl, rfl⟩) rfl (tk (by decide) sh_92) dX12_init_321 ?_
  refine X_aload_n rfl dX12_init_324 ?_
  refine X_sipush dX12_init_325 ?_
  refine XT_newarr (n := 106) (N := 1400) (ty := .int) sh_106 rfl rfl aw_int (by decide) (by decide) (by decide) (fun k => ?_) (by decide) (by decide) dX12_init_328 ?_
  · have hb := hz 106 (by omega) (by omega) k
    exact ⟨by (try simp (disch := omega) only [u2_off]); exact hb.1, by (try simp (disch := omega) only [u2_off]); exact hb.2.1⟩
  refine X_putrF fl_12_117 rfl rfl (fun q hq => by cases hq; exact ⟨rfl, rfl⟩) rfl (tk (by decide) sh_92) dX12_init_330 ?_
  refine X_aload_n rfl dX12_init_333 ?_
  refine X_iconst dX12_init_334 ?_
  refine XT_newarr (n := 107) (N := 4) (ty := .boolean) sh_107 rfl rfl aw_boolean (by decide) (by decide) (by decide) (fun k => ?_) (by decide) (by decide) dX12_init_335 ?_
  · have hb := hz 107 (by omega) (by omega) k
    exact ⟨by (try simp (disch := omega) only [u2_off]); exact hb.1, by (try simp (disch := omega) only [u2_off]); exact hb.2.1⟩
  refine X_putrF fl_12_120 rfl rfl (fun q hq => by cases hq; exact ⟨rfl, rfl⟩) rfl (tk (by decide) sh_92) dX12_init_337 ?_
  refine X_aload_n rfl dX12_init_340 ?_
  refine X_sipush dX12_init_341 ?_
  refine XT_newarr (n := 108) (N := 600) (ty := .int) sh_108 rfl rfl aw_int (by decide) (by decide) (by decide) (fun k => ?_) (by decide) (by decide) dX12_init_344 ?_
  · have hb := hz 108 (by omega) (by omega) k
    exact ⟨by (try simp (disch := omega) only [u2_off]); exact hb.1, by (try simp (disch := omega) only [u2_off]); exact hb.2.1⟩
  refine X_putrF fl_12_124 rfl rfl (fun q hq => by cases hq; exact ⟨rfl, rfl⟩) rfl (tk (by decide) sh_92) dX12_init_346 ?_
  refine X_aload_n rfl dX12_init_349 ?_
  refine X_bipush dX12_init_350 ?_
  refine XT_newarr (n := 109) (N := 6) (ty := .int) sh_109 rfl rfl aw_int (by decide) (by decide) (by decide) (fun k => ?_) (by decide) (by decide) dX12_init_352 ?_
  · have hb := hz 109 (by omega) (by omega) k
    exact ⟨by (try simp (disch := omega) only [u2_off]); exact hb.1, by (try simp (disch := omega) only [u2_off]); exact hb.2.1⟩
  refine X_putrF fl_12_127 rfl rfl (fun q hq => by cases hq; exact ⟨rfl, rfl⟩) rfl (tk (by decide) sh_92) dX12_init_354 ?_
  refine X_aload_n rfl dX12_init_357 ?_
  refine X_bipush dX12_init_358 ?_
  refine XT_newarr (n := 110) (N := 6) (ty := .int) sh_110 rfl rfl aw_int (by decide) (by decide) (by decide) (fun k => ?_) (by decide) (by decide) dX12_init_360 ?_
  · have hb := hz 110 (by omega) (by omega) k
    exact ⟨by (try simp (disch := omega) only [u2_off]); exact hb.1, by (try simp (disch := omega) only [u2_off]); exact hb.2.1⟩
  refine X_putrF fl_12_130 rfl rfl (fun q hq => by cases hq; exact ⟨rfl, rfl⟩) rfl (tk (by decide) sh_92) dX12_init_362 ?_
  refine X_aload_n rfl dX12_init_365 ?_
  refine X_bipush dX12_init_366 ?_
  refine XT_newarr (n := 111) (N := 6) (ty := .int) sh_111 rfl rfl aw_int (by decide) (by decide) (by decide) (fun k => ?_) (by decide) (by decide) dX12_init_368 ?_
  · have hb := hz 111 (by omega) (by omega) k
    exact ⟨by (try simp (disch := omega) only [u2_off]); exact hb.1, by (try simp (disch := omega) only [u2_off]); exact hb.2.1⟩
  refine X_putrF fl_12_133 rfl rfl (fun q hq => by cases hq; exact ⟨rfl, rfl⟩) rfl (tk (by decide) sh_92) dX12_init_370 ?_
  refine X_aload_n rfl dX12_init_373 ?_
  refine X_sipush dX12_init_374 ?_
  refine XT_newarr (n := 112) (N := 3600) (ty := .int) sh_112 rfl rfl aw_int (by decide) (by decide) (by decide) (fun k => ?_) (by decide) (by decide) dX12_init_377 ?_
  · have hb := hz 112 (by omega) (by omega) k
    exact ⟨by (try simp (disch := omega) only [u2_off]); exact hb.1, by (try simp (disch := omega) only [u2_off]); exact hb.2.1⟩
  refine X_putrF fl_12_136 rfl rfl (fun q hq => by cases hq; exact ⟨rfl, rfl⟩) rfl (tk (by decide) sh_92) dX12_init_379 ?_
  refine X_aload_n rfl dX12_init_382 ?_
  refine X_bipush dX12_init_383 ?_
  refine XT_newarr (n := 113) (N := 6) (ty := .int) sh_113 rfl rfl aw_int (by decide) (by decide) (by decide) (fun k => ?_) (by decide) (by decide) dX12_init_385 ?_
  · have hb := hz 113 (by omega) (by omega) k
    exact ⟨by (try simp (disch := omega) only [u2_off]); exact hb.1, by (try simp (disch := omega) only [u2_off]); exact hb.2.1⟩
  refine X_putrF fl_12_139 rfl rfl (fun q hq => by cases hq; exact ⟨rfl, rfl⟩) rfl (tk (by decide) sh_92) dX12_init_387 ?_
  refine X_aload_n rfl dX12_init_390 ?_
  refine X_bipush dX12_init_391 ?_
  refine XT_newarr (n := 114) (N := 6) (ty := .int) sh_114 rfl rfl aw_int (by decide) (by decide) (by decide) (fun k => ?_) (by decide) (by decide) dX12_init_393 ?_
  · have hb := hz 114 (by omega) (by omega) k
    exact ⟨by (try simp (disch := omega) only [u2_off]); exact hb.1, by (try simp (disch := omega) only [u2_off]); exact hb.2.1⟩
  refine X_putrF fl_12_142 rfl rfl (fun q hq => by cases hq; exact ⟨rfl, rfl⟩) rfl (tk (by decide) sh_92) dX12_init_395 ?_
  refine X_aload_n rfl dX12_init_398 ?_
  refine X_bipush dX12_init_399 ?_
  refine XT_newarr (n := 115) (N := 6) (ty := .int) sh_115 rfl rfl aw_int (by decide) (by decide) (by decide) (fun k => ?_) (by decide) (by decide) dX12_init_401 ?_
  · have hb := hz 115 (by omega) (by omega) k
    exact ⟨by (try simp (disch := omega) only [u2_off]); exact hb.1, by (try simp (disch := omega) only [u2_off]); exact hb.2.1⟩
  refine X_putrF fl_12_145 rfl rfl (fun q hq => by cases hq; exact ⟨rfl, rfl⟩) rfl (tk (by decide) sh_92) dX12_init_403 ?_
  refine X_aload_n rfl dX12_init_406 ?_
  refine X_getr (q := 98) (by simp (disch := omega) only [u2_self, u2_nk, u2_off]) fl_12_93 rfl (tk (by decide) sh_92) dX12_init_407 ?_
  refine X_iconst dX12_init_410 ?_
  refine X_iconst dX12_init_411 ?_
  refine X_iast (tk (by decide) sh_98) (by unfold vp_in; decide) dX12_init_412 ?_
  refine X_aload_n rfl dX12_init_413 ?_
  refine X_getr (q := 98) (by simp (disch := omega) only [u2_self, u2_nk, u2_off]) fl_12_93 rfl (tk (by decide) sh_92) dX12_init_414 ?_
  refine X_iconst dX12_init_417 ?_
  refine X_iconst dX12_init_418 ?_
  refine X_iast (tk (by decide) sh_98) (by unfold vp_in; decide) dX12_init_419 ?_
  refine X_aload_n rfl dX12_init_420 ?_
  refine X_getr (q := 98) (by simp (disch := omega) only [u2_self, u2_nk, u2_off]) fl_12_93 rfl (tk (by decide) sh_92) dX12_init_421 ?_
  refine X_bipush dX12_init_424 ?_
  refine X_iconst dX12_init_426 ?_
  refine X_iast (tk (by decide) sh_98) (by unfold vp_in; decide) dX12_init_427 ?_
  refine X_iconst dX12_init_428 ?_
  refine X_istore_n (by decide) dX12_init_429 ?_
  refine X_iload_n rfl dX12_init_430 ?_
  refine X_bipush dX12_init_431 ?_
  refine X_icmp_ge (tgt := 452) dX12_init_433 rfl (fun z => absurd z (by decide)) (fun _ => ?_)
  refine X_aload_n rfl dX12_init_436 ?_
  refine X_getr (q := 106) (by simp (disch := omega) only [u2_self, u2_nk, u2_off]) fl_12_117 rfl (tk (by decide) sh_92) dX12_init_437 ?_
  refine X_bipush dX12_init_440 ?_
  refine X_iload_n rfl dX12_init_442 ?_
  refine X_iadd dX12_init_443 ?_
  refine X_iconst dX12_init_444 ?_
  refine X_iast (tk (by decide) sh_106) (by unfold vp_in; decide) dX12_init_445 ?_
  refine X_iinc rfl (by decide) dX12_init_446 ?_
  refine X_goto (tgt := 430) dX12_init_449 rfl ?_
  refine X_iload_n rfl dX12_init_430 ?_
  refine X_bipush dX12_init_431 ?_
  refine X_icmp_ge (tgt := 452) dX12_init_433 rfl (fun z => absurd z (by decide)) (fun _ => ?_)
  refine X_aload_n rfl dX12_init_436 ?_
  refine X_getr (q := 106) (by simp (disch := omega) only [u2_self, u2_nk, u2_off]) fl_12_117 rfl (tk (by decide) sh_92) dX12_init_437 ?_
  refine X_bipush dX12_init_440 ?_
  refine X_iload_n rfl dX12_init_442 ?_
  refine X_iadd dX12_init_443 ?_
  refine X_iconst dX12_init_444 ?_
  refine X_iast (tk (by decide) sh_106) (by unfold vp_in; decide) dX12_init_445 ?_
  refine X_iinc rfl (by decide) dX12_init_446 ?_
  refine X_goto (tgt := 430) dX12_init_449 rfl ?_
  refine X_iload_n rfl dX12_init_430 ?_
  refine X_bipush dX12_init_431 ?_
  refine X_icmp_ge (tgt := 452) dX12_init_433 rfl (fun z => absurd z (by decide)) (fun _ => ?_)
  refine X_aload_n rfl dX12_init_436 ?_
  refine X_getr (q := 106) (by simp (disch := omega) only [u2_self, u2_nk, u2_off]) fl_12_117 rfl (tk (by decide) sh_92) dX12_init_437 ?_
  refine X_bipush dX12_init_440 ?_
  refine X_iload_n rfl dX12_init_442 ?_
  refine X_iadd dX12_init_443 ?_
  refine X_iconst dX12_init_444 ?_
  refine X_iast (tk (by decide) sh_106) (by unfold vp_in; decide) dX12_init_445 ?_
  refine X_iinc rfl (by decide) dX12_init_446 ?_
  refine X_goto (tgt := 430) dX12_init_449 rfl ?_
  refine X_iload_n rfl dX12_init_430 ?_
  refine X_bipush dX12_init_431 ?_
  refine X_icmp_ge (tgt := 452) dX12_init_433 rfl (fun z => absurd z (by decide)) (fun _ => ?_)
  refine X_aload_n rfl dX12_init_436 ?_
  refine X_getr (q := 106) (by simp (disch := omega) only [u2_self, u2_nk, u2_off]) fl_12_117 rfl (tk (by decide) sh_92) dX12_init_437 ?_
  refine X_bipush dX12_init_440 ?_
  refine X_iload_n rfl dX12_init_442 ?_
  refine X_iadd dX12_init_443 ?_
  refine X_iconst dX12_init_444 ?_
  refine X_iast (tk (by decide) sh_106) (by unfold vp_in; decide) dX12_init_445 ?_
  refine X_iinc rfl (by decide) dX12_init_446 ?_
  refine X_goto (tgt := 430) dX12_init_449 rfl ?_
  refine X_iload_n rfl dX12_init_430 ?_
  refine X_bipush dX12_init_431 ?_
  refine X_icmp_ge (tgt := 452) dX12_init_433 rfl (fun z => absurd z (by decide)) (fun _ => ?_)
  refine X_aload_n rfl dX12_init_436 ?_
  refine X_getr (q := 106) (by simp (disch := omega) only [u2_self, u2_nk, u2_off]) fl_12_117 rfl (tk (by decide) sh_92) dX12_init_437 ?_
  refine X_bipush dX12_init_440 ?_
  refine X_iload_n rfl dX12_init_442 ?_
  refine X_iadd dX12_init_443 ?_
  refine X_iconst dX12_init_444 ?_
  refine X_iast (tk (by decide) sh_106) (by unfold vp_in; decide) dX12_init_445 ?_
  refine X_iinc rfl (by decide) dX12_init_446 ?_
  refine X_goto (tgt := 430) dX12_init_449 rfl ?_
  refine X_iload_n rfl dX12_init_430 ?_
  refine X_bipush dX12_init_431 ?_
  refine X_icmp_ge (tgt := 452) dX12_init_433 rfl (fun z => absurd z (by decide)) (fun _ => ?_)
  refine X_aload_n rfl dX12_init_436 ?_
  refine X_getr (q := 106) (by simp (disch := omega) only [u2_self, u2_nk, u2_off]) fl_12_117 rfl (tk (by decide) sh_92) dX12_init_437 ?_
  refine X_bipush dX12_init_440 ?_
  refine X_iload_n rfl dX12_init_442 ?_
  refine X_iadd dX12_init_443 ?_
  refine X_iconst dX12_init_444 ?_
  refine X_iast (tk (by decide) sh_106) (by unfold vp_in; decide) dX12_init_445 ?_
  refine X_iinc rfl (by decide) dX12_init_446 ?_
  refine X_goto (tgt := 430) dX12_init_449 rfl ?_
  refine X_iload_n rfl dX12_init_430 ?_
  refine X_bipush dX12_init_431 ?_
  refine X_icmp_ge (tgt := 452) dX12_init_433 rfl (fun _ => ?_) (fun z => absurd z (by decide))
  exact X_vret (st := []) rfl (by decide) (by decide) (fun _ => ⟨rfl, rfl⟩) dX12_init_452 hq
