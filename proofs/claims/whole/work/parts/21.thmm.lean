set_option maxRecDepth 20000 in
theorem t_X9_usual {G : GT} {l : Launch} (hl : l.stackTraces = false) {fu : Nat} {s s' : St} {a0 : Nat} {a1 : Nat} (hf : f_X9_usual fu s a0 a1 = some s') : MetG G l yX9_usual (.code yX9_usual cX9_usual 2 none) 0 s [vR 10 a0, vR 10 a1] (s', .inl none) := by
  refine MetG_of hl (by decide +kernel) (Nat.le_of_ble_eq_true rfl) (fun E g f eG eL => ?_)
  subst eG; subst eL
  have g : GX E "ThinSeriesModel" cX9_usual 2 0 := g
  have f : FX E "usual" none [] := f
  show V E 2 (QE E (s', .inl none)) s 0 [(0, vR 10 a0), (1, vR 10 a1)] []
  unfold f_X9_usual at hf
  refine V_aload_n g 0 dX9_usual_0 rfl ?_
  refine V_iconst (v := 0) g dX9_usual_1 (by decide) ?_
  refine V_bipush (v := 10) g dX9_usual_2 (by decide) ?_
  obtain ⟨z1, hf⟩ := nz_some hf
  obtain ⟨h2, hf⟩ := ckf hf
  obtain ⟨s3, es3, hf⟩ := lt_some hf
  refine V_iast g es3 z1 h2 dX9_usual_4 ?_
  refine V_aload_n g 0 dX9_usual_5 rfl ?_
  refine V_iconst (v := 1) g dX9_usual_6 (by decide) ?_
  refine V_bipush (v := 60) g dX9_usual_7 (by decide) ?_
  obtain ⟨h4, hf⟩ := ckf hf
  obtain ⟨s5, es5, hf⟩ := lt_some hf
  refine V_iast g es5 z1 h4 dX9_usual_9 ?_
  refine V_aload_n g 0 dX9_usual_10 rfl ?_
  refine V_iconst (v := 2) g dX9_usual_11 (by decide) ?_
  refine V_sipush (v := 300) g dX9_usual_12 (by decide) ?_
  obtain ⟨h6, hf⟩ := ckf hf
  obtain ⟨s7, es7, hf⟩ := lt_some hf
  refine V_iast g es7 z1 h6 dX9_usual_15 ?_
  refine V_aload_n g 1 dX9_usual_16 rfl ?_
  refine V_iconst (v := 0) g dX9_usual_17 (by decide) ?_
  refine V_bipush (v := 6) g dX9_usual_18 (by decide) ?_
  obtain ⟨z8, hf⟩ := nz_some hf
  obtain ⟨h9, hf⟩ := ckf hf
  obtain ⟨s10, es10, hf⟩ := lt_some hf
  refine V_iast g es10 z8 h9 dX9_usual_20 ?_
  refine V_aload_n g 1 dX9_usual_21 rfl ?_
  refine V_iconst (v := 1) g dX9_usual_22 (by decide) ?_
  refine V_iconst (v := 5) g dX9_usual_23 (by decide) ?_
  obtain ⟨h11, hf⟩ := ckf hf
  obtain ⟨s12, es12, hf⟩ := lt_some hf
  refine V_iast g es12 z8 h11 dX9_usual_24 ?_
  refine V_aload_n g 1 dX9_usual_25 rfl ?_
  refine V_iconst (v := 2) g dX9_usual_26 (by decide) ?_
  refine V_iconst (v := 4) g dX9_usual_27 (by decide) ?_
  obtain ⟨h13, hf⟩ := ckf hf
  obtain ⟨s14, es14, hf⟩ := lt_some hf
  refine V_iast g es14 z8 h13 dX9_usual_28 ?_
  cases hf
  exact V_return g f dX9_usual_29
set_option maxRecDepth 20000 in
theorem t_X9_init {G : GT} {l : Launch} (hl : l.stackTraces = false) {fu : Nat} {s s' : St} {a0 : Nat} (hf : f_X9_init fu s a0 = some s') : MetG G l yX9_init (.code yX9_init cX9_init 1 none) 1 s [vR 9 a0] (s', .inl none) := by
  refine MetG_of hl (by decide +kernel) (Nat.le_of_ble_eq_true rfl) (fun E g f eG eL => ?_)
  subst eG; subst eL
  have g : GX E "ThinSeriesModel" cX9_init 1 1 := g
  have f : FX E "<init>" none [] := f
  show V E 1 (QE E (s', .inl none)) s 0 [(0, vR 9 a0)] []
  unfold f_X9_init at hf
  refine V_aload_n g 0 dX9_init_0 rfl ?_
  obtain ⟨z1, hf⟩ := nz_some hf
  refine V_objInit g (by decide) z1 q_1216 q_123 q_124 (Nat.le_of_ble_eq_true rfl) dX9_init_1 ?_
  refine V_aload_n g 0 dX9_init_4 rfl ?_
  refine V_bipush (v := 6) g dX9_init_5 (by decide) ?_
  obtain ⟨h2, hf⟩ := ckf hf
  obtain ⟨s3, es3, hf⟩ := lt_some hf
  obtain ⟨h4, hf⟩ := ckf hf
  refine V_newqC g 15 es3 (Or.inr rfl) q_1217 q_1218 rfl h2 (rm_of h4) dX9_init_7 ?_
  refine V_dup g dX9_init_10 rfl ?_
  refine V_iconst (v := 0) g dX9_init_11 (by decide) ?_
  refine V_ldcS g 25 (by decide) rfl dX9_init_12 ?_
  obtain ⟨h5, hf⟩ := ckf hf
  obtain ⟨s6, es6, hf⟩ := lt_some hf
  refine V_tast g es6 (Nat.succ_ne_zero _) (by decide) (by decide) h5 dX9_init_14 ?_
  refine V_dup g dX9_init_15 rfl ?_
  refine V_iconst (v := 1) g dX9_init_16 (by decide) ?_
  refine V_ldcS g 26 (by decide) rfl dX9_init_17 ?_
  obtain ⟨h7, hf⟩ := ckf hf
  obtain ⟨s8, es8, hf⟩ := lt_some hf
  refine V_tast g es8 (Nat.succ_ne_zero _) (by decide) (by decide) h7 dX9_init_19 ?_
  refine V_dup g dX9_init_20 rfl ?_
  refine V_iconst (v := 2) g dX9_init_21 (by decide) ?_
  refine V_ldcS g 27 (by decide) rfl dX9_init_22 ?_
  obtain ⟨h9, hf⟩ := ckf hf
  obtain ⟨s10, es10, hf⟩ := lt_some hf
  refine V_tast g es10 (Nat.succ_ne_zero _) (by decide) (by decide) h9 dX9_init_24 ?_
  refine V_dup g dX9_init_25 rfl ?_
  refine V_iconst (v := 3) g dX9_init_26 (by decide) ?_
  refine V_ldcS g 28 (by decide) rfl dX9_init_27 ?_
  obtain ⟨h11, hf⟩ := ckf hf
  obtain ⟨s12, es12, hf⟩ := lt_some hf
  refine V_tast g es12 (Nat.succ_ne_zero _) (by decide) (by decide) h11 dX9_init_29 ?_
  refine V_dup g dX9_init_30 rfl ?_
  refine V_iconst (v := 4) g dX9_init_31 (by decide) ?_
  refine V_ldcS g 29 (by decide) rfl dX9_init_32 ?_
  obtain ⟨h13, hf⟩ := ckf hf
  obtain ⟨s14, es14, hf⟩ := lt_some hf
  refine V_tast g es14 (Nat.succ_ne_zero _) (by decide) (by decide) h13 dX9_init_34 ?_
  refine V_dup g dX9_init_35 rfl ?_
  refine V_iconst (v := 5) g dX9_init_36 (by decide) ?_
  refine V_ldcS g 30 (by decide) rfl dX9_init_37 ?_
  obtain ⟨h15, hf⟩ := ckf hf
  obtain ⟨s16, es16, hf⟩ := lt_some hf
  refine V_tast g es16 (Nat.succ_ne_zero _) (by decide) (by decide) h15 dX9_init_39 ?_
  obtain ⟨s17, es17, hf⟩ := lt_some hf
  refine V_putR g 9 a0 0 15 es17 rfl (by decide) rfl rfl q_1233 z1 (Or.inr ⟨rfl, f.1, rfl⟩) pf_9_0 q_arr dX9_init_40 ?_
  refine V_aload_n g 0 dX9_init_43 rfl ?_
  refine V_iconst (v := 3) g dX9_init_44 (by decide) ?_
  obtain ⟨h18, hf⟩ := ckf hf
  obtain ⟨s19, es19, hf⟩ := lt_some hf
  obtain ⟨h20, hf⟩ := ckf hf
  refine V_newqC g 15 es19 (Or.inr rfl) q_1217 q_1218 rfl h18 (rm_of h20) dX9_init_45 ?_
  refine V_dup g dX9_init_48 rfl ?_
  refine V_iconst (v := 0) g dX9_init_49 (by decide) ?_
  refine V_ldcS g 30 (by decide) rfl dX9_init_50 ?_
  obtain ⟨h21, hf⟩ := ckf hf
  obtain ⟨s22, es22, hf⟩ := lt_some hf
  refine V_tast g es22 (Nat.succ_ne_zero _) (by decide) (by decide) h21 dX9_init_52 ?_
  refine V_dup g dX9_init_53 rfl ?_
  refine V_iconst (v := 1) g dX9_init_54 (by decide) ?_
  refine V_ldcS g 31 (by decide) rfl dX9_init_55 ?_
  obtain ⟨h23, hf⟩ := ckf hf
  obtain ⟨s24, es24, hf⟩ := lt_some hf
  refine V_tast g es24 (Nat.succ_ne_zero _) (by decide) (by decide) h23 dX9_init_57 ?_
  refine V_dup g dX9_init_58 rfl ?_
  refine V_iconst (v := 2) g dX9_init_59 (by decide) ?_
  refine V_ldcS g 32 (by decide) rfl dX9_init_60 ?_
  obtain ⟨h25, hf⟩ := ckf hf
  obtain ⟨s26, es26, hf⟩ := lt_some hf
  refine V_tast g es26 (Nat.succ_ne_zero _) (by decide) (by decide) h25 dX9_init_62 ?_
  obtain ⟨s27, es27, hf⟩ := lt_some hf
  refine V_putR g 9 a0 1 15 es27 rfl (by decide) rfl rfl q_1234 z1 (Or.inr ⟨rfl, f.1, rfl⟩) pf_9_1 q_arr dX9_init_63 ?_
  refine V_aload_n g 0 dX9_init_66 rfl ?_
  refine V_iconst (v := 3) g dX9_init_67 (by decide) ?_
  obtain ⟨h28, hf⟩ := ckf hf
  obtain ⟨s29, es29, hf⟩ := lt_some hf
  obtain ⟨h30, hf⟩ := ckf hf
  refine V_newqC g 15 es29 (Or.inr rfl) q_1217 q_1218 rfl h28 (rm_of h30) dX9_init_68 ?_
  refine V_dup g dX9_init_71 rfl ?_
  refine V_iconst (v := 0) g dX9_init_72 (by decide) ?_
  refine V_ldcS g 33 (by decide) rfl dX9_init_73 ?_
  obtain ⟨h31, hf⟩ := ckf hf
  obtain ⟨s32, es32, hf⟩ := lt_some hf
  refine V_tast g es32 (Nat.succ_ne_zero _) (by decide) (by decide) h31 dX9_init_75 ?_
  refine V_dup g dX9_init_76 rfl ?_
  refine V_iconst (v := 1) g dX9_init_77 (by decide) ?_
  refine V_ldcS g 34 (by decide) rfl dX9_init_78 ?_
  obtain ⟨h33, hf⟩ := ckf hf
  obtain ⟨s34, es34, hf⟩ := lt_some hf
  refine V_tast g es34 (Nat.succ_ne_zero _) (by decide) (by decide) h33 dX9_init_80 ?_
  refine V_dup g dX9_init_81 rfl ?_
  refine V_iconst (v := 2) g dX9_init_82 (by decide) ?_
  refine V_ldcS g 35 (by decide) rfl dX9_init_83 ?_
  obtain ⟨h35, hf⟩ := ckf hf
  obtain ⟨s36, es36, hf⟩ := lt_some hf
  refine V_tast g es36 (Nat.succ_ne_zero _) (by decide) (by decide) h35 dX9_init_85 ?_
  obtain ⟨s37, es37, hf⟩ := lt_some hf
  refine V_putR g 9 a0 2 15 es37 rfl (by decide) rfl rfl q_1235 z1 (Or.inr ⟨rfl, f.1, rfl⟩) pf_9_2 q_arr dX9_init_86 ?_
  refine V_aload_n g 0 dX9_init_89 rfl ?_
  refine V_iconst (v := 4) g dX9_init_90 (by decide) ?_
  obtain ⟨h38, hf⟩ := ckf hf
  obtain ⟨s39, es39, hf⟩ := lt_some hf
  obtain ⟨h40, hf⟩ := ckf hf
  refine V_new10 g es39 q_207 h38 (rm_of h40) dX9_init_91 ?_
  obtain ⟨s41, es41, hf⟩ := lt_some hf
  refine V_putR g 9 a0 4 10 es41 rfl (by decide) rfl rfl q_1237 z1 (Or.inr ⟨rfl, f.1, rfl⟩) pf_9_4 q_arr dX9_init_93 ?_
  refine V_aload_n g 0 dX9_init_96 rfl ?_
  refine V_iconst (v := 4) g dX9_init_97 (by decide) ?_
  obtain ⟨h42, hf⟩ := ckf hf
  obtain ⟨s43, es43, hf⟩ := lt_some hf
  obtain ⟨h44, hf⟩ := ckf hf
  refine V_new10 g es43 q_207 h42 (rm_of h44) dX9_init_98 ?_
  obtain ⟨s45, es45, hf⟩ := lt_some hf
  refine V_putR g 9 a0 5 10 es45 rfl (by decide) rfl rfl q_1238 z1 (Or.inr ⟨rfl, f.1, rfl⟩) pf_9_5 q_arr dX9_init_100 ?_
  refine V_aload_n g 0 dX9_init_103 rfl ?_
  refine V_sipush (v := 1300) g dX9_init_104 (by decide) ?_
  obtain ⟨h46, hf⟩ := ckf hf
  obtain ⟨s47, es47, hf⟩ := lt_some hf
  obtain ⟨h48, hf⟩ := ckf hf
  refine V_new10 g es47 q_207 h46 (rm_of h48) dX9_init_107 ?_
  obtain ⟨s49, es49, hf⟩ := lt_some hf
  refine V_putR g 9 a0 6 10 es49 rfl (by decide) rfl rfl q_1239 z1 (Or.inr ⟨rfl, f.1, rfl⟩) pf_9_6 q_arr dX9_init_109 ?_
  refine V_aload_n g 0 dX9_init_112 rfl ?_
  refine V_iconst (v := 4) g dX9_init_113 (by decide) ?_
  obtain ⟨s50, es50, hf⟩ := lt_some hf
  refine V_putI g 9 a0 8 es50 rfl (by decide) rfl q_1241 z1 (Or.inl rfl) pf_9_8 dX9_init_114 ?_
  refine V_aload_n g 0 dX9_init_117 rfl ?_
  refine V_bipush (v := 10) g dX9_init_118 (by decide) ?_
  obtain ⟨h51, hf⟩ := ckf hf
  obtain ⟨s52, es52, hf⟩ := lt_some hf
  obtain ⟨h53, hf⟩ := ckf hf
  refine V_new13 g es52 q_1441 h51 (rm_of h53) dX9_init_120 ?_
  obtain ⟨s54, es54, hf⟩ := lt_some hf
  refine V_putR g 9 a0 10 13 es54 rfl (by decide) rfl rfl q_1243 z1 (Or.inr ⟨rfl, f.1, rfl⟩) pf_9_10 q_arr dX9_init_122 ?_
  refine V_aload_n g 0 dX9_init_125 rfl ?_
  refine V_bipush (v := 10) g dX9_init_126 (by decide) ?_
  obtain ⟨h55, hf⟩ := ckf hf
  obtain ⟨s56, es56, hf⟩ := lt_some hf
  obtain ⟨h57, hf⟩ := ckf hf
  refine V_new10 g es56 q_207 h55 (rm_of h57) dX9_init_128 ?_
  obtain ⟨s58, es58, hf⟩ := lt_some hf
  refine V_putR g 9 a0 11 10 es58 rfl (by decide) rfl rfl q_1244 z1 (Or.inr ⟨rfl, f.1, rfl⟩) pf_9_11 q_arr dX9_init_130 ?_
  refine V_aload_n g 0 dX9_init_133 rfl ?_
  refine V_bipush (v := 10) g dX9_init_134 (by decide) ?_
  obtain ⟨h59, hf⟩ := ckf hf
  obtain ⟨s60, es60, hf⟩ := lt_some hf
  obtain ⟨h61, hf⟩ := ckf hf
  refine V_new10 g es60 q_207 h59 (rm_of h61) dX9_init_136 ?_
  obtain ⟨s62, es62, hf⟩ := lt_some hf
  refine V_putR g 9 a0 12 10 es62 rfl (by decide) rfl rfl q_1245 z1 (Or.inr ⟨rfl, f.1, rfl⟩) pf_9_12 q_arr dX9_init_138 ?_
  refine V_aload_n g 0 dX9_init_141 rfl ?_
  refine V_bipush (v := 10) g dX9_init_142 (by decide) ?_
  obtain ⟨h63, hf⟩ := ckf hf
  obtain ⟨s64, es64, hf⟩ := lt_some hf
  obtain ⟨h65, hf⟩ := ckf hf
  refine V_new10 g es64 q_207 h63 (rm_of h65) dX9_init_144 ?_
  obtain ⟨s66, es66, hf⟩ := lt_some hf
  refine V_putR g 9 a0 13 10 es66 rfl (by decide) rfl rfl q_1246 z1 (Or.inr ⟨rfl, f.1, rfl⟩) pf_9_13 q_arr dX9_init_146 ?_
  refine V_aload_n g 0 dX9_init_149 rfl ?_
  refine V_bipush (v := 10) g dX9_init_150 (by decide) ?_
  obtain ⟨h67, hf⟩ := ckf hf
  obtain ⟨s68, es68, hf⟩ := lt_some hf
  obtain ⟨h69, hf⟩ := ckf hf
  refine V_new10 g es68 q_207 h67 (rm_of h69) dX9_init_152 ?_
  obtain ⟨s70, es70, hf⟩ := lt_some hf
  refine V_putR g 9 a0 14 10 es70 rfl (by decide) rfl rfl q_1247 z1 (Or.inr ⟨rfl, f.1, rfl⟩) pf_9_14 q_arr dX9_init_154 ?_
  refine V_aload_n g 0 dX9_init_157 rfl ?_
  refine V_sipush (v := 512) g dX9_init_158 (by decide) ?_
  obtain ⟨h71, hf⟩ := ckf hf
  obtain ⟨s72, es72, hf⟩ := lt_some hf
  obtain ⟨h73, hf⟩ := ckf hf
  refine V_new10 g es72 q_207 h71 (rm_of h73) dX9_init_161 ?_
  obtain ⟨s74, es74, hf⟩ := lt_some hf
  refine V_putR g 9 a0 19 10 es74 rfl (by decide) rfl rfl q_1252 z1 (Or.inl rfl) pf_9_19 q_arr dX9_init_163 ?_
  refine V_aload_n g 0 dX9_init_166 rfl ?_
  refine V_sipush (v := 512) g dX9_init_167 (by decide) ?_
  obtain ⟨h75, hf⟩ := ckf hf
  obtain ⟨s76, es76, hf⟩ := lt_some hf
  obtain ⟨h77, hf⟩ := ckf hf
  refine V_new10 g es76 q_207 h75 (rm_of h77) dX9_init_170 ?_
  obtain ⟨s78, es78, hf⟩ := lt_some hf
  refine V_putR g 9 a0 20 10 es78 rfl (by decide) rfl rfl q_1253 z1 (Or.inl rfl) pf_9_20 q_arr dX9_init_172 ?_
  refine V_aload_n g 0 dX9_init_175 rfl ?_
  refine V_sipush (v := 512) g dX9_init_176 (by decide) ?_
  obtain ⟨h79, hf⟩ := ckf hf
  obtain ⟨s80, es80, hf⟩ := lt_some hf
  obtain ⟨h81, hf⟩ := ckf hf
  refine V_new10 g es80 q_207 h79 (rm_of h81) dX9_init_179 ?_
  obtain ⟨s82, es82, hf⟩ := lt_some hf
  refine V_putR g 9 a0 21 10 es82 rfl (by decide) rfl rfl q_1254 z1 (Or.inl rfl) pf_9_21 q_arr dX9_init_181 ?_
  refine V_aload_n g 0 dX9_init_184 rfl ?_
  refine V_sipush (v := 600) g dX9_init_185 (by decide) ?_
  obtain ⟨h83, hf⟩ := ckf hf
  obtain ⟨s84, es84, hf⟩ := lt_some hf
  obtain ⟨h85, hf⟩ := ckf hf
  refine V_new10 g es84 q_207 h83 (rm_of h85) dX9_init_188 ?_
  obtain ⟨s86, es86, hf⟩ := lt_some hf
  refine V_putR g 9 a0 23 10 es86 rfl (by decide) rfl rfl q_1256 z1 (Or.inr ⟨rfl, f.1, rfl⟩) pf_9_23 q_arr dX9_init_190 ?_
  refine V_aload_n g 0 dX9_init_193 rfl ?_
  refine V_iconst (v := (-1)) g dX9_init_194 (by decide) ?_
  obtain ⟨s87, es87, hf⟩ := lt_some hf
  refine V_putI g 9 a0 33 es87 rfl (by decide) rfl q_1266 z1 (Or.inl rfl) pf_9_33 dX9_init_195 ?_
  refine V_aload_n g 0 dX9_init_198 rfl ?_
  refine V_iconst (v := 4) g dX9_init_199 (by decide) ?_
  obtain ⟨h88, hf⟩ := ckf hf
  obtain ⟨s89, es89, hf⟩ := lt_some hf
  obtain ⟨h90, hf⟩ := ckf hf
  refine V_new10 g es89 q_207 h88 (rm_of h90) dX9_init_200 ?_
  obtain ⟨s91, es91, hf⟩ := lt_some hf
  refine V_putR g 9 a0 34 10 es91 rfl (by decide) rfl rfl q_1267 z1 (Or.inr ⟨rfl, f.1, rfl⟩) pf_9_34 q_arr dX9_init_202 ?_
  refine V_aload_n g 0 dX9_init_205 rfl ?_
  refine V_iconst (v := 4) g dX9_init_206 (by decide) ?_
  obtain ⟨h92, hf⟩ := ckf hf
  obtain ⟨s93, es93, hf⟩ := lt_some hf
  obtain ⟨h94, hf⟩ := ckf hf
  refine V_new10 g es93 q_207 h92 (rm_of h94) dX9_init_207 ?_
  obtain ⟨s95, es95, hf⟩ := lt_some hf
  refine V_putR g 9 a0 35 10 es95 rfl (by decide) rfl rfl q_1268 z1 (Or.inr ⟨rfl, f.1, rfl⟩) pf_9_35 q_arr dX9_init_209 ?_
  refine V_aload_n g 0 dX9_init_212 rfl ?_
  refine V_sipush (v := 1300) g dX9_init_213 (by decide) ?_
  obtain ⟨h96, hf⟩ := ckf hf
  obtain ⟨s97, es97, hf⟩ := lt_some hf
  obtain ⟨h98, hf⟩ := ckf hf
  refine V_new10 g es97 q_207 h96 (rm_of h98) dX9_init_216 ?_
  obtain ⟨s99, es99, hf⟩ := lt_some hf
  refine V_putR g 9 a0 36 10 es99 rfl (by decide) rfl rfl q_1269 z1 (Or.inr ⟨rfl, f.1, rfl⟩) pf_9_36 q_arr dX9_init_218 ?_
  refine V_aload_n g 0 dX9_init_221 rfl ?_
  refine V_iconst (v := (-1)) g dX9_init_222 (by decide) ?_
  obtain ⟨s100, es100, hf⟩ := lt_some hf
  refine V_putI g 9 a0 42 es100 rfl (by decide) rfl q_1275 z1 (Or.inl rfl) pf_9_42 dX9_init_223 ?_
  refine V_aload_n g 0 dX9_init_226 rfl ?_
  refine V_iconst (v := (-1)) g dX9_init_227 (by decide) ?_
  obtain ⟨s101, es101, hf⟩ := lt_some hf
  refine V_putI g 9 a0 43 es101 rfl (by decide) rfl q_1276 z1 (Or.inl rfl) pf_9_43 dX9_init_228 ?_
  refine V_aload_n g 0 dX9_init_231 rfl ?_
  refine V_sipush (v := 800) g dX9_init_232 (by decide) ?_
  obtain ⟨h102, hf⟩ := ckf hf
  obtain ⟨s103, es103, hf⟩ := lt_some hf
  obtain ⟨h104, hf⟩ := ckf hf
  refine V_new10 g es103 q_207 h102 (rm_of h104) dX9_init_235 ?_
  obtain ⟨s105, es105, hf⟩ := lt_some hf
  refine V_putR g 9 a0 44 10 es105 rfl (by decide) rfl rfl q_1277 z1 (Or.inr ⟨rfl, f.1, rfl⟩) pf_9_44 q_arr dX9_init_237 ?_
  refine V_aload_n g 0 dX9_init_240 rfl ?_
  refine V_sipush (v := 512) g dX9_init_241 (by decide) ?_
  obtain ⟨h106, hf⟩ := ckf hf
  obtain ⟨s107, es107, hf⟩ := lt_some hf
  obtain ⟨h108, hf⟩ := ckf hf
  refine V_new10 g es107 q_207 h106 (rm_of h108) dX9_init_244 ?_
  obtain ⟨s109, es109, hf⟩ := lt_some hf
  refine V_putR g 9 a0 46 10 es109 rfl (by decide) rfl rfl q_1279 z1 (Or.inl rfl) pf_9_46 q_arr dX9_init_246 ?_
  refine V_aload_n g 0 dX9_init_249 rfl ?_
  refine V_sipush (v := 512) g dX9_init_250 (by decide) ?_
  obtain ⟨h110, hf⟩ := ckf hf
  obtain ⟨s111, es111, hf⟩ := lt_some hf
  obtain ⟨h112, hf⟩ := ckf hf
  refine V_new10 g es111 q_207 h110 (rm_of h112) dX9_init_253 ?_
  obtain ⟨s113, es113, hf⟩ := lt_some hf
  refine V_putR g 9 a0 47 10 es113 rfl (by decide) rfl rfl q_1280 z1 (Or.inl rfl) pf_9_47 q_arr dX9_init_255 ?_
  refine V_aload_n g 0 dX9_init_258 rfl ?_
  refine V_sipush (v := 512) g dX9_init_259 (by decide) ?_
  obtain ⟨h114, hf⟩ := ckf hf
  obtain ⟨s115, es115, hf⟩ := lt_some hf
  obtain ⟨h116, hf⟩ := ckf hf
  refine V_new10 g es115 q_207 h114 (rm_of h116) dX9_init_262 ?_
  obtain ⟨s117, es117, hf⟩ := lt_some hf
  refine V_putR g 9 a0 48 10 es117 rfl (by decide) rfl rfl q_1281 z1 (Or.inl rfl) pf_9_48 q_arr dX9_init_264 ?_
  refine V_aload_n g 0 dX9_init_267 rfl ?_
  refine V_bipush (v := 10) g dX9_init_268 (by decide) ?_
  obtain ⟨h118, hf⟩ := ckf hf
  obtain ⟨s119, es119, hf⟩ := lt_some hf
  obtain ⟨h120, hf⟩ := ckf hf
  refine V_new13 g es119 q_1441 h118 (rm_of h120) dX9_init_270 ?_
  obtain ⟨s121, es121, hf⟩ := lt_some hf
  refine V_putR g 9 a0 49 13 es121 rfl (by decide) rfl rfl q_1282 z1 (Or.inr ⟨rfl, f.1, rfl⟩) pf_9_49 q_arr dX9_init_272 ?_
  refine V_aload_n g 0 dX9_init_275 rfl ?_
  refine V_bipush (v := 44) g dX9_init_276 (by decide) ?_
  obtain ⟨h122, hf⟩ := ckf hf
  obtain ⟨s123, es123, hf⟩ := lt_some hf
  obtain ⟨h124, hf⟩ := ckf hf
  refine V_new10 g es123 q_207 h122 (rm_of h124) dX9_init_278 ?_
  obtain ⟨s125, es125, hf⟩ := lt_some hf
  refine V_putR g 9 a0 50 10 es125 rfl (by decide) rfl rfl q_1283 z1 (Or.inr ⟨rfl, f.1, rfl⟩) pf_9_50 q_arr dX9_init_280 ?_
  refine V_aload_n g 0 dX9_init_283 rfl ?_
  refine V_sipush (v := 320) g dX9_init_284 (by decide) ?_
  obtain ⟨h126, hf⟩ := ckf hf
  obtain ⟨s127, es127, hf⟩ := lt_some hf
  obtain ⟨h128, hf⟩ := ckf hf
  refine V_new13 g es127 q_1441 h126 (rm_of h128) dX9_init_287 ?_
  obtain ⟨s129, es129, hf⟩ := lt_some hf
  refine V_putR g 9 a0 64 13 es129 rfl (by decide) rfl rfl q_1297 z1 (Or.inr ⟨rfl, f.1, rfl⟩) pf_9_64 q_arr dX9_init_289 ?_
  refine V_aload_n g 0 dX9_init_292 rfl ?_
  refine V_getR g 9 a0 4 10 rfl (by decide) rfl rfl q_1237 z1 dX9_init_293 ?_
  refine V_aload_n g 0 dX9_init_296 rfl ?_
  refine V_getR g 9 a0 5 10 rfl (by decide) rfl rfl q_1238 z1 dX9_init_297 ?_
  obtain ⟨s130, hc, hf⟩ := bV_some hf
  refine cS0 g [vR 10 (gR s129 9 a0 4), vR 10 (gR s129 9 a0 5)] [] s130 cf_X9_usual (t_X9_usual g.2.2.2.2.2.2.1 hc) (by decide) q_1230 (Nat.le_of_ble_eq_true rfl) dX9_init_300 ?_ rfl
  refine V_aload_n g 0 dX9_init_303 rfl ?_
  refine V_iconst (v := 3) g dX9_init_304 (by decide) ?_
  obtain ⟨s131, es131, hf⟩ := lt_some hf
  refine V_putI g 9 a0 7 es131 rfl (by decide) rfl q_1240 z1 (Or.inl rfl) pf_9_7 dX9_init_305 ?_
  cases hf
  exact V_return g f dX9_init_308
set_option maxRecDepth 20000 in
theorem t_X9_fail {G : GT} {l : Launch} (hl : l.stackTraces = false) {fu : Nat} {s s' : St} {a0 : Nat} {a1 : Int32} {w' : Int32} (hf : f_X9_fail fu s a0 a1 = some (s', w')) : MetG G l yX9_fail (.code yX9_fail cX9_fail 2 (some .int)) 0 s [vR 9 a0, vI a1] (s', .inl (some (vI w'))) := by
  refine MetG_of hl (by decide +kernel) (Nat.le_of_ble_eq_true rfl) (fun E g f eG eL => ?_)
  subst eG; subst eL
  have g : GX E "ThinSeriesModel" cX9_fail 2 0 := g
  have f : FX E "fail" (some .int) [] := f
  show V E 2 (QE E (s', .inl (some (vI w')))) s 0 [(0, vR 9 a0), (1, vI a1)] []
  unfold f_X9_fail at hf
  refine V_aload_n g 0 dX9_fail_0 rfl ?_
  refine V_iload_n g 1 dX9_fail_1 rfl ?_
  obtain ⟨z1, hf⟩ := nz_some hf
  obtain ⟨s2, es2, hf⟩ := lt_some hf
  refine V_putI g 9 a0 3 es2 rfl (by decide) rfl q_1236 z1 (Or.inl rfl) pf_9_3 dX9_fail_2 ?_
  refine V_iconst (v := 0) g dX9_fail_5 (by decide) ?_
  cases hf
  exact V_ireturn g f dX9_fail_6
set_option maxRecDepth 20000 in
theorem t_X9_isIn_b18 {E : ET} {fu : Nat} {s' : St} {w' : Int32} (g : GX E "ThinSeriesModel" cX9_isIn 6 0) (f : FX E "isIn" (some .boolean) []) {s : St} {t0 : Int32} (hf : f_X9_isIn_b18 fu s t0 = some (s', w')) : V E 6 (QE E (s', .inl (some (vI w')))) s 18 [] [vI t0] := by
  unfold f_X9_isIn_b18 at hf
  obtain ⟨h3, hf⟩ := ckf hf
  cases hf
  exact V_zreturn g f (zb_n h3) dX9_isIn_18
set_option maxRecDepth 20000 in
theorem t_X9_isIn_b17 {E : ET} {fu : Nat} {s' : St} {w' : Int32} (g : GX E "ThinSeriesModel" cX9_isIn 6 0) (f : FX E "isIn" (some .boolean) []) {s : St} (hf : f_X9_isIn_b17 fu s = some (s', w')) : V E 6 (QE E (s', .inl (some (vI w')))) s 17 [] [] := by
  unfold f_X9_isIn_b17 at hf
  refine V_iconst (v := 0) g dX9_isIn_17 (by decide) ?_
  exact t_X9_isIn_b18 g f hf
set_option maxRecDepth 20000 in
theorem t_X9_isIn {G : GT} {l : Launch} (hl : l.stackTraces = false) {fu : Nat} {s s' : St} {a0 : Int64} {a1 : Int64} {a2 : Int64} {w' : Int32} (hf : f_X9_isIn fu s a0 a1 a2 = some (s', w')) : MetG G l yX9_isIn (.code yX9_isIn cX9_isIn 6 (some .boolean)) 0 s [vJ a0, vJ a1, vJ a2] (s', .inl (some (vI w'))) := by
  refine MetG_of hl (by decide +kernel) (Nat.le_of_ble_eq_true rfl) (fun E g f eG eL => ?_)
  subst eG; subst eL
  have g : GX E "ThinSeriesModel" cX9_isIn 6 0 := g
  have f : FX E "isIn" (some .boolean) [] := f
  show V E 6 (QE E (s', .inl (some (vI w')))) s 0 [(0, vJ a0), (2, vJ a1), (4, vJ a2)] []
  unfold f_X9_isIn at hf
  refine V_lload_n g 0 dX9_isIn_0 rfl ?_
  refine V_lload_n g 1 dX9_isIn_1 rfl ?_
  refine V_lcmp g dX9_isIn_2 ?_
  refine V_if_lt g 17 dX9_isIn_3 (by decide) (fun c1 => ?_) (fun c1 => ?_)
  · have hf := it_t hf c1
    refine V_sub [] [] rfl ?_
    exact t_X9_isIn_b17 g f hf
  · have hf := it_f hf c1
    refine V_lload_n g 0 dX9_isIn_6 rfl ?_
    refine V_lload g 2 dX9_isIn_7 rfl ?_
    refine V_lcmp g dX9_isIn_9 ?_
    refine V_if_gt g 17 dX9_isIn_10 (by decide) (fun c2 => ?_) (fun c2 => ?_)
    · have hf := it_t hf c2
      refine V_sub [] [] rfl ?_
      exact t_X9_isIn_b17 g f hf
    · have hf := it_f hf c2
      refine V_iconst (v := 1) g dX9_isIn_13 (by decide) ?_
      refine V_goto g 18 dX9_isIn_14 (by decide) ?_
      refine V_sub [] [] rfl ?_
      exact t_X9_isIn_b18 g f hf
set_option maxRecDepth 20000 in
theorem t_X9_isId {G : GT} {l : Launch} (hl : l.stackTraces = false) {fu : Nat} {s s' : St} {a0 : Int32} {w' : Int32} (hf : f_X9_isId fu s a0 = some (s', w')) : MetG G l yX9_isId (.code yX9_isId cX9_isId 1 (some .boolean)) 1 s [vI a0] (s', .inl (some (vI w'))) := by
  refine MetG_of hl (by decide +kernel) (Nat.le_of_ble_eq_true rfl) (fun E g f eG eL => ?_)
  subst eG; subst eL
  have g : GX E "ThinSeriesModel" cX9_isId 1 1 := g
  have f : FX E "isId" (some .boolean) [] := f
  show V E 1 (QE E (s', .inl (some (vI w')))) s 0 [(0, vI a0)] []
  unfold f_X9_isId at hf
  refine V_iload_n g 0 dX9_isId_0 rfl ?_
  refine V_i2l g dX9_isId_1 ?_
  refine V_lconst (v := 0) g dX9_isId_2 (by decide) ?_
  refine V_ldc2 (v := 9) g q_1570 dX9_isId_3 ?_
  obtain ⟨s1, x2, hc, hf⟩ := bI_some hf
  refine cS1 g [vJ (Int32.toInt64 a0), vJ 0, vJ 9] [] s1 (vI x2) cf_X9_isIn (t_X9_isIn g.2.2.2.2.2.2.1 hc) (by decide) q_1512 (Nat.le_of_ble_eq_true rfl) dX9_isId_6 ?_ rfl
  obtain ⟨h3, hf⟩ := ckf hf
  cases hf
  exact V_zreturn g f (zb_n h3) dX9_isId_9
set_option maxRecDepth 20000 in
theorem t_X9_isSeries_b21 {E : ET} {fu : Nat} {s' : St} {w' : Int32} (g : GX E "ThinSeriesModel" cX9_isSeries 2 2) (f : FX E "isSeries" (some .boolean) []) {s : St} {t0 : Int32} (hf : f_X9_isSeries_b21 fu s t0 = some (s', w')) : V E 2 (QE E (s', .inl (some (vI w')))) s 21 [] [vI t0] := by
  unfold f_X9_isSeries_b21 at hf
  obtain ⟨h8, hf⟩ := ckf hf
  cases hf
  exact V_zreturn g f (zb_n h8) dX9_isSeries_21
set_option maxRecDepth 20000 in
theorem t_X9_isSeries_b20 {E : ET} {fu : Nat} {s' : St} {w' : Int32} (g : GX E "ThinSeriesModel" cX9_isSeries 2 2) (f : FX E "isSeries" (some .boolean) []) {s : St} (hf : f_X9_isSeries_b20 fu s = some (s', w')) : V E 2 (QE E (s', .inl (some (vI w')))) s 20 [] [] := by
  unfold f_X9_isSeries_b20 at hf
  refine V_iconst (v := 0) g dX9_isSeries_20 (by decide) ?_
  exact t_X9_isSeries_b21 g f hf
set_option maxRecDepth 20000 in
theorem t_X9_isSeries {G : GT} {l : Launch} (hl : l.stackTraces = false) {fu : Nat} {s s' : St} {a0 : Nat} {a1 : Int32} {w' : Int32} (hf : f_X9_isSeries fu s a0 a1 = some (s', w')) : MetG G l yX9_isSeries (.code yX9_isSeries cX9_isSeries 2 (some .boolean)) 2 s [vR 9 a0, vI a1] (s', .inl (some (vI w'))) := by
  refine MetG_of hl (by decide +kernel) (Nat.le_of_ble_eq_true rfl) (fun E g f eG eL => ?_)
  subst eG; subst eL
  have g : GX E "ThinSeriesModel" cX9_isSeries 2 2 := g
  have f : FX E "isSeries" (some .boolean) [] := f
  show V E 2 (QE E (s', .inl (some (vI w')))) s 0 [(0, vR 9 a0), (1, vI a1)] []
  unfold f_X9_isSeries at hf
  refine V_iload_n g 1 dX9_isSeries_0 rfl ?_
  obtain ⟨s1, x2, hc, hf⟩ := bI_some hf
  refine cS1 g [vI a1] [] s1 (vI x2) cf_X9_isId (t_X9_isId g.2.2.2.2.2.2.1 hc) (by decide) q_1567 (Nat.le_of_ble_eq_true rfl) dX9_isSeries_1 ?_ rfl
  refine V_if_eq g 20 dX9_isSeries_4 (by decide) (fun c3 => ?_) (fun c3 => ?_)
  · have hf := it_t hf c3
    refine V_sub [] [] rfl ?_
    exact t_X9_isSeries_b20 g f hf
  · have hf := it_f hf c3
    refine V_aload_n g 0 dX9_isSeries_7 rfl ?_
    obtain ⟨z4, hf⟩ := nz_some hf
    refine V_getR g 9 a0 10 13 rfl (by decide) rfl rfl q_1243 z4 dX9_isSeries_8 ?_
    refine V_iload_n g 1 dX9_isSeries_11 rfl ?_
    obtain ⟨z5, hf⟩ := nz_some hf
    obtain ⟨h6, hf⟩ := ckf hf
    refine V_zald g z5 h6 dX9_isSeries_12 ?_
    refine V_if_eq g 20 dX9_isSeries_13 (by decide) (fun c7 => ?_) (fun c7 => ?_)
    · have hf := it_t hf c7
      refine V_sub [] [] rfl ?_
      exact t_X9_isSeries_b20 g f hf
    · have hf := it_f hf c7
      refine V_iconst (v := 1) g dX9_isSeries_16 (by decide) ?_
      refine V_goto g 21 dX9_isSeries_17 (by decide) ?_
      refine V_sub [] [] rfl ?_
      exact t_X9_isSeries_b21 g f hf
set_option maxRecDepth 20000 in
theorem t_X9_by_b21 {E : ET} {fu : Nat} {s' : St} {w' : Int64} (g : GX E "ThinSeriesModel" cX9_by 4 0) (f : FX E "by" (some .long) []) {s : St} {t0 : Int64} (hf : f_X9_by_b21 fu s t0 = some (s', w')) : V E 4 (QE E (s', .inl (some (vJ w')))) s 21 [] [vJ t0] := by
  unfold f_X9_by_b21 at hf
  cases hf
  exact V_lreturn g f dX9_by_21
set_option maxRecDepth 20000 in
theorem t_X9_by {G : GT} {l : Launch} (hl : l.stackTraces = false) {fu : Nat} {s s' : St} {a0 : Int64} {a1 : Int64} {w' : Int64} (hf : f_X9_by fu s a0 a1 = some (s', w')) : MetG G l yX9_by (.code yX9_by cX9_by 4 (some .long)) 0 s [vJ a0, vJ a1] (s', .inl (some (vJ w'))) := by
  refine MetG_of hl (by decide +kernel) (Nat.le_of_ble_eq_true rfl) (fun E g f eG eL => ?_)
  subst eG; subst eL
  have g : GX E "ThinSeriesModel" cX9_by 4 0 := g
  have f : FX E "by" (some .long) [] := f
  show V E 4 (QE E (s', .inl (some (vJ w')))) s 0 [(0, vJ a0), (2, vJ a1)] []
  unfold f_X9_by at hf
  refine V_lload_n g 0 dX9_by_0 rfl ?_
  refine V_lconst (v := 0) g dX9_by_1 (by decide) ?_
  refine V_lcmp g dX9_by_2 ?_
  refine V_if_lt g 12 dX9_by_3 (by decide) (fun c1 => ?_) (fun c1 => ?_)
  · have hf := it_t hf c1
    refine V_lload_n g 0 dX9_by_12 rfl ?_
    refine V_lneg g dX9_by_13 ?_
    refine V_lload_n g 1 dX9_by_14 rfl ?_
    refine V_ladd g dX9_by_15 ?_
    refine V_lconst (v := 1) g dX9_by_16 (by decide) ?_
    refine V_lsub g dX9_by_17 ?_
    refine V_lload_n g 1 dX9_by_18 rfl ?_
    obtain ⟨h2, hf⟩ := d0_some hf
    refine V_ldiv g dX9_by_19 h2 ?_
    refine V_lneg g dX9_by_20 ?_
    refine V_sub [] [] rfl ?_
    exact t_X9_by_b21 g f hf
  · have hf := it_f hf c1
    refine V_lload_n g 0 dX9_by_6 rfl ?_
    refine V_lload_n g 1 dX9_by_7 rfl ?_
    obtain ⟨h3, hf⟩ := d0_some hf
    refine V_ldiv g dX9_by_8 h3 ?_
    refine V_goto g 21 dX9_by_9 (by decide) ?_
    refine V_sub [] [] rfl ?_
    exact t_X9_by_b21 g f hf
set_option maxRecDepth 20000 in
theorem t_X9_multiple {G : GT} {l : Launch} (hl : l.stackTraces = false) {fu : Nat} {s s' : St} {a0 : Int64} {a1 : Int32} {w' : Int32} (hf : f_X9_multiple fu s a0 a1 = some (s', w')) : MetG G l yX9_multiple (.code yX9_multiple cX9_multiple 3 (some .int)) 1 s [vJ a0, vI a1] (s', .inl (some (vI w'))) := by
  refine MetG_of hl (by decide +kernel) (Nat.le_of_ble_eq_true rfl) (fun E g f eG eL => ?_)
  subst eG; subst eL
  have g : GX E "ThinSeriesModel" cX9_multiple 3 1 := g
  have f : FX E "multiple" (some .int) [] := f
  show V E 3 (QE E (s', .inl (some (vI w')))) s 0 [(0, vJ a0), (2, vI a1)] []
  unfold f_X9_multiple at hf
  refine V_iload_n g 1 dX9_multiple_0 rfl ?_
  refine V_i2l g dX9_multiple_1 ?_
  refine V_lload_n g 0 dX9_multiple_2 rfl ?_
  refine V_iload_n g 1 dX9_multiple_3 rfl ?_
  refine V_i2l g dX9_multiple_4 ?_
  obtain ⟨s1, x2, hc, hf⟩ := bI_some hf
  refine cS1 g [vJ a0, vJ (Int32.toInt64 a1)] [vJ (Int32.toInt64 a1)] s1 (vJ x2) cf_X9_by (t_X9_by g.2.2.2.2.2.2.1 hc) (by decide) q_1597 (Nat.le_of_ble_eq_true rfl) dX9_multiple_5 ?_ rfl
  refine V_lmul g dX9_multiple_8 ?_
  refine V_l2i g dX9_multiple_9 ?_
  cases hf
  exact V_ireturn g f dX9_multiple_10
set_option maxRecDepth 20000 in
theorem t_X9_seamBy_b91 {E : ET} {fu : Nat} {s' : St} {w' : Int32} (g : GX E "ThinSeriesModel" cX9_seamBy 8 2) (f : FX E "seamBy" (some .int) []) {k5 : St → Nat → Int32 → Int32 → Int64 → Int32 → Option (St × Int32)} (hk5 : ∀ (s : St) (l0 : Nat) (l1 : Int32) (l2 : Int32) (l3 : Int64) (l5 : Int32), k5 s l0 l1 l2 l3 l5 = some (s', w') → V E 8 (QE E (s', .inl (some (vI w')))) s 5 [(0, vR 9 l0), (1, vI l1), (2, vI l2), (3, vJ l3), (5, vI l5)] []) {s : St} {l0 : Nat} {l1 : Int32} {l2 : Int32} {l3 : Int64} {l5 : Int32} (hf : f_X9_seamBy_b91 fu k5 s l0 l1 l2 l3 l5 = some (s', w')) : V E 8 (QE E (s', .inl (some (vI w')))) s 91 [(0, vR 9 l0), (1, vI l1), (2, vI l2), (3, vJ l3), (5, vI l5)] [] := by
  unfold f_X9_seamBy_b91 at hf
  obtain ⟨x22, ex22, hf⟩ := lt_some hf
  refine V_iinc g 4 [(5, vI x22), (0, vR 9 l0), (1, vI l1), (2, vI l2), (3, vJ l3)] dX9_seamBy_91 rfl (by rw [ex22]; rfl) (by decide) rfl ?_
  refine V_goto g 5 dX9_seamBy_94 (by decide) ?_
  refine V_sub [(0, vR 9 l0), (1, vI l1), (2, vI l2), (3, vJ l3), (5, vI x22)] [1, 2, 3, 4, 0] rfl ?_
  exact hk5 s l0 l1 l2 l3 x22 hf
set_option maxRecDepth 20000 in
theorem t_X9_seamBy_b42 {E : ET} {fu : Nat} {s' : St} {w' : Int32} (g : GX E "ThinSeriesModel" cX9_seamBy 8 2) (f : FX E "seamBy" (some .int) []) {k5 : St → Nat → Int32 → Int32 → Int64 → Int32 → Option (St × Int32)} (hk5 : ∀ (s : St) (l0 : Nat) (l1 : Int32) (l2 : Int32) (l3 : Int64) (l5 : Int32), k5 s l0 l1 l2 l3 l5 = some (s', w') → V E 8 (QE E (s', .inl (some (vI w')))) s 5 [(0, vR 9 l0), (1, vI l1), (2, vI l2), (3, vJ l3), (5, vI l5)] []) {s : St} {l0 : Nat} {l1 : Int32} {l2 : Int32} {l5 : Int32} {t0 : Int64} (hf : f_X9_seamBy_b42 fu k5 s l0 l1 l2 l5 t0 = some (s', w')) : V E 8 (QE E (s', .inl (some (vI w')))) s 42 [(0, vR 9 l0), (1, vI l1), (2, vI l2), (5, vI l5)] [vJ t0] := by
  unfold f_X9_seamBy_b42 at hf
  refine V_lstore g [(6, vJ t0), (0, vR 9 l0), (1, vI l1), (2, vI l2), (5, vI l5)] dX9_seamBy_42 rfl (by decide) rfl ?_
  refine V_lload g 0 dX9_seamBy_44 rfl ?_
  refine V_aload_n g 1 dX9_seamBy_46 rfl ?_
  obtain ⟨z10, hf⟩ := nz_some hf
  refine V_getR g 9 l0 5 10 rfl (by decide) rfl rfl q_1238 z10 dX9_seamBy_47 ?_
  refine V_iload g 4 dX9_seamBy_50 rfl ?_
  obtain ⟨z11, hf⟩ := nz_some hf
  obtain ⟨h12, hf⟩ := ckf hf
  refine V_iald g z11 h12 dX9_seamBy_52 ?_
  refine V_i2l g dX9_seamBy_53 ?_
  refine V_aload_n g 1 dX9_seamBy_54 rfl ?_
  refine V_getR g 9 l0 4 10 rfl (by decide) rfl rfl q_1237 z10 dX9_seamBy_55 ?_
  refine V_iload g 4 dX9_seamBy_58 rfl ?_
  obtain ⟨z13, hf⟩ := nz_some hf
  obtain ⟨h14, hf⟩ := ckf hf
  refine V_iald g z13 h14 dX9_seamBy_60 ?_
  refine V_i2l g dX9_seamBy_61 ?_
  refine V_lmul g dX9_seamBy_62 ?_
  obtain ⟨x15, ex15, hf⟩ := lt_some hf
  refine V_eqJ ex15 ?_
  refine V_lsub g dX9_seamBy_63 ?_
  obtain ⟨x16, ex16, hf⟩ := lt_some hf
  refine V_lstore_n g [(3, vJ x16), (6, vJ t0), (0, vR 9 l0), (1, vI l1), (2, vI l2), (5, vI l5)] dX9_seamBy_64 ex16 (by decide) rfl ?_
  refine V_iload g 5 dX9_seamBy_65 rfl ?_
  refine V_iconst (v := 1) g dX9_seamBy_67 (by decide) ?_
  refine V_iadd g dX9_seamBy_68 ?_
  refine V_aload_n g 2 dX9_seamBy_69 rfl ?_
  refine V_getI g 9 l0 7 rfl (by decide) rfl q_1240 z10 dX9_seamBy_70 ?_
  refine V_icmp_ge g 91 dX9_seamBy_73 (by decide) (fun c17 => ?_) (fun c17 => ?_)
  · have hf := it_t hf c17
    refine V_sub [(0, vR 9 l0), (1, vI l1), (2, vI l2), (3, vJ x16), (5, vI l5)] [2, 3, 4, 0, 5] rfl ?_
    exact t_X9_seamBy_b91 g f hk5 hf
  · have hf := it_f hf c17
    refine V_lload_n g 0 dX9_seamBy_76 rfl ?_
    refine V_aload_n g 2 dX9_seamBy_77 rfl ?_
    refine V_getR g 9 l0 4 10 rfl (by decide) rfl rfl q_1237 z10 dX9_seamBy_78 ?_
    refine V_iload g 5 dX9_seamBy_81 rfl ?_
    refine V_iconst (v := 1) g dX9_seamBy_83 (by decide) ?_
    refine V_iadd g dX9_seamBy_84 ?_
    obtain ⟨h18, hf⟩ := ckf hf
    refine V_iald g z13 h18 dX9_seamBy_85 ?_
    obtain ⟨s19, x20, hc, hf⟩ := bI_some hf
    refine cS1 g [vJ x16, vI (gI s 10 (gR s 9 l0 4) (ix (l5 + 1)))] [] s19 (vI x20) cf_X9_multiple (t_X9_multiple g.2.2.2.2.2.2.1 hc) (by decide) q_1600 (Nat.le_of_ble_eq_true rfl) dX9_seamBy_86 ?_ rfl
    refine V_i2l g dX9_seamBy_89 ?_
    obtain ⟨x21, ex21, hf⟩ := lt_some hf
    refine V_lstore_n g [(3, vJ x21), (6, vJ t0), (0, vR 9 l0), (1, vI l1), (2, vI l2), (5, vI l5)] dX9_seamBy_90 ex21 (by decide) rfl ?_
    refine V_sub [(0, vR 9 l0), (1, vI l1), (2, vI l2), (3, vJ x21), (5, vI l5)] [2, 3, 4, 0, 5] rfl ?_
    exact t_X9_seamBy_b91 g f hk5 hf
set_option maxRecDepth 20000 in
theorem t_X9_seamBy_b5 {E : ET} {fu : Nat} {s' : St} {w' : Int32} (g : GX E "ThinSeriesModel" cX9_seamBy 8 2) (f : FX E "seamBy" (some .int) []) : ∀ (n : Nat) (s : St) (l0 : Nat) (l1 : Int32) (l2 : Int32) (l3 : Int64) (l5 : Int32), f_X9_seamBy_b5 fu n s l0 l1 l2 l3 l5 = some (s', w') → V E 8 (QE E (s', .inl (some (vI w')))) s 5 [(0, vR 9 l0), (1, vI l1), (2, vI l2), (3, vJ l3), (5, vI l5)] [] := by
  intro n
  induction n with
  | zero =>
    intro s l0 l1 l2 l3 l5 hf
    unfold f_X9_seamBy_b5 at hf
    exact nomatch hf
  | succ n ih =>
    intro s l0 l1 l2 l3 l5 hf
    unfold f_X9_seamBy_b5 at hf
    refine V_iload g 4 dX9_seamBy_5 rfl ?_
    refine V_iload_n g 2 dX9_seamBy_7 rfl ?_
    refine V_icmp_gt g 97 dX9_seamBy_8 (by decide) (fun c1 => ?_) (fun c1 => ?_)
    · have hf := it_t hf c1
      refine V_lload_n g 3 dX9_seamBy_97 rfl ?_
      refine V_l2i g dX9_seamBy_98 ?_
      cases hf
      exact V_ireturn g f dX9_seamBy_99
    · have hf := it_f hf c1
      refine V_iload g 4 dX9_seamBy_11 rfl ?_
      refine V_if_ne g 41 dX9_seamBy_13 (by decide) (fun c2 => ?_) (fun c2 => ?_)
      · have hf := it_f hf c2
        refine V_lload_n g 3 dX9_seamBy_41 rfl ?_
        refine V_sub [(0, vR 9 l0), (1, vI l1), (2, vI l2), (5, vI l5)] [0, 1, 2, 4] rfl ?_
        exact t_X9_seamBy_b42 g f ih hf
      · have hf := it_t hf c2
        refine V_iload_n g 1 dX9_seamBy_16 rfl ?_
        refine V_i2l g dX9_seamBy_17 ?_
        refine V_aload_n g 0 dX9_seamBy_18 rfl ?_
        obtain ⟨z3, hf⟩ := nz_some hf
        refine V_getR g 9 l0 4 10 rfl (by decide) rfl rfl q_1237 z3 dX9_seamBy_19 ?_
        refine V_iconst (v := 0) g dX9_seamBy_22 (by decide) ?_
        obtain ⟨z4, hf⟩ := nz_some hf
        obtain ⟨h5, hf⟩ := ckf hf
        refine V_iald g z4 h5 dX9_seamBy_23 ?_
        refine V_i2l g dX9_seamBy_24 ?_
        obtain ⟨s6, x7, hc, hf⟩ := bI_some hf
        refine cS1 g [vJ (Int32.toInt64 l1), vJ (Int32.toInt64 (gI s 10 (gR s 9 l0 4) (ix 0)))] [] s6 (vJ x7) cf_X9_by (t_X9_by g.2.2.2.2.2.2.1 hc) (by decide) q_1597 (Nat.le_of_ble_eq_true rfl) dX9_seamBy_25 ?_ rfl
        refine V_lconst (v := 1) g dX9_seamBy_28 (by decide) ?_
        refine V_ladd g dX9_seamBy_29 ?_
        refine V_aload_n g 0 dX9_seamBy_30 rfl ?_
        refine V_getR g 9 l0 4 10 rfl (by decide) rfl rfl q_1237 z3 dX9_seamBy_31 ?_
        refine V_iconst (v := 0) g dX9_seamBy_34 (by decide) ?_
        obtain ⟨z8, hf⟩ := nz_some hf
        obtain ⟨h9, hf⟩ := ckf hf
        refine V_iald g z8 h9 dX9_seamBy_35 ?_
        refine V_i2l g dX9_seamBy_36 ?_
        refine V_lmul g dX9_seamBy_37 ?_
        refine V_goto g 42 dX9_seamBy_38 (by decide) ?_
        refine V_sub [(0, vR 9 l0), (1, vI l1), (2, vI l2), (5, vI l5)] [0, 1, 2, 4] rfl ?_
        exact t_X9_seamBy_b42 g f ih hf
set_option maxRecDepth 20000 in
theorem t_X9_seamBy {G : GT} {l : Launch} (hl : l.stackTraces = false) {fu : Nat} {s s' : St} {a0 : Nat} {a1 : Int32} {a2 : Int32} {w' : Int32} (hf : f_X9_seamBy fu s a0 a1 a2 = some (s', w')) : MetG G l yX9_seamBy (.code yX9_seamBy cX9_seamBy 8 (some .int)) 2 s [vR 9 a0, vI a1, vI a2] (s', .inl (some (vI w'))) := by
  refine MetG_of hl (by decide +kernel) (Nat.le_of_ble_eq_true rfl) (fun E g f eG eL => ?_)
  subst eG; subst eL
  have g : GX E "ThinSeriesModel" cX9_seamBy 8 2 := g
  have f : FX E "seamBy" (some .int) [] := f
  show V E 8 (QE E (s', .inl (some (vI w')))) s 0 [(0, vR 9 a0), (1, vI a1), (2, vI a2)] []
  unfold f_X9_seamBy at hf
  refine V_lconst (v := 0) g dX9_seamBy_0 (by decide) ?_
  refine V_lstore_n g [(3, vJ 0), (0, vR 9 a0), (1, vI a1), (2, vI a2)] dX9_seamBy_1 rfl (by decide) rfl ?_
  refine V_iconst (v := 0) g dX9_seamBy_2 (by decide) ?_
  refine V_istore g [(5, vI 0), (3, vJ 0), (0, vR 9 a0), (1, vI a1), (2, vI a2)] dX9_seamBy_3 rfl (by decide) rfl ?_
  refine V_sub [(0, vR 9 a0), (1, vI a1), (2, vI a2), (3, vJ 0), (5, vI 0)] [2, 3, 4, 1, 0] rfl ?_
  exact t_X9_seamBy_b5 g f _ s a0 a1 a2 0 0 hf
set_option maxRecDepth 20000 in
theorem t_X9_tierBy_b2 {E : ET} {fu : Nat} {s' : St} {w' : Int32} (g : GX E "ThinSeriesModel" cX9_tierBy 4 3) (f : FX E "tierBy" (some .int) []) : ∀ (n : Nat) (s : St) (l0 : Nat) (l1 : Int32) (l2 : Int32) (l3 : Int32), f_X9_tierBy_b2 fu n s l0 l1 l2 l3 = some (s', w') → V E 4 (QE E (s', .inl (some (vI w')))) s 2 [(0, vR 9 l0), (1, vI l1), (2, vI l2), (3, vI l3)] [] := by
  intro n
  induction n with
  | zero =>
    intro s l0 l1 l2 l3 hf
    unfold f_X9_tierBy_b2 at hf
    exact nomatch hf
  | succ n ih =>
    intro s l0 l1 l2 l3 hf
    unfold f_X9_tierBy_b2 at hf
    refine V_iload_n g 3 dX9_tierBy_2 rfl ?_
    refine V_aload_n g 0 dX9_tierBy_3 rfl ?_
    obtain ⟨z1, hf⟩ := nz_some hf
    refine V_getI g 9 l0 7 rfl (by decide) rfl q_1240 z1 dX9_tierBy_4 ?_
    refine V_icmp_ge g 28 dX9_tierBy_7 (by decide) (fun c2 => ?_) (fun c2 => ?_)
    · have hf := it_t hf c2
      refine V_iconst (v := (-1)) g dX9_tierBy_28 (by decide) ?_
      cases hf
      exact V_ireturn g f dX9_tierBy_29
    · have hf := it_f hf c2
      refine V_iload_n g 2 dX9_tierBy_10 rfl ?_
      refine V_aload_n g 0 dX9_tierBy_11 rfl ?_
      refine V_iload_n g 1 dX9_tierBy_12 rfl ?_
      refine V_iload_n g 3 dX9_tierBy_13 rfl ?_
      obtain ⟨s3, x4, hc, hf⟩ := bI_some hf
      refine cV1 g [vI l1, vI l3] [vI l2] s3 (vI x4) cf_X9_seamBy (t_X9_seamBy g.2.2.2.2.2.2.1 hc) (RC_own g rfl z1) z1 (by decide) q_1593 (Nat.le_of_ble_eq_true rfl) dX9_tierBy_14 ?_ rfl
      refine V_icmp_lt g 22 dX9_tierBy_17 (by decide) (fun c5 => ?_) (fun c5 => ?_)
      · have hf := it_t hf c5
        obtain ⟨x6, ex6, hf⟩ := lt_some hf
        refine V_iinc g 3 [(3, vI x6), (0, vR 9 l0), (1, vI l1), (2, vI l2)] dX9_tierBy_22 rfl (by rw [ex6]; rfl) (by decide) rfl ?_
        refine V_goto g 2 dX9_tierBy_25 (by decide) ?_
        refine V_sub [(0, vR 9 l0), (1, vI l1), (2, vI l2), (3, vI x6)] [1, 2, 3, 0] rfl ?_
        exact ih s3 l0 l1 l2 x6 hf
      · have hf := it_f hf c5
        refine V_iload_n g 3 dX9_tierBy_20 rfl ?_
        cases hf
        exact V_ireturn g f dX9_tierBy_21
set_option maxRecDepth 20000 in
theorem t_X9_tierBy {G : GT} {l : Launch} (hl : l.stackTraces = false) {fu : Nat} {s s' : St} {a0 : Nat} {a1 : Int32} {a2 : Int32} {w' : Int32} (hf : f_X9_tierBy fu s a0 a1 a2 = some (s', w')) : MetG G l yX9_tierBy (.code yX9_tierBy cX9_tierBy 4 (some .int)) 3 s [vR 9 a0, vI a1, vI a2] (s', .inl (some (vI w'))) := by
  refine MetG_of hl (by decide +kernel) (Nat.le_of_ble_eq_true rfl) (fun E g f eG eL => ?_)
  subst eG; subst eL
  have g : GX E "ThinSeriesModel" cX9_tierBy 4 3 := g
  have f : FX E "tierBy" (some .int) [] := f
  show V E 4 (QE E (s', .inl (some (vI w')))) s 0 [(0, vR 9 a0), (1, vI a1), (2, vI a2)] []
  unfold f_X9_tierBy at hf
  refine V_iconst (v := 0) g dX9_tierBy_0 (by decide) ?_
  refine V_istore_n g [(3, vI 0), (0, vR 9 a0), (1, vI a1), (2, vI a2)] dX9_tierBy_1 rfl (by decide) rfl ?_
  refine V_sub [(0, vR 9 a0), (1, vI a1), (2, vI a2), (3, vI 0)] [1, 2, 3, 0] rfl ?_
  exact t_X9_tierBy_b2 g f _ s a0 a1 a2 0 hf
set_option maxRecDepth 20000 in
theorem t_X9_bucketFrom_b187 {E : ET} {fu : Nat} {s' : St} {w' : Int32} (g : GX E "ThinSeriesModel" cX9_bucketFrom 4 4) (f : FX E "bucketFrom" (some .int) []) {s : St} {l3 : Int32} (hf : f_X9_bucketFrom_b187 fu s l3 = some (s', w')) : V E 4 (QE E (s', .inl (some (vI w')))) s 187 [(3, vI l3)] [] := by
  unfold f_X9_bucketFrom_b187 at hf
  refine V_iload_n g 0 dX9_bucketFrom_187 rfl ?_
  cases hf
  exact V_ireturn g f dX9_bucketFrom_188
set_option maxRecDepth 20000 in
theorem t_X9_bucketFrom_b80 {E : ET} {fu : Nat} {s' : St} {w' : Int32} (g : GX E "ThinSeriesModel" cX9_bucketFrom 4 4) (f : FX E "bucketFrom" (some .int) []) : ∀ (n : Nat) (s : St) (l0 : Nat) (l2 : Int32) (l3 : Int32), f_X9_bucketFrom_b80 fu n s l0 l2 l3 = some (s', w') → V E 4 (QE E (s', .inl (some (vI w')))) s 80 [(0, vR 9 l0), (2, vI l2), (3, vI l3)] [] := by
  intro n
  induction n with
  | zero =>
    intro s l0 l2 l3 hf
    unfold f_X9_bucketFrom_b80 at hf
    exact nomatch hf
  | succ n ih =>
    intro s l0 l2 l3 hf
    unfold f_X9_bucketFrom_b80 at hf
    refine V_iload_n g 2 dX9_bucketFrom_80 rfl ?_
    refine V_aload_n g 0 dX9_bucketFrom_81 rfl ?_
    obtain ⟨z25, hf⟩ := nz_some hf
    refine V_getI g 9 l0 22 rfl (by decide) rfl q_1255 z25 dX9_bucketFrom_82 ?_
    refine V_icmp_ge g 187 dX9_bucketFrom_85 (by decide) (fun c26 => ?_) (fun c26 => ?_)
    · have hf := it_t hf c26
      refine V_sub [(3, vI l3)] [2] rfl ?_
      exact t_X9_bucketFrom_b187 g f hf
    · have hf := it_f hf c26
      refine V_aload_n g 0 dX9_bucketFrom_88 rfl ?_
      refine V_getR g 9 l0 19 10 rfl (by decide) rfl rfl q_1252 z25 dX9_bucketFrom_89 ?_
      refine V_iload_n g 2 dX9_bucketFrom_92 rfl ?_
      obtain ⟨z27, hf⟩ := nz_some hf
      obtain ⟨h28, hf⟩ := ckf hf
      refine V_iald g z27 h28 dX9_bucketFrom_93 ?_
      refine V_iload_n g 1 dX9_bucketFrom_94 rfl ?_
      refine V_icmp_ne g 187 dX9_bucketFrom_95 (by decide) (fun c29 => ?_) (fun c29 => ?_)
      · have hf := it_f hf c29
        refine V_sub [(3, vI l3)] [2] rfl ?_
        exact t_X9_bucketFrom_b187 g f hf
      · have hf := it_t hf c29
        refine V_aload_n g 0 dX9_bucketFrom_98 rfl ?_
        refine V_getR g 9 l0 20 10 rfl (by decide) rfl rfl q_1253 z25 dX9_bucketFrom_99 ?_
        refine V_iload_n g 2 dX9_bucketFrom_102 rfl ?_
        obtain ⟨z30, hf⟩ := nz_some hf
        obtain ⟨h31, hf⟩ := ckf hf
        refine V_iald g z30 h31 dX9_bucketFrom_103 ?_
        refine V_aload_n g 0 dX9_bucketFrom_104 rfl ?_
        refine V_getI g 9 l0 52 rfl (by decide) rfl q_1285 z25 dX9_bucketFrom_105 ?_
        refine V_aload_n g 0 dX9_bucketFrom_108 rfl ?_
        refine V_getR g 9 l0 4 10 rfl (by decide) rfl rfl q_1237 z25 dX9_bucketFrom_109 ?_
        refine V_aload_n g 0 dX9_bucketFrom_112 rfl ?_
        refine V_getI g 9 l0 51 rfl (by decide) rfl q_1284 z25 dX9_bucketFrom_113 ?_
        obtain ⟨z32, hf⟩ := nz_some hf
        obtain ⟨h33, hf⟩ := ckf hf
        refine V_iald g z32 h33 dX9_bucketFrom_116 ?_
        refine V_iadd g dX9_bucketFrom_117 ?_
        refine V_icmp_ge g 187 dX9_bucketFrom_118 (by decide) (fun c34 => ?_) (fun c34 => ?_)
        · have hf := it_t hf c34
          refine V_sub [(3, vI l3)] [2] rfl ?_
          exact t_X9_bucketFrom_b187 g f hf
        · have hf := it_f hf c34
          refine V_aload_n g 0 dX9_bucketFrom_121 rfl ?_
          refine V_dup g dX9_bucketFrom_122 rfl ?_
          refine V_getI g 9 l0 53 rfl (by decide) rfl q_1286 z25 dX9_bucketFrom_123 ?_
          refine V_iconst (v := 1) g dX9_bucketFrom_126 (by decide) ?_
          refine V_iadd g dX9_bucketFrom_127 ?_
          obtain ⟨s35, es35, hf⟩ := lt_some hf
          refine V_putI g 9 l0 53 es35 rfl (by decide) rfl q_1286 z25 (Or.inl rfl) pf_9_53 dX9_bucketFrom_128 ?_
          refine V_aload_n g 0 dX9_bucketFrom_131 rfl ?_
          refine V_dup g dX9_bucketFrom_132 rfl ?_
          refine V_getJ g 9 l0 56 rfl (by decide) rfl q_1289 z25 dX9_bucketFrom_133 ?_
          refine V_aload_n g 0 dX9_bucketFrom_136 rfl ?_
          refine V_getR g 9 l0 21 10 rfl (by decide) rfl rfl q_1254 z25 dX9_bucketFrom_137 ?_
          refine V_iload_n g 2 dX9_bucketFrom_140 rfl ?_
          obtain ⟨z36, hf⟩ := nz_some hf
          obtain ⟨h37, hf⟩ := ckf hf
          refine V_iald g z36 h37 dX9_bucketFrom_141 ?_
          refine V_i2l g dX9_bucketFrom_142 ?_
          refine V_ladd g dX9_bucketFrom_143 ?_
          obtain ⟨s38, es38, hf⟩ := lt_some hf
          refine V_putJ g 9 l0 56 es38 rfl (by decide) rfl q_1289 z25 (Or.inl rfl) pf_9_56 dX9_bucketFrom_144 ?_
          refine V_aload_n g 0 dX9_bucketFrom_147 rfl ?_
          refine V_aload_n g 0 dX9_bucketFrom_148 rfl ?_
          refine V_getI g 9 l0 54 rfl (by decide) rfl q_1287 z25 dX9_bucketFrom_149 ?_
          refine V_aload_n g 0 dX9_bucketFrom_152 rfl ?_
          refine V_getR g 9 l0 21 10 rfl (by decide) rfl rfl q_1254 z25 dX9_bucketFrom_153 ?_
          refine V_iload_n g 2 dX9_bucketFrom_156 rfl ?_
          obtain ⟨z39, hf⟩ := nz_some hf
          obtain ⟨h40, hf⟩ := ckf hf
          refine V_iald g z39 h40 dX9_bucketFrom_157 ?_
          obtain ⟨s41, x42, hc, hf⟩ := bI_some hf
          refine cS1 g [vI (gI s38 9 l0 54), vI (gI s38 10 (gR s38 9 l0 21) (ix l3))] [vR 9 l0] s41 (vI x42) cf_J9_min_7cf53 (t_J9_min_7cf53 g.2.2.2.2.2.2.1 hc) (by decide) q_1477 (Nat.le_of_ble_eq_true rfl) dX9_bucketFrom_158 ?_ rfl
          obtain ⟨s43, es43, hf⟩ := lt_some hf
          refine V_putI g 9 l0 54 es43 rfl (by decide) rfl q_1287 z25 (Or.inl rfl) pf_9_54 dX9_bucketFrom_161 ?_
          refine V_aload_n g 0 dX9_bucketFrom_164 rfl ?_
          refine V_aload_n g 0 dX9_bucketFrom_165 rfl ?_
          refine V_getI g 9 l0 55 rfl (by decide) rfl q_1288 z25 dX9_bucketFrom_166 ?_
          refine V_aload_n g 0 dX9_bucketFrom_169 rfl ?_
          refine V_getR g 9 l0 21 10 rfl (by decide) rfl rfl q_1254 z25 dX9_bucketFrom_170 ?_
          refine V_iload_n g 2 dX9_bucketFrom_173 rfl ?_
          obtain ⟨z44, hf⟩ := nz_some hf
          obtain ⟨h45, hf⟩ := ckf hf
          refine V_iald g z44 h45 dX9_bucketFrom_174 ?_
          obtain ⟨s46, x47, hc, hf⟩ := bI_some hf
          refine cS1 g [vI (gI s43 9 l0 55), vI (gI s43 10 (gR s43 9 l0 21) (ix l3))] [vR 9 l0] s46 (vI x47) cf_J9_max_7cf53 (t_J9_max_7cf53 g.2.2.2.2.2.2.1 hc) (by decide) q_1645 (Nat.le_of_ble_eq_true rfl) dX9_bucketFrom_175 ?_ rfl
          obtain ⟨s48, es48, hf⟩ := lt_some hf
          refine V_putI g 9 l0 55 es48 rfl (by decide) rfl q_1288 z25 (Or.inl rfl) pf_9_55 dX9_bucketFrom_178 ?_
          obtain ⟨x49, ex49, hf⟩ := lt_some hf
          refine V_iinc g 2 [(3, vI x49), (0, vR 9 l0), (2, vI l2)] dX9_bucketFrom_181 rfl (by rw [ex49]; rfl) (by decide) rfl ?_
          refine V_goto g 80 dX9_bucketFrom_184 (by decide) ?_
          refine V_sub [(0, vR 9 l0), (2, vI l2), (3, vI x49)] [1, 2, 0] rfl ?_
          exact ih s48 l0 l2 x49 hf
set_option maxRecDepth 20000 in
theorem t_X9_bucketFrom {G : GT} {l : Launch} (hl : l.stackTraces = false) {fu : Nat} {s s' : St} {a0 : Nat} {a1 : Int32} {w' : Int32} (hf : f_X9_bucketFrom fu s a0 a1 = some (s', w')) : MetG G l yX9_bucketFrom (.code yX9_bucketFrom cX9_bucketFrom 4 (some .int)) 4 s [vR 9 a0, vI a1] (s', .inl (some (vI w'))) := by
  refine MetG_of hl (by decide +kernel) (Nat.le_of_ble_eq_true rfl) (fun E g f eG eL => ?_)
  subst eG; subst eL
  have g : GX E "ThinSeriesModel" cX9_bucketFrom 4 4 := g
  have f : FX E "bucketFrom" (some .int) [] := f
  show V E 4 (QE E (s', .inl (some (vI w')))) s 0 [(0, vR 9 a0), (1, vI a1)] []
  unfold f_X9_bucketFrom at hf
  refine V_aload_n g 0 dX9_bucketFrom_0 rfl ?_
  obtain ⟨z1, hf⟩ := nz_some hf
  refine V_getR g 9 a0 19 10 rfl (by decide) rfl rfl q_1252 z1 dX9_bucketFrom_1 ?_
  refine V_iload_n g 1 dX9_bucketFrom_4 rfl ?_
  obtain ⟨z2, hf⟩ := nz_some hf
  obtain ⟨h3, hf⟩ := ckf hf
  refine V_iald g z2 h3 dX9_bucketFrom_5 ?_
  obtain ⟨x4, ex4, hf⟩ := lt_some hf
  refine V_istore_n g [(2, vI x4), (0, vR 9 a0), (1, vI a1)] dX9_bucketFrom_6 ex4 (by decide) rfl ?_
  refine V_aload_n g 1 dX9_bucketFrom_7 rfl ?_
  refine V_aload_n g 1 dX9_bucketFrom_8 rfl ?_
  refine V_aload_n g 1 dX9_bucketFrom_9 rfl ?_
  refine V_getR g 9 a0 11 10 rfl (by decide) rfl rfl q_1244 z1 dX9_bucketFrom_10 ?_
  refine V_iload_n g 0 dX9_bucketFrom_13 rfl ?_
  obtain ⟨z5, hf⟩ := nz_some hf
  obtain ⟨h6, hf⟩ := ckf hf
  refine V_iald g z5 h6 dX9_bucketFrom_14 ?_
  refine V_aload_n g 1 dX9_bucketFrom_15 rfl ?_
  refine V_getR g 9 a0 20 10 rfl (by decide) rfl rfl q_1253 z1 dX9_bucketFrom_16 ?_
  refine V_iload_n g 2 dX9_bucketFrom_19 rfl ?_
  obtain ⟨z7, hf⟩ := nz_some hf
  obtain ⟨h8, hf⟩ := ckf hf
  refine V_iald g z7 h8 dX9_bucketFrom_20 ?_
  obtain ⟨s9, x10, hc, hf⟩ := bI_some hf
  refine cV1 g [vI (gI s 10 (gR s 9 a0 11) (ix x4)), vI (gI s 10 (gR s 9 a0 20) (ix a1))] [vR 9 a0] s9 (vI x10) cf_X9_tierBy (t_X9_tierBy g.2.2.2.2.2.2.1 hc) (RC_own g rfl z1) z1 (by decide) q_1653 (Nat.le_of_ble_eq_true rfl) dX9_bucketFrom_21 ?_ rfl
  obtain ⟨s11, es11, hf⟩ := lt_some hf
  refine V_putI g 9 a0 51 es11 rfl (by decide) rfl q_1284 z1 (Or.inl rfl) pf_9_51 dX9_bucketFrom_24 ?_
  refine V_aload_n g 1 dX9_bucketFrom_27 rfl ?_
  refine V_aload_n g 1 dX9_bucketFrom_28 rfl ?_
  refine V_getR g 9 a0 20 10 rfl (by decide) rfl rfl q_1253 z1 dX9_bucketFrom_29 ?_
  refine V_iload_n g 2 dX9_bucketFrom_32 rfl ?_
  obtain ⟨z12, hf⟩ := nz_some hf
  obtain ⟨h13, hf⟩ := ckf hf
  refine V_iald g z12 h13 dX9_bucketFrom_33 ?_
  refine V_i2l g dX9_bucketFrom_34 ?_
  refine V_aload_n g 1 dX9_bucketFrom_35 rfl ?_
  refine V_getR g 9 a0 4 10 rfl (by decide) rfl rfl q_1237 z1 dX9_bucketFrom_36 ?_
  refine V_aload_n g 1 dX9_bucketFrom_39 rfl ?_
  refine V_getI g 9 a0 51 rfl (by decide) rfl q_1284 z1 dX9_bucketFrom_40 ?_
  obtain ⟨z14, hf⟩ := nz_some hf
  obtain ⟨h15, hf⟩ := ckf hf
  refine V_iald g z14 h15 dX9_bucketFrom_43 ?_
  obtain ⟨s16, x17, hc, hf⟩ := bI_some hf
  refine cS1 g [vJ (Int32.toInt64 (gI s11 10 (gR s11 9 a0 20) (ix a1))), vI (gI s11 10 (gR s11 9 a0 4) (ix (gI s11 9 a0 51)))] [vR 9 a0] s16 (vI x17) cf_X9_multiple (t_X9_multiple g.2.2.2.2.2.2.1 hc) (by decide) q_1600 (Nat.le_of_ble_eq_true rfl) dX9_bucketFrom_44 ?_ rfl
  obtain ⟨s18, es18, hf⟩ := lt_some hf
  refine V_putI g 9 a0 52 es18 rfl (by decide) rfl q_1285 z1 (Or.inl rfl) pf_9_52 dX9_bucketFrom_47 ?_
  refine V_aload_n g 1 dX9_bucketFrom_50 rfl ?_
  refine V_iconst (v := 0) g dX9_bucketFrom_51 (by decide) ?_
  obtain ⟨s19, es19, hf⟩ := lt_some hf
  refine V_putI g 9 a0 53 es19 rfl (by decide) rfl q_1286 z1 (Or.inl rfl) pf_9_53 dX9_bucketFrom_52 ?_
  refine V_aload_n g 1 dX9_bucketFrom_55 rfl ?_
  refine V_lconst (v := 0) g dX9_bucketFrom_56 (by decide) ?_
  obtain ⟨s20, es20, hf⟩ := lt_some hf
  refine V_putJ g 9 a0 56 es20 rfl (by decide) rfl q_1289 z1 (Or.inl rfl) pf_9_56 dX9_bucketFrom_57 ?_
  refine V_aload_n g 1 dX9_bucketFrom_60 rfl ?_
  refine V_aload_n g 1 dX9_bucketFrom_61 rfl ?_
  refine V_getR g 9 a0 21 10 rfl (by decide) rfl rfl q_1254 z1 dX9_bucketFrom_62 ?_
  refine V_iload_n g 2 dX9_bucketFrom_65 rfl ?_
  obtain ⟨z21, hf⟩ := nz_some hf
  obtain ⟨h22, hf⟩ := ckf hf
  refine V_iald g z21 h22 dX9_bucketFrom_66 ?_
  obtain ⟨s23, es23, hf⟩ := lt_some hf
  refine V_putI g 9 a0 54 es23 rfl (by decide) rfl q_1287 z1 (Or.inl rfl) pf_9_54 dX9_bucketFrom_67 ?_
  refine V_aload_n g 1 dX9_bucketFrom_70 rfl ?_
  refine V_aload_n g 1 dX9_bucketFrom_71 rfl ?_
  refine V_getI g 9 a0 54 rfl (by decide) rfl q_1287 z1 dX9_bucketFrom_72 ?_
  obtain ⟨s24, es24, hf⟩ := lt_some hf
  refine V_putI g 9 a0 55 es24 rfl (by decide) rfl q_1288 z1 (Or.inl rfl) pf_9_55 dX9_bucketFrom_75 ?_
  refine V_iload_n g 2 dX9_bucketFrom_78 rfl ?_
  refine V_istore_n g [(3, vI a1), (2, vI x4), (0, vR 9 a0), (1, vI a1)] dX9_bucketFrom_79 rfl (by decide) rfl ?_
  refine V_sub [(0, vR 9 a0), (2, vI x4), (3, vI a1)] [2, 1, 0] rfl ?_
  exact t_X9_bucketFrom_b80 g f _ s24 a0 x4 a1 hf
set_option maxRecDepth 20000 in
theorem t_X9_meanNow {G : GT} {l : Launch} (hl : l.stackTraces = false) {fu : Nat} {s s' : St} {a0 : Nat} {w' : Int32} (hf : f_X9_meanNow fu s a0 = some (s', w')) : MetG G l yX9_meanNow (.code yX9_meanNow cX9_meanNow 1 (some .int)) 1 s [vR 9 a0] (s', .inl (some (vI w'))) := by
  refine MetG_of hl (by decide +kernel) (Nat.le_of_ble_eq_true rfl) (fun E g f eG eL => ?_)
  subst eG; subst eL
  have g : GX E "ThinSeriesModel" cX9_meanNow 1 1 := g
  have f : FX E "meanNow" (some .int) [] := f
  show V E 1 (QE E (s', .inl (some (vI w')))) s 0 [(0, vR 9 a0)] []
  unfold f_X9_meanNow at hf
  refine V_aload_n g 0 dX9_meanNow_0 rfl ?_
  obtain ⟨z1, hf⟩ := nz_some hf
  refine V_getJ g 9 a0 56 rfl (by decide) rfl q_1289 z1 dX9_meanNow_1 ?_
  refine V_aload_n g 0 dX9_meanNow_4 rfl ?_
  refine V_getI g 9 a0 53 rfl (by decide) rfl q_1286 z1 dX9_meanNow_5 ?_
  refine V_i2l g dX9_meanNow_8 ?_
  obtain ⟨s2, x3, hc, hf⟩ := bI_some hf
  refine cS1 g [vJ (gJ s 9 a0 56), vJ (Int32.toInt64 (gI s 9 a0 53))] [] s2 (vJ x3) cf_X9_by (t_X9_by g.2.2.2.2.2.2.1 hc) (by decide) q_1597 (Nat.le_of_ble_eq_true rfl) dX9_meanNow_9 ?_ rfl
  refine V_l2i g dX9_meanNow_12 ?_
  cases hf
  exact V_ireturn g f dX9_meanNow_13
set_option maxRecDepth 20000 in
theorem t_X9_fieldNow {G : GT} {l : Launch} (hl : l.stackTraces = false) {fu : Nat} {s s' : St} {a0 : Nat} {a1 : Int32} {w' : Int64} (hf : f_X9_fieldNow fu s a0 a1 = some (s', w')) : MetG G l yX9_fieldNow (.code yX9_fieldNow cX9_fieldNow 2 (some .long)) 2 s [vR 9 a0, vI a1] (s', .inl (some (vJ w'))) := by
  refine MetG_of hl (by decide +kernel) (Nat.le_of_ble_eq_true rfl) (fun E g f eG eL => ?_)
  subst eG; subst eL
  have g : GX E "ThinSeriesModel" cX9_fieldNow 2 2 := g
  have f : FX E "fieldNow" (some .long) [] := f
  show V E 2 (QE E (s', .inl (some (vJ w')))) s 0 [(0, vR 9 a0), (1, vI a1)] []
  unfold f_X9_fieldNow at hf
  refine V_iload_n g 1 dX9_fieldNow_0 rfl ?_
  by_cases c1 : a1 = 0
  · subst c1
    have hf := it_t hf rfl
    refine V_tableIn g 36 dX9_fieldNow_1 (by decide) (by decide) rfl (by decide) ?_
    refine V_aload_n g 0 dX9_fieldNow_36 rfl ?_
    obtain ⟨z2, hf⟩ := nz_some hf
    refine V_getI g 9 a0 54 rfl (by decide) rfl q_1287 z2 dX9_fieldNow_37 ?_
    refine V_i2l g dX9_fieldNow_40 ?_
    cases hf
    exact V_lreturn g f dX9_fieldNow_41
  · have hf := it_f hf c1
    by_cases c3 : a1 = 1
    · subst c3
      have hf := it_t hf rfl
      refine V_tableIn g 42 dX9_fieldNow_1 (by decide) (by decide) rfl (by decide) ?_
      refine V_aload_n g 0 dX9_fieldNow_42 rfl ?_
      obtain ⟨z4, hf⟩ := nz_some hf
      refine V_getI g 9 a0 55 rfl (by decide) rfl q_1288 z4 dX9_fieldNow_43 ?_
      refine V_i2l g dX9_fieldNow_46 ?_
      cases hf
      exact V_lreturn g f dX9_fieldNow_47
    · have hf := it_f hf c3
      by_cases c5 : a1 = 2
      · subst c5
        have hf := it_t hf rfl
        refine V_tableIn g 48 dX9_fieldNow_1 (by decide) (by decide) rfl (by decide) ?_
        refine V_aload_n g 0 dX9_fieldNow_48 rfl ?_
        obtain ⟨z6, hf⟩ := nz_some hf
        refine V_getJ g 9 a0 56 rfl (by decide) rfl q_1289 z6 dX9_fieldNow_49 ?_
        cases hf
        exact V_lreturn g f dX9_fieldNow_52
      · have hf := it_f hf c5
        by_cases c7 : a1 = 3
        · subst c7
          have hf := it_t hf rfl
          refine V_tableIn g 53 dX9_fieldNow_1 (by decide) (by decide) rfl (by decide) ?_
          refine V_aload_n g 0 dX9_fieldNow_53 rfl ?_
          obtain ⟨z8, hf⟩ := nz_some hf
          refine V_getI g 9 a0 53 rfl (by decide) rfl q_1286 z8 dX9_fieldNow_54 ?_
          refine V_i2l g dX9_fieldNow_57 ?_
          cases hf
          exact V_lreturn g f dX9_fieldNow_58
        · have hf := it_f hf c7
          by_cases c9 : a1 = 4
          · subst c9
            have hf := it_t hf rfl
            refine V_tableIn g 59 dX9_fieldNow_1 (by decide) (by decide) rfl (by decide) ?_
            refine V_aload_n g 0 dX9_fieldNow_59 rfl ?_
            obtain ⟨z10, hf⟩ := nz_some hf
            obtain ⟨s11, x12, hc, hf⟩ := bI_some hf
            refine cV1 g [] [] s11 (vI x12) cf_X9_meanNow (t_X9_meanNow g.2.2.2.2.2.2.1 hc) (RC_own g rfl z10) z10 (by decide) q_1766 (Nat.le_of_ble_eq_true rfl) dX9_fieldNow_60 ?_ rfl
            refine V_i2l g dX9_fieldNow_63 ?_
            cases hf
            exact V_lreturn g f dX9_fieldNow_64
          · have hf := it_f hf c9
            refine V_tableOut g 65 dX9_fieldNow_1 (sw_out (fun v h1 h2 => ?_)) (by decide) ?_
            · rcases (show v = 0 ∨ v = 1 ∨ v = 2 ∨ v = 3 ∨ v = 4 by omega) with rfl | rfl | rfl | rfl | rfl
              · exact c1
              · exact c3
              · exact c5
              · exact c7
              · exact c9
            · skip
              refine V_aload_n g 0 dX9_fieldNow_65 rfl ?_
              obtain ⟨z13, hf⟩ := nz_some hf
              refine V_getI g 9 a0 51 rfl (by decide) rfl q_1284 z13 dX9_fieldNow_66 ?_
              refine V_i2l g dX9_fieldNow_69 ?_
              cases hf
              exact V_lreturn g f dX9_fieldNow_70
set_option maxRecDepth 20000 in
theorem t_X9_isAlarmed_b239 {E : ET} {fu : Nat} {s' : St} {w' : Int32} (g : GX E "ThinSeriesModel" cX9_isAlarmed 7 3) (f : FX E "isAlarmed" (some .boolean) []) {k4 : St → Nat → Int32 → Int32 → Option (St × Int32)} (hk4 : ∀ (s : St) (l0 : Nat) (l1 : Int32) (l2 : Int32), k4 s l0 l1 l2 = some (s', w') → V E 7 (QE E (s', .inl (some (vI w')))) s 4 [(0, vR 9 l0), (1, vI l1), (2, vI l2)] []) {s : St} {l0 : Nat} {l1 : Int32} {l2 : Int32} (hf : f_X9_isAlarmed_b239 fu k4 s l0 l1 l2 = some (s', w')) : V E 7 (QE E (s', .inl (some (vI w')))) s 239 [(0, vR 9 l0), (1, vI l1), (2, vI l2)] [] := by
  unfold f_X9_isAlarmed_b239 at hf
  refine V_goto g 4 dX9_isAlarmed_239 (by decide) ?_
  exact hk4 s l0 l1 l2 hf
set_option maxRecDepth 20000 in
theorem t_X9_isAlarmed_b48 {E : ET} {fu : Nat} {s' : St} {w' : Int32} (g : GX E "ThinSeriesModel" cX9_isAlarmed 7 3) (f : FX E "isAlarmed" (some .boolean) []) {k4 : St → Nat → Int32 → Int32 → Option (St × Int32)} (hk4 : ∀ (s : St) (l0 : Nat) (l1 : Int32) (l2 : Int32), k4 s l0 l1 l2 = some (s', w') → V E 7 (QE E (s', .inl (some (vI w')))) s 4 [(0, vR 9 l0), (1, vI l1), (2, vI l2)] []) {s : St} {l0 : Nat} {l1 : Int32} {l2 : Int32} {t0 : Int32} {t1 : Int32} {t2 : Nat} (hf : f_X9_isAlarmed_b48 fu k4 s l0 l1 l2 t0 t1 t2 = some (s', w')) : V E 7 (QE E (s', .inl (some (vI w')))) s 48 [(0, vR 9 l0), (1, vI l1), (2, vI l2)] [vI t0, vI t1, vR 13 t2] := by
  unfold f_X9_isAlarmed_b48 at hf
  obtain ⟨z27, hf⟩ := nz_some hf
  obtain ⟨h28, hf⟩ := ckf hf
  obtain ⟨s29, es29, hf⟩ := lt_some hf
  refine V_zast g es29 z27 h28 dX9_isAlarmed_48 ?_
  obtain ⟨x30, ex30, hf⟩ := lt_some hf
  refine V_iinc g 2 [(2, vI x30), (0, vR 9 l0), (1, vI l1)] dX9_isAlarmed_49 rfl (by rw [ex30]; rfl) (by decide) rfl ?_
  refine V_goto g 239 dX9_isAlarmed_52 (by decide) ?_
  refine V_sub [(0, vR 9 l0), (1, vI l1), (2, vI x30)] [1, 2, 0] rfl ?_
  exact t_X9_isAlarmed_b239 g f hk4 hf
set_option maxRecDepth 20000 in
theorem t_X9_isAlarmed_b136 {E : ET} {fu : Nat} {s' : St} {w' : Int32} (g : GX E "ThinSeriesModel" cX9_isAlarmed 7 3) (f : FX E "isAlarmed" (some .boolean) []) {k4 : St → Nat → Int32 → Int32 → Option (St × Int32)} (hk4 : ∀ (s : St) (l0 : Nat) (l1 : Int32) (l2 : Int32), k4 s l0 l1 l2 = some (s', w') → V E 7 (QE E (s', .inl (some (vI w')))) s 4 [(0, vR 9 l0), (1, vI l1), (2, vI l2)] []) {s : St} {l0 : Nat} {l1 : Int32} {l2 : Int32} {t0 : Int32} {t1 : Int32} {t2 : Nat} (hf : f_X9_isAlarmed_b136 fu k4 s l0 l1 l2 t0 t1 t2 = some (s', w')) : V E 7 (QE E (s', .inl (some (vI w')))) s 136 [(0, vR 9 l0), (1, vI l1), (2, vI l2)] [vI t0, vI t1, vR 13 t2] := by
  unfold f_X9_isAlarmed_b136 at hf
  obtain ⟨z44, hf⟩ := nz_some hf
  obtain ⟨h45, hf⟩ := ckf hf
  obtain ⟨s46, es46, hf⟩ := lt_some hf
  refine V_zast g es46 z44 h45 dX9_isAlarmed_136 ?_
  obtain ⟨x47, ex47, hf⟩ := lt_some hf
  refine V_iinc g 2 [(2, vI x47), (0, vR 9 l0), (1, vI l1)] dX9_isAlarmed_137 rfl (by rw [ex47]; rfl) (by decide) rfl ?_
  refine V_goto g 239 dX9_isAlarmed_140 (by decide) ?_
  refine V_sub [(0, vR 9 l0), (1, vI l1), (2, vI x47)] [1, 2, 0] rfl ?_
  exact t_X9_isAlarmed_b239 g f hk4 hf
set_option maxRecDepth 20000 in
theorem t_X9_isAlarmed_b107 {E : ET} {fu : Nat} {s' : St} {w' : Int32} (g : GX E "ThinSeriesModel" cX9_isAlarmed 7 3) (f : FX E "isAlarmed" (some .boolean) []) {k4 : St → Nat → Int32 → Int32 → Option (St × Int32)} (hk4 : ∀ (s : St) (l0 : Nat) (l1 : Int32) (l2 : Int32), k4 s l0 l1 l2 = some (s', w') → V E 7 (QE E (s', .inl (some (vI w')))) s 4 [(0, vR 9 l0), (1, vI l1), (2, vI l2)] []) {s : St} {l0 : Nat} {l1 : Int32} {l2 : Int32} {t0 : Int32} {t1 : Nat} (hf : f_X9_isAlarmed_b107 fu k4 s l0 l1 l2 t0 t1 = some (s', w')) : V E 7 (QE E (s', .inl (some (vI w')))) s 107 [(0, vR 9 l0), (1, vI l1), (2, vI l2)] [vI t0, vR 13 t1] := by
  unfold f_X9_isAlarmed_b107 at hf
  refine V_iconst (v := 0) g dX9_isAlarmed_107 (by decide) ?_
  refine V_goto g 136 dX9_isAlarmed_108 (by decide) ?_
  exact t_X9_isAlarmed_b136 g f hk4 hf
set_option maxRecDepth 20000 in
theorem t_X9_isAlarmed_b131 {E : ET} {fu : Nat} {s' : St} {w' : Int32} (g : GX E "ThinSeriesModel" cX9_isAlarmed 7 3) (f : FX E "isAlarmed" (some .boolean) []) {k4 : St → Nat → Int32 → Int32 → Option (St × Int32)} (hk4 : ∀ (s : St) (l0 : Nat) (l1 : Int32) (l2 : Int32), k4 s l0 l1 l2 = some (s', w') → V E 7 (QE E (s', .inl (some (vI w')))) s 4 [(0, vR 9 l0), (1, vI l1), (2, vI l2)] []) {s : St} {l0 : Nat} {l1 : Int32} {l2 : Int32} {t0 : Int32} {t1 : Nat} (hf : f_X9_isAlarmed_b131 fu k4 s l0 l1 l2 t0 t1 = some (s', w')) : V E 7 (QE E (s', .inl (some (vI w')))) s 131 [(0, vR 9 l0), (1, vI l1), (2, vI l2)] [vI t0, vR 13 t1] := by
  unfold f_X9_isAlarmed_b131 at hf
  refine V_iconst (v := 1) g dX9_isAlarmed_131 (by decide) ?_
  refine V_goto g 136 dX9_isAlarmed_132 (by decide) ?_
  exact t_X9_isAlarmed_b136 g f hk4 hf
set_option maxRecDepth 20000 in
theorem t_X9_isAlarmed_b67 {E : ET} {fu : Nat} {s' : St} {w' : Int32} (g : GX E "ThinSeriesModel" cX9_isAlarmed 7 3) (f : FX E "isAlarmed" (some .boolean) []) {k4 : St → Nat → Int32 → Int32 → Option (St × Int32)} (hk4 : ∀ (s : St) (l0 : Nat) (l1 : Int32) (l2 : Int32), k4 s l0 l1 l2 = some (s', w') → V E 7 (QE E (s', .inl (some (vI w')))) s 4 [(0, vR 9 l0), (1, vI l1), (2, vI l2)] []) {s : St} {l0 : Nat} {l1 : Int32} {l2 : Int32} {l3 : Int32} (hf : f_X9_isAlarmed_b67 fu k4 s l0 l1 l2 l3 = some (s', w')) : V E 7 (QE E (s', .inl (some (vI w')))) s 67 [(0, vR 9 l0), (1, vI l1), (2, vI l2), (3, vI l3)] [] := by
  unfold f_X9_isAlarmed_b67 at hf
  obtain ⟨x31, ex31, hf⟩ := lt_some hf
  refine V_iinc g 1 [(1, vI x31), (0, vR 9 l0), (2, vI l2), (3, vI l3)] dX9_isAlarmed_67 rfl (by rw [ex31]; rfl) (by decide) rfl ?_
  refine V_aload_n g 1 dX9_isAlarmed_70 rfl ?_
  obtain ⟨z32, hf⟩ := nz_some hf
  refine V_getR g 9 l0 64 13 rfl (by decide) rfl rfl q_1297 z32 dX9_isAlarmed_71 ?_
  refine V_iload_n g 0 dX9_isAlarmed_74 rfl ?_
  refine V_iconst (v := 1) g dX9_isAlarmed_75 (by decide) ?_
  refine V_isub g dX9_isAlarmed_76 ?_
  refine V_iload_n g 3 dX9_isAlarmed_77 rfl ?_
  refine V_bipush (v := 21) g dX9_isAlarmed_78 (by decide) ?_
  refine V_icmp_ne g 111 dX9_isAlarmed_80 (by decide) (fun c33 => ?_) (fun c33 => ?_)
  · have hf := it_f hf c33
    refine V_aload_n g 1 dX9_isAlarmed_111 rfl ?_
    refine V_getR g 9 l0 64 13 rfl (by decide) rfl rfl q_1297 z32 dX9_isAlarmed_112 ?_
    refine V_iload_n g 0 dX9_isAlarmed_115 rfl ?_
    refine V_iconst (v := 1) g dX9_isAlarmed_116 (by decide) ?_
    refine V_isub g dX9_isAlarmed_117 ?_
    obtain ⟨z34, hf⟩ := nz_some hf
    obtain ⟨h35, hf⟩ := ckf hf
    refine V_zald g z34 h35 dX9_isAlarmed_118 ?_
    refine V_if_ne g 131 dX9_isAlarmed_119 (by decide) (fun c36 => ?_) (fun c36 => ?_)
    · have hf := it_f hf c36
      refine V_sub [(0, vR 9 l0), (1, vI x31), (2, vI l2)] [1, 0, 2] rfl ?_
      exact t_X9_isAlarmed_b131 g f hk4 hf
    · have hf := it_t hf c36
      refine V_aload_n g 1 dX9_isAlarmed_122 rfl ?_
      refine V_getR g 9 l0 64 13 rfl (by decide) rfl rfl q_1297 z32 dX9_isAlarmed_123 ?_
      refine V_iload_n g 0 dX9_isAlarmed_126 rfl ?_
      obtain ⟨h37, hf⟩ := ckf hf
      refine V_zald g z34 h37 dX9_isAlarmed_127 ?_
      refine V_if_eq g 135 dX9_isAlarmed_128 (by decide) (fun c38 => ?_) (fun c38 => ?_)
      · have hf := it_t hf c38
        refine V_iconst (v := 0) g dX9_isAlarmed_135 (by decide) ?_
        refine V_sub [(0, vR 9 l0), (1, vI x31), (2, vI l2)] [1, 0, 2] rfl ?_
        exact t_X9_isAlarmed_b136 g f hk4 hf
      · have hf := it_f hf c38
        refine V_sub [(0, vR 9 l0), (1, vI x31), (2, vI l2)] [1, 0, 2] rfl ?_
        exact t_X9_isAlarmed_b131 g f hk4 hf
  · have hf := it_t hf c33
    refine V_aload_n g 1 dX9_isAlarmed_83 rfl ?_
    refine V_getR g 9 l0 64 13 rfl (by decide) rfl rfl q_1297 z32 dX9_isAlarmed_84 ?_
    refine V_iload_n g 0 dX9_isAlarmed_87 rfl ?_
    refine V_iconst (v := 1) g dX9_isAlarmed_88 (by decide) ?_
    refine V_isub g dX9_isAlarmed_89 ?_
    obtain ⟨z39, hf⟩ := nz_some hf
    obtain ⟨h40, hf⟩ := ckf hf
    refine V_zald g z39 h40 dX9_isAlarmed_90 ?_
    refine V_if_eq g 107 dX9_isAlarmed_91 (by decide) (fun c41 => ?_) (fun c41 => ?_)
    · have hf := it_t hf c41
      refine V_sub [(0, vR 9 l0), (1, vI x31), (2, vI l2)] [1, 0, 2] rfl ?_
      exact t_X9_isAlarmed_b107 g f hk4 hf
    · have hf := it_f hf c41
      refine V_aload_n g 1 dX9_isAlarmed_94 rfl ?_
      refine V_getR g 9 l0 64 13 rfl (by decide) rfl rfl q_1297 z32 dX9_isAlarmed_95 ?_
      refine V_iload_n g 0 dX9_isAlarmed_98 rfl ?_
      obtain ⟨h42, hf⟩ := ckf hf
      refine V_zald g z39 h42 dX9_isAlarmed_99 ?_
      refine V_if_eq g 107 dX9_isAlarmed_100 (by decide) (fun c43 => ?_) (fun c43 => ?_)
      · have hf := it_t hf c43
        refine V_sub [(0, vR 9 l0), (1, vI x31), (2, vI l2)] [1, 0, 2] rfl ?_
        exact t_X9_isAlarmed_b107 g f hk4 hf
      · have hf := it_f hf c43
        refine V_iconst (v := 1) g dX9_isAlarmed_103 (by decide) ?_
        refine V_goto g 136 dX9_isAlarmed_104 (by decide) ?_
        refine V_sub [(0, vR 9 l0), (1, vI x31), (2, vI l2)] [1, 0, 2] rfl ?_
        exact t_X9_isAlarmed_b136 g f hk4 hf
set_option maxRecDepth 20000 in
theorem t_X9_isAlarmed_b232 {E : ET} {fu : Nat} {s' : St} {w' : Int32} (g : GX E "ThinSeriesModel" cX9_isAlarmed 7 3) (f : FX E "isAlarmed" (some .boolean) []) {k4 : St → Nat → Int32 → Int32 → Option (St × Int32)} (hk4 : ∀ (s : St) (l0 : Nat) (l1 : Int32) (l2 : Int32), k4 s l0 l1 l2 = some (s', w') → V E 7 (QE E (s', .inl (some (vI w')))) s 4 [(0, vR 9 l0), (1, vI l1), (2, vI l2)] []) {s : St} {l0 : Nat} {l1 : Int32} {l2 : Int32} {t0 : Int32} {t1 : Int32} {t2 : Nat} (hf : f_X9_isAlarmed_b232 fu k4 s l0 l1 l2 t0 t1 t2 = some (s', w')) : V E 7 (QE E (s', .inl (some (vI w')))) s 232 [(0, vR 9 l0), (1, vI l1), (2, vI l2)] [vI t0, vI t1, vR 13 t2] := by
  unfold f_X9_isAlarmed_b232 at hf
  obtain ⟨z48, hf⟩ := nz_some hf
  obtain ⟨h49, hf⟩ := ckf hf
  obtain ⟨s50, es50, hf⟩ := lt_some hf
  refine V_zast g es50 z48 h49 dX9_isAlarmed_232 ?_
  obtain ⟨x51, ex51, hf⟩ := lt_some hf
  refine V_iinc g 1 [(1, vI x51), (0, vR 9 l0), (2, vI l2)] dX9_isAlarmed_233 rfl (by rw [ex51]; rfl) (by decide) rfl ?_
  obtain ⟨x52, ex52, hf⟩ := lt_some hf
  refine V_iinc g 2 [(2, vI x52), (1, vI x51), (0, vR 9 l0)] dX9_isAlarmed_236 rfl (by rw [ex52]; rfl) (by decide) rfl ?_
  refine V_sub [(0, vR 9 l0), (1, vI x51), (2, vI x52)] [2, 1, 0] rfl ?_
  exact t_X9_isAlarmed_b239 g f hk4 hf
set_option maxRecDepth 20000 in
theorem t_X9_isAlarmed_b263 {E : ET} {fu : Nat} {s' : St} {w' : Int32} (g : GX E "ThinSeriesModel" cX9_isAlarmed 7 3) (f : FX E "isAlarmed" (some .boolean) []) {s : St} {t0 : Int32} (hf : f_X9_isAlarmed_b263 fu s t0 = some (s', w')) : V E 7 (QE E (s', .inl (some (vI w')))) s 263 [] [vI t0] := by
  unfold f_X9_isAlarmed_b263 at hf
  obtain ⟨h53, hf⟩ := ckf hf
  cases hf
  exact V_zreturn g f (zb_n h53) dX9_isAlarmed_263
set_option maxRecDepth 20000 in
theorem t_X9_isAlarmed_b262 {E : ET} {fu : Nat} {s' : St} {w' : Int32} (g : GX E "ThinSeriesModel" cX9_isAlarmed 7 3) (f : FX E "isAlarmed" (some .boolean) []) {s : St} (hf : f_X9_isAlarmed_b262 fu s = some (s', w')) : V E 7 (QE E (s', .inl (some (vI w')))) s 262 [] [] := by
  unfold f_X9_isAlarmed_b262 at hf
  refine V_iconst (v := 0) g dX9_isAlarmed_262 (by decide) ?_
  exact t_X9_isAlarmed_b263 g f hf
set_option maxRecDepth 20000 in
theorem t_X9_isAlarmed_b4 {E : ET} {fu : Nat} {s' : St} {w' : Int32} (g : GX E "ThinSeriesModel" cX9_isAlarmed 7 3) (f : FX E "isAlarmed" (some .boolean) []) : ∀ (n : Nat) (s : St) (l0 : Nat) (l1 : Int32) (l2 : Int32), f_X9_isAlarmed_b4 fu n s l0 l1 l2 = some (s', w') → V E 7 (QE E (s', .inl (some (vI w')))) s 4 [(0, vR 9 l0), (1, vI l1), (2, vI l2)] [] := by
  intro n
  induction n with
  | zero =>
    intro s l0 l1 l2 hf
    unfold f_X9_isAlarmed_b4 at hf
    exact nomatch hf
  | succ n ih =>
    intro s l0 l1 l2 hf
    unfold f_X9_isAlarmed_b4 at hf
    refine V_iload_n g 2 dX9_isAlarmed_4 rfl ?_
    refine V_aload_n g 0 dX9_isAlarmed_5 rfl ?_
    obtain ⟨z1, hf⟩ := nz_some hf
    refine V_getI g 9 l0 9 rfl (by decide) rfl q_1242 z1 dX9_isAlarmed_6 ?_
    refine V_icmp_ge g 242 dX9_isAlarmed_9 (by decide) (fun c2 => ?_) (fun c2 => ?_)
    · have hf := it_t hf c2
      refine V_aload_n g 0 dX9_isAlarmed_242 rfl ?_
      refine V_getI g 9 l0 9 rfl (by decide) rfl q_1242 z1 dX9_isAlarmed_243 ?_
      refine V_if_le g 262 dX9_isAlarmed_246 (by decide) (fun c3 => ?_) (fun c3 => ?_)
      · have hf := it_t hf c3
        refine V_sub [] [] rfl ?_
        exact t_X9_isAlarmed_b262 g f hf
      · have hf := it_f hf c3
        refine V_aload_n g 0 dX9_isAlarmed_249 rfl ?_
        refine V_getR g 9 l0 64 13 rfl (by decide) rfl rfl q_1297 z1 dX9_isAlarmed_250 ?_
        refine V_iconst (v := 0) g dX9_isAlarmed_253 (by decide) ?_
        obtain ⟨z4, hf⟩ := nz_some hf
        obtain ⟨h5, hf⟩ := ckf hf
        refine V_zald g z4 h5 dX9_isAlarmed_254 ?_
        refine V_if_eq g 262 dX9_isAlarmed_255 (by decide) (fun c6 => ?_) (fun c6 => ?_)
        · have hf := it_t hf c6
          refine V_sub [] [] rfl ?_
          exact t_X9_isAlarmed_b262 g f hf
        · have hf := it_f hf c6
          refine V_iconst (v := 1) g dX9_isAlarmed_258 (by decide) ?_
          refine V_goto g 263 dX9_isAlarmed_259 (by decide) ?_
          refine V_sub [] [] rfl ?_
          exact t_X9_isAlarmed_b263 g f hf
    · have hf := it_f hf c2
      refine V_aload_n g 0 dX9_isAlarmed_12 rfl ?_
      refine V_getR g 9 l0 6 10 rfl (by decide) rfl rfl q_1239 z1 dX9_isAlarmed_13 ?_
      refine V_iload_n g 2 dX9_isAlarmed_16 rfl ?_
      obtain ⟨z7, hf⟩ := nz_some hf
      obtain ⟨h8, hf⟩ := ckf hf
      refine V_iald g z7 h8 dX9_isAlarmed_17 ?_
      obtain ⟨x9, ex9, hf⟩ := lt_some hf
      refine V_istore_n g [(3, vI x9), (0, vR 9 l0), (1, vI l1), (2, vI l2)] dX9_isAlarmed_18 ex9 (by decide) rfl ?_
      refine V_iload_n g 0 dX9_isAlarmed_19 rfl ?_
      refine V_bipush (v := 20) g dX9_isAlarmed_20 (by decide) ?_
      refine V_icmp_ne g 55 dX9_isAlarmed_22 (by decide) (fun c10 => ?_) (fun c10 => ?_)
      · have hf := it_f hf c10
        refine V_iload_n g 0 dX9_isAlarmed_55 rfl ?_
        refine V_bipush (v := 21) g dX9_isAlarmed_56 (by decide) ?_
        refine V_icmp_eq g 67 dX9_isAlarmed_58 (by decide) (fun c11 => ?_) (fun c11 => ?_)
        · have hf := it_t hf c11
          refine V_sub [(0, vR 9 l0), (1, vI l1), (2, vI l2), (3, vI x9)] [1, 2, 3, 0] rfl ?_
          exact t_X9_isAlarmed_b67 g f ih hf
        · have hf := it_f hf c11
          refine V_iload_n g 0 dX9_isAlarmed_61 rfl ?_
          refine V_bipush (v := 22) g dX9_isAlarmed_62 (by decide) ?_
          refine V_icmp_ne g 143 dX9_isAlarmed_64 (by decide) (fun c12 => ?_) (fun c12 => ?_)
          · have hf := it_f hf c12
            refine V_aload_n g 1 dX9_isAlarmed_143 rfl ?_
            refine V_aload_n g 1 dX9_isAlarmed_144 rfl ?_
            refine V_getR g 9 l0 6 10 rfl (by decide) rfl rfl q_1239 z1 dX9_isAlarmed_145 ?_
            refine V_iload_n g 3 dX9_isAlarmed_148 rfl ?_
            refine V_iconst (v := 1) g dX9_isAlarmed_149 (by decide) ?_
            refine V_iadd g dX9_isAlarmed_150 ?_
            obtain ⟨h13, hf⟩ := ckf hf
            refine V_iald g z7 h13 dX9_isAlarmed_151 ?_
            obtain ⟨s14, x15, hc, hf⟩ := bI_some hf
            refine cV1 g [vI (gI s 10 (gR s 9 l0 6) (ix (l2 + 1)))] [] s14 (vJ x15) cf_X9_fieldNow (t_X9_fieldNow g.2.2.2.2.2.2.1 hc) (RC_own g rfl z1) z1 (by decide) q_1813 (Nat.le_of_ble_eq_true rfl) dX9_isAlarmed_152 ?_ rfl
            refine V_lstore g [(4, vJ x15), (3, vI x9), (0, vR 9 l0), (1, vI l1), (2, vI l2)] dX9_isAlarmed_155 rfl (by decide) rfl ?_
            refine V_aload_n g 2 dX9_isAlarmed_157 rfl ?_
            refine V_getR g 9 l0 6 10 rfl (by decide) rfl rfl q_1239 z1 dX9_isAlarmed_158 ?_
            refine V_iload_n g 4 dX9_isAlarmed_161 rfl ?_
            refine V_iconst (v := 2) g dX9_isAlarmed_162 (by decide) ?_
            refine V_iadd g dX9_isAlarmed_163 ?_
            obtain ⟨z16, hf⟩ := nz_some hf
            obtain ⟨h17, hf⟩ := ckf hf
            refine V_iald g z16 h17 dX9_isAlarmed_164 ?_
            obtain ⟨x18, ex18, hf⟩ := lt_some hf
            refine V_istore g [(6, vI x18), (4, vJ x15), (3, vI x9), (0, vR 9 l0), (1, vI l1), (2, vI l2)] dX9_isAlarmed_165 ex18 (by decide) rfl ?_
            refine V_aload_n g 3 dX9_isAlarmed_167 rfl ?_
            refine V_getR g 9 l0 64 13 rfl (by decide) rfl rfl q_1297 z1 dX9_isAlarmed_168 ?_
            refine V_iload_n g 4 dX9_isAlarmed_171 rfl ?_
            refine V_iload_n g 2 dX9_isAlarmed_172 rfl ?_
            refine V_bipush (v := 10) g dX9_isAlarmed_173 (by decide) ?_
            refine V_icmp_ne g 195 dX9_isAlarmed_175 (by decide) (fun c19 => ?_) (fun c19 => ?_)
            · have hf := it_f hf c19
              refine V_iload_n g 2 dX9_isAlarmed_195 rfl ?_
              refine V_bipush (v := 11) g dX9_isAlarmed_196 (by decide) ?_
              refine V_icmp_ne g 218 dX9_isAlarmed_198 (by decide) (fun c20 => ?_) (fun c20 => ?_)
              · have hf := it_f hf c20
                refine V_lload g 1 dX9_isAlarmed_218 rfl ?_
                refine V_iload g 0 dX9_isAlarmed_220 rfl ?_
                refine V_i2l g dX9_isAlarmed_222 ?_
                refine V_lcmp g dX9_isAlarmed_223 ?_
                refine V_if_le g 231 dX9_isAlarmed_224 (by decide) (fun c21 => ?_) (fun c21 => ?_)
                · have hf := it_t hf c21
                  refine V_iconst (v := 0) g dX9_isAlarmed_231 (by decide) ?_
                  refine V_sub [(0, vR 9 l0), (1, vI l1), (2, vI l2)] [3, 4, 5] rfl ?_
                  exact t_X9_isAlarmed_b232 g f ih hf
                · have hf := it_f hf c21
                  refine V_iconst (v := 1) g dX9_isAlarmed_227 (by decide) ?_
                  refine V_goto g 232 dX9_isAlarmed_228 (by decide) ?_
                  refine V_sub [(0, vR 9 l0), (1, vI l1), (2, vI l2)] [3, 4, 5] rfl ?_
                  exact t_X9_isAlarmed_b232 g f ih hf
              · have hf := it_t hf c20
                refine V_lload g 1 dX9_isAlarmed_201 rfl ?_
                refine V_iload g 0 dX9_isAlarmed_203 rfl ?_
                refine V_i2l g dX9_isAlarmed_205 ?_
                refine V_lcmp g dX9_isAlarmed_206 ?_
                refine V_if_ne g 214 dX9_isAlarmed_207 (by decide) (fun c22 => ?_) (fun c22 => ?_)
                · have hf := it_f hf c22
                  refine V_iconst (v := 0) g dX9_isAlarmed_214 (by decide) ?_
                  refine V_goto g 232 dX9_isAlarmed_215 (by decide) ?_
                  refine V_sub [(0, vR 9 l0), (1, vI l1), (2, vI l2)] [3, 4, 5] rfl ?_
                  exact t_X9_isAlarmed_b232 g f ih hf
                · have hf := it_t hf c22
                  refine V_iconst (v := 1) g dX9_isAlarmed_210 (by decide) ?_
                  refine V_goto g 232 dX9_isAlarmed_211 (by decide) ?_
                  refine V_sub [(0, vR 9 l0), (1, vI l1), (2, vI l2)] [3, 4, 5] rfl ?_
                  exact t_X9_isAlarmed_b232 g f ih hf
            · have hf := it_t hf c19
              refine V_lload g 1 dX9_isAlarmed_178 rfl ?_
              refine V_iload g 0 dX9_isAlarmed_180 rfl ?_
              refine V_i2l g dX9_isAlarmed_182 ?_
              refine V_lcmp g dX9_isAlarmed_183 ?_
              refine V_if_ge g 191 dX9_isAlarmed_184 (by decide) (fun c23 => ?_) (fun c23 => ?_)
              · have hf := it_t hf c23
                refine V_iconst (v := 0) g dX9_isAlarmed_191 (by decide) ?_
                refine V_goto g 232 dX9_isAlarmed_192 (by decide) ?_
                refine V_sub [(0, vR 9 l0), (1, vI l1), (2, vI l2)] [3, 4, 5] rfl ?_
                exact t_X9_isAlarmed_b232 g f ih hf
              · have hf := it_f hf c23
                refine V_iconst (v := 1) g dX9_isAlarmed_187 (by decide) ?_
                refine V_goto g 232 dX9_isAlarmed_188 (by decide) ?_
                refine V_sub [(0, vR 9 l0), (1, vI l1), (2, vI l2)] [3, 4, 5] rfl ?_
                exact t_X9_isAlarmed_b232 g f ih hf
          · have hf := it_t hf c12
            refine V_sub [(0, vR 9 l0), (1, vI l1), (2, vI l2), (3, vI x9)] [1, 2, 3, 0] rfl ?_
            exact t_X9_isAlarmed_b67 g f ih hf
      · have hf := it_t hf c10
        refine V_aload_n g 1 dX9_isAlarmed_25 rfl ?_
        refine V_getR g 9 l0 64 13 rfl (by decide) rfl rfl q_1297 z1 dX9_isAlarmed_26 ?_
        refine V_iload_n g 2 dX9_isAlarmed_29 rfl ?_
        refine V_iconst (v := 1) g dX9_isAlarmed_30 (by decide) ?_
        refine V_isub g dX9_isAlarmed_31 ?_
        refine V_aload_n g 1 dX9_isAlarmed_32 rfl ?_
        refine V_getR g 9 l0 64 13 rfl (by decide) rfl rfl q_1297 z1 dX9_isAlarmed_33 ?_
        refine V_iload_n g 2 dX9_isAlarmed_36 rfl ?_
        refine V_iconst (v := 1) g dX9_isAlarmed_37 (by decide) ?_
        refine V_isub g dX9_isAlarmed_38 ?_
        obtain ⟨z24, hf⟩ := nz_some hf
        obtain ⟨h25, hf⟩ := ckf hf
        refine V_zald g z24 h25 dX9_isAlarmed_39 ?_
        refine V_if_ne g 47 dX9_isAlarmed_40 (by decide) (fun c26 => ?_) (fun c26 => ?_)
        · have hf := it_f hf c26
          refine V_iconst (v := 0) g dX9_isAlarmed_47 (by decide) ?_
          refine V_sub [(0, vR 9 l0), (1, vI l1), (2, vI l2)] [1, 2, 3] rfl ?_
          exact t_X9_isAlarmed_b48 g f ih hf
        · have hf := it_t hf c26
          refine V_iconst (v := 1) g dX9_isAlarmed_43 (by decide) ?_
          refine V_goto g 48 dX9_isAlarmed_44 (by decide) ?_
          refine V_sub [(0, vR 9 l0), (1, vI l1), (2, vI l2)] [1, 2, 3] rfl ?_
          exact t_X9_isAlarmed_b48 g f ih hf
set_option maxRecDepth 20000 in
theorem t_X9_isAlarmed {G : GT} {l : Launch} (hl : l.stackTraces = false) {fu : Nat} {s s' : St} {a0 : Nat} {w' : Int32} (hf : f_X9_isAlarmed fu s a0 = some (s', w')) : MetG G l yX9_isAlarmed (.code yX9_isAlarmed cX9_isAlarmed 7 (some .boolean)) 3 s [vR 9 a0] (s', .inl (some (vI w'))) := by
  refine MetG_of hl (by decide +kernel) (Nat.le_of_ble_eq_true rfl) (fun E g f eG eL => ?_)
  subst eG; subst eL
  have g : GX E "ThinSeriesModel" cX9_isAlarmed 7 3 := g
  have f : FX E "isAlarmed" (some .boolean) [] := f
  show V E 7 (QE E (s', .inl (some (vI w')))) s 0 [(0, vR 9 a0)] []
  unfold f_X9_isAlarmed at hf
  refine V_iconst (v := 0) g dX9_isAlarmed_0 (by decide) ?_
  refine V_istore_n g [(1, vI 0), (0, vR 9 a0)] dX9_isAlarmed_1 rfl (by decide) rfl ?_
  refine V_iconst (v := 0) g dX9_isAlarmed_2 (by decide) ?_
  refine V_istore_n g [(2, vI 0), (1, vI 0), (0, vR 9 a0)] dX9_isAlarmed_3 rfl (by decide) rfl ?_
  refine V_sub [(0, vR 9 a0), (1, vI 0), (2, vI 0)] [2, 1, 0] rfl ?_
  exact t_X9_isAlarmed_b4 g f _ s a0 0 0 hf
set_option maxRecDepth 20000 in
theorem t_X9_placeOf_b95 {E : ET} {fu : Nat} {s' : St} {w' : Int32} (g : GX E "ThinSeriesModel" cX9_placeOf 8 0) (f : FX E "placeOf" (some .int) []) {k9 : St → Nat → Int32 → Int64 → Int32 → Int32 → Option (St × Int32)} (hk9 : ∀ (s : St) (l0 : Nat) (l1 : Int32) (l2 : Int64) (l4 : Int32) (l5 : Int32), k9 s l0 l1 l2 l4 l5 = some (s', w') → V E 8 (QE E (s', .inl (some (vI w')))) s 9 [(0, vR 9 l0), (1, vI l1), (2, vJ l2), (4, vI l4), (5, vI l5)] []) {s : St} {l0 : Nat} {l1 : Int32} {l2 : Int64} {l4 : Int32} {t0 : Int32} (hf : f_X9_placeOf_b95 fu k9 s l0 l1 l2 l4 t0 = some (s', w')) : V E 8 (QE E (s', .inl (some (vI w')))) s 95 [(0, vR 9 l0), (1, vI l1), (2, vJ l2), (4, vI l4)] [vI t0] := by
  unfold f_X9_placeOf_b95 at hf
  refine V_istore g [(5, vI t0), (0, vR 9 l0), (1, vI l1), (2, vJ l2), (4, vI l4)] dX9_placeOf_95 rfl (by decide) rfl ?_
  refine V_goto g 9 dX9_placeOf_97 (by decide) ?_
  refine V_sub [(0, vR 9 l0), (1, vI l1), (2, vJ l2), (4, vI l4), (5, vI t0)] [1, 2, 3, 4, 0] rfl ?_
  exact hk9 s l0 l1 l2 l4 t0 hf
set_option maxRecDepth 20000 in
theorem t_X9_placeOf_b81 {E : ET} {fu : Nat} {s' : St} {w' : Int32} (g : GX E "ThinSeriesModel" cX9_placeOf 8 0) (f : FX E "placeOf" (some .int) []) {k9 : St → Nat → Int32 → Int64 → Int32 → Int32 → Option (St × Int32)} (hk9 : ∀ (s : St) (l0 : Nat) (l1 : Int32) (l2 : Int64) (l4 : Int32) (l5 : Int32), k9 s l0 l1 l2 l4 l5 = some (s', w') → V E 8 (QE E (s', .inl (some (vI w')))) s 9 [(0, vR 9 l0), (1, vI l1), (2, vJ l2), (4, vI l4), (5, vI l5)] []) {s : St} {l0 : Nat} {l1 : Int32} {l2 : Int64} {l5 : Int32} {l6 : Int32} {l7 : Int32} {t0 : Int32} (hf : f_X9_placeOf_b81 fu k9 s l0 l1 l2 l5 l6 l7 t0 = some (s', w')) : V E 8 (QE E (s', .inl (some (vI w')))) s 81 [(0, vR 9 l0), (1, vI l1), (2, vJ l2), (5, vI l5), (6, vI l6), (7, vI l7)] [vI t0] := by
  unfold f_X9_placeOf_b81 at hf
  refine V_istore g [(4, vI t0), (0, vR 9 l0), (1, vI l1), (2, vJ l2), (5, vI l5), (6, vI l6), (7, vI l7)] dX9_placeOf_81 rfl (by decide) rfl ?_
  refine V_iload g 6 dX9_placeOf_83 rfl ?_
  refine V_if_eq g 93 dX9_placeOf_85 (by decide) (fun c16 => ?_) (fun c16 => ?_)
  · have hf := it_t hf c16
    refine V_iload g 5 dX9_placeOf_93 rfl ?_
    refine V_sub [(0, vR 9 l0), (1, vI l1), (2, vJ l2), (4, vI t0)] [1, 2, 3, 0] rfl ?_
    exact t_X9_placeOf_b95 g f hk9 hf
  · have hf := it_f hf c16
    refine V_iload g 4 dX9_placeOf_88 rfl ?_
    refine V_goto g 95 dX9_placeOf_90 (by decide) ?_
    refine V_sub [(0, vR 9 l0), (1, vI l1), (2, vJ l2), (4, vI t0)] [1, 2, 3, 0] rfl ?_
    exact t_X9_placeOf_b95 g f hk9 hf
set_option maxRecDepth 20000 in
theorem t_X9_placeOf_b65 {E : ET} {fu : Nat} {s' : St} {w' : Int32} (g : GX E "ThinSeriesModel" cX9_placeOf 8 0) (f : FX E "placeOf" (some .int) []) {k9 : St → Nat → Int32 → Int64 → Int32 → Int32 → Option (St × Int32)} (hk9 : ∀ (s : St) (l0 : Nat) (l1 : Int32) (l2 : Int64) (l4 : Int32) (l5 : Int32), k9 s l0 l1 l2 l4 l5 = some (s', w') → V E 8 (QE E (s', .inl (some (vI w')))) s 9 [(0, vR 9 l0), (1, vI l1), (2, vJ l2), (4, vI l4), (5, vI l5)] []) {s : St} {l0 : Nat} {l1 : Int32} {l2 : Int64} {l4 : Int32} {l5 : Int32} {l6 : Int32} {t0 : Int32} (hf : f_X9_placeOf_b65 fu k9 s l0 l1 l2 l4 l5 l6 t0 = some (s', w')) : V E 8 (QE E (s', .inl (some (vI w')))) s 65 [(0, vR 9 l0), (1, vI l1), (2, vJ l2), (4, vI l4), (5, vI l5), (6, vI l6)] [vI t0] := by
  unfold f_X9_placeOf_b65 at hf
  refine V_istore g [(7, vI t0), (0, vR 9 l0), (1, vI l1), (2, vJ l2), (4, vI l4), (5, vI l5), (6, vI l6)] dX9_placeOf_65 rfl (by decide) rfl ?_
  refine V_iload g 0 dX9_placeOf_67 rfl ?_
  refine V_if_eq g 79 dX9_placeOf_69 (by decide) (fun c15 => ?_) (fun c15 => ?_)
  · have hf := it_t hf c15
    refine V_iload g 4 dX9_placeOf_79 rfl ?_
    refine V_sub [(0, vR 9 l0), (1, vI l1), (2, vJ l2), (5, vI l5), (6, vI l6), (7, vI t0)] [1, 2, 3, 5, 6, 0] rfl ?_
    exact t_X9_placeOf_b81 g f hk9 hf
  · have hf := it_f hf c15
    refine V_iload g 6 dX9_placeOf_72 rfl ?_
    refine V_iconst (v := 1) g dX9_placeOf_74 (by decide) ?_
    refine V_iadd g dX9_placeOf_75 ?_
    refine V_goto g 81 dX9_placeOf_76 (by decide) ?_
    refine V_sub [(0, vR 9 l0), (1, vI l1), (2, vJ l2), (5, vI l5), (6, vI l6), (7, vI t0)] [1, 2, 3, 5, 6, 0] rfl ?_
    exact t_X9_placeOf_b81 g f hk9 hf
set_option maxRecDepth 20000 in
theorem t_X9_placeOf_b60 {E : ET} {fu : Nat} {s' : St} {w' : Int32} (g : GX E "ThinSeriesModel" cX9_placeOf 8 0) (f : FX E "placeOf" (some .int) []) {k9 : St → Nat → Int32 → Int64 → Int32 → Int32 → Option (St × Int32)} (hk9 : ∀ (s : St) (l0 : Nat) (l1 : Int32) (l2 : Int64) (l4 : Int32) (l5 : Int32), k9 s l0 l1 l2 l4 l5 = some (s', w') → V E 8 (QE E (s', .inl (some (vI w')))) s 9 [(0, vR 9 l0), (1, vI l1), (2, vJ l2), (4, vI l4), (5, vI l5)] []) {s : St} {l0 : Nat} {l1 : Int32} {l2 : Int64} {l4 : Int32} {l5 : Int32} {l6 : Int32} (hf : f_X9_placeOf_b60 fu k9 s l0 l1 l2 l4 l5 l6 = some (s', w')) : V E 8 (QE E (s', .inl (some (vI w')))) s 60 [(0, vR 9 l0), (1, vI l1), (2, vJ l2), (4, vI l4), (5, vI l5), (6, vI l6)] [] := by
  unfold f_X9_placeOf_b60 at hf
  refine V_iconst (v := 1) g dX9_placeOf_60 (by decide) ?_
  refine V_goto g 65 dX9_placeOf_61 (by decide) ?_
  exact t_X9_placeOf_b65 g f hk9 hf
set_option maxRecDepth 20000 in
theorem t_X9_placeOf_b64 {E : ET} {fu : Nat} {s' : St} {w' : Int32} (g : GX E "ThinSeriesModel" cX9_placeOf 8 0) (f : FX E "placeOf" (some .int) []) {k9 : St → Nat → Int32 → Int64 → Int32 → Int32 → Option (St × Int32)} (hk9 : ∀ (s : St) (l0 : Nat) (l1 : Int32) (l2 : Int64) (l4 : Int32) (l5 : Int32), k9 s l0 l1 l2 l4 l5 = some (s', w') → V E 8 (QE E (s', .inl (some (vI w')))) s 9 [(0, vR 9 l0), (1, vI l1), (2, vJ l2), (4, vI l4), (5, vI l5)] []) {s : St} {l0 : Nat} {l1 : Int32} {l2 : Int64} {l4 : Int32} {l5 : Int32} {l6 : Int32} (hf : f_X9_placeOf_b64 fu k9 s l0 l1 l2 l4 l5 l6 = some (s', w')) : V E 8 (QE E (s', .inl (some (vI w')))) s 64 [(0, vR 9 l0), (1, vI l1), (2, vJ l2), (4, vI l4), (5, vI l5), (6, vI l6)] [] := by
  unfold f_X9_placeOf_b64 at hf
  refine V_iconst (v := 0) g dX9_placeOf_64 (by decide) ?_
  exact t_X9_placeOf_b65 g f hk9 hf
set_option maxRecDepth 20000 in
theorem t_X9_placeOf_b9 {E : ET} {fu : Nat} {s' : St} {w' : Int32} (g : GX E "ThinSeriesModel" cX9_placeOf 8 0) (f : FX E "placeOf" (some .int) []) : ∀ (n : Nat) (s : St) (l0 : Nat) (l1 : Int32) (l2 : Int64) (l4 : Int32) (l5 : Int32), f_X9_placeOf_b9 fu n s l0 l1 l2 l4 l5 = some (s', w') → V E 8 (QE E (s', .inl (some (vI w')))) s 9 [(0, vR 9 l0), (1, vI l1), (2, vJ l2), (4, vI l4), (5, vI l5)] [] := by
  intro n
  induction n with
  | zero =>
    intro s l0 l1 l2 l4 l5 hf
    unfold f_X9_placeOf_b9 at hf
    exact nomatch hf
  | succ n ih =>
    intro s l0 l1 l2 l4 l5 hf
    unfold f_X9_placeOf_b9 at hf
    refine V_iload g 3 dX9_placeOf_9 rfl ?_
    refine V_iload g 4 dX9_placeOf_11 rfl ?_
    refine V_icmp_ge g 100 dX9_placeOf_13 (by decide) (fun c3 => ?_) (fun c3 => ?_)
    · have hf := it_t hf c3
      refine V_iload g 3 dX9_placeOf_100 rfl ?_
      cases hf
      exact V_ireturn g f dX9_placeOf_102
    · have hf := it_f hf c3
      refine V_iload g 3 dX9_placeOf_16 rfl ?_
      refine V_iload g 4 dX9_placeOf_18 rfl ?_
      refine V_iadd g dX9_placeOf_20 ?_
      refine V_iconst (v := 2) g dX9_placeOf_21 (by decide) ?_
      refine V_idiv g dX9_placeOf_22 (by decide) ?_
      obtain ⟨x5, ex5, hf⟩ := lt_some hf
      refine V_istore g [(6, vI x5), (0, vR 9 l0), (1, vI l1), (2, vJ l2), (4, vI l4), (5, vI l5)] dX9_placeOf_23 ex5 (by decide) rfl ?_
      refine V_aload_n g 1 dX9_placeOf_25 rfl ?_
      obtain ⟨z6, hf⟩ := nz_some hf
      refine V_getR g 9 l0 19 10 rfl (by decide) rfl rfl q_1252 z6 dX9_placeOf_26 ?_
      refine V_iload g 0 dX9_placeOf_29 rfl ?_
      obtain ⟨z7, hf⟩ := nz_some hf
      obtain ⟨h8, hf⟩ := ckf hf
      refine V_iald g z7 h8 dX9_placeOf_31 ?_
      refine V_iload_n g 2 dX9_placeOf_32 rfl ?_
      refine V_icmp_lt g 60 dX9_placeOf_33 (by decide) (fun c9 => ?_) (fun c9 => ?_)
      · have hf := it_t hf c9
        refine V_sub [(0, vR 9 l0), (1, vI l1), (2, vJ l2), (4, vI l4), (5, vI l5), (6, vI x5)] [1, 2, 3, 4, 5, 0] rfl ?_
        exact t_X9_placeOf_b60 g f ih hf
      · have hf := it_f hf c9
        refine V_aload_n g 1 dX9_placeOf_36 rfl ?_
        refine V_getR g 9 l0 19 10 rfl (by decide) rfl rfl q_1252 z6 dX9_placeOf_37 ?_
        refine V_iload g 0 dX9_placeOf_40 rfl ?_
        obtain ⟨h10, hf⟩ := ckf hf
        refine V_iald g z7 h10 dX9_placeOf_42 ?_
        refine V_iload_n g 2 dX9_placeOf_43 rfl ?_
        refine V_icmp_ne g 64 dX9_placeOf_44 (by decide) (fun c11 => ?_) (fun c11 => ?_)
        · have hf := it_f hf c11
          refine V_sub [(0, vR 9 l0), (1, vI l1), (2, vJ l2), (4, vI l4), (5, vI l5), (6, vI x5)] [1, 2, 3, 4, 5, 0] rfl ?_
          exact t_X9_placeOf_b64 g f ih hf
        · have hf := it_t hf c11
          refine V_aload_n g 1 dX9_placeOf_47 rfl ?_
          refine V_getR g 9 l0 20 10 rfl (by decide) rfl rfl q_1253 z6 dX9_placeOf_48 ?_
          refine V_iload g 0 dX9_placeOf_51 rfl ?_
          obtain ⟨z12, hf⟩ := nz_some hf
          obtain ⟨h13, hf⟩ := ckf hf
          refine V_iald g z12 h13 dX9_placeOf_53 ?_
          refine V_i2l g dX9_placeOf_54 ?_
          refine V_lload_n g 3 dX9_placeOf_55 rfl ?_
          refine V_lcmp g dX9_placeOf_56 ?_
          refine V_if_ge g 64 dX9_placeOf_57 (by decide) (fun c14 => ?_) (fun c14 => ?_)
          · have hf := it_t hf c14
            refine V_sub [(0, vR 9 l0), (1, vI l1), (2, vJ l2), (4, vI l4), (5, vI l5), (6, vI x5)] [1, 2, 3, 4, 5, 0] rfl ?_
            exact t_X9_placeOf_b64 g f ih hf
          · have hf := it_f hf c14
            refine V_sub [(0, vR 9 l0), (1, vI l1), (2, vJ l2), (4, vI l4), (5, vI l5), (6, vI x5)] [1, 2, 3, 4, 5, 0] rfl ?_
            exact t_X9_placeOf_b60 g f ih hf
set_option maxRecDepth 20000 in
theorem t_X9_placeOf {G : GT} {l : Launch} (hl : l.stackTraces = false) {fu : Nat} {s s' : St} {a0 : Nat} {a1 : Int32} {a2 : Int64} {w' : Int32} (hf : f_X9_placeOf fu s a0 a1 a2 = some (s', w')) : MetG G l yX9_placeOf (.code yX9_placeOf cX9_placeOf 8 (some .int)) 0 s [vR 9 a0, vI a1, vJ a2] (s', .inl (some (vI w'))) := by
  refine MetG_of hl (by decide +kernel) (Nat.le_of_ble_eq_true rfl) (fun E g f eG eL => ?_)
  subst eG; subst eL
  have g : GX E "ThinSeriesModel" cX9_placeOf 8 0 := g
  have f : FX E "placeOf" (some .int) [] := f
  show V E 8 (QE E (s', .inl (some (vI w')))) s 0 [(0, vR 9 a0), (1, vI a1), (2, vJ a2)] []
  unfold f_X9_placeOf at hf
  refine V_iconst (v := 0) g dX9_placeOf_0 (by decide) ?_
  refine V_istore g [(4, vI 0), (0, vR 9 a0), (1, vI a1), (2, vJ a2)] dX9_placeOf_1 rfl (by decide) rfl ?_
  refine V_aload_n g 1 dX9_placeOf_3 rfl ?_
  obtain ⟨z1, hf⟩ := nz_some hf
  refine V_getI g 9 a0 22 rfl (by decide) rfl q_1255 z1 dX9_placeOf_4 ?_
  obtain ⟨x2, ex2, hf⟩ := lt_some hf
  refine V_istore g [(5, vI x2), (4, vI 0), (0, vR 9 a0), (1, vI a1), (2, vJ a2)] dX9_placeOf_7 ex2 (by decide) rfl ?_
  refine V_sub [(0, vR 9 a0), (1, vI a1), (2, vJ a2), (4, vI 0), (5, vI x2)] [2, 3, 4, 1, 0] rfl ?_
  exact t_X9_placeOf_b9 g f _ s a0 a1 a2 0 x2 hf
set_option maxRecDepth 20000 in
theorem t_X9_tierFrom {G : GT} {l : Launch} (hl : l.stackTraces = false) {fu : Nat} {s s' : St} {a0 : Nat} {a1 : Int32} {a2 : Int32} {w' : Int32} (hf : f_X9_tierFrom fu s a0 a1 a2 = some (s', w')) : MetG G l yX9_tierFrom (.code yX9_tierFrom cX9_tierFrom 3 (some .int)) 3 s [vR 9 a0, vI a1, vI a2] (s', .inl (some (vI w'))) := by
  refine MetG_of hl (by decide +kernel) (Nat.le_of_ble_eq_true rfl) (fun E g f eG eL => ?_)
  subst eG; subst eL
  have g : GX E "ThinSeriesModel" cX9_tierFrom 3 3 := g
  have f : FX E "tierFrom" (some .int) [] := f
  show V E 3 (QE E (s', .inl (some (vI w')))) s 0 [(0, vR 9 a0), (1, vI a1), (2, vI a2)] []
  unfold f_X9_tierFrom at hf
  refine V_aload_n g 0 dX9_tierFrom_0 rfl ?_
  refine V_iload_n g 1 dX9_tierFrom_1 rfl ?_
  refine V_aload_n g 0 dX9_tierFrom_2 rfl ?_
  refine V_aload_n g 0 dX9_tierFrom_3 rfl ?_
  obtain ⟨z1, hf⟩ := nz_some hf
  refine V_getR g 9 a0 11 10 rfl (by decide) rfl rfl q_1244 z1 dX9_tierFrom_4 ?_
  refine V_iload_n g 1 dX9_tierFrom_7 rfl ?_
  obtain ⟨z2, hf⟩ := nz_some hf
  obtain ⟨h3, hf⟩ := ckf hf
  refine V_iald g z2 h3 dX9_tierFrom_8 ?_
  refine V_iload_n g 2 dX9_tierFrom_9 rfl ?_
  obtain ⟨s4, x5, hc, hf⟩ := bI_some hf
  refine cV1 g [vI (gI s 10 (gR s 9 a0 11) (ix a1)), vI a2] [vI a1, vR 9 a0] s4 (vI x5) cf_X9_seamBy (t_X9_seamBy g.2.2.2.2.2.2.1 hc) (RC_own g rfl z1) z1 (by decide) q_1593 (Nat.le_of_ble_eq_true rfl) dX9_tierFrom_10 ?_ rfl
  refine V_i2l g dX9_tierFrom_13 ?_
  obtain ⟨s6, x7, hc, hf⟩ := bI_some hf
  refine cV1 g [vI a1, vJ (Int32.toInt64 x5)] [] s6 (vI x7) cf_X9_placeOf (t_X9_placeOf g.2.2.2.2.2.2.1 hc) (RC_own g rfl z1) z1 (by decide) q_1632 (Nat.le_of_ble_eq_true rfl) dX9_tierFrom_14 ?_ rfl
  cases hf
  exact V_ireturn g f dX9_tierFrom_17
set_option maxRecDepth 20000 in
theorem t_X9_behindOf {G : GT} {l : Launch} (hl : l.stackTraces = false) {fu : Nat} {s s' : St} {a0 : Nat} {a1 : Int32} {w' : Int32} (hf : f_X9_behindOf fu s a0 a1 = some (s', w')) : MetG G l yX9_behindOf (.code yX9_behindOf cX9_behindOf 2 (some .int)) 1 s [vR 9 a0, vI a1] (s', .inl (some (vI w'))) := by
  refine MetG_of hl (by decide +kernel) (Nat.le_of_ble_eq_true rfl) (fun E g f eG eL => ?_)
  subst eG; subst eL
  have g : GX E "ThinSeriesModel" cX9_behindOf 2 1 := g
  have f : FX E "behindOf" (some .int) [] := f
  show V E 2 (QE E (s', .inl (some (vI w')))) s 0 [(0, vR 9 a0), (1, vI a1)] []
  unfold f_X9_behindOf at hf
  refine V_aload_n g 0 dX9_behindOf_0 rfl ?_
  refine V_iload_n g 1 dX9_behindOf_1 rfl ?_
  refine V_ldc2 (v := 200000000) g q_1640 dX9_behindOf_2 ?_
  obtain ⟨z1, hf⟩ := nz_some hf
  obtain ⟨s2, x3, hc, hf⟩ := bI_some hf
  refine cV1 g [vI a1, vJ 200000000] [] s2 (vI x3) cf_X9_placeOf (t_X9_placeOf g.2.2.2.2.2.2.1 hc) (RC_own g rfl z1) z1 (by decide) q_1632 (Nat.le_of_ble_eq_true rfl) dX9_behindOf_5 ?_ rfl
  cases hf
  exact V_ireturn g f dX9_behindOf_8
set_option maxRecDepth 20000 in
theorem t_X9_tierTo_b31 {E : ET} {fu : Nat} {s' : St} {w' : Int32} (g : GX E "ThinSeriesModel" cX9_tierTo 3 3) (f : FX E "tierTo" (some .int) []) {s : St} {t0 : Int32} (hf : f_X9_tierTo_b31 fu s t0 = some (s', w')) : V E 3 (QE E (s', .inl (some (vI w')))) s 31 [] [vI t0] := by
  unfold f_X9_tierTo_b31 at hf
  cases hf
  exact V_ireturn g f dX9_tierTo_31
set_option maxRecDepth 20000 in
theorem t_X9_tierTo {G : GT} {l : Launch} (hl : l.stackTraces = false) {fu : Nat} {s s' : St} {a0 : Nat} {a1 : Int32} {a2 : Int32} {w' : Int32} (hf : f_X9_tierTo fu s a0 a1 a2 = some (s', w')) : MetG G l yX9_tierTo (.code yX9_tierTo cX9_tierTo 3 (some .int)) 3 s [vR 9 a0, vI a1, vI a2] (s', .inl (some (vI w'))) := by
  refine MetG_of hl (by decide +kernel) (Nat.le_of_ble_eq_true rfl) (fun E g f eG eL => ?_)
  subst eG; subst eL
  have g : GX E "ThinSeriesModel" cX9_tierTo 3 3 := g
  have f : FX E "tierTo" (some .int) [] := f
  show V E 3 (QE E (s', .inl (some (vI w')))) s 0 [(0, vR 9 a0), (1, vI a1), (2, vI a2)] []
  unfold f_X9_tierTo at hf
  refine V_iload_n g 2 dX9_tierTo_0 rfl ?_
  refine V_if_ne g 12 dX9_tierTo_1 (by decide) (fun c1 => ?_) (fun c1 => ?_)
  · have hf := it_f hf c1
    refine V_aload_n g 0 dX9_tierTo_12 rfl ?_
    refine V_iload_n g 1 dX9_tierTo_13 rfl ?_
    refine V_aload_n g 0 dX9_tierTo_14 rfl ?_
    refine V_aload_n g 0 dX9_tierTo_15 rfl ?_
    obtain ⟨z2, hf⟩ := nz_some hf
    refine V_getR g 9 a0 11 10 rfl (by decide) rfl rfl q_1244 z2 dX9_tierTo_16 ?_
    refine V_iload_n g 1 dX9_tierTo_19 rfl ?_
    obtain ⟨z3, hf⟩ := nz_some hf
    obtain ⟨h4, hf⟩ := ckf hf
    refine V_iald g z3 h4 dX9_tierTo_20 ?_
    refine V_iload_n g 2 dX9_tierTo_21 rfl ?_
    refine V_iconst (v := 1) g dX9_tierTo_22 (by decide) ?_
    refine V_isub g dX9_tierTo_23 ?_
    obtain ⟨s5, x6, hc, hf⟩ := bI_some hf
    refine cV1 g [vI (gI s 10 (gR s 9 a0 11) (ix a1)), vI (a2 - 1)] [vI a1, vR 9 a0] s5 (vI x6) cf_X9_seamBy (t_X9_seamBy g.2.2.2.2.2.2.1 hc) (RC_own g rfl z2) z2 (by decide) q_1593 (Nat.le_of_ble_eq_true rfl) dX9_tierTo_24 ?_ rfl
    refine V_i2l g dX9_tierTo_27 ?_
    obtain ⟨s7, x8, hc, hf⟩ := bI_some hf
    refine cV1 g [vI a1, vJ (Int32.toInt64 x6)] [] s7 (vI x8) cf_X9_placeOf (t_X9_placeOf g.2.2.2.2.2.2.1 hc) (RC_own g rfl z2) z2 (by decide) q_1632 (Nat.le_of_ble_eq_true rfl) dX9_tierTo_28 ?_ rfl
    refine V_sub [] [] rfl ?_
    exact t_X9_tierTo_b31 g f hf
  · have hf := it_t hf c1
    refine V_aload_n g 0 dX9_tierTo_4 rfl ?_
    refine V_iload_n g 1 dX9_tierTo_5 rfl ?_
    obtain ⟨z9, hf⟩ := nz_some hf
    obtain ⟨s10, x11, hc, hf⟩ := bI_some hf
    refine cV1 g [vI a1] [] s10 (vI x11) cf_X9_behindOf (t_X9_behindOf g.2.2.2.2.2.2.1 hc) (RC_own g rfl z9) z9 (by decide) q_1636 (Nat.le_of_ble_eq_true rfl) dX9_tierTo_6 ?_ rfl
    refine V_goto g 31 dX9_tierTo_9 (by decide) ?_
    refine V_sub [] [] rfl ?_
    exact t_X9_tierTo_b31 g f hf
set_option maxRecDepth 20000 in
theorem t_X9_tellAlarms_b151 {E : ET} {fu : Nat} {s' : St} (g : GX E "ThinSeriesModel" cX9_tellAlarms 8 5) (f : FX E "tellAlarms" none []) {k31 : St → Nat → Int32 → Int32 → Option (St)} (hk31 : ∀ (s : St) (l0 : Nat) (l1 : Int32) (l2 : Int32), k31 s l0 l1 l2 = some s' → V E 8 (QE E (s', .inl none)) s 31 [(0, vR 9 l0), (1, vI l1), (2, vI l2)] []) {k58 : St → Nat → Int32 → Int32 → Int32 → Int32 → Int32 → Int32 → Option (St)} (hk58 : ∀ (s : St) (l0 : Nat) (l1 : Int32) (l2 : Int32) (l3 : Int32) (l4 : Int32) (l5 : Int32) (l6 : Int32), k58 s l0 l1 l2 l3 l4 l5 l6 = some s' → V E 8 (QE E (s', .inl none)) s 58 [(0, vR 9 l0), (1, vI l1), (2, vI l2), (3, vI l3), (4, vI l4), (5, vI l5), (6, vI l6)] []) {s : St} {l0 : Nat} {l1 : Int32} {l2 : Int32} {l3 : Int32} {l4 : Int32} {l5 : Int32} {l6 : Int32} {t0 : Int32} {t1 : Nat} (hf : f_X9_tellAlarms_b151 fu k31 k58 s l0 l1 l2 l3 l4 l5 l6 t0 t1 = some s') : V E 8 (QE E (s', .inl none)) s 151 [(0, vR 9 l0), (1, vI l1), (2, vI l2), (3, vI l3), (4, vI l4), (5, vI l5), (6, vI l6)] [vI t0, vR 9 t1] := by
  unfold f_X9_tellAlarms_b151 at hf
  obtain ⟨z29, hf⟩ := nz_some hf
  obtain ⟨s30, es30, hf⟩ := lt_some hf
  refine V_putI g 9 t1 66 es30 rfl (by decide) rfl q_1299 z29 (Or.inl rfl) pf_9_66 dX9_tellAlarms_151 ?_
  refine V_aload_n g 0 dX9_tellAlarms_154 rfl ?_
  refine V_dup g dX9_tellAlarms_155 rfl ?_
  obtain ⟨z31, hf⟩ := nz_some hf
  refine V_getI g 9 l0 65 rfl (by decide) rfl q_1298 z31 dX9_tellAlarms_156 ?_
  refine V_iconst (v := 1) g dX9_tellAlarms_159 (by decide) ?_
  refine V_iadd g dX9_tellAlarms_160 ?_
  obtain ⟨s32, es32, hf⟩ := lt_some hf
  refine V_putI g 9 l0 65 es32 rfl (by decide) rfl q_1298 z31 (Or.inl rfl) pf_9_65 dX9_tellAlarms_161 ?_
  refine V_iload g 4 dX9_tellAlarms_164 rfl ?_
  refine V_aload_n g 0 dX9_tellAlarms_166 rfl ?_
  refine V_getI g 9 l0 67 rfl (by decide) rfl q_1300 z31 dX9_tellAlarms_167 ?_
  refine V_icmp_gt g 176 dX9_tellAlarms_170 (by decide) (fun c33 => ?_) (fun c33 => ?_)
  · have hf := it_t hf c33
    refine V_aload_n g 0 dX9_tellAlarms_176 rfl ?_
    refine V_iload g 4 dX9_tellAlarms_177 rfl ?_
    obtain ⟨s34, es34, hf⟩ := lt_some hf
    refine V_putI g 9 l0 67 es34 rfl (by decide) rfl q_1300 z31 (Or.inl rfl) pf_9_67 dX9_tellAlarms_179 ?_
    refine V_aload_n g 0 dX9_tellAlarms_182 rfl ?_
    refine V_iload g 5 dX9_tellAlarms_183 rfl ?_
    refine V_iload g 4 dX9_tellAlarms_185 rfl ?_
    refine V_aload_n g 0 dX9_tellAlarms_187 rfl ?_
    refine V_getR g 9 l0 4 10 rfl (by decide) rfl rfl q_1237 z31 dX9_tellAlarms_188 ?_
    refine V_iload_n g 2 dX9_tellAlarms_191 rfl ?_
    obtain ⟨z35, hf⟩ := nz_some hf
    obtain ⟨h36, hf⟩ := ckf hf
    refine V_iald g z35 h36 dX9_tellAlarms_192 ?_
    refine V_imul g dX9_tellAlarms_193 ?_
    refine V_isub g dX9_tellAlarms_194 ?_
    obtain ⟨s37, es37, hf⟩ := lt_some hf
    refine V_putI g 9 l0 68 es37 rfl (by decide) rfl q_1301 z31 (Or.inl rfl) pf_9_68 dX9_tellAlarms_195 ?_
    refine V_goto g 58 dX9_tellAlarms_198 (by decide) ?_
    exact hk58 s37 l0 l1 l2 l3 l4 l5 l6 hf
  · have hf := it_f hf c33
    refine V_goto g 58 dX9_tellAlarms_173 (by decide) ?_
    exact hk58 s32 l0 l1 l2 l3 l4 l5 l6 hf
set_option maxRecDepth 20000 in
theorem t_X9_tellAlarms_b109 {E : ET} {fu : Nat} {s' : St} (g : GX E "ThinSeriesModel" cX9_tellAlarms 8 5) (f : FX E "tellAlarms" none []) {k31 : St → Nat → Int32 → Int32 → Option (St)} (hk31 : ∀ (s : St) (l0 : Nat) (l1 : Int32) (l2 : Int32), k31 s l0 l1 l2 = some s' → V E 8 (QE E (s', .inl none)) s 31 [(0, vR 9 l0), (1, vI l1), (2, vI l2)] []) {k58 : St → Nat → Int32 → Int32 → Int32 → Int32 → Int32 → Int32 → Option (St)} (hk58 : ∀ (s : St) (l0 : Nat) (l1 : Int32) (l2 : Int32) (l3 : Int32) (l4 : Int32) (l5 : Int32) (l6 : Int32), k58 s l0 l1 l2 l3 l4 l5 l6 = some s' → V E 8 (QE E (s', .inl none)) s 58 [(0, vR 9 l0), (1, vI l1), (2, vI l2), (3, vI l3), (4, vI l4), (5, vI l5), (6, vI l6)] []) {s : St} {l0 : Nat} {l1 : Int32} {l2 : Int32} {l3 : Int32} {l6 : Int32} {l7 : Int32} {t0 : Int32} (hf : f_X9_tellAlarms_b109 fu k31 k58 s l0 l1 l2 l3 l6 l7 t0 = some s') : V E 8 (QE E (s', .inl none)) s 109 [(0, vR 9 l0), (1, vI l1), (2, vI l2), (3, vI l3), (6, vI l6), (7, vI l7)] [vI t0] := by
  unfold f_X9_tellAlarms_b109 at hf
  refine V_istore g [(4, vI t0), (0, vR 9 l0), (1, vI l1), (2, vI l2), (3, vI l3), (6, vI l6), (7, vI l7)] dX9_tellAlarms_109 rfl (by decide) rfl ?_
  refine V_aload_n g 1 dX9_tellAlarms_111 rfl ?_
  obtain ⟨z23, hf⟩ := nz_some hf
  refine V_getI g 9 l0 52 rfl (by decide) rfl q_1285 z23 dX9_tellAlarms_112 ?_
  refine V_aload_n g 1 dX9_tellAlarms_115 rfl ?_
  refine V_getR g 9 l0 4 10 rfl (by decide) rfl rfl q_1237 z23 dX9_tellAlarms_116 ?_
  refine V_iload_n g 3 dX9_tellAlarms_119 rfl ?_
  obtain ⟨z24, hf⟩ := nz_some hf
  obtain ⟨h25, hf⟩ := ckf hf
  refine V_iald g z24 h25 dX9_tellAlarms_120 ?_
  refine V_iadd g dX9_tellAlarms_121 ?_
  obtain ⟨x26, ex26, hf⟩ := lt_some hf
  refine V_istore g [(5, vI x26), (4, vI t0), (0, vR 9 l0), (1, vI l1), (2, vI l2), (3, vI l3), (6, vI l6), (7, vI l7)] dX9_tellAlarms_122 ex26 (by decide) rfl ?_
  refine V_iload g 7 dX9_tellAlarms_124 rfl ?_
  refine V_if_ne g 132 dX9_tellAlarms_126 (by decide) (fun c27 => ?_) (fun c27 => ?_)
  · have hf := it_f hf c27
    refine V_aload_n g 2 dX9_tellAlarms_132 rfl ?_
    refine V_aload_n g 2 dX9_tellAlarms_133 rfl ?_
    refine V_getI g 9 l0 65 rfl (by decide) rfl q_1298 z23 dX9_tellAlarms_134 ?_
    refine V_if_ne g 147 dX9_tellAlarms_137 (by decide) (fun c28 => ?_) (fun c28 => ?_)
    · have hf := it_f hf c28
      refine V_aload_n g 2 dX9_tellAlarms_147 rfl ?_
      refine V_getI g 9 l0 66 rfl (by decide) rfl q_1299 z23 dX9_tellAlarms_148 ?_
      refine V_sub [(0, vR 9 l0), (1, vI l1), (2, vI l2), (3, vI l3), (4, vI t0), (5, vI x26), (6, vI l6)] [2, 3, 4, 5, 1, 0, 6] rfl ?_
      exact t_X9_tellAlarms_b151 g f hk31 hk58 hf
    · have hf := it_t hf c28
      refine V_aload_n g 2 dX9_tellAlarms_140 rfl ?_
      refine V_getI g 9 l0 52 rfl (by decide) rfl q_1285 z23 dX9_tellAlarms_141 ?_
      refine V_goto g 151 dX9_tellAlarms_144 (by decide) ?_
      refine V_sub [(0, vR 9 l0), (1, vI l1), (2, vI l2), (3, vI l3), (4, vI t0), (5, vI x26), (6, vI l6)] [2, 3, 4, 5, 1, 0, 6] rfl ?_
      exact t_X9_tellAlarms_b151 g f hk31 hk58 hf
  · have hf := it_t hf c27
    refine V_goto g 58 dX9_tellAlarms_129 (by decide) ?_
    refine V_sub [(0, vR 9 l0), (1, vI l1), (2, vI l2), (3, vI l3), (4, vI t0), (5, vI x26), (6, vI l6)] [2, 3, 4, 5, 1, 0, 6] rfl ?_
    exact hk58 s l0 l1 l2 l3 t0 x26 l6 hf
set_option maxRecDepth 20000 in
theorem t_X9_tellAlarms_b108 {E : ET} {fu : Nat} {s' : St} (g : GX E "ThinSeriesModel" cX9_tellAlarms 8 5) (f : FX E "tellAlarms" none []) {k31 : St → Nat → Int32 → Int32 → Option (St)} (hk31 : ∀ (s : St) (l0 : Nat) (l1 : Int32) (l2 : Int32), k31 s l0 l1 l2 = some s' → V E 8 (QE E (s', .inl none)) s 31 [(0, vR 9 l0), (1, vI l1), (2, vI l2)] []) {k58 : St → Nat → Int32 → Int32 → Int32 → Int32 → Int32 → Int32 → Option (St)} (hk58 : ∀ (s : St) (l0 : Nat) (l1 : Int32) (l2 : Int32) (l3 : Int32) (l4 : Int32) (l5 : Int32) (l6 : Int32), k58 s l0 l1 l2 l3 l4 l5 l6 = some s' → V E 8 (QE E (s', .inl none)) s 58 [(0, vR 9 l0), (1, vI l1), (2, vI l2), (3, vI l3), (4, vI l4), (5, vI l5), (6, vI l6)] []) {s : St} {l0 : Nat} {l1 : Int32} {l2 : Int32} {l3 : Int32} {l6 : Int32} {l7 : Int32} (hf : f_X9_tellAlarms_b108 fu k31 k58 s l0 l1 l2 l3 l6 l7 = some s') : V E 8 (QE E (s', .inl none)) s 108 [(0, vR 9 l0), (1, vI l1), (2, vI l2), (3, vI l3), (6, vI l6), (7, vI l7)] [] := by
  unfold f_X9_tellAlarms_b108 at hf
  refine V_iconst (v := 1) g dX9_tellAlarms_108 (by decide) ?_
  exact t_X9_tellAlarms_b109 g f hk31 hk58 hf
set_option maxRecDepth 20000 in
theorem t_X9_tellAlarms_b58 {E : ET} {fu : Nat} {s' : St} (g : GX E "ThinSeriesModel" cX9_tellAlarms 8 5) (f : FX E "tellAlarms" none []) {k31 : St → Nat → Int32 → Int32 → Option (St)} (hk31 : ∀ (s : St) (l0 : Nat) (l1 : Int32) (l2 : Int32), k31 s l0 l1 l2 = some s' → V E 8 (QE E (s', .inl none)) s 31 [(0, vR 9 l0), (1, vI l1), (2, vI l2)] []) : ∀ (n : Nat) (s : St) (l0 : Nat) (l1 : Int32) (l2 : Int32) (l3 : Int32) (l4 : Int32) (l5 : Int32) (l6 : Int32), f_X9_tellAlarms_b58 fu k31 n s l0 l1 l2 l3 l4 l5 l6 = some s' → V E 8 (QE E (s', .inl none)) s 58 [(0, vR 9 l0), (1, vI l1), (2, vI l2), (3, vI l3), (4, vI l4), (5, vI l5), (6, vI l6)] [] := by
  intro n
  induction n with
  | zero =>
    intro s l0 l1 l2 l3 l4 l5 l6 hf
    unfold f_X9_tellAlarms_b58 at hf
    exact nomatch hf
  | succ n ih =>
    intro s l0 l1 l2 l3 l4 l5 l6 hf
    unfold f_X9_tellAlarms_b58 at hf
    refine V_iload g 6 dX9_tellAlarms_58 rfl ?_
    refine V_iload_n g 3 dX9_tellAlarms_60 rfl ?_
    refine V_icmp_ge g 201 dX9_tellAlarms_61 (by decide) (fun c13 => ?_) (fun c13 => ?_)
    · have hf := it_t hf c13
      obtain ⟨x14, ex14, hf⟩ := lt_some hf
      refine V_iinc g 2 [(2, vI x14), (0, vR 9 l0), (1, vI l1), (3, vI l3), (4, vI l4), (5, vI l5), (6, vI l6)] dX9_tellAlarms_201 rfl (by rw [ex14]; rfl) (by decide) rfl ?_
      refine V_goto g 31 dX9_tellAlarms_204 (by decide) ?_
      refine V_sub [(0, vR 9 l0), (1, vI l1), (2, vI x14)] [1, 2, 0] rfl ?_
      exact hk31 s l0 l1 x14 hf
    · have hf := it_f hf c13
      refine V_aload_n g 0 dX9_tellAlarms_64 rfl ?_
      refine V_iload g 6 dX9_tellAlarms_65 rfl ?_
      obtain ⟨z15, hf⟩ := nz_some hf
      obtain ⟨s16, x17, hc, hf⟩ := bI_some hf
      refine cV1 g [vI l6] [] s16 (vI x17) cf_X9_bucketFrom (t_X9_bucketFrom g.2.2.2.2.2.2.1 hc) (RC_own g rfl z15) z15 (by decide) q_1665 (Nat.le_of_ble_eq_true rfl) dX9_tellAlarms_67 ?_ rfl
      refine V_istore g [(6, vI x17), (0, vR 9 l0), (1, vI l1), (2, vI l2), (3, vI l3), (4, vI l4), (5, vI l5)] dX9_tellAlarms_70 rfl (by decide) rfl ?_
      refine V_aload_n g 1 dX9_tellAlarms_72 rfl ?_
      obtain ⟨s18, x19, hc, hf⟩ := bI_some hf
      refine cV1 g [] [] s18 (vI x19) cf_X9_isAlarmed (t_X9_isAlarmed g.2.2.2.2.2.2.1 hc) (RC_own g rfl z15) z15 (by decide) q_1809 (Nat.le_of_ble_eq_true rfl) dX9_tellAlarms_73 ?_ rfl
      refine V_istore g [(7, vI x19), (6, vI x17), (0, vR 9 l0), (1, vI l1), (2, vI l2), (3, vI l3), (4, vI l4), (5, vI l5)] dX9_tellAlarms_76 rfl (by decide) rfl ?_
      refine V_iload g 0 dX9_tellAlarms_78 rfl ?_
      refine V_if_ne g 87 dX9_tellAlarms_80 (by decide) (fun c20 => ?_) (fun c20 => ?_)
      · have hf := it_f hf c20
        refine V_iload g 6 dX9_tellAlarms_87 rfl ?_
        refine V_if_le g 108 dX9_tellAlarms_89 (by decide) (fun c21 => ?_) (fun c21 => ?_)
        · have hf := it_t hf c21
          refine V_sub [(0, vR 9 l0), (1, vI l1), (2, vI l2), (3, vI l3), (6, vI x17), (7, vI x19)] [2, 3, 4, 5, 1, 0] rfl ?_
          exact t_X9_tellAlarms_b108 g f hk31 ih hf
        · have hf := it_f hf c21
          refine V_aload_n g 2 dX9_tellAlarms_92 rfl ?_
          refine V_getI g 9 l0 52 rfl (by decide) rfl q_1285 z15 dX9_tellAlarms_93 ?_
          refine V_iload g 7 dX9_tellAlarms_96 rfl ?_
          refine V_icmp_ne g 108 dX9_tellAlarms_98 (by decide) (fun c22 => ?_) (fun c22 => ?_)
          · have hf := it_f hf c22
            refine V_sub [(0, vR 9 l0), (1, vI l1), (2, vI l2), (3, vI l3), (6, vI x17), (7, vI x19)] [2, 3, 4, 5, 1, 0] rfl ?_
            exact t_X9_tellAlarms_b108 g f hk31 ih hf
          · have hf := it_t hf c22
            refine V_iload g 6 dX9_tellAlarms_101 rfl ?_
            refine V_iconst (v := 1) g dX9_tellAlarms_103 (by decide) ?_
            refine V_iadd g dX9_tellAlarms_104 ?_
            refine V_goto g 109 dX9_tellAlarms_105 (by decide) ?_
            refine V_sub [(0, vR 9 l0), (1, vI l1), (2, vI l2), (3, vI l3), (6, vI x17), (7, vI x19)] [2, 3, 4, 5, 1, 0] rfl ?_
            exact t_X9_tellAlarms_b109 g f hk31 ih hf
      · have hf := it_t hf c20
        refine V_iconst (v := 0) g dX9_tellAlarms_83 (by decide) ?_
        refine V_goto g 109 dX9_tellAlarms_84 (by decide) ?_
        refine V_sub [(0, vR 9 l0), (1, vI l1), (2, vI l2), (3, vI l3), (6, vI x17), (7, vI x19)] [2, 3, 4, 5, 1, 0] rfl ?_
        exact t_X9_tellAlarms_b109 g f hk31 ih hf
set_option maxRecDepth 20000 in
theorem t_X9_tellAlarms_b31 {E : ET} {fu : Nat} {s' : St} (g : GX E "ThinSeriesModel" cX9_tellAlarms 8 5) (f : FX E "tellAlarms" none []) : ∀ (n : Nat) (s : St) (l0 : Nat) (l1 : Int32) (l2 : Int32), f_X9_tellAlarms_b31 fu n s l0 l1 l2 = some s' → V E 8 (QE E (s', .inl none)) s 31 [(0, vR 9 l0), (1, vI l1), (2, vI l2)] [] := by
  intro n
  induction n with
  | zero =>
    intro s l0 l1 l2 hf
    unfold f_X9_tellAlarms_b31 at hf
    exact nomatch hf
  | succ n ih =>
    intro s l0 l1 l2 hf
    unfold f_X9_tellAlarms_b31 at hf
    refine V_iload_n g 2 dX9_tellAlarms_31 rfl ?_
    refine V_if_lt g 207 dX9_tellAlarms_32 (by decide) (fun c7 => ?_) (fun c7 => ?_)
    · have hf := it_t hf c7
      cases hf
      exact V_return g f dX9_tellAlarms_207
    · have hf := it_f hf c7
      refine V_aload_n g 0 dX9_tellAlarms_35 rfl ?_
      refine V_iload_n g 1 dX9_tellAlarms_36 rfl ?_
      refine V_iload_n g 2 dX9_tellAlarms_37 rfl ?_
      obtain ⟨z8, hf⟩ := nz_some hf
      obtain ⟨s9, x10, hc, hf⟩ := bI_some hf
      refine cV1 g [vI l1, vI l2] [] s9 (vI x10) cf_X9_tierTo (t_X9_tierTo g.2.2.2.2.2.2.1 hc) (RC_own g rfl z8) z8 (by decide) q_1754 (Nat.le_of_ble_eq_true rfl) dX9_tellAlarms_38 ?_ rfl
      refine V_istore_n g [(3, vI x10), (0, vR 9 l0), (1, vI l1), (2, vI l2)] dX9_tellAlarms_41 rfl (by decide) rfl ?_
      refine V_iconst (v := 0) g dX9_tellAlarms_42 (by decide) ?_
      refine V_istore g [(4, vI 0), (3, vI x10), (0, vR 9 l0), (1, vI l1), (2, vI l2)] dX9_tellAlarms_43 rfl (by decide) rfl ?_
      refine V_sipush (v := (-20000)) g dX9_tellAlarms_45 (by decide) ?_
      refine V_istore g [(5, vI ((-20000))), (4, vI 0), (3, vI x10), (0, vR 9 l0), (1, vI l1), (2, vI l2)] dX9_tellAlarms_48 rfl (by decide) rfl ?_
      refine V_aload_n g 3 dX9_tellAlarms_50 rfl ?_
      refine V_iload_n g 4 dX9_tellAlarms_51 rfl ?_
      refine V_iload_n g 5 dX9_tellAlarms_52 rfl ?_
      obtain ⟨s11, x12, hc, hf⟩ := bI_some hf
      refine cV1 g [vI l1, vI l2] [] s11 (vI x12) cf_X9_tierFrom (t_X9_tierFrom g.2.2.2.2.2.2.1 hc) (RC_own g rfl z8) z8 (by decide) q_1758 (Nat.le_of_ble_eq_true rfl) dX9_tellAlarms_53 ?_ rfl
      refine V_istore g [(6, vI x12), (5, vI ((-20000))), (4, vI 0), (3, vI x10), (0, vR 9 l0), (1, vI l1), (2, vI l2)] dX9_tellAlarms_56 rfl (by decide) rfl ?_
      refine V_sub [(0, vR 9 l0), (1, vI l1), (2, vI l2), (3, vI x10), (4, vI 0), (5, vI ((-20000))), (6, vI x12)] [4, 5, 6, 3, 2, 1, 0] rfl ?_
      exact t_X9_tellAlarms_b58 g f ih _ s11 l0 l1 l2 x10 0 ((-20000)) x12 hf
set_option maxRecDepth 20000 in
theorem t_X9_tellAlarms {G : GT} {l : Launch} (hl : l.stackTraces = false) {fu : Nat} {s s' : St} {a0 : Nat} {a1 : Int32} (hf : f_X9_tellAlarms fu s a0 a1 = some s') : MetG G l yX9_tellAlarms (.code yX9_tellAlarms cX9_tellAlarms 8 none) 5 s [vR 9 a0, vI a1] (s', .inl none) := by
  refine MetG_of hl (by decide +kernel) (Nat.le_of_ble_eq_true rfl) (fun E g f eG eL => ?_)
  subst eG; subst eL
  have g : GX E "ThinSeriesModel" cX9_tellAlarms 8 5 := g
  have f : FX E "tellAlarms" none [] := f
  show V E 8 (QE E (s', .inl none)) s 0 [(0, vR 9 a0), (1, vI a1)] []
  unfold f_X9_tellAlarms at hf
  refine V_aload_n g 0 dX9_tellAlarms_0 rfl ?_
  refine V_iconst (v := 0) g dX9_tellAlarms_1 (by decide) ?_
  obtain ⟨z1, hf⟩ := nz_some hf
  obtain ⟨s2, es2, hf⟩ := lt_some hf
  refine V_putI g 9 a0 65 es2 rfl (by decide) rfl q_1298 z1 (Or.inl rfl) pf_9_65 dX9_tellAlarms_2 ?_
  refine V_aload_n g 0 dX9_tellAlarms_5 rfl ?_
  refine V_sipush (v := (-20000)) g dX9_tellAlarms_6 (by decide) ?_
  obtain ⟨s3, es3, hf⟩ := lt_some hf
  refine V_putI g 9 a0 66 es3 rfl (by decide) rfl q_1299 z1 (Or.inl rfl) pf_9_66 dX9_tellAlarms_9 ?_
  refine V_aload_n g 0 dX9_tellAlarms_12 rfl ?_
  refine V_iconst (v := 0) g dX9_tellAlarms_13 (by decide) ?_
  obtain ⟨s4, es4, hf⟩ := lt_some hf
  refine V_putI g 9 a0 67 es4 rfl (by decide) rfl q_1300 z1 (Or.inl rfl) pf_9_67 dX9_tellAlarms_14 ?_
  refine V_aload_n g 0 dX9_tellAlarms_17 rfl ?_
  refine V_sipush (v := (-20000)) g dX9_tellAlarms_18 (by decide) ?_
  obtain ⟨s5, es5, hf⟩ := lt_some hf
  refine V_putI g 9 a0 68 es5 rfl (by decide) rfl q_1301 z1 (Or.inl rfl) pf_9_68 dX9_tellAlarms_21 ?_
  refine V_aload_n g 0 dX9_tellAlarms_24 rfl ?_
  refine V_getI g 9 a0 7 rfl (by decide) rfl q_1240 z1 dX9_tellAlarms_25 ?_
  refine V_iconst (v := 1) g dX9_tellAlarms_28 (by decide) ?_
  refine V_isub g dX9_tellAlarms_29 ?_
  obtain ⟨x6, ex6, hf⟩ := lt_some hf
  refine V_istore_n g [(2, vI x6), (0, vR 9 a0), (1, vI a1)] dX9_tellAlarms_30 ex6 (by decide) rfl ?_
  refine V_sub [(0, vR 9 a0), (1, vI a1), (2, vI x6)] [1, 2, 0] rfl ?_
  exact t_X9_tellAlarms_b31 g f _ s5 a0 a1 x6 hf
set_option maxRecDepth 20000 in
theorem t_X9_alarms_b25 {E : ET} {fu : Nat} {s' : St} {w' : Int32} (g : GX E "ThinSeriesModel" cX9_alarms 3 6) (f : FX E "alarms" (some .int) []) {s : St} {l0 : Nat} (hf : f_X9_alarms_b25 fu s l0 = some (s', w')) : V E 3 (QE E (s', .inl (some (vI w')))) s 25 [(0, vR 9 l0)] [] := by
  unfold f_X9_alarms_b25 at hf
  refine V_aload_n g 0 dX9_alarms_25 rfl ?_
  refine V_iconst (v := 1) g dX9_alarms_26 (by decide) ?_
  obtain ⟨z13, hf⟩ := nz_some hf
  obtain ⟨s14, x15, hc, hf⟩ := bI_some hf
  refine cV1 g [vI 1] [] s14 (vI x15) cf_X9_fail (t_X9_fail g.2.2.2.2.2.2.1 hc) (RC_own g rfl z13) z13 (by decide) q_1454 (Nat.le_of_ble_eq_true rfl) dX9_alarms_27 ?_ rfl
  cases hf
  exact V_ireturn g f dX9_alarms_30
set_option maxRecDepth 20000 in
theorem t_X9_alarms_b75 {E : ET} {fu : Nat} {s' : St} {w' : Int32} (g : GX E "ThinSeriesModel" cX9_alarms 3 6) (f : FX E "alarms" (some .int) []) {s : St} {t0 : Int32} (hf : f_X9_alarms_b75 fu s t0 = some (s', w')) : V E 3 (QE E (s', .inl (some (vI w')))) s 75 [] [vI t0] := by
  unfold f_X9_alarms_b75 at hf
  cases hf
  exact V_ireturn g f dX9_alarms_75
set_option maxRecDepth 20000 in
theorem t_X9_alarms {G : GT} {l : Launch} (hl : l.stackTraces = false) {fu : Nat} {s s' : St} {a0 : Nat} {a1 : Int32} {a2 : Int32} {w' : Int32} (hf : f_X9_alarms fu s a0 a1 a2 = some (s', w')) : MetG G l yX9_alarms (.code yX9_alarms cX9_alarms 3 (some .int)) 6 s [vR 9 a0, vI a1, vI a2] (s', .inl (some (vI w'))) := by
  refine MetG_of hl (by decide +kernel) (Nat.le_of_ble_eq_true rfl) (fun E g f eG eL => ?_)
  subst eG; subst eL
  have g : GX E "ThinSeriesModel" cX9_alarms 3 6 := g
  have f : FX E "alarms" (some .int) [] := f
  show V E 3 (QE E (s', .inl (some (vI w')))) s 0 [(0, vR 9 a0), (1, vI a1), (2, vI a2)] []
  unfold f_X9_alarms at hf
  refine V_aload_n g 0 dX9_alarms_0 rfl ?_
  refine V_iconst (v := 0) g dX9_alarms_1 (by decide) ?_
  obtain ⟨z1, hf⟩ := nz_some hf
  obtain ⟨s2, es2, hf⟩ := lt_some hf
  refine V_putI g 9 a0 3 es2 rfl (by decide) rfl q_1236 z1 (Or.inl rfl) pf_9_3 dX9_alarms_2 ?_
  refine V_aload_n g 0 dX9_alarms_5 rfl ?_
  refine V_iload_n g 1 dX9_alarms_6 rfl ?_
  obtain ⟨s3, x4, hc, hf⟩ := bI_some hf
  refine cV1 g [vI a1] [] s3 (vI x4) cf_X9_isSeries (t_X9_isSeries g.2.2.2.2.2.2.1 hc) (RC_own g rfl z1) z1 (by decide) q_1727 (Nat.le_of_ble_eq_true rfl) dX9_alarms_7 ?_ rfl
  refine V_if_eq g 25 dX9_alarms_10 (by decide) (fun c5 => ?_) (fun c5 => ?_)
  · have hf := it_t hf c5
    refine V_sub [(0, vR 9 a0)] [0] rfl ?_
    exact t_X9_alarms_b25 g f hf
  · have hf := it_f hf c5
    refine V_iload_n g 2 dX9_alarms_13 rfl ?_
    refine V_i2l g dX9_alarms_14 ?_
    refine V_lconst (v := 0) g dX9_alarms_15 (by decide) ?_
    refine V_ldc2 (v := 3) g q_1800 dX9_alarms_16 ?_
    obtain ⟨s6, x7, hc, hf⟩ := bI_some hf
    refine cS1 g [vJ (Int32.toInt64 a2), vJ 0, vJ 3] [] s6 (vI x7) cf_X9_isIn (t_X9_isIn g.2.2.2.2.2.2.1 hc) (by decide) q_1512 (Nat.le_of_ble_eq_true rfl) dX9_alarms_19 ?_ rfl
    refine V_if_ne g 31 dX9_alarms_22 (by decide) (fun c8 => ?_) (fun c8 => ?_)
    · have hf := it_f hf c8
      refine V_aload_n g 0 dX9_alarms_31 rfl ?_
      refine V_iload_n g 1 dX9_alarms_32 rfl ?_
      obtain ⟨s9, hc, hf⟩ := bV_some hf
      refine cV0 g [vI a1] [] s9 cf_X9_tellAlarms (t_X9_tellAlarms g.2.2.2.2.2.2.1 hc) (RC_own g rfl z1) z1 (by decide) q_1805 (Nat.le_of_ble_eq_true rfl) dX9_alarms_33 ?_ rfl
      refine V_iload_n g 2 dX9_alarms_36 rfl ?_
      refine V_if_ne g 47 dX9_alarms_37 (by decide) (fun c10 => ?_) (fun c10 => ?_)
      · have hf := it_f hf c10
        refine V_iload_n g 2 dX9_alarms_47 rfl ?_
        refine V_iconst (v := 1) g dX9_alarms_48 (by decide) ?_
        refine V_icmp_ne g 59 dX9_alarms_49 (by decide) (fun c11 => ?_) (fun c11 => ?_)
        · have hf := it_f hf c11
          refine V_iload_n g 2 dX9_alarms_59 rfl ?_
          refine V_iconst (v := 2) g dX9_alarms_60 (by decide) ?_
          refine V_icmp_ne g 71 dX9_alarms_61 (by decide) (fun c12 => ?_) (fun c12 => ?_)
          · have hf := it_f hf c12
            refine V_aload_n g 0 dX9_alarms_71 rfl ?_
            refine V_getI g 9 a0 68 rfl (by decide) rfl q_1301 z1 dX9_alarms_72 ?_
            refine V_sub [] [] rfl ?_
            exact t_X9_alarms_b75 g f hf
          · have hf := it_t hf c12
            refine V_aload_n g 0 dX9_alarms_64 rfl ?_
            refine V_getI g 9 a0 67 rfl (by decide) rfl q_1300 z1 dX9_alarms_65 ?_
            refine V_goto g 75 dX9_alarms_68 (by decide) ?_
            refine V_sub [] [] rfl ?_
            exact t_X9_alarms_b75 g f hf
        · have hf := it_t hf c11
          refine V_aload_n g 0 dX9_alarms_52 rfl ?_
          refine V_getI g 9 a0 66 rfl (by decide) rfl q_1299 z1 dX9_alarms_53 ?_
          refine V_goto g 75 dX9_alarms_56 (by decide) ?_
          refine V_sub [] [] rfl ?_
          exact t_X9_alarms_b75 g f hf
      · have hf := it_t hf c10
        refine V_aload_n g 0 dX9_alarms_40 rfl ?_
        refine V_getI g 9 a0 65 rfl (by decide) rfl q_1298 z1 dX9_alarms_41 ?_
        refine V_goto g 75 dX9_alarms_44 (by decide) ?_
        refine V_sub [] [] rfl ?_
        exact t_X9_alarms_b75 g f hf
    · have hf := it_t hf c8
      refine V_sub [(0, vR 9 a0)] [0] rfl ?_
      exact t_X9_alarms_b25 g f hf
set_option maxRecDepth 20000 in
theorem t_X9_isTime {G : GT} {l : Launch} (hl : l.stackTraces = false) {fu : Nat} {s s' : St} {a0 : Int64} {w' : Int32} (hf : f_X9_isTime fu s a0 = some (s', w')) : MetG G l yX9_isTime (.code yX9_isTime cX9_isTime 2 (some .boolean)) 1 s [vJ a0] (s', .inl (some (vI w'))) := by
  refine MetG_of hl (by decide +kernel) (Nat.le_of_ble_eq_true rfl) (fun E g f eG eL => ?_)
  subst eG; subst eL
  have g : GX E "ThinSeriesModel" cX9_isTime 2 1 := g
  have f : FX E "isTime" (some .boolean) [] := f
  show V E 2 (QE E (s', .inl (some (vI w')))) s 0 [(0, vJ a0)] []
  unfold f_X9_isTime at hf
  refine V_lload_n g 0 dX9_isTime_0 rfl ?_
  refine V_ldc2 (v := (-1000000)) g q_1574 dX9_isTime_1 ?_
  refine V_ldc2 (v := 1000000) g q_1575 dX9_isTime_4 ?_
  obtain ⟨s1, x2, hc, hf⟩ := bI_some hf
  refine cS1 g [vJ a0, vJ ((-1000000)), vJ 1000000] [] s1 (vI x2) cf_X9_isIn (t_X9_isIn g.2.2.2.2.2.2.1 hc) (by decide) q_1512 (Nat.le_of_ble_eq_true rfl) dX9_isTime_7 ?_ rfl
  obtain ⟨h3, hf⟩ := ckf hf
  cases hf
  exact V_zreturn g f (zb_n h3) dX9_isTime_10
set_option maxRecDepth 20000 in
theorem t_X9_at_b33 {E : ET} {fu : Nat} {s' : St} {w' : Int32} (g : GX E "ThinSeriesModel" cX9_at 6 4) (f : FX E "at" (some .int) []) {s : St} {l0 : Nat} (hf : f_X9_at_b33 fu s l0 = some (s', w')) : V E 6 (QE E (s', .inl (some (vI w')))) s 33 [(0, vR 9 l0)] [] := by
  unfold f_X9_at_b33 at hf
  refine V_aload_n g 0 dX9_at_33 rfl ?_
  refine V_iconst (v := 1) g dX9_at_34 (by decide) ?_
  obtain ⟨z31, hf⟩ := nz_some hf
  obtain ⟨s32, x33, hc, hf⟩ := bI_some hf
  refine cV1 g [vI 1] [] s32 (vI x33) cf_X9_fail (t_X9_fail g.2.2.2.2.2.2.1 hc) (RC_own g rfl z31) z31 (by decide) q_1454 (Nat.le_of_ble_eq_true rfl) dX9_at_35 ?_ rfl
  cases hf
  exact V_ireturn g f dX9_at_38
set_option maxRecDepth 20000 in
theorem t_X9_at_b78 {E : ET} {fu : Nat} {s' : St} {w' : Int32} (g : GX E "ThinSeriesModel" cX9_at 6 4) (f : FX E "at" (some .int) []) {s : St} {t0 : Int32} (hf : f_X9_at_b78 fu s t0 = some (s', w')) : V E 6 (QE E (s', .inl (some (vI w')))) s 78 [] [vI t0] := by
  unfold f_X9_at_b78 at hf
  cases hf
  exact V_ireturn g f dX9_at_78
set_option maxRecDepth 20000 in
theorem t_X9_at_b138 {E : ET} {fu : Nat} {s' : St} {w' : Int32} (g : GX E "ThinSeriesModel" cX9_at 6 4) (f : FX E "at" (some .int) []) {s : St} {t0 : Int32} (hf : f_X9_at_b138 fu s t0 = some (s', w')) : V E 6 (QE E (s', .inl (some (vI w')))) s 138 [] [vI t0] := by
  unfold f_X9_at_b138 at hf
  cases hf
  exact V_ireturn g f dX9_at_138
set_option maxRecDepth 20000 in
theorem t_X9_at {G : GT} {l : Launch} (hl : l.stackTraces = false) {fu : Nat} {s s' : St} {a0 : Nat} {a1 : Int32} {a2 : Int32} {a3 : Int32} {w' : Int32} (hf : f_X9_at fu s a0 a1 a2 a3 = some (s', w')) : MetG G l yX9_at (.code yX9_at cX9_at 6 (some .int)) 4 s [vR 9 a0, vI a1, vI a2, vI a3] (s', .inl (some (vI w'))) := by
  refine MetG_of hl (by decide +kernel) (Nat.le_of_ble_eq_true rfl) (fun E g f eG eL => ?_)
  subst eG; subst eL
  have g : GX E "ThinSeriesModel" cX9_at 6 4 := g
  have f : FX E "at" (some .int) [] := f
  show V E 6 (QE E (s', .inl (some (vI w')))) s 0 [(0, vR 9 a0), (1, vI a1), (2, vI a2), (3, vI a3)] []
  unfold f_X9_at at hf
  refine V_aload_n g 0 dX9_at_0 rfl ?_
  refine V_iconst (v := 0) g dX9_at_1 (by decide) ?_
  obtain ⟨z1, hf⟩ := nz_some hf
  obtain ⟨s2, es2, hf⟩ := lt_some hf
  refine V_putI g 9 a0 3 es2 rfl (by decide) rfl q_1236 z1 (Or.inl rfl) pf_9_3 dX9_at_2 ?_
  refine V_aload_n g 0 dX9_at_5 rfl ?_
  refine V_iload_n g 1 dX9_at_6 rfl ?_
  obtain ⟨s3, x4, hc, hf⟩ := bI_some hf
  refine cV1 g [vI a1] [] s3 (vI x4) cf_X9_isSeries (t_X9_isSeries g.2.2.2.2.2.2.1 hc) (RC_own g rfl z1) z1 (by decide) q_1727 (Nat.le_of_ble_eq_true rfl) dX9_at_7 ?_ rfl
  refine V_if_eq g 33 dX9_at_10 (by decide) (fun c5 => ?_) (fun c5 => ?_)
  · have hf := it_t hf c5
    refine V_sub [(0, vR 9 a0)] [0] rfl ?_
    exact t_X9_at_b33 g f hf
  · have hf := it_f hf c5
    refine V_iload_n g 2 dX9_at_13 rfl ?_
    refine V_i2l g dX9_at_14 ?_
    obtain ⟨s6, x7, hc, hf⟩ := bI_some hf
    refine cS1 g [vJ (Int32.toInt64 a2)] [] s6 (vI x7) cf_X9_isTime (t_X9_isTime g.2.2.2.2.2.2.1 hc) (by decide) q_1571 (Nat.le_of_ble_eq_true rfl) dX9_at_15 ?_ rfl
    refine V_if_eq g 33 dX9_at_18 (by decide) (fun c8 => ?_) (fun c8 => ?_)
    · have hf := it_t hf c8
      refine V_sub [(0, vR 9 a0)] [0] rfl ?_
      exact t_X9_at_b33 g f hf
    · have hf := it_f hf c8
      refine V_iload_n g 3 dX9_at_21 rfl ?_
      refine V_i2l g dX9_at_22 ?_
      refine V_lconst (v := 0) g dX9_at_23 (by decide) ?_
      refine V_ldc2 (v := 2) g q_1774 dX9_at_24 ?_
      obtain ⟨s9, x10, hc, hf⟩ := bI_some hf
      refine cS1 g [vJ (Int32.toInt64 a3), vJ 0, vJ 2] [] s9 (vI x10) cf_X9_isIn (t_X9_isIn g.2.2.2.2.2.2.1 hc) (by decide) q_1512 (Nat.le_of_ble_eq_true rfl) dX9_at_27 ?_ rfl
      refine V_if_ne g 39 dX9_at_30 (by decide) (fun c11 => ?_) (fun c11 => ?_)
      · have hf := it_f hf c11
        refine V_aload_n g 0 dX9_at_39 rfl ?_
        refine V_aload_n g 0 dX9_at_40 rfl ?_
        refine V_getR g 9 a0 11 10 rfl (by decide) rfl rfl q_1244 z1 dX9_at_41 ?_
        refine V_iload_n g 1 dX9_at_44 rfl ?_
        obtain ⟨z12, hf⟩ := nz_some hf
        obtain ⟨h13, hf⟩ := ckf hf
        refine V_iald g z12 h13 dX9_at_45 ?_
        refine V_iload_n g 2 dX9_at_46 rfl ?_
        obtain ⟨s14, x15, hc, hf⟩ := bI_some hf
        refine cV1 g [vI (gI s9 10 (gR s9 9 a0 11) (ix a1)), vI a2] [] s14 (vI x15) cf_X9_tierBy (t_X9_tierBy g.2.2.2.2.2.2.1 hc) (RC_own g rfl z1) z1 (by decide) q_1653 (Nat.le_of_ble_eq_true rfl) dX9_at_47 ?_ rfl
        refine V_istore g [(4, vI x15), (0, vR 9 a0), (1, vI a1), (2, vI a2), (3, vI a3)] dX9_at_50 rfl (by decide) rfl ?_
        refine V_iload g 0 dX9_at_52 rfl ?_
        refine V_iconst (v := (-1)) g dX9_at_54 (by decide) ?_
        refine V_icmp_ne g 79 dX9_at_55 (by decide) (fun c16 => ?_) (fun c16 => ?_)
        · have hf := it_f hf c16
          refine V_iload_n g 3 dX9_at_79 rfl ?_
          refine V_i2l g dX9_at_80 ?_
          refine V_aload_n g 1 dX9_at_81 rfl ?_
          refine V_getR g 9 a0 4 10 rfl (by decide) rfl rfl q_1237 z1 dX9_at_82 ?_
          refine V_iload g 0 dX9_at_85 rfl ?_
          obtain ⟨z17, hf⟩ := nz_some hf
          obtain ⟨h18, hf⟩ := ckf hf
          refine V_iald g z17 h18 dX9_at_87 ?_
          obtain ⟨s19, x20, hc, hf⟩ := bI_some hf
          refine cS1 g [vJ (Int32.toInt64 a2), vI (gI s14 10 (gR s14 9 a0 4) (ix x15))] [] s19 (vI x20) cf_X9_multiple (t_X9_multiple g.2.2.2.2.2.2.1 hc) (by decide) q_1600 (Nat.le_of_ble_eq_true rfl) dX9_at_88 ?_ rfl
          refine V_istore g [(5, vI x20), (4, vI x15), (0, vR 9 a0), (1, vI a1), (2, vI a2), (3, vI a3)] dX9_at_91 rfl (by decide) rfl ?_
          refine V_iload_n g 5 dX9_at_93 rfl ?_
          refine V_if_ne g 102 dX9_at_94 (by decide) (fun c21 => ?_) (fun c21 => ?_)
          · have hf := it_f hf c21
            refine V_iload_n g 5 dX9_at_102 rfl ?_
            refine V_iconst (v := 1) g dX9_at_103 (by decide) ?_
            refine V_icmp_ne g 112 dX9_at_104 (by decide) (fun c22 => ?_) (fun c22 => ?_)
            · have hf := it_f hf c22
              refine V_aload_n g 2 dX9_at_112 rfl ?_
              refine V_iload_n g 3 dX9_at_113 rfl ?_
              refine V_iload g 0 dX9_at_114 rfl ?_
              refine V_i2l g dX9_at_116 ?_
              refine V_aload_n g 2 dX9_at_117 rfl ?_
              refine V_getR g 9 a0 4 10 rfl (by decide) rfl rfl q_1237 z1 dX9_at_118 ?_
              refine V_iload g 1 dX9_at_121 rfl ?_
              obtain ⟨z23, hf⟩ := nz_some hf
              obtain ⟨h24, hf⟩ := ckf hf
              refine V_iald g z23 h24 dX9_at_123 ?_
              refine V_i2l g dX9_at_124 ?_
              refine V_ladd g dX9_at_125 ?_
              obtain ⟨s25, x26, hc, hf⟩ := bI_some hf
              refine cV1 g [vI a1, vJ ((Int32.toInt64 x20) + (Int32.toInt64 (gI s19 10 (gR s19 9 a0 4) (ix x15))))] [] s25 (vI x26) cf_X9_placeOf (t_X9_placeOf g.2.2.2.2.2.2.1 hc) (RC_own g rfl z1) z1 (by decide) q_1632 (Nat.le_of_ble_eq_true rfl) dX9_at_126 ?_ rfl
              refine V_aload_n g 2 dX9_at_129 rfl ?_
              refine V_iload_n g 3 dX9_at_130 rfl ?_
              refine V_iload g 0 dX9_at_131 rfl ?_
              refine V_i2l g dX9_at_133 ?_
              obtain ⟨s27, x28, hc, hf⟩ := bI_some hf
              refine cV1 g [vI a1, vJ (Int32.toInt64 x20)] [vI x26] s27 (vI x28) cf_X9_placeOf (t_X9_placeOf g.2.2.2.2.2.2.1 hc) (RC_own g rfl z1) z1 (by decide) q_1632 (Nat.le_of_ble_eq_true rfl) dX9_at_134 ?_ rfl
              refine V_isub g dX9_at_137 ?_
              refine V_sub [] [] rfl ?_
              exact t_X9_at_b138 g f hf
            · have hf := it_t hf c22
              refine V_iload g 0 dX9_at_107 rfl ?_
              refine V_goto g 138 dX9_at_109 (by decide) ?_
              refine V_sub [] [] rfl ?_
              exact t_X9_at_b138 g f hf
          · have hf := it_t hf c21
            refine V_iload g 1 dX9_at_97 rfl ?_
            refine V_goto g 138 dX9_at_99 (by decide) ?_
            refine V_sub [] [] rfl ?_
            exact t_X9_at_b138 g f hf
        · have hf := it_t hf c16
          refine V_iload_n g 4 dX9_at_58 rfl ?_
          refine V_if_ne g 66 dX9_at_59 (by decide) (fun c29 => ?_) (fun c29 => ?_)
          · have hf := it_f hf c29
            refine V_iload_n g 4 dX9_at_66 rfl ?_
            refine V_iconst (v := 1) g dX9_at_67 (by decide) ?_
            refine V_icmp_ne g 77 dX9_at_68 (by decide) (fun c30 => ?_) (fun c30 => ?_)
            · have hf := it_f hf c30
              refine V_iconst (v := 0) g dX9_at_77 (by decide) ?_
              refine V_sub [] [] rfl ?_
              exact t_X9_at_b78 g f hf
            · have hf := it_t hf c30
              refine V_sipush (v := (-20000)) g dX9_at_71 (by decide) ?_
              refine V_goto g 78 dX9_at_74 (by decide) ?_
              refine V_sub [] [] rfl ?_
              exact t_X9_at_b78 g f hf
          · have hf := it_t hf c29
            refine V_iconst (v := (-1)) g dX9_at_62 (by decide) ?_
            refine V_goto g 78 dX9_at_63 (by decide) ?_
            refine V_sub [] [] rfl ?_
            exact t_X9_at_b78 g f hf
      · have hf := it_t hf c11
        refine V_sub [(0, vR 9 a0)] [0] rfl ?_
        exact t_X9_at_b33 g f hf
set_option maxRecDepth 20000 in
theorem t_X9_adds_b68 {E : ET} {fu : Nat} {s' : St} (g : GX E "ThinSeriesModel" cX9_adds 1 1) (f : FX E "adds" none []) {s : St} {l0 : Nat} {t0 : Int32} {t1 : Nat} (hf : f_X9_adds_b68 fu s l0 t0 t1 = some s') : V E 1 (QE E (s', .inl none)) s 68 [(0, vR 9 l0)] [vI t0, vR 9 t1] := by
  unfold f_X9_adds_b68 at hf
  obtain ⟨z12, hf⟩ := nz_some hf
  obtain ⟨s13, es13, hf⟩ := lt_some hf
  refine V_putI g 9 t1 60 es13 rfl (by decide) rfl q_1293 z12 (Or.inl rfl) pf_9_60 dX9_adds_68 ?_
  refine V_aload_n g 0 dX9_adds_71 rfl ?_
  refine V_dup g dX9_adds_72 rfl ?_
  obtain ⟨z14, hf⟩ := nz_some hf
  refine V_getI g 9 l0 58 rfl (by decide) rfl q_1291 z14 dX9_adds_73 ?_
  refine V_aload_n g 0 dX9_adds_76 rfl ?_
  refine V_getI g 9 l0 53 rfl (by decide) rfl q_1286 z14 dX9_adds_77 ?_
  refine V_iadd g dX9_adds_80 ?_
  obtain ⟨s15, es15, hf⟩ := lt_some hf
  refine V_putI g 9 l0 58 es15 rfl (by decide) rfl q_1291 z14 (Or.inl rfl) pf_9_58 dX9_adds_81 ?_
  refine V_aload_n g 0 dX9_adds_84 rfl ?_
  refine V_dup g dX9_adds_85 rfl ?_
  refine V_getI g 9 l0 61 rfl (by decide) rfl q_1294 z14 dX9_adds_86 ?_
  refine V_iconst (v := 1) g dX9_adds_89 (by decide) ?_
  refine V_iadd g dX9_adds_90 ?_
  obtain ⟨s16, es16, hf⟩ := lt_some hf
  refine V_putI g 9 l0 61 es16 rfl (by decide) rfl q_1294 z14 (Or.inl rfl) pf_9_61 dX9_adds_91 ?_
  cases hf
  exact V_return g f dX9_adds_94
set_option maxRecDepth 20000 in
theorem t_X9_adds_b39 {E : ET} {fu : Nat} {s' : St} (g : GX E "ThinSeriesModel" cX9_adds 1 1) (f : FX E "adds" none []) {s : St} {l0 : Nat} {t0 : Int32} {t1 : Nat} (hf : f_X9_adds_b39 fu s l0 t0 t1 = some s') : V E 1 (QE E (s', .inl none)) s 39 [(0, vR 9 l0)] [vI t0, vR 9 t1] := by
  unfold f_X9_adds_b39 at hf
  obtain ⟨z6, hf⟩ := nz_some hf
  obtain ⟨s7, es7, hf⟩ := lt_some hf
  refine V_putI g 9 t1 59 es7 rfl (by decide) rfl q_1292 z6 (Or.inl rfl) pf_9_59 dX9_adds_39 ?_
  refine V_aload_n g 0 dX9_adds_42 rfl ?_
  refine V_aload_n g 0 dX9_adds_43 rfl ?_
  obtain ⟨z8, hf⟩ := nz_some hf
  refine V_getI g 9 l0 58 rfl (by decide) rfl q_1291 z8 dX9_adds_44 ?_
  refine V_if_ne g 57 dX9_adds_47 (by decide) (fun c9 => ?_) (fun c9 => ?_)
  · have hf := it_f hf c9
    refine V_aload_n g 0 dX9_adds_57 rfl ?_
    refine V_getI g 9 l0 60 rfl (by decide) rfl q_1293 z8 dX9_adds_58 ?_
    refine V_aload_n g 0 dX9_adds_61 rfl ?_
    refine V_getI g 9 l0 55 rfl (by decide) rfl q_1288 z8 dX9_adds_62 ?_
    obtain ⟨s10, x11, hc, hf⟩ := bI_some hf
    refine cS1 g [vI (gI s7 9 l0 60), vI (gI s7 9 l0 55)] [vR 9 l0] s10 (vI x11) cf_J9_max_7cf53 (t_J9_max_7cf53 g.2.2.2.2.2.2.1 hc) (by decide) q_1645 (Nat.le_of_ble_eq_true rfl) dX9_adds_65 ?_ rfl
    exact t_X9_adds_b68 g f hf
  · have hf := it_t hf c9
    refine V_aload_n g 0 dX9_adds_50 rfl ?_
    refine V_getI g 9 l0 55 rfl (by decide) rfl q_1288 z8 dX9_adds_51 ?_
    refine V_goto g 68 dX9_adds_54 (by decide) ?_
    exact t_X9_adds_b68 g f hf
set_option maxRecDepth 20000 in
theorem t_X9_adds {G : GT} {l : Launch} (hl : l.stackTraces = false) {fu : Nat} {s s' : St} {a0 : Nat} (hf : f_X9_adds fu s a0 = some s') : MetG G l yX9_adds (.code yX9_adds cX9_adds 1 none) 1 s [vR 9 a0] (s', .inl none) := by
  refine MetG_of hl (by decide +kernel) (Nat.le_of_ble_eq_true rfl) (fun E g f eG eL => ?_)
  subst eG; subst eL
  have g : GX E "ThinSeriesModel" cX9_adds 1 1 := g
  have f : FX E "adds" none [] := f
  show V E 1 (QE E (s', .inl none)) s 0 [(0, vR 9 a0)] []
  unfold f_X9_adds at hf
  refine V_aload_n g 0 dX9_adds_0 rfl ?_
  refine V_dup g dX9_adds_1 rfl ?_
  obtain ⟨z1, hf⟩ := nz_some hf
  refine V_getJ g 9 a0 57 rfl (by decide) rfl q_1290 z1 dX9_adds_2 ?_
  refine V_aload_n g 0 dX9_adds_5 rfl ?_
  refine V_getJ g 9 a0 56 rfl (by decide) rfl q_1289 z1 dX9_adds_6 ?_
  refine V_ladd g dX9_adds_9 ?_
  obtain ⟨s2, es2, hf⟩ := lt_some hf
  refine V_putJ g 9 a0 57 es2 rfl (by decide) rfl q_1290 z1 (Or.inl rfl) pf_9_57 dX9_adds_10 ?_
  refine V_aload_n g 0 dX9_adds_13 rfl ?_
  refine V_aload_n g 0 dX9_adds_14 rfl ?_
  refine V_getI g 9 a0 58 rfl (by decide) rfl q_1291 z1 dX9_adds_15 ?_
  refine V_if_ne g 28 dX9_adds_18 (by decide) (fun c3 => ?_) (fun c3 => ?_)
  · have hf := it_f hf c3
    refine V_aload_n g 0 dX9_adds_28 rfl ?_
    refine V_getI g 9 a0 59 rfl (by decide) rfl q_1292 z1 dX9_adds_29 ?_
    refine V_aload_n g 0 dX9_adds_32 rfl ?_
    refine V_getI g 9 a0 54 rfl (by decide) rfl q_1287 z1 dX9_adds_33 ?_
    obtain ⟨s4, x5, hc, hf⟩ := bI_some hf
    refine cS1 g [vI (gI s2 9 a0 59), vI (gI s2 9 a0 54)] [vR 9 a0] s4 (vI x5) cf_J9_min_7cf53 (t_J9_min_7cf53 g.2.2.2.2.2.2.1 hc) (by decide) q_1477 (Nat.le_of_ble_eq_true rfl) dX9_adds_36 ?_ rfl
    exact t_X9_adds_b39 g f hf
  · have hf := it_t hf c3
    refine V_aload_n g 0 dX9_adds_21 rfl ?_
    refine V_getI g 9 a0 54 rfl (by decide) rfl q_1287 z1 dX9_adds_22 ?_
    refine V_goto g 39 dX9_adds_25 (by decide) ?_
    exact t_X9_adds_b39 g f hf
set_option maxRecDepth 20000 in
theorem t_X9_clears {G : GT} {l : Launch} (hl : l.stackTraces = false) {fu : Nat} {s s' : St} {a0 : Nat} (hf : f_X9_clears fu s a0 = some s') : MetG G l yX9_clears (.code yX9_clears cX9_clears 1 none) 0 s [vR 9 a0] (s', .inl none) := by
  refine MetG_of hl (by decide +kernel) (Nat.le_of_ble_eq_true rfl) (fun E g f eG eL => ?_)
  subst eG; subst eL
  have g : GX E "ThinSeriesModel" cX9_clears 1 0 := g
  have f : FX E "clears" none [] := f
  show V E 1 (QE E (s', .inl none)) s 0 [(0, vR 9 a0)] []
  unfold f_X9_clears at hf
  refine V_aload_n g 0 dX9_clears_0 rfl ?_
  refine V_lconst (v := 0) g dX9_clears_1 (by decide) ?_
  obtain ⟨z1, hf⟩ := nz_some hf
  obtain ⟨s2, es2, hf⟩ := lt_some hf
  refine V_putJ g 9 a0 57 es2 rfl (by decide) rfl q_1290 z1 (Or.inl rfl) pf_9_57 dX9_clears_2 ?_
  refine V_aload_n g 0 dX9_clears_5 rfl ?_
  refine V_iconst (v := 0) g dX9_clears_6 (by decide) ?_
  obtain ⟨s3, es3, hf⟩ := lt_some hf
  refine V_putI g 9 a0 58 es3 rfl (by decide) rfl q_1291 z1 (Or.inl rfl) pf_9_58 dX9_clears_7 ?_
  refine V_aload_n g 0 dX9_clears_10 rfl ?_
  refine V_sipush (v := (-20000)) g dX9_clears_11 (by decide) ?_
  obtain ⟨s4, es4, hf⟩ := lt_some hf
  refine V_putI g 9 a0 59 es4 rfl (by decide) rfl q_1292 z1 (Or.inl rfl) pf_9_59 dX9_clears_14 ?_
  refine V_aload_n g 0 dX9_clears_17 rfl ?_
  refine V_sipush (v := (-20000)) g dX9_clears_18 (by decide) ?_
  obtain ⟨s5, es5, hf⟩ := lt_some hf
  refine V_putI g 9 a0 60 es5 rfl (by decide) rfl q_1293 z1 (Or.inl rfl) pf_9_60 dX9_clears_21 ?_
  refine V_aload_n g 0 dX9_clears_24 rfl ?_
  refine V_iconst (v := 0) g dX9_clears_25 (by decide) ?_
  obtain ⟨s6, es6, hf⟩ := lt_some hf
  refine V_putI g 9 a0 61 es6 rfl (by decide) rfl q_1294 z1 (Or.inl rfl) pf_9_61 dX9_clears_26 ?_
  cases hf
  exact V_return g f dX9_clears_29
