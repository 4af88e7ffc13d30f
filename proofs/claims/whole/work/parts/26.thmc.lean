set_option maxRecDepth 20000 in
theorem t_X1_init {G : GT} {l : Launch} (hl : l.stackTraces = false) {fu : Nat} {s s' : St} {a0 : Nat} {a1 : Nat} (hf : f_X1_init fu s a0 a1 = some s') : MetG G l yX1_init (.code yX1_init cX1_init 2 none) 1 s [vR 1 a0, vR 7 a1] (s', .inl none) := by
  refine MetG_of hl (by decide +kernel) (Nat.le_of_ble_eq_true rfl) (fun E g f eG eL => ?_)
  subst eG; subst eL
  have g : GX E "ThinSeries$BatchReader" cX1_init 2 1 := g
  have f : FX E "<init>" none [] := f
  show V E 2 (QE E (s', .inl none)) s 0 [(0, vR 1 a0), (1, vR 7 a1)] []
  unfold f_X1_init at hf
  refine V_aload_n g 0 dX1_init_0 rfl ?_
  obtain ⟨z1, hf⟩ := nz_some hf
  refine V_objInit g (by decide) z1 q_182 q_123 q_124 (Nat.le_of_ble_eq_true rfl) dX1_init_1 ?_
  refine V_aload_n g 0 dX1_init_4 rfl ?_
  refine V_bipush (v := 100) g dX1_init_5 (by decide) ?_
  obtain ⟨h2, hf⟩ := ckf hf
  obtain ⟨s3, es3, hf⟩ := lt_some hf
  obtain ⟨h4, hf⟩ := ckf hf
  refine V_new10 g es3 q_207 h2 (rm_of h4) dX1_init_7 ?_
  obtain ⟨s5, es5, hf⟩ := lt_some hf
  refine V_putR g 1 a0 1 10 es5 rfl (by decide) rfl rfl q_184 z1 (Or.inr ⟨rfl, f.1, rfl⟩) pf_1_1 q_arr dX1_init_9 ?_
  refine V_aload_n g 0 dX1_init_12 rfl ?_
  refine V_bipush (v := 100) g dX1_init_13 (by decide) ?_
  obtain ⟨h6, hf⟩ := ckf hf
  obtain ⟨s7, es7, hf⟩ := lt_some hf
  obtain ⟨h8, hf⟩ := ckf hf
  refine V_new10 g es7 q_207 h6 (rm_of h8) dX1_init_15 ?_
  obtain ⟨s9, es9, hf⟩ := lt_some hf
  refine V_putR g 1 a0 2 10 es9 rfl (by decide) rfl rfl q_186 z1 (Or.inr ⟨rfl, f.1, rfl⟩) pf_1_2 q_arr dX1_init_17 ?_
  refine V_aload_n g 0 dX1_init_20 rfl ?_
  refine V_bipush (v := 100) g dX1_init_21 (by decide) ?_
  obtain ⟨h10, hf⟩ := ckf hf
  obtain ⟨s11, es11, hf⟩ := lt_some hf
  obtain ⟨h12, hf⟩ := ckf hf
  refine V_new10 g es11 q_207 h10 (rm_of h12) dX1_init_23 ?_
  obtain ⟨s13, es13, hf⟩ := lt_some hf
  refine V_putR g 1 a0 3 10 es13 rfl (by decide) rfl rfl q_188 z1 (Or.inr ⟨rfl, f.1, rfl⟩) pf_1_3 q_arr dX1_init_25 ?_
  refine V_aload_n g 0 dX1_init_28 rfl ?_
  refine V_bipush (v := 100) g dX1_init_29 (by decide) ?_
  obtain ⟨h14, hf⟩ := ckf hf
  obtain ⟨s15, es15, hf⟩ := lt_some hf
  obtain ⟨h16, hf⟩ := ckf hf
  refine V_new10 g es15 q_207 h14 (rm_of h16) dX1_init_31 ?_
  obtain ⟨s17, es17, hf⟩ := lt_some hf
  refine V_putR g 1 a0 4 10 es17 rfl (by decide) rfl rfl q_190 z1 (Or.inr ⟨rfl, f.1, rfl⟩) pf_1_4 q_arr dX1_init_33 ?_
  refine V_aload_n g 0 dX1_init_36 rfl ?_
  refine V_iconst (v := 0) g dX1_init_37 (by decide) ?_
  obtain ⟨s18, es18, hf⟩ := lt_some hf
  refine V_putI g 1 a0 5 es18 rfl (by decide) rfl q_192 z1 (Or.inl rfl) pf_1_5 dX1_init_38 ?_
  refine V_aload_n g 0 dX1_init_41 rfl ?_
  refine V_aload_n g 1 dX1_init_42 rfl ?_
  obtain ⟨s19, es19, hf⟩ := lt_some hf
  refine V_putR g 1 a0 0 7 es19 rfl (by decide) rfl rfl q_183 z1 (Or.inr ⟨rfl, f.1, rfl⟩) pf_1_0 q_obj dX1_init_43 ?_
  cases hf
  exact V_return g f dX1_init_46
set_option maxRecDepth 20000 in
theorem t_X0_init {G : GT} {l : Launch} (hl : l.stackTraces = false) {fu : Nat} {s s' : St} {a0 : Nat} (hf : f_X0_init fu s a0 = some s') : MetG G l yX0_init (.code yX0_init cX0_init 1 none) 1 s [vR 0 a0] (s', .inl none) := by
  refine MetG_of hl (by decide +kernel) (Nat.le_of_ble_eq_true rfl) (fun E g f eG eL => ?_)
  subst eG; subst eL
  have g : GX E "ThinSeries$Alarm" cX0_init 1 1 := g
  have f : FX E "<init>" none [] := f
  show V E 1 (QE E (s', .inl none)) s 0 [(0, vR 0 a0)] []
  unfold f_X0_init at hf
  refine V_aload_n g 0 dX0_init_0 rfl ?_
  obtain ⟨z1, hf⟩ := nz_some hf
  refine V_objInit g (by decide) z1 q_267 q_123 q_124 (Nat.le_of_ble_eq_true rfl) dX0_init_1 ?_
  refine V_aload_n g 0 dX0_init_4 rfl ?_
  refine V_sipush (v := 160) g dX0_init_5 (by decide) ?_
  obtain ⟨h2, hf⟩ := ckf hf
  obtain ⟨s3, es3, hf⟩ := lt_some hf
  obtain ⟨h4, hf⟩ := ckf hf
  refine V_new10 g es3 q_207 h2 (rm_of h4) dX0_init_8 ?_
  obtain ⟨s5, es5, hf⟩ := lt_some hf
  refine V_putR g 0 a0 0 10 es5 rfl (by decide) rfl rfl q_268 z1 (Or.inr ⟨rfl, f.1, rfl⟩) pf_0_0 q_arr dX0_init_10 ?_
  refine V_aload_n g 0 dX0_init_13 rfl ?_
  refine V_sipush (v := 160) g dX0_init_14 (by decide) ?_
  obtain ⟨h6, hf⟩ := ckf hf
  obtain ⟨s7, es7, hf⟩ := lt_some hf
  obtain ⟨h8, hf⟩ := ckf hf
  refine V_new10 g es7 q_207 h6 (rm_of h8) dX0_init_17 ?_
  obtain ⟨s9, es9, hf⟩ := lt_some hf
  refine V_putR g 0 a0 1 10 es9 rfl (by decide) rfl rfl q_269 z1 (Or.inr ⟨rfl, f.1, rfl⟩) pf_0_1 q_arr dX0_init_19 ?_
  refine V_aload_n g 0 dX0_init_22 rfl ?_
  refine V_iconst (v := 0) g dX0_init_23 (by decide) ?_
  obtain ⟨s10, es10, hf⟩ := lt_some hf
  refine V_putI g 0 a0 2 es10 rfl (by decide) rfl q_270 z1 (Or.inl rfl) pf_0_2 dX0_init_24 ?_
  cases hf
  exact V_return g f dX0_init_27
set_option maxRecDepth 20000 in
theorem t_X2_takeFirstTiers_b10 {E : ET} {fu : Nat} {s' : St} (g : GX E "ThinSeries$Plan" cX2_takeFirstTiers 2 0) (f : FX E "takeFirstTiers" none []) : ∀ (n : Nat) (s : St) (l0 : Nat) (l1 : Int32), f_X2_takeFirstTiers_b10 fu n s l0 l1 = some s' → V E 2 (QE E (s', .inl none)) s 10 [(0, vR 2 l0), (1, vI l1)] [] := by
  intro n
  induction n with
  | zero =>
    intro s l0 l1 hf
    unfold f_X2_takeFirstTiers_b10 at hf
    exact nomatch hf
  | succ n ih =>
    intro s l0 l1 hf
    unfold f_X2_takeFirstTiers_b10 at hf
    refine V_iload_n g 1 dX2_takeFirstTiers_10 rfl ?_
    refine V_aload_n g 0 dX2_takeFirstTiers_11 rfl ?_
    obtain ⟨z3, hf⟩ := nz_some hf
    refine V_getI g 2 l0 3 rfl (by decide) rfl q_295 z3 dX2_takeFirstTiers_12 ?_
    refine V_icmp_ge g 46 dX2_takeFirstTiers_15 (by decide) (fun c4 => ?_) (fun c4 => ?_)
    · have hf := it_t hf c4
      cases hf
      exact V_return g f dX2_takeFirstTiers_46
    · have hf := it_f hf c4
      refine V_aload_n g 0 dX2_takeFirstTiers_18 rfl ?_
      refine V_getR g 2 l0 0 10 rfl (by decide) rfl rfl q_286 z3 dX2_takeFirstTiers_19 ?_
      refine V_iload_n g 1 dX2_takeFirstTiers_22 rfl ?_
      refine V_gets1 g q_282 dX2_takeFirstTiers_23 ?_
      refine V_iload_n g 1 dX2_takeFirstTiers_26 rfl ?_
      obtain ⟨h5, hf⟩ := ckf hf
      refine V_iald17 g (by decide) h5 dX2_takeFirstTiers_27 ?_
      obtain ⟨z6, hf⟩ := nz_some hf
      obtain ⟨h7, hf⟩ := ckf hf
      obtain ⟨s8, es8, hf⟩ := lt_some hf
      refine V_iast g es8 z6 h7 dX2_takeFirstTiers_28 ?_
      refine V_aload_n g 0 dX2_takeFirstTiers_29 rfl ?_
      refine V_getR g 2 l0 1 10 rfl (by decide) rfl rfl q_289 z3 dX2_takeFirstTiers_30 ?_
      refine V_iload_n g 1 dX2_takeFirstTiers_33 rfl ?_
      refine V_gets2 g q_284 dX2_takeFirstTiers_34 ?_
      refine V_iload_n g 1 dX2_takeFirstTiers_37 rfl ?_
      obtain ⟨h9, hf⟩ := ckf hf
      refine V_iald17 g (by decide) h9 dX2_takeFirstTiers_38 ?_
      obtain ⟨z10, hf⟩ := nz_some hf
      obtain ⟨h11, hf⟩ := ckf hf
      obtain ⟨s12, es12, hf⟩ := lt_some hf
      refine V_iast g es12 z10 h11 dX2_takeFirstTiers_39 ?_
      obtain ⟨x13, ex13, hf⟩ := lt_some hf
      refine V_iinc g 1 [(1, vI x13), (0, vR 2 l0)] dX2_takeFirstTiers_40 rfl (by rw [ex13]; rfl) (by decide) rfl ?_
      refine V_goto g 10 dX2_takeFirstTiers_43 (by decide) ?_
      refine V_sub [(0, vR 2 l0), (1, vI x13)] [1, 0] rfl ?_
      exact ih s12 l0 x13 hf
set_option maxRecDepth 20000 in
theorem t_X2_takeFirstTiers {G : GT} {l : Launch} (hl : l.stackTraces = false) {fu : Nat} {s s' : St} {a0 : Nat} (hf : f_X2_takeFirstTiers fu s a0 = some s') : MetG G l yX2_takeFirstTiers (.code yX2_takeFirstTiers cX2_takeFirstTiers 2 none) 0 s [vR 2 a0] (s', .inl none) := by
  refine MetG_of hl (by decide +kernel) (Nat.le_of_ble_eq_true rfl) (fun E g f eG eL => ?_)
  subst eG; subst eL
  have g : GX E "ThinSeries$Plan" cX2_takeFirstTiers 2 0 := g
  have f : FX E "takeFirstTiers" none [] := f
  show V E 2 (QE E (s', .inl none)) s 0 [(0, vR 2 a0)] []
  unfold f_X2_takeFirstTiers at hf
  refine V_aload_n g 0 dX2_takeFirstTiers_0 rfl ?_
  refine V_gets1 g q_282 dX2_takeFirstTiers_1 ?_
  refine V_alen17 g (by decide) dX2_takeFirstTiers_4 ?_
  obtain ⟨z1, hf⟩ := nz_some hf
  obtain ⟨s2, es2, hf⟩ := lt_some hf
  refine V_putI g 2 a0 3 es2 rfl (by decide) rfl q_295 z1 (Or.inl rfl) pf_2_3 dX2_takeFirstTiers_5 ?_
  refine V_iconst (v := 0) g dX2_takeFirstTiers_8 (by decide) ?_
  refine V_istore_n g [(1, vI 0), (0, vR 2 a0)] dX2_takeFirstTiers_9 rfl (by decide) rfl ?_
  refine V_sub [(0, vR 2 a0), (1, vI 0)] [1, 0] rfl ?_
  exact t_X2_takeFirstTiers_b10 g f _ s2 a0 0 hf
set_option maxRecDepth 20000 in
theorem t_X2_init {G : GT} {l : Launch} (hl : l.stackTraces = false) {fu : Nat} {s s' : St} {a0 : Nat} (hf : f_X2_init fu s a0 = some s') : MetG G l yX2_init (.code yX2_init cX2_init 1 none) 2 s [vR 2 a0] (s', .inl none) := by
  refine MetG_of hl (by decide +kernel) (Nat.le_of_ble_eq_true rfl) (fun E g f eG eL => ?_)
  subst eG; subst eL
  have g : GX E "ThinSeries$Plan" cX2_init 1 2 := g
  have f : FX E "<init>" none [] := f
  show V E 1 (QE E (s', .inl none)) s 0 [(0, vR 2 a0)] []
  unfold f_X2_init at hf
  refine V_aload_n g 0 dX2_init_0 rfl ?_
  obtain ⟨z1, hf⟩ := nz_some hf
  refine V_objInit g (by decide) z1 q_261 q_123 q_124 (Nat.le_of_ble_eq_true rfl) dX2_init_1 ?_
  refine V_aload_n g 0 dX2_init_4 rfl ?_
  refine V_iconst (v := 4) g dX2_init_5 (by decide) ?_
  obtain ⟨h2, hf⟩ := ckf hf
  obtain ⟨s3, es3, hf⟩ := lt_some hf
  obtain ⟨h4, hf⟩ := ckf hf
  refine V_new10 g es3 q_207 h2 (rm_of h4) dX2_init_6 ?_
  obtain ⟨s5, es5, hf⟩ := lt_some hf
  refine V_putR g 2 a0 0 10 es5 rfl (by decide) rfl rfl q_286 z1 (Or.inr ⟨rfl, f.1, rfl⟩) pf_2_0 q_arr dX2_init_8 ?_
  refine V_aload_n g 0 dX2_init_11 rfl ?_
  refine V_iconst (v := 4) g dX2_init_12 (by decide) ?_
  obtain ⟨h6, hf⟩ := ckf hf
  obtain ⟨s7, es7, hf⟩ := lt_some hf
  obtain ⟨h8, hf⟩ := ckf hf
  refine V_new10 g es7 q_207 h6 (rm_of h8) dX2_init_13 ?_
  obtain ⟨s9, es9, hf⟩ := lt_some hf
  refine V_putR g 2 a0 1 10 es9 rfl (by decide) rfl rfl q_289 z1 (Or.inr ⟨rfl, f.1, rfl⟩) pf_2_1 q_arr dX2_init_15 ?_
  refine V_aload_n g 0 dX2_init_18 rfl ?_
  obtain ⟨s10, es10, hf⟩ := lt_some hf
  obtain ⟨h11, hf⟩ := ckf hf
  refine V_new g 0 es10 rfl q_262 q_263 q_101 (rm_of h11) dX2_init_19 ?_
  refine V_dup g dX2_init_22 rfl ?_
  obtain ⟨s12, hc, hf⟩ := bV_some hf
  refine cIN0 g [] [vR 0 (gN s9 0 + 1), vR 2 a0] s12 cf_X0_init (t_X0_init g.2.2.2.2.2.2.1 hc) (Nat.succ_ne_zero _) (by decide) q_264 (Nat.le_of_ble_eq_true rfl) dX2_init_23 ?_ rfl
  obtain ⟨s13, es13, hf⟩ := lt_some hf
  refine V_putR g 2 a0 2 0 es13 rfl (by decide) rfl rfl q_291 z1 (Or.inr ⟨rfl, f.1, rfl⟩) pf_2_2 q_obj dX2_init_26 ?_
  refine V_aload_n g 0 dX2_init_29 rfl ?_
  refine V_iconst (v := 4) g dX2_init_30 (by decide) ?_
  obtain ⟨s14, es14, hf⟩ := lt_some hf
  refine V_putI g 2 a0 4 es14 rfl (by decide) rfl q_298 z1 (Or.inl rfl) pf_2_4 dX2_init_31 ?_
  refine V_aload_n g 0 dX2_init_34 rfl ?_
  obtain ⟨s15, hc, hf⟩ := bV_some hf
  refine cV0 g [] [] s15 cf_X2_takeFirstTiers (t_X2_takeFirstTiers g.2.2.2.2.2.2.1 hc) (RC_own g rfl z1) z1 (by decide) q_278 (Nat.le_of_ble_eq_true rfl) dX2_init_35 ?_ rfl
  cases hf
  exact V_return g f dX2_init_38
set_option maxRecDepth 20000 in
theorem t_X3_init {G : GT} {l : Launch} (hl : l.stackTraces = false) {fu : Nat} {s s' : St} {a0 : Nat} {a1 : Nat} (hf : f_X3_init fu s a0 a1 = some s') : MetG G l yX3_init (.code yX3_init cX3_init 2 none) 1 s [vR 3 a0, vR 7 a1] (s', .inl none) := by
  refine MetG_of hl (by decide +kernel) (Nat.le_of_ble_eq_true rfl) (fun E g f eG eL => ?_)
  subst eG; subst eL
  have g : GX E "ThinSeries$PlanReader" cX3_init 2 1 := g
  have f : FX E "<init>" none [] := f
  show V E 2 (QE E (s', .inl none)) s 0 [(0, vR 3 a0), (1, vR 7 a1)] []
  unfold f_X3_init at hf
  refine V_aload_n g 0 dX3_init_0 rfl ?_
  obtain ⟨z1, hf⟩ := nz_some hf
  refine V_objInit g (by decide) z1 q_172 q_123 q_124 (Nat.le_of_ble_eq_true rfl) dX3_init_1 ?_
  refine V_aload_n g 0 dX3_init_4 rfl ?_
  refine V_aload_n g 1 dX3_init_5 rfl ?_
  obtain ⟨s2, es2, hf⟩ := lt_some hf
  refine V_putR g 3 a0 0 7 es2 rfl (by decide) rfl rfl q_173 z1 (Or.inr ⟨rfl, f.1, rfl⟩) pf_3_0 q_obj dX3_init_6 ?_
  cases hf
  exact V_return g f dX3_init_9
set_option maxRecDepth 20000 in
theorem t_X4_init {G : GT} {l : Launch} (hl : l.stackTraces = false) {fu : Nat} {s s' : St} {a0 : Nat} (hf : f_X4_init fu s a0 = some s') : MetG G l yX4_init (.code yX4_init cX4_init 1 none) 1 s [vR 4 a0] (s', .inl none) := by
  refine MetG_of hl (by decide +kernel) (Nat.le_of_ble_eq_true rfl) (fun E g f eG eL => ?_)
  subst eG; subst eL
  have g : GX E "ThinSeries$Roster" cX4_init 1 1 := g
  have f : FX E "<init>" none [] := f
  show V E 1 (QE E (s', .inl none)) s 0 [(0, vR 4 a0)] []
  unfold f_X4_init at hf
  refine V_aload_n g 0 dX4_init_0 rfl ?_
  obtain ⟨z1, hf⟩ := nz_some hf
  refine V_objInit g (by decide) z1 q_213 q_123 q_124 (Nat.le_of_ble_eq_true rfl) dX4_init_1 ?_
  refine V_aload_n g 0 dX4_init_4 rfl ?_
  refine V_bipush (v := 10) g dX4_init_5 (by decide) ?_
  obtain ⟨h2, hf⟩ := ckf hf
  obtain ⟨s3, es3, hf⟩ := lt_some hf
  obtain ⟨h4, hf⟩ := ckf hf
  refine V_new10 g es3 q_207 h2 (rm_of h4) dX4_init_7 ?_
  obtain ⟨s5, es5, hf⟩ := lt_some hf
  refine V_putR g 4 a0 0 10 es5 rfl (by decide) rfl rfl q_214 z1 (Or.inr ⟨rfl, f.1, rfl⟩) pf_4_0 q_arr dX4_init_9 ?_
  refine V_aload_n g 0 dX4_init_12 rfl ?_
  refine V_bipush (v := 10) g dX4_init_13 (by decide) ?_
  obtain ⟨h6, hf⟩ := ckf hf
  obtain ⟨s7, es7, hf⟩ := lt_some hf
  obtain ⟨h8, hf⟩ := ckf hf
  refine V_new10 g es7 q_207 h6 (rm_of h8) dX4_init_15 ?_
  obtain ⟨s9, es9, hf⟩ := lt_some hf
  refine V_putR g 4 a0 1 10 es9 rfl (by decide) rfl rfl q_216 z1 (Or.inr ⟨rfl, f.1, rfl⟩) pf_4_1 q_arr dX4_init_17 ?_
  refine V_aload_n g 0 dX4_init_20 rfl ?_
  refine V_iconst (v := 0) g dX4_init_21 (by decide) ?_
  obtain ⟨s10, es10, hf⟩ := lt_some hf
  refine V_putI g 4 a0 2 es10 rfl (by decide) rfl q_218 z1 (Or.inl rfl) pf_4_2 dX4_init_22 ?_
  cases hf
  exact V_return g f dX4_init_25
set_option maxRecDepth 20000 in
theorem t_X6_init {G : GT} {l : Launch} (hl : l.stackTraces = false) {fu : Nat} {s s' : St} {a0 : Nat} (hf : f_X6_init fu s a0 = some s') : MetG G l yX6_init (.code yX6_init cX6_init 1 none) 1 s [vR 6 a0] (s', .inl none) := by
  refine MetG_of hl (by decide +kernel) (Nat.le_of_ble_eq_true rfl) (fun E g f eG eL => ?_)
  subst eG; subst eL
  have g : GX E "ThinSeries$Tally" cX6_init 1 1 := g
  have f : FX E "<init>" none [] := f
  show V E 1 (QE E (s', .inl none)) s 0 [(0, vR 6 a0)] []
  unfold f_X6_init at hf
  refine V_aload_n g 0 dX6_init_0 rfl ?_
  obtain ⟨z1, hf⟩ := nz_some hf
  refine V_objInit g (by decide) z1 q_234 q_123 q_124 (Nat.le_of_ble_eq_true rfl) dX6_init_1 ?_
  refine V_aload_n g 0 dX6_init_4 rfl ?_
  refine V_iconst (v := 0) g dX6_init_5 (by decide) ?_
  obtain ⟨s2, es2, hf⟩ := lt_some hf
  refine V_putI g 6 a0 0 es2 rfl (by decide) rfl q_235 z1 (Or.inl rfl) pf_6_0 dX6_init_6 ?_
  refine V_aload_n g 0 dX6_init_9 rfl ?_
  refine V_iconst (v := 0) g dX6_init_10 (by decide) ?_
  obtain ⟨s3, es3, hf⟩ := lt_some hf
  refine V_putI g 6 a0 1 es3 rfl (by decide) rfl q_237 z1 (Or.inl rfl) pf_6_1 dX6_init_11 ?_
  refine V_aload_n g 0 dX6_init_14 rfl ?_
  refine V_lconst (v := 0) g dX6_init_15 (by decide) ?_
  obtain ⟨s4, es4, hf⟩ := lt_some hf
  refine V_putJ g 6 a0 2 es4 rfl (by decide) rfl q_239 z1 (Or.inl rfl) pf_6_2 dX6_init_16 ?_
  refine V_aload_n g 0 dX6_init_19 rfl ?_
  refine V_sipush (v := (-20000)) g dX6_init_20 (by decide) ?_
  obtain ⟨s5, es5, hf⟩ := lt_some hf
  refine V_putI g 6 a0 3 es5 rfl (by decide) rfl q_241 z1 (Or.inl rfl) pf_6_3 dX6_init_23 ?_
  refine V_aload_n g 0 dX6_init_26 rfl ?_
  refine V_sipush (v := (-20000)) g dX6_init_27 (by decide) ?_
  obtain ⟨s6, es6, hf⟩ := lt_some hf
  refine V_putI g 6 a0 4 es6 rfl (by decide) rfl q_243 z1 (Or.inl rfl) pf_6_4 dX6_init_30 ?_
  cases hf
  exact V_return g f dX6_init_33
set_option maxRecDepth 20000 in
theorem t_X7_init {G : GT} {l : Launch} (hl : l.stackTraces = false) {fu : Nat} {s s' : St} {a0 : Nat} {a1 : Nat} (hf : f_X7_init fu s a0 a1 = some s') : MetG G l yX7_init (.code yX7_init cX7_init 2 none) 1 s [vR 7 a0, vR 12 a1] (s', .inl none) := by
  refine MetG_of hl (by decide +kernel) (Nat.le_of_ble_eq_true rfl) (fun E g f eG eL => ?_)
  subst eG; subst eL
  have g : GX E "ThinSeries$Tokens" cX7_init 2 1 := g
  have f : FX E "<init>" none [] := f
  show V E 2 (QE E (s', .inl none)) s 0 [(0, vR 7 a0), (1, vR 12 a1)] []
  unfold f_X7_init at hf
  refine V_aload_n g 0 dX7_init_0 rfl ?_
  obtain ⟨z1, hf⟩ := nz_some hf
  refine V_objInit g (by decide) z1 q_130 q_123 q_124 (Nat.le_of_ble_eq_true rfl) dX7_init_1 ?_
  refine V_aload_n g 0 dX7_init_4 rfl ?_
  refine V_iconst (v := 0) g dX7_init_5 (by decide) ?_
  obtain ⟨s2, es2, hf⟩ := lt_some hf
  refine V_putI g 7 a0 1 es2 rfl (by decide) rfl q_132 z1 (Or.inl rfl) pf_7_1 dX7_init_6 ?_
  refine V_aload_n g 0 dX7_init_9 rfl ?_
  refine V_iconst (v := 0) g dX7_init_10 (by decide) ?_
  obtain ⟨s3, es3, hf⟩ := lt_some hf
  refine V_putI g 7 a0 2 es3 rfl (by decide) rfl q_133 z1 (Or.inl rfl) pf_7_2 dX7_init_11 ?_
  refine V_aload_n g 0 dX7_init_14 rfl ?_
  refine V_iconst (v := 0) g dX7_init_15 (by decide) ?_
  obtain ⟨s4, es4, hf⟩ := lt_some hf
  refine V_putI g 7 a0 3 es4 rfl (by decide) rfl q_134 z1 (Or.inl rfl) pf_7_3 dX7_init_16 ?_
  refine V_aload_n g 0 dX7_init_19 rfl ?_
  refine V_iconst (v := 0) g dX7_init_20 (by decide) ?_
  obtain ⟨s5, es5, hf⟩ := lt_some hf
  refine V_putI g 7 a0 4 es5 rfl (by decide) rfl q_135 z1 (Or.inl rfl) pf_7_4 dX7_init_21 ?_
  refine V_aload_n g 0 dX7_init_24 rfl ?_
  refine V_iconst (v := 0) g dX7_init_25 (by decide) ?_
  obtain ⟨s6, es6, hf⟩ := lt_some hf
  refine V_putI g 7 a0 5 es6 rfl (by decide) rfl q_138 z1 (Or.inl rfl) pf_7_5 dX7_init_26 ?_
  refine V_aload_n g 0 dX7_init_29 rfl ?_
  refine V_iconst (v := 0) g dX7_init_30 (by decide) ?_
  obtain ⟨s7, es7, hf⟩ := lt_some hf
  refine V_putI g 7 a0 6 es7 rfl (by decide) rfl q_140 z1 (Or.inl rfl) pf_7_6 dX7_init_31 ?_
  refine V_aload_n g 0 dX7_init_34 rfl ?_
  refine V_iconst (v := 0) g dX7_init_35 (by decide) ?_
  obtain ⟨s8, es8, hf⟩ := lt_some hf
  refine V_putI g 7 a0 7 es8 rfl (by decide) rfl q_143 z1 (Or.inl rfl) pf_7_7 dX7_init_36 ?_
  refine V_aload_n g 0 dX7_init_39 rfl ?_
  refine V_iconst (v := (-1)) g dX7_init_40 (by decide) ?_
  obtain ⟨s9, es9, hf⟩ := lt_some hf
  refine V_putI g 7 a0 8 es9 rfl (by decide) rfl q_145 z1 (Or.inl rfl) pf_7_8 dX7_init_41 ?_
  refine V_aload_n g 0 dX7_init_44 rfl ?_
  refine V_aload_n g 1 dX7_init_45 rfl ?_
  obtain ⟨s10, es10, hf⟩ := lt_some hf
  refine V_putR g 7 a0 0 12 es10 rfl (by decide) rfl rfl q_131 z1 (Or.inr ⟨rfl, f.1, rfl⟩) pf_7_0 q_arr dX7_init_46 ?_
  cases hf
  exact V_return g f dX7_init_49
set_option maxRecDepth 20000 in
theorem t_X8_init {G : GT} {l : Launch} (hl : l.stackTraces = false) {fu : Nat} {s s' : St} {a0 : Nat} (hf : f_X8_init fu s a0 = some s') : MetG G l yX8_init (.code yX8_init cX8_init 1 none) 3 s [vR 8 a0] (s', .inl none) := by
  refine MetG_of hl (by decide +kernel) (Nat.le_of_ble_eq_true rfl) (fun E g f eG eL => ?_)
  subst eG; subst eL
  have g : GX E "ThinSeries" cX8_init 1 3 := g
  have f : FX E "<init>" none [] := f
  show V E 1 (QE E (s', .inl none)) s 0 [(0, vR 8 a0)] []
  unfold f_X8_init at hf
  refine V_aload_n g 0 dX8_init_0 rfl ?_
  obtain ⟨z1, hf⟩ := nz_some hf
  refine V_objInit g (by decide) z1 q_122 q_123 q_124 (Nat.le_of_ble_eq_true rfl) dX8_init_1 ?_
  refine V_aload_n g 0 dX8_init_4 rfl ?_
  refine V_sipush (v := 600) g dX8_init_5 (by decide) ?_
  obtain ⟨h2, hf⟩ := ckf hf
  obtain ⟨s3, es3, hf⟩ := lt_some hf
  obtain ⟨h4, hf⟩ := ckf hf
  refine V_new12 g es3 q_166 h2 (rm_of h4) dX8_init_8 ?_
  obtain ⟨s5, es5, hf⟩ := lt_some hf
  refine V_putR g 8 a0 0 12 es5 rfl (by decide) rfl rfl q_312 z1 (Or.inr ⟨rfl, f.1, rfl⟩) pf_8_0 q_arr dX8_init_10 ?_
  refine V_aload_n g 0 dX8_init_13 rfl ?_
  obtain ⟨s6, es6, hf⟩ := lt_some hf
  obtain ⟨h7, hf⟩ := ckf hf
  refine V_new g 7 es6 rfl q_125 q_126 q_95 (rm_of h7) dX8_init_14 ?_
  refine V_dup g dX8_init_17 rfl ?_
  refine V_aload_n g 0 dX8_init_18 rfl ?_
  refine V_getR g 8 a0 0 12 rfl (by decide) rfl rfl q_312 z1 dX8_init_19 ?_
  obtain ⟨s8, hc, hf⟩ := bV_some hf
  refine cI0 g [vR 12 (gR s6 8 a0 0)] [vR 7 (gN s5 7 + 1), vR 8 a0] s8 cf_X7_init (t_X7_init g.2.2.2.2.2.2.1 hc) (Nat.succ_ne_zero _) (by decide) q_127 (Nat.le_of_ble_eq_true rfl) dX8_init_22 ?_ rfl
  obtain ⟨s9, es9, hf⟩ := lt_some hf
  refine V_putR g 8 a0 1 7 es9 rfl (by decide) rfl rfl q_313 z1 (Or.inr ⟨rfl, f.1, rfl⟩) pf_8_1 q_obj dX8_init_25 ?_
  refine V_aload_n g 0 dX8_init_28 rfl ?_
  obtain ⟨s10, es10, hf⟩ := lt_some hf
  obtain ⟨h11, hf⟩ := ckf hf
  refine V_new g 3 es10 rfl q_167 q_168 q_96 (rm_of h11) dX8_init_29 ?_
  refine V_dup g dX8_init_32 rfl ?_
  refine V_aload_n g 0 dX8_init_33 rfl ?_
  refine V_getR g 8 a0 1 7 rfl (by decide) rfl rfl q_313 z1 dX8_init_34 ?_
  obtain ⟨s12, hc, hf⟩ := bV_some hf
  refine cI0 g [vR 7 (gR s10 8 a0 1)] [vR 3 (gN s9 3 + 1), vR 8 a0] s12 cf_X3_init (t_X3_init g.2.2.2.2.2.2.1 hc) (Nat.succ_ne_zero _) (by decide) q_169 (Nat.le_of_ble_eq_true rfl) dX8_init_37 ?_ rfl
  obtain ⟨s13, es13, hf⟩ := lt_some hf
  refine V_putR g 8 a0 2 3 es13 rfl (by decide) rfl rfl q_314 z1 (Or.inr ⟨rfl, f.1, rfl⟩) pf_8_2 q_obj dX8_init_40 ?_
  refine V_aload_n g 0 dX8_init_43 rfl ?_
  obtain ⟨s14, es14, hf⟩ := lt_some hf
  obtain ⟨h15, hf⟩ := ckf hf
  refine V_new g 1 es14 rfl q_177 q_178 q_97 (rm_of h15) dX8_init_44 ?_
  refine V_dup g dX8_init_47 rfl ?_
  refine V_aload_n g 0 dX8_init_48 rfl ?_
  refine V_getR g 8 a0 1 7 rfl (by decide) rfl rfl q_313 z1 dX8_init_49 ?_
  obtain ⟨s16, hc, hf⟩ := bV_some hf
  refine cI0 g [vR 7 (gR s14 8 a0 1)] [vR 1 (gN s13 1 + 1), vR 8 a0] s16 cf_X1_init (t_X1_init g.2.2.2.2.2.2.1 hc) (Nat.succ_ne_zero _) (by decide) q_179 (Nat.le_of_ble_eq_true rfl) dX8_init_52 ?_ rfl
  obtain ⟨s17, es17, hf⟩ := lt_some hf
  refine V_putR g 8 a0 3 1 es17 rfl (by decide) rfl rfl q_315 z1 (Or.inr ⟨rfl, f.1, rfl⟩) pf_8_3 q_obj dX8_init_55 ?_
  refine V_aload_n g 0 dX8_init_58 rfl ?_
  obtain ⟨s18, es18, hf⟩ := lt_some hf
  obtain ⟨h19, hf⟩ := ckf hf
  refine V_new g 4 es18 rfl q_208 q_209 q_98 (rm_of h19) dX8_init_59 ?_
  refine V_dup g dX8_init_62 rfl ?_
  obtain ⟨s20, hc, hf⟩ := bV_some hf
  refine cIN0 g [] [vR 4 (gN s17 4 + 1), vR 8 a0] s20 cf_X4_init (t_X4_init g.2.2.2.2.2.2.1 hc) (Nat.succ_ne_zero _) (by decide) q_210 (Nat.le_of_ble_eq_true rfl) dX8_init_63 ?_ rfl
  obtain ⟨s21, es21, hf⟩ := lt_some hf
  refine V_putR g 8 a0 4 4 es21 rfl (by decide) rfl rfl q_316 z1 (Or.inr ⟨rfl, f.1, rfl⟩) pf_8_4 q_obj dX8_init_66 ?_
  refine V_aload_n g 0 dX8_init_69 rfl ?_
  obtain ⟨s22, es22, hf⟩ := lt_some hf
  obtain ⟨h23, hf⟩ := ckf hf
  refine V_new g 4 es22 rfl q_208 q_209 q_98 (rm_of h23) dX8_init_70 ?_
  refine V_dup g dX8_init_73 rfl ?_
  obtain ⟨s24, hc, hf⟩ := bV_some hf
  refine cIN0 g [] [vR 4 (gN s21 4 + 1), vR 8 a0] s24 cf_X4_init (t_X4_init g.2.2.2.2.2.2.1 hc) (Nat.succ_ne_zero _) (by decide) q_210 (Nat.le_of_ble_eq_true rfl) dX8_init_74 ?_ rfl
  obtain ⟨s25, es25, hf⟩ := lt_some hf
  refine V_putR g 8 a0 5 4 es25 rfl (by decide) rfl rfl q_317 z1 (Or.inr ⟨rfl, f.1, rfl⟩) pf_8_5 q_obj dX8_init_77 ?_
  refine V_aload_n g 0 dX8_init_80 rfl ?_
  refine V_bipush (v := 10) g dX8_init_81 (by decide) ?_
  obtain ⟨h26, hf⟩ := ckf hf
  obtain ⟨s27, es27, hf⟩ := lt_some hf
  obtain ⟨h28, hf⟩ := ckf hf
  refine V_newqC g 14 es27 (Or.inl rfl) q_227 q_228 rfl h26 (rm_of h28) dX8_init_83 ?_
  obtain ⟨s29, es29, hf⟩ := lt_some hf
  refine V_putR g 8 a0 6 14 es29 rfl (by decide) rfl rfl q_318 z1 (Or.inr ⟨rfl, f.1, rfl⟩) pf_8_6 q_arr dX8_init_86 ?_
  refine V_aload_n g 0 dX8_init_89 rfl ?_
  obtain ⟨s30, es30, hf⟩ := lt_some hf
  obtain ⟨h31, hf⟩ := ckf hf
  refine V_new g 6 es30 rfl q_229 q_230 q_99 (rm_of h31) dX8_init_90 ?_
  refine V_dup g dX8_init_93 rfl ?_
  obtain ⟨s32, hc, hf⟩ := bV_some hf
  refine cIN0 g [] [vR 6 (gN s29 6 + 1), vR 8 a0] s32 cf_X6_init (t_X6_init g.2.2.2.2.2.2.1 hc) (Nat.succ_ne_zero _) (by decide) q_231 (Nat.le_of_ble_eq_true rfl) dX8_init_94 ?_ rfl
  obtain ⟨s33, es33, hf⟩ := lt_some hf
  refine V_putR g 8 a0 7 6 es33 rfl (by decide) rfl rfl q_319 z1 (Or.inr ⟨rfl, f.1, rfl⟩) pf_8_7 q_obj dX8_init_97 ?_
  refine V_aload_n g 0 dX8_init_100 rfl ?_
  obtain ⟨s34, es34, hf⟩ := lt_some hf
  obtain ⟨h35, hf⟩ := ckf hf
  refine V_new g 6 es34 rfl q_229 q_230 q_99 (rm_of h35) dX8_init_101 ?_
  refine V_dup g dX8_init_104 rfl ?_
  obtain ⟨s36, hc, hf⟩ := bV_some hf
  refine cIN0 g [] [vR 6 (gN s33 6 + 1), vR 8 a0] s36 cf_X6_init (t_X6_init g.2.2.2.2.2.2.1 hc) (Nat.succ_ne_zero _) (by decide) q_231 (Nat.le_of_ble_eq_true rfl) dX8_init_105 ?_ rfl
  obtain ⟨s37, es37, hf⟩ := lt_some hf
  refine V_putR g 8 a0 8 6 es37 rfl (by decide) rfl rfl q_320 z1 (Or.inr ⟨rfl, f.1, rfl⟩) pf_8_8 q_obj dX8_init_108 ?_
  refine V_aload_n g 0 dX8_init_111 rfl ?_
  refine V_iconst (v := 4) g dX8_init_112 (by decide) ?_
  obtain ⟨h38, hf⟩ := ckf hf
  obtain ⟨s39, es39, hf⟩ := lt_some hf
  obtain ⟨h40, hf⟩ := ckf hf
  refine V_new10 g es39 q_207 h38 (rm_of h40) dX8_init_113 ?_
  obtain ⟨s41, es41, hf⟩ := lt_some hf
  refine V_putR g 8 a0 9 10 es41 rfl (by decide) rfl rfl q_321 z1 (Or.inr ⟨rfl, f.1, rfl⟩) pf_8_9 q_arr dX8_init_115 ?_
  refine V_aload_n g 0 dX8_init_118 rfl ?_
  refine V_iconst (v := 4) g dX8_init_119 (by decide) ?_
  obtain ⟨h42, hf⟩ := ckf hf
  obtain ⟨s43, es43, hf⟩ := lt_some hf
  obtain ⟨h44, hf⟩ := ckf hf
  refine V_new10 g es43 q_207 h42 (rm_of h44) dX8_init_120 ?_
  obtain ⟨s45, es45, hf⟩ := lt_some hf
  refine V_putR g 8 a0 10 10 es45 rfl (by decide) rfl rfl q_322 z1 (Or.inr ⟨rfl, f.1, rfl⟩) pf_8_10 q_arr dX8_init_122 ?_
  refine V_aload_n g 0 dX8_init_125 rfl ?_
  refine V_iconst (v := 4) g dX8_init_126 (by decide) ?_
  obtain ⟨h46, hf⟩ := ckf hf
  obtain ⟨s47, es47, hf⟩ := lt_some hf
  obtain ⟨h48, hf⟩ := ckf hf
  refine V_new10 g es47 q_207 h46 (rm_of h48) dX8_init_127 ?_
  refine V_dup g dX8_init_129 rfl ?_
  refine V_iconst (v := 0) g dX8_init_130 (by decide) ?_
  refine V_iconst (v := 0) g dX8_init_131 (by decide) ?_
  obtain ⟨h49, hf⟩ := ckf hf
  obtain ⟨s50, es50, hf⟩ := lt_some hf
  refine V_iast g es50 (Nat.succ_ne_zero _) h49 dX8_init_132 ?_
  refine V_dup g dX8_init_133 rfl ?_
  refine V_iconst (v := 1) g dX8_init_134 (by decide) ?_
  refine V_iconst (v := 0) g dX8_init_135 (by decide) ?_
  obtain ⟨h51, hf⟩ := ckf hf
  obtain ⟨s52, es52, hf⟩ := lt_some hf
  refine V_iast g es52 (Nat.succ_ne_zero _) h51 dX8_init_136 ?_
  refine V_dup g dX8_init_137 rfl ?_
  refine V_iconst (v := 2) g dX8_init_138 (by decide) ?_
  refine V_iconst (v := (-1)) g dX8_init_139 (by decide) ?_
  obtain ⟨h53, hf⟩ := ckf hf
  obtain ⟨s54, es54, hf⟩ := lt_some hf
  refine V_iast g es54 (Nat.succ_ne_zero _) h53 dX8_init_140 ?_
  refine V_dup g dX8_init_141 rfl ?_
  refine V_iconst (v := 3) g dX8_init_142 (by decide) ?_
  refine V_iconst (v := (-1)) g dX8_init_143 (by decide) ?_
  obtain ⟨h55, hf⟩ := ckf hf
  obtain ⟨s56, es56, hf⟩ := lt_some hf
  refine V_iast g es56 (Nat.succ_ne_zero _) h55 dX8_init_144 ?_
  obtain ⟨s57, es57, hf⟩ := lt_some hf
  refine V_putR g 8 a0 11 10 es57 rfl (by decide) rfl rfl q_323 z1 (Or.inr ⟨rfl, f.1, rfl⟩) pf_8_11 q_arr dX8_init_145 ?_
  refine V_aload_n g 0 dX8_init_148 rfl ?_
  obtain ⟨s58, es58, hf⟩ := lt_some hf
  obtain ⟨h59, hf⟩ := ckf hf
  refine V_new g 2 es58 rfl q_256 q_257 q_100 (rm_of h59) dX8_init_149 ?_
  refine V_dup g dX8_init_152 rfl ?_
  obtain ⟨s60, hc, hf⟩ := bV_some hf
  refine cI0 g [] [vR 2 (gN s57 2 + 1), vR 8 a0] s60 cf_X2_init (t_X2_init g.2.2.2.2.2.2.1 hc) (Nat.succ_ne_zero _) (by decide) q_258 (Nat.le_of_ble_eq_true rfl) dX8_init_153 ?_ rfl
  obtain ⟨s61, es61, hf⟩ := lt_some hf
  refine V_putR g 8 a0 12 2 es61 rfl (by decide) rfl rfl q_324 z1 (Or.inl rfl) pf_8_12 q_obj dX8_init_156 ?_
  refine V_aload_n g 0 dX8_init_159 rfl ?_
  obtain ⟨s62, es62, hf⟩ := lt_some hf
  obtain ⟨h63, hf⟩ := ckf hf
  refine V_new g 2 es62 rfl q_256 q_257 q_100 (rm_of h63) dX8_init_160 ?_
  refine V_dup g dX8_init_163 rfl ?_
  obtain ⟨s64, hc, hf⟩ := bV_some hf
  refine cI0 g [] [vR 2 (gN s61 2 + 1), vR 8 a0] s64 cf_X2_init (t_X2_init g.2.2.2.2.2.2.1 hc) (Nat.succ_ne_zero _) (by decide) q_258 (Nat.le_of_ble_eq_true rfl) dX8_init_164 ?_ rfl
  obtain ⟨s65, es65, hf⟩ := lt_some hf
  refine V_putR g 8 a0 13 2 es65 rfl (by decide) rfl rfl q_325 z1 (Or.inl rfl) pf_8_13 q_obj dX8_init_167 ?_
  refine V_aload_n g 0 dX8_init_170 rfl ?_
  refine V_iconst (v := 0) g dX8_init_171 (by decide) ?_
  obtain ⟨s66, es66, hf⟩ := lt_some hf
  refine V_putI g 8 a0 14 es66 rfl (by decide) rfl q_326 z1 (Or.inl rfl) pf_8_14 dX8_init_172 ?_
  refine V_aload_n g 0 dX8_init_175 rfl ?_
  refine V_iconst (v := (-1)) g dX8_init_176 (by decide) ?_
  obtain ⟨s67, es67, hf⟩ := lt_some hf
  refine V_putI g 8 a0 15 es67 rfl (by decide) rfl q_327 z1 (Or.inl rfl) pf_8_15 dX8_init_177 ?_
  refine V_aload_n g 0 dX8_init_180 rfl ?_
  refine V_iconst (v := 0) g dX8_init_181 (by decide) ?_
  obtain ⟨s68, es68, hf⟩ := lt_some hf
  refine V_putI g 8 a0 16 es68 rfl (by decide) rfl q_328 z1 (Or.inl rfl) pf_8_16 dX8_init_182 ?_
  refine V_aload_n g 0 dX8_init_185 rfl ?_
  refine V_iconst (v := 0) g dX8_init_186 (by decide) ?_
  obtain ⟨s69, es69, hf⟩ := lt_some hf
  refine V_putI g 8 a0 17 es69 rfl (by decide) rfl q_329 z1 (Or.inl rfl) pf_8_17 dX8_init_187 ?_
  refine V_aload_n g 0 dX8_init_190 rfl ?_
  refine V_iconst (v := 0) g dX8_init_191 (by decide) ?_
  obtain ⟨s70, es70, hf⟩ := lt_some hf
  refine V_putI g 8 a0 18 es70 rfl (by decide) rfl q_330 z1 (Or.inl rfl) pf_8_18 dX8_init_192 ?_
  cases hf
  exact V_return g f dX8_init_195
set_option maxRecDepth 20000 in
theorem t_X8_explain {G : GT} {l : Launch} (hl : l.stackTraces = false) {fu : Nat} {s s' : St} {a0 : Nat} {a1 : Int32} {a2 : Int32} {a3 : Int32} {a4 : Int32} (hf : f_X8_explain fu s a0 a1 a2 a3 a4 = some s') : MetG G l yX8_explain (.code yX8_explain cX8_explain 5 none) 0 s [vR 8 a0, vI a1, vI a2, vI a3, vI a4] (s', .inl none) := by
  refine MetG_of hl (by decide +kernel) (Nat.le_of_ble_eq_true rfl) (fun E g f eG eL => ?_)
  subst eG; subst eL
  have g : GX E "ThinSeries" cX8_explain 5 0 := g
  have f : FX E "explain" none [] := f
  show V E 5 (QE E (s', .inl none)) s 0 [(0, vR 8 a0), (1, vI a1), (2, vI a2), (3, vI a3), (4, vI a4)] []
  unfold f_X8_explain at hf
  refine V_aload_n g 0 dX8_explain_0 rfl ?_
  obtain ⟨z1, hf⟩ := nz_some hf
  refine V_getR g 8 a0 11 10 rfl (by decide) rfl rfl q_323 z1 dX8_explain_1 ?_
  refine V_iconst (v := 0) g dX8_explain_4 (by decide) ?_
  refine V_iload_n g 1 dX8_explain_5 rfl ?_
  obtain ⟨z2, hf⟩ := nz_some hf
  obtain ⟨h3, hf⟩ := ckf hf
  obtain ⟨s4, es4, hf⟩ := lt_some hf
  refine V_iast g es4 z2 h3 dX8_explain_6 ?_
  refine V_aload_n g 0 dX8_explain_7 rfl ?_
  refine V_getR g 8 a0 11 10 rfl (by decide) rfl rfl q_323 z1 dX8_explain_8 ?_
  refine V_iconst (v := 1) g dX8_explain_11 (by decide) ?_
  refine V_iload_n g 2 dX8_explain_12 rfl ?_
  obtain ⟨z5, hf⟩ := nz_some hf
  obtain ⟨h6, hf⟩ := ckf hf
  obtain ⟨s7, es7, hf⟩ := lt_some hf
  refine V_iast g es7 z5 h6 dX8_explain_13 ?_
  refine V_aload_n g 0 dX8_explain_14 rfl ?_
  refine V_getR g 8 a0 11 10 rfl (by decide) rfl rfl q_323 z1 dX8_explain_15 ?_
  refine V_iconst (v := 2) g dX8_explain_18 (by decide) ?_
  refine V_iload_n g 3 dX8_explain_19 rfl ?_
  obtain ⟨z8, hf⟩ := nz_some hf
  obtain ⟨h9, hf⟩ := ckf hf
  obtain ⟨s10, es10, hf⟩ := lt_some hf
  refine V_iast g es10 z8 h9 dX8_explain_20 ?_
  refine V_aload_n g 0 dX8_explain_21 rfl ?_
  refine V_getR g 8 a0 11 10 rfl (by decide) rfl rfl q_323 z1 dX8_explain_22 ?_
  refine V_iconst (v := 3) g dX8_explain_25 (by decide) ?_
  refine V_iload g 4 dX8_explain_26 rfl ?_
  obtain ⟨z11, hf⟩ := nz_some hf
  obtain ⟨h12, hf⟩ := ckf hf
  obtain ⟨s13, es13, hf⟩ := lt_some hf
  refine V_iast g es13 z11 h12 dX8_explain_28 ?_
  cases hf
  exact V_return g f dX8_explain_29
set_option maxRecDepth 20000 in
theorem t_X8_isId_b15 {E : ET} {fu : Nat} {s' : St} {w' : Int32} (g : GX E "ThinSeries" cX8_isId 1 0) (f : FX E "isId" (some .boolean) []) {s : St} {t0 : Int32} (hf : f_X8_isId_b15 fu s t0 = some (s', w')) : V E 1 (QE E (s', .inl (some (vI w')))) s 15 [] [vI t0] := by
  unfold f_X8_isId_b15 at hf
  obtain ⟨h3, hf⟩ := ckf hf
  cases hf
  exact V_zreturn g f (zb_n h3) dX8_isId_15
set_option maxRecDepth 20000 in
theorem t_X8_isId_b14 {E : ET} {fu : Nat} {s' : St} {w' : Int32} (g : GX E "ThinSeries" cX8_isId 1 0) (f : FX E "isId" (some .boolean) []) {s : St} (hf : f_X8_isId_b14 fu s = some (s', w')) : V E 1 (QE E (s', .inl (some (vI w')))) s 14 [] [] := by
  unfold f_X8_isId_b14 at hf
  refine V_iconst (v := 0) g dX8_isId_14 (by decide) ?_
  exact t_X8_isId_b15 g f hf
set_option maxRecDepth 20000 in
theorem t_X8_isId {G : GT} {l : Launch} (hl : l.stackTraces = false) {fu : Nat} {s s' : St} {a0 : Int32} {w' : Int32} (hf : f_X8_isId fu s a0 = some (s', w')) : MetG G l yX8_isId (.code yX8_isId cX8_isId 1 (some .boolean)) 0 s [vI a0] (s', .inl (some (vI w'))) := by
  refine MetG_of hl (by decide +kernel) (Nat.le_of_ble_eq_true rfl) (fun E g f eG eL => ?_)
  subst eG; subst eL
  have g : GX E "ThinSeries" cX8_isId 1 0 := g
  have f : FX E "isId" (some .boolean) [] := f
  show V E 1 (QE E (s', .inl (some (vI w')))) s 0 [(0, vI a0)] []
  unfold f_X8_isId at hf
  refine V_iload_n g 0 dX8_isId_0 rfl ?_
  refine V_if_lt g 14 dX8_isId_1 (by decide) (fun c1 => ?_) (fun c1 => ?_)
  · have hf := it_t hf c1
    refine V_sub [] [] rfl ?_
    exact t_X8_isId_b14 g f hf
  · have hf := it_f hf c1
    refine V_iload_n g 0 dX8_isId_4 rfl ?_
    refine V_bipush (v := 10) g dX8_isId_5 (by decide) ?_
    refine V_icmp_ge g 14 dX8_isId_7 (by decide) (fun c2 => ?_) (fun c2 => ?_)
    · have hf := it_t hf c2
      refine V_sub [] [] rfl ?_
      exact t_X8_isId_b14 g f hf
    · have hf := it_f hf c2
      refine V_iconst (v := 1) g dX8_isId_10 (by decide) ?_
      refine V_goto g 15 dX8_isId_11 (by decide) ?_
      refine V_sub [] [] rfl ?_
      exact t_X8_isId_b15 g f hf
set_option maxRecDepth 20000 in
theorem t_X5_init {G : GT} {l : Launch} (hl : l.stackTraces = false) {fu : Nat} {s s' : St} {a0 : Nat} {a1 : Nat} (hf : f_X5_init fu s a0 a1 = some s') : MetG G l yX5_init (.code yX5_init cX5_init 2 none) 1 s [vR 5 a0, vR 2 a1] (s', .inl none) := by
  refine MetG_of hl (by decide +kernel) (Nat.le_of_ble_eq_true rfl) (fun E g f eG eL => ?_)
  subst eG; subst eL
  have g : GX E "ThinSeries$Series" cX5_init 2 1 := g
  have f : FX E "<init>" none [] := f
  show V E 2 (QE E (s', .inl none)) s 0 [(0, vR 5 a0), (1, vR 2 a1)] []
  unfold f_X5_init at hf
  refine V_aload_n g 0 dX5_init_0 rfl ?_
  obtain ⟨z1, hf⟩ := nz_some hf
  refine V_objInit g (by decide) z1 q_440 q_123 q_124 (Nat.le_of_ble_eq_true rfl) dX5_init_1 ?_
  refine V_aload_n g 0 dX5_init_4 rfl ?_
  refine V_iconst (v := 4) g dX5_init_5 (by decide) ?_
  obtain ⟨h2, hf⟩ := ckf hf
  obtain ⟨s3, es3, hf⟩ := lt_some hf
  obtain ⟨h4, hf⟩ := ckf hf
  refine V_new10 g es3 q_207 h2 (rm_of h4) dX5_init_6 ?_
  obtain ⟨s5, es5, hf⟩ := lt_some hf
  refine V_putR g 5 a0 1 10 es5 rfl (by decide) rfl rfl q_442 z1 (Or.inr ⟨rfl, f.1, rfl⟩) pf_5_1 q_arr dX5_init_8 ?_
  refine V_aload_n g 0 dX5_init_11 rfl ?_
  refine V_iconst (v := 4) g dX5_init_12 (by decide) ?_
  obtain ⟨h6, hf⟩ := ckf hf
  obtain ⟨s7, es7, hf⟩ := lt_some hf
  obtain ⟨h8, hf⟩ := ckf hf
  refine V_new10 g es7 q_207 h6 (rm_of h8) dX5_init_13 ?_
  obtain ⟨s9, es9, hf⟩ := lt_some hf
  refine V_putR g 5 a0 2 10 es9 rfl (by decide) rfl rfl q_444 z1 (Or.inr ⟨rfl, f.1, rfl⟩) pf_5_2 q_arr dX5_init_15 ?_
  refine V_aload_n g 0 dX5_init_18 rfl ?_
  refine V_bipush (v := 16) g dX5_init_19 (by decide) ?_
  obtain ⟨h10, hf⟩ := ckf hf
  obtain ⟨s11, es11, hf⟩ := lt_some hf
  obtain ⟨h12, hf⟩ := ckf hf
  refine V_new10 g es11 q_207 h10 (rm_of h12) dX5_init_21 ?_
  obtain ⟨s13, es13, hf⟩ := lt_some hf
  refine V_putR g 5 a0 3 10 es13 rfl (by decide) rfl rfl q_445 z1 (Or.inl rfl) pf_5_3 q_arr dX5_init_23 ?_
  refine V_aload_n g 0 dX5_init_26 rfl ?_
  refine V_bipush (v := 16) g dX5_init_27 (by decide) ?_
  obtain ⟨h14, hf⟩ := ckf hf
  obtain ⟨s15, es15, hf⟩ := lt_some hf
  obtain ⟨h16, hf⟩ := ckf hf
  refine V_new10 g es15 q_207 h14 (rm_of h16) dX5_init_29 ?_
  obtain ⟨s17, es17, hf⟩ := lt_some hf
  refine V_putR g 5 a0 4 10 es17 rfl (by decide) rfl rfl q_448 z1 (Or.inl rfl) pf_5_4 q_arr dX5_init_31 ?_
  refine V_aload_n g 0 dX5_init_34 rfl ?_
  refine V_bipush (v := 16) g dX5_init_35 (by decide) ?_
  obtain ⟨h18, hf⟩ := ckf hf
  obtain ⟨s19, es19, hf⟩ := lt_some hf
  obtain ⟨h20, hf⟩ := ckf hf
  refine V_new11 g es19 q_485 h18 (rm_of h20) dX5_init_37 ?_
  obtain ⟨s21, es21, hf⟩ := lt_some hf
  refine V_putR g 5 a0 5 11 es21 rfl (by decide) rfl rfl q_450 z1 (Or.inl rfl) pf_5_5 q_arr dX5_init_39 ?_
  refine V_aload_n g 0 dX5_init_42 rfl ?_
  refine V_bipush (v := 16) g dX5_init_43 (by decide) ?_
  obtain ⟨h22, hf⟩ := ckf hf
  obtain ⟨s23, es23, hf⟩ := lt_some hf
  obtain ⟨h24, hf⟩ := ckf hf
  refine V_new10 g es23 q_207 h22 (rm_of h24) dX5_init_45 ?_
  obtain ⟨s25, es25, hf⟩ := lt_some hf
  refine V_putR g 5 a0 6 10 es25 rfl (by decide) rfl rfl q_452 z1 (Or.inl rfl) pf_5_6 q_arr dX5_init_47 ?_
  refine V_aload_n g 0 dX5_init_50 rfl ?_
  refine V_bipush (v := 16) g dX5_init_51 (by decide) ?_
  obtain ⟨h26, hf⟩ := ckf hf
  obtain ⟨s27, es27, hf⟩ := lt_some hf
  obtain ⟨h28, hf⟩ := ckf hf
  refine V_new10 g es27 q_207 h26 (rm_of h28) dX5_init_53 ?_
  obtain ⟨s29, es29, hf⟩ := lt_some hf
  refine V_putR g 5 a0 7 10 es29 rfl (by decide) rfl rfl q_454 z1 (Or.inl rfl) pf_5_7 q_arr dX5_init_55 ?_
  refine V_aload_n g 0 dX5_init_58 rfl ?_
  refine V_iconst (v := 0) g dX5_init_59 (by decide) ?_
  obtain ⟨s30, es30, hf⟩ := lt_some hf
  refine V_putI g 5 a0 8 es30 rfl (by decide) rfl q_456 z1 (Or.inl rfl) pf_5_8 dX5_init_60 ?_
  refine V_aload_n g 0 dX5_init_63 rfl ?_
  refine V_iconst (v := 0) g dX5_init_64 (by decide) ?_
  obtain ⟨s31, es31, hf⟩ := lt_some hf
  refine V_putI g 5 a0 9 es31 rfl (by decide) rfl q_458 z1 (Or.inl rfl) pf_5_9 dX5_init_65 ?_
  refine V_aload_n g 0 dX5_init_68 rfl ?_
  refine V_iconst (v := 0) g dX5_init_69 (by decide) ?_
  obtain ⟨s32, es32, hf⟩ := lt_some hf
  refine V_putI g 5 a0 10 es32 rfl (by decide) rfl q_460 z1 (Or.inl rfl) pf_5_10 dX5_init_70 ?_
  refine V_aload_n g 0 dX5_init_73 rfl ?_
  refine V_aload_n g 1 dX5_init_74 rfl ?_
  obtain ⟨s33, es33, hf⟩ := lt_some hf
  refine V_putR g 5 a0 0 2 es33 rfl (by decide) rfl rfl q_441 z1 (Or.inl rfl) pf_5_0 q_obj dX5_init_75 ?_
  cases hf
  exact V_return g f dX5_init_78
set_option maxRecDepth 20000 in
theorem t_X8_rowsOf_b26 {E : ET} {fu : Nat} {s' : St} {w' : Nat} (g : GX E "ThinSeries" cX8_rowsOf 2 2) (f : FX E "rowsOf" (some (.object "ThinSeries$Series")) []) {s : St} {l0 : Nat} {l1 : Int32} (hf : f_X8_rowsOf_b26 fu s l0 l1 = some (s', w')) : V E 2 (QE E (s', .inl (some (vR 5 w')))) s 26 [(0, vR 8 l0), (1, vI l1)] [] := by
  unfold f_X8_rowsOf_b26 at hf
  refine V_aload_n g 0 dX8_rowsOf_26 rfl ?_
  obtain ⟨z10, hf⟩ := nz_some hf
  refine V_getR g 8 l0 6 14 rfl (by decide) rfl rfl q_318 z10 dX8_rowsOf_27 ?_
  refine V_iload_n g 1 dX8_rowsOf_30 rfl ?_
  obtain ⟨z11, hf⟩ := nz_some hf
  obtain ⟨h12, hf⟩ := ckf hf
  refine V_sald g z11 h12 dX8_rowsOf_31 ?_
  cases hf
  exact V_areturn g f (Or.inl ⟨_, rfl⟩) dX8_rowsOf_32
set_option maxRecDepth 20000 in
theorem t_X8_rowsOf {G : GT} {l : Launch} (hl : l.stackTraces = false) {fu : Nat} {s s' : St} {a0 : Nat} {a1 : Int32} {w' : Nat} (hf : f_X8_rowsOf fu s a0 a1 = some (s', w')) : MetG G l yX8_rowsOf (.code yX8_rowsOf cX8_rowsOf 2 (some (.object "ThinSeries$Series"))) 2 s [vR 8 a0, vI a1] (s', .inl (some (vR 5 w'))) := by
  refine MetG_of hl (by decide +kernel) (Nat.le_of_ble_eq_true rfl) (fun E g f eG eL => ?_)
  subst eG; subst eL
  have g : GX E "ThinSeries" cX8_rowsOf 2 2 := g
  have f : FX E "rowsOf" (some (.object "ThinSeries$Series")) [] := f
  show V E 2 (QE E (s', .inl (some (vR 5 w')))) s 0 [(0, vR 8 a0), (1, vI a1)] []
  unfold f_X8_rowsOf at hf
  refine V_aload_n g 0 dX8_rowsOf_0 rfl ?_
  obtain ⟨z1, hf⟩ := nz_some hf
  refine V_getR g 8 a0 6 14 rfl (by decide) rfl rfl q_318 z1 dX8_rowsOf_1 ?_
  refine V_iload_n g 1 dX8_rowsOf_4 rfl ?_
  obtain ⟨z2, hf⟩ := nz_some hf
  obtain ⟨h3, hf⟩ := ckf hf
  refine V_sald g z2 h3 dX8_rowsOf_5 ?_
  refine V_ifnonnull g 26 dX8_rowsOf_6 (by decide) (fun c4 => ?_) (fun c4 => ?_)
  · have hf := it_f hf c4
    exact t_X8_rowsOf_b26 g f hf
  · have hf := it_t hf c4
    refine V_aload_n g 0 dX8_rowsOf_9 rfl ?_
    refine V_getR g 8 a0 6 14 rfl (by decide) rfl rfl q_318 z1 dX8_rowsOf_10 ?_
    refine V_iload_n g 1 dX8_rowsOf_13 rfl ?_
    obtain ⟨s5, es5, hf⟩ := lt_some hf
    obtain ⟨h6, hf⟩ := ckf hf
    refine V_new g 5 es5 rfl q_227 q_436 q_113 (rm_of h6) dX8_rowsOf_14 ?_
    refine V_dup g dX8_rowsOf_17 rfl ?_
    refine V_aload_n g 0 dX8_rowsOf_18 rfl ?_
    refine V_getR g 8 a0 12 2 rfl (by decide) rfl rfl q_324 z1 dX8_rowsOf_19 ?_
    obtain ⟨s7, hc, hf⟩ := bV_some hf
    refine cI0 g [vR 2 (gR s5 8 a0 12)] [vR 5 (gN s 5 + 1), vI a1, vR 14 (gR s 8 a0 6)] s7 cf_X5_init (t_X5_init g.2.2.2.2.2.2.1 hc) (Nat.succ_ne_zero _) (by decide) q_437 (Nat.le_of_ble_eq_true rfl) dX8_rowsOf_22 ?_ rfl
    obtain ⟨h8, hf⟩ := ckf hf
    obtain ⟨s9, es9, hf⟩ := lt_some hf
    refine V_sast g es9 z2 (Nat.succ_ne_zero _) h8 dX8_rowsOf_25 ?_
    exact t_X8_rowsOf_b26 g f hf
set_option maxRecDepth 20000 in
theorem t_X6_add_b30 {E : ET} {fu : Nat} {s' : St} (g : GX E "ThinSeries$Tally" cX6_add 3 1) (f : FX E "add" none []) {s : St} {l0 : Nat} {l1 : Nat} {l2 : Int32} {t0 : Int32} {t1 : Nat} (hf : f_X6_add_b30 fu s l0 l1 l2 t0 t1 = some s') : V E 3 (QE E (s', .inl none)) s 30 [(0, vR 6 l0), (1, vR 5 l1), (2, vI l2)] [vI t0, vR 6 t1] := by
  unfold f_X6_add_b30 at hf
  obtain ⟨z11, hf⟩ := nz_some hf
  obtain ⟨s12, es12, hf⟩ := lt_some hf
  refine V_putI g 6 t1 3 es12 rfl (by decide) rfl q_241 z11 (Or.inl rfl) pf_6_3 dX6_add_30 ?_
  refine V_aload_n g 0 dX6_add_33 rfl ?_
  refine V_aload_n g 0 dX6_add_34 rfl ?_
  obtain ⟨z13, hf⟩ := nz_some hf
  refine V_getI g 6 l0 4 rfl (by decide) rfl q_243 z13 dX6_add_35 ?_
  refine V_aload_n g 1 dX6_add_38 rfl ?_
  obtain ⟨z14, hf⟩ := nz_some hf
  refine V_getR g 5 l1 7 10 rfl (by decide) rfl rfl q_455 z14 dX6_add_39 ?_
  refine V_iload_n g 2 dX6_add_42 rfl ?_
  obtain ⟨z15, hf⟩ := nz_some hf
  obtain ⟨h16, hf⟩ := ckf hf
  refine V_iald g z15 h16 dX6_add_43 ?_
  obtain ⟨s17, x18, hc, hf⟩ := bI_some hf
  refine cS1 g [vI (gI s12 6 l0 4), vI (gI s12 10 (gR s12 5 l1 7) (ix l2))] [vR 6 l0] s17 (vI x18) cf_J9_max_7cf53 (t_J9_max_7cf53 g.2.2.2.2.2.2.1 hc) (by decide) q_595 (Nat.le_of_ble_eq_true rfl) dX6_add_44 ?_ rfl
  obtain ⟨s19, es19, hf⟩ := lt_some hf
  refine V_putI g 6 l0 4 es19 rfl (by decide) rfl q_243 z13 (Or.inl rfl) pf_6_4 dX6_add_47 ?_
  refine V_aload_n g 0 dX6_add_50 rfl ?_
  refine V_dup g dX6_add_51 rfl ?_
  refine V_getJ g 6 l0 2 rfl (by decide) rfl q_239 z13 dX6_add_52 ?_
  refine V_aload_n g 1 dX6_add_55 rfl ?_
  refine V_getR g 5 l1 5 11 rfl (by decide) rfl rfl q_451 z14 dX6_add_56 ?_
  refine V_iload_n g 2 dX6_add_59 rfl ?_
  obtain ⟨z20, hf⟩ := nz_some hf
  obtain ⟨h21, hf⟩ := ckf hf
  refine V_lald g z20 h21 dX6_add_60 ?_
  refine V_ladd g dX6_add_61 ?_
  obtain ⟨s22, es22, hf⟩ := lt_some hf
  refine V_putJ g 6 l0 2 es22 rfl (by decide) rfl q_239 z13 (Or.inl rfl) pf_6_2 dX6_add_62 ?_
  refine V_aload_n g 0 dX6_add_65 rfl ?_
  refine V_dup g dX6_add_66 rfl ?_
  refine V_getI g 6 l0 1 rfl (by decide) rfl q_237 z13 dX6_add_67 ?_
  refine V_aload_n g 1 dX6_add_70 rfl ?_
  refine V_getR g 5 l1 4 10 rfl (by decide) rfl rfl q_449 z14 dX6_add_71 ?_
  refine V_iload_n g 2 dX6_add_74 rfl ?_
  obtain ⟨z23, hf⟩ := nz_some hf
  obtain ⟨h24, hf⟩ := ckf hf
  refine V_iald g z23 h24 dX6_add_75 ?_
  refine V_iadd g dX6_add_76 ?_
  obtain ⟨s25, es25, hf⟩ := lt_some hf
  refine V_putI g 6 l0 1 es25 rfl (by decide) rfl q_237 z13 (Or.inl rfl) pf_6_1 dX6_add_77 ?_
  refine V_aload_n g 0 dX6_add_80 rfl ?_
  refine V_dup g dX6_add_81 rfl ?_
  refine V_getI g 6 l0 0 rfl (by decide) rfl q_235 z13 dX6_add_82 ?_
  refine V_iconst (v := 1) g dX6_add_85 (by decide) ?_
  refine V_iadd g dX6_add_86 ?_
  obtain ⟨s26, es26, hf⟩ := lt_some hf
  refine V_putI g 6 l0 0 es26 rfl (by decide) rfl q_235 z13 (Or.inl rfl) pf_6_0 dX6_add_87 ?_
  cases hf
  exact V_return g f dX6_add_90
set_option maxRecDepth 20000 in
theorem t_X6_add {G : GT} {l : Launch} (hl : l.stackTraces = false) {fu : Nat} {s s' : St} {a0 : Nat} {a1 : Nat} {a2 : Int32} (hf : f_X6_add fu s a0 a1 a2 = some s') : MetG G l yX6_add (.code yX6_add cX6_add 3 none) 1 s [vR 6 a0, vR 5 a1, vI a2] (s', .inl none) := by
  refine MetG_of hl (by decide +kernel) (Nat.le_of_ble_eq_true rfl) (fun E g f eG eL => ?_)
  subst eG; subst eL
  have g : GX E "ThinSeries$Tally" cX6_add 3 1 := g
  have f : FX E "add" none [] := f
  show V E 3 (QE E (s', .inl none)) s 0 [(0, vR 6 a0), (1, vR 5 a1), (2, vI a2)] []
  unfold f_X6_add at hf
  refine V_aload_n g 0 dX6_add_0 rfl ?_
  refine V_aload_n g 0 dX6_add_1 rfl ?_
  obtain ⟨z1, hf⟩ := nz_some hf
  refine V_getI g 6 a0 0 rfl (by decide) rfl q_235 z1 dX6_add_2 ?_
  refine V_if_ne g 17 dX6_add_5 (by decide) (fun c2 => ?_) (fun c2 => ?_)
  · have hf := it_f hf c2
    refine V_aload_n g 0 dX6_add_17 rfl ?_
    refine V_getI g 6 a0 3 rfl (by decide) rfl q_241 z1 dX6_add_18 ?_
    refine V_aload_n g 1 dX6_add_21 rfl ?_
    obtain ⟨z3, hf⟩ := nz_some hf
    refine V_getR g 5 a1 6 10 rfl (by decide) rfl rfl q_453 z3 dX6_add_22 ?_
    refine V_iload_n g 2 dX6_add_25 rfl ?_
    obtain ⟨z4, hf⟩ := nz_some hf
    obtain ⟨h5, hf⟩ := ckf hf
    refine V_iald g z4 h5 dX6_add_26 ?_
    obtain ⟨s6, x7, hc, hf⟩ := bI_some hf
    refine cS1 g [vI (gI s 6 a0 3), vI (gI s 10 (gR s 5 a1 6) (ix a2))] [vR 6 a0] s6 (vI x7) cf_J9_min_7cf53 (t_J9_min_7cf53 g.2.2.2.2.2.2.1 hc) (by decide) q_594 (Nat.le_of_ble_eq_true rfl) dX6_add_27 ?_ rfl
    exact t_X6_add_b30 g f hf
  · have hf := it_t hf c2
    refine V_aload_n g 1 dX6_add_8 rfl ?_
    obtain ⟨z8, hf⟩ := nz_some hf
    refine V_getR g 5 a1 6 10 rfl (by decide) rfl rfl q_453 z8 dX6_add_9 ?_
    refine V_iload_n g 2 dX6_add_12 rfl ?_
    obtain ⟨z9, hf⟩ := nz_some hf
    obtain ⟨h10, hf⟩ := ckf hf
    refine V_iald g z9 h10 dX6_add_13 ?_
    refine V_goto g 30 dX6_add_14 (by decide) ?_
    exact t_X6_add_b30 g f hf
set_option maxRecDepth 20000 in
theorem t_X6_clear {G : GT} {l : Launch} (hl : l.stackTraces = false) {fu : Nat} {s s' : St} {a0 : Nat} (hf : f_X6_clear fu s a0 = some s') : MetG G l yX6_clear (.code yX6_clear cX6_clear 1 none) 0 s [vR 6 a0] (s', .inl none) := by
  refine MetG_of hl (by decide +kernel) (Nat.le_of_ble_eq_true rfl) (fun E g f eG eL => ?_)
  subst eG; subst eL
  have g : GX E "ThinSeries$Tally" cX6_clear 1 0 := g
  have f : FX E "clear" none [] := f
  show V E 1 (QE E (s', .inl none)) s 0 [(0, vR 6 a0)] []
  unfold f_X6_clear at hf
  refine V_aload_n g 0 dX6_clear_0 rfl ?_
  refine V_iconst (v := 0) g dX6_clear_1 (by decide) ?_
  obtain ⟨z1, hf⟩ := nz_some hf
  obtain ⟨s2, es2, hf⟩ := lt_some hf
  refine V_putI g 6 a0 0 es2 rfl (by decide) rfl q_235 z1 (Or.inl rfl) pf_6_0 dX6_clear_2 ?_
  refine V_aload_n g 0 dX6_clear_5 rfl ?_
  refine V_iconst (v := 0) g dX6_clear_6 (by decide) ?_
  obtain ⟨s3, es3, hf⟩ := lt_some hf
  refine V_putI g 6 a0 1 es3 rfl (by decide) rfl q_237 z1 (Or.inl rfl) pf_6_1 dX6_clear_7 ?_
  refine V_aload_n g 0 dX6_clear_10 rfl ?_
  refine V_lconst (v := 0) g dX6_clear_11 (by decide) ?_
  obtain ⟨s4, es4, hf⟩ := lt_some hf
  refine V_putJ g 6 a0 2 es4 rfl (by decide) rfl q_239 z1 (Or.inl rfl) pf_6_2 dX6_clear_12 ?_
  refine V_aload_n g 0 dX6_clear_15 rfl ?_
  refine V_sipush (v := (-20000)) g dX6_clear_16 (by decide) ?_
  obtain ⟨s5, es5, hf⟩ := lt_some hf
  refine V_putI g 6 a0 3 es5 rfl (by decide) rfl q_241 z1 (Or.inl rfl) pf_6_3 dX6_clear_19 ?_
  refine V_aload_n g 0 dX6_clear_22 rfl ?_
  refine V_sipush (v := (-20000)) g dX6_clear_23 (by decide) ?_
  obtain ⟨s6, es6, hf⟩ := lt_some hf
  refine V_putI g 6 a0 4 es6 rfl (by decide) rfl q_243 z1 (Or.inl rfl) pf_6_4 dX6_clear_26 ?_
  cases hf
  exact V_return g f dX6_clear_29
set_option maxRecDepth 20000 in
theorem t_X8_tallyAll_b9 {E : ET} {fu : Nat} {s' : St} (g : GX E "ThinSeries" cX8_tallyAll 3 2) (f : FX E "tallyAll" none []) : ∀ (n : Nat) (s : St) (l0 : Nat) (l1 : Nat) (l2 : Int32), f_X8_tallyAll_b9 fu n s l0 l1 l2 = some s' → V E 3 (QE E (s', .inl none)) s 9 [(0, vR 8 l0), (1, vR 5 l1), (2, vI l2)] [] := by
  intro n
  induction n with
  | zero =>
    intro s l0 l1 l2 hf
    unfold f_X8_tallyAll_b9 at hf
    exact nomatch hf
  | succ n ih =>
    intro s l0 l1 l2 hf
    unfold f_X8_tallyAll_b9 at hf
    refine V_iload_n g 2 dX8_tallyAll_9 rfl ?_
    refine V_aload_n g 1 dX8_tallyAll_10 rfl ?_
    obtain ⟨z4, hf⟩ := nz_some hf
    refine V_getI g 5 l1 8 rfl (by decide) rfl q_457 z4 dX8_tallyAll_11 ?_
    refine V_icmp_ge g 32 dX8_tallyAll_14 (by decide) (fun c5 => ?_) (fun c5 => ?_)
    · have hf := it_t hf c5
      cases hf
      exact V_return g f dX8_tallyAll_32
    · have hf := it_f hf c5
      refine V_aload_n g 0 dX8_tallyAll_17 rfl ?_
      obtain ⟨z6, hf⟩ := nz_some hf
      refine V_getR g 8 l0 7 6 rfl (by decide) rfl rfl q_319 z6 dX8_tallyAll_18 ?_
      refine V_aload_n g 1 dX8_tallyAll_21 rfl ?_
      refine V_iload_n g 2 dX8_tallyAll_22 rfl ?_
      obtain ⟨z7, hf⟩ := nz_some hf
      obtain ⟨s8, hc, hf⟩ := bV_some hf
      refine cV0 g [vR 5 l1, vI l2] [] s8 cf_X6_add (t_X6_add g.2.2.2.2.2.2.1 hc) (RC_own g rfl z7) z7 (by decide) q_590 (Nat.le_of_ble_eq_true rfl) dX8_tallyAll_23 ?_ rfl
      obtain ⟨x9, ex9, hf⟩ := lt_some hf
      refine V_iinc g 2 [(2, vI x9), (0, vR 8 l0), (1, vR 5 l1)] dX8_tallyAll_26 rfl (by rw [ex9]; rfl) (by decide) rfl ?_
      refine V_goto g 9 dX8_tallyAll_29 (by decide) ?_
      refine V_sub [(0, vR 8 l0), (1, vR 5 l1), (2, vI x9)] [1, 2, 0] rfl ?_
      exact ih s8 l0 l1 x9 hf
set_option maxRecDepth 20000 in
theorem t_X8_tallyAll {G : GT} {l : Launch} (hl : l.stackTraces = false) {fu : Nat} {s s' : St} {a0 : Nat} {a1 : Nat} (hf : f_X8_tallyAll fu s a0 a1 = some s') : MetG G l yX8_tallyAll (.code yX8_tallyAll cX8_tallyAll 3 none) 2 s [vR 8 a0, vR 5 a1] (s', .inl none) := by
  refine MetG_of hl (by decide +kernel) (Nat.le_of_ble_eq_true rfl) (fun E g f eG eL => ?_)
  subst eG; subst eL
  have g : GX E "ThinSeries" cX8_tallyAll 3 2 := g
  have f : FX E "tallyAll" none [] := f
  show V E 3 (QE E (s', .inl none)) s 0 [(0, vR 8 a0), (1, vR 5 a1)] []
  unfold f_X8_tallyAll at hf
  refine V_aload_n g 0 dX8_tallyAll_0 rfl ?_
  obtain ⟨z1, hf⟩ := nz_some hf
  refine V_getR g 8 a0 7 6 rfl (by decide) rfl rfl q_319 z1 dX8_tallyAll_1 ?_
  obtain ⟨z2, hf⟩ := nz_some hf
  obtain ⟨s3, hc, hf⟩ := bV_some hf
  refine cV0 g [] [] s3 cf_X6_clear (t_X6_clear g.2.2.2.2.2.2.1 hc) (RC_own g rfl z2) z2 (by decide) q_586 (Nat.le_of_ble_eq_true rfl) dX8_tallyAll_4 ?_ rfl
  refine V_iconst (v := 0) g dX8_tallyAll_7 (by decide) ?_
  refine V_istore_n g [(2, vI 0), (0, vR 8 a0), (1, vR 5 a1)] dX8_tallyAll_8 rfl (by decide) rfl ?_
  refine V_sub [(0, vR 8 a0), (1, vR 5 a1), (2, vI 0)] [1, 2, 0] rfl ?_
  exact t_X8_tallyAll_b9 g f _ s3 a0 a1 0 hf
set_option maxRecDepth 20000 in
theorem t_X4_placeOf_b2 {E : ET} {fu : Nat} {s' : St} {w' : Int32} (g : GX E "ThinSeries$Roster" cX4_placeOf 3 0) (f : FX E "placeOf" (some .int) []) : ∀ (n : Nat) (s : St) (l0 : Nat) (l1 : Int32) (l2 : Int32), f_X4_placeOf_b2 fu n s l0 l1 l2 = some (s', w') → V E 3 (QE E (s', .inl (some (vI w')))) s 2 [(0, vR 4 l0), (1, vI l1), (2, vI l2)] [] := by
  intro n
  induction n with
  | zero =>
    intro s l0 l1 l2 hf
    unfold f_X4_placeOf_b2 at hf
    exact nomatch hf
  | succ n ih =>
    intro s l0 l1 l2 hf
    unfold f_X4_placeOf_b2 at hf
    refine V_iload_n g 2 dX4_placeOf_2 rfl ?_
    refine V_aload_n g 0 dX4_placeOf_3 rfl ?_
    obtain ⟨z1, hf⟩ := nz_some hf
    refine V_getI g 4 l0 2 rfl (by decide) rfl q_218 z1 dX4_placeOf_4 ?_
    refine V_icmp_ge g 28 dX4_placeOf_7 (by decide) (fun c2 => ?_) (fun c2 => ?_)
    · have hf := it_t hf c2
      refine V_iconst (v := (-1)) g dX4_placeOf_28 (by decide) ?_
      cases hf
      exact V_ireturn g f dX4_placeOf_29
    · have hf := it_f hf c2
      refine V_aload_n g 0 dX4_placeOf_10 rfl ?_
      refine V_getR g 4 l0 0 10 rfl (by decide) rfl rfl q_214 z1 dX4_placeOf_11 ?_
      refine V_iload_n g 2 dX4_placeOf_14 rfl ?_
      obtain ⟨z3, hf⟩ := nz_some hf
      obtain ⟨h4, hf⟩ := ckf hf
      refine V_iald g z3 h4 dX4_placeOf_15 ?_
      refine V_iload_n g 1 dX4_placeOf_16 rfl ?_
      refine V_icmp_ne g 22 dX4_placeOf_17 (by decide) (fun c5 => ?_) (fun c5 => ?_)
      · have hf := it_f hf c5
        obtain ⟨x6, ex6, hf⟩ := lt_some hf
        refine V_iinc g 2 [(2, vI x6), (0, vR 4 l0), (1, vI l1)] dX4_placeOf_22 rfl (by rw [ex6]; rfl) (by decide) rfl ?_
        refine V_goto g 2 dX4_placeOf_25 (by decide) ?_
        refine V_sub [(0, vR 4 l0), (1, vI l1), (2, vI x6)] [1, 2, 0] rfl ?_
        exact ih s l0 l1 x6 hf
      · have hf := it_t hf c5
        refine V_iload_n g 2 dX4_placeOf_20 rfl ?_
        cases hf
        exact V_ireturn g f dX4_placeOf_21
set_option maxRecDepth 20000 in
theorem t_X4_placeOf {G : GT} {l : Launch} (hl : l.stackTraces = false) {fu : Nat} {s s' : St} {a0 : Nat} {a1 : Int32} {w' : Int32} (hf : f_X4_placeOf fu s a0 a1 = some (s', w')) : MetG G l yX4_placeOf (.code yX4_placeOf cX4_placeOf 3 (some .int)) 0 s [vR 4 a0, vI a1] (s', .inl (some (vI w'))) := by
  refine MetG_of hl (by decide +kernel) (Nat.le_of_ble_eq_true rfl) (fun E g f eG eL => ?_)
  subst eG; subst eL
  have g : GX E "ThinSeries$Roster" cX4_placeOf 3 0 := g
  have f : FX E "placeOf" (some .int) [] := f
  show V E 3 (QE E (s', .inl (some (vI w')))) s 0 [(0, vR 4 a0), (1, vI a1)] []
  unfold f_X4_placeOf at hf
  refine V_iconst (v := 0) g dX4_placeOf_0 (by decide) ?_
  refine V_istore_n g [(2, vI 0), (0, vR 4 a0), (1, vI a1)] dX4_placeOf_1 rfl (by decide) rfl ?_
  refine V_sub [(0, vR 4 a0), (1, vI a1), (2, vI 0)] [1, 2, 0] rfl ?_
  exact t_X4_placeOf_b2 g f _ s a0 a1 0 hf
set_option maxRecDepth 20000 in
theorem t_X4_knows_b14 {E : ET} {fu : Nat} {s' : St} {w' : Int32} (g : GX E "ThinSeries$Roster" cX4_knows 2 1) (f : FX E "knows" (some .boolean) []) {s : St} {t0 : Int32} (hf : f_X4_knows_b14 fu s t0 = some (s', w')) : V E 2 (QE E (s', .inl (some (vI w')))) s 14 [] [vI t0] := by
  unfold f_X4_knows_b14 at hf
  obtain ⟨h5, hf⟩ := ckf hf
  cases hf
  exact V_zreturn g f (zb_n h5) dX4_knows_14
set_option maxRecDepth 20000 in
theorem t_X4_knows {G : GT} {l : Launch} (hl : l.stackTraces = false) {fu : Nat} {s s' : St} {a0 : Nat} {a1 : Int32} {w' : Int32} (hf : f_X4_knows fu s a0 a1 = some (s', w')) : MetG G l yX4_knows (.code yX4_knows cX4_knows 2 (some .boolean)) 1 s [vR 4 a0, vI a1] (s', .inl (some (vI w'))) := by
  refine MetG_of hl (by decide +kernel) (Nat.le_of_ble_eq_true rfl) (fun E g f eG eL => ?_)
  subst eG; subst eL
  have g : GX E "ThinSeries$Roster" cX4_knows 2 1 := g
  have f : FX E "knows" (some .boolean) [] := f
  show V E 2 (QE E (s', .inl (some (vI w')))) s 0 [(0, vR 4 a0), (1, vI a1)] []
  unfold f_X4_knows at hf
  refine V_aload_n g 0 dX4_knows_0 rfl ?_
  refine V_iload_n g 1 dX4_knows_1 rfl ?_
  obtain ⟨z1, hf⟩ := nz_some hf
  obtain ⟨s2, x3, hc, hf⟩ := bI_some hf
  refine cV1 g [vI a1] [] s2 (vI x3) cf_X4_placeOf (t_X4_placeOf g.2.2.2.2.2.2.1 hc) (RC_own g rfl z1) z1 (by decide) q_411 (Nat.le_of_ble_eq_true rfl) dX4_knows_2 ?_ rfl
  refine V_iconst (v := (-1)) g dX4_knows_5 (by decide) ?_
  refine V_icmp_eq g 13 dX4_knows_6 (by decide) (fun c4 => ?_) (fun c4 => ?_)
  · have hf := it_t hf c4
    refine V_iconst (v := 0) g dX4_knows_13 (by decide) ?_
    refine V_sub [] [] rfl ?_
    exact t_X4_knows_b14 g f hf
  · have hf := it_f hf c4
    refine V_iconst (v := 1) g dX4_knows_9 (by decide) ?_
    refine V_goto g 14 dX4_knows_10 (by decide) ?_
    refine V_sub [] [] rfl ?_
    exact t_X4_knows_b14 g f hf
set_option maxRecDepth 20000 in
theorem t_X4_remove_b24 {E : ET} {fu : Nat} {s' : St} (g : GX E "ThinSeries$Roster" cX4_remove 4 1) (f : FX E "remove" none []) : ∀ (n : Nat) (s : St) (l0 : Nat) (l3 : Int32), f_X4_remove_b24 fu n s l0 l3 = some s' → V E 4 (QE E (s', .inl none)) s 24 [(0, vR 4 l0), (3, vI l3)] [] := by
  intro n
  induction n with
  | zero =>
    intro s l0 l3 hf
    unfold f_X4_remove_b24 at hf
    exact nomatch hf
  | succ n ih =>
    intro s l0 l3 hf
    unfold f_X4_remove_b24 at hf
    refine V_iload_n g 1 dX4_remove_24 rfl ?_
    refine V_aload_n g 0 dX4_remove_25 rfl ?_
    obtain ⟨z6, hf⟩ := nz_some hf
    refine V_getI g 4 l0 2 rfl (by decide) rfl q_218 z6 dX4_remove_26 ?_
    refine V_icmp_ge g 52 dX4_remove_29 (by decide) (fun c7 => ?_) (fun c7 => ?_)
    · have hf := it_t hf c7
      cases hf
      exact V_return g f dX4_remove_52
    · have hf := it_f hf c7
      refine V_aload_n g 0 dX4_remove_32 rfl ?_
      refine V_getR g 4 l0 0 10 rfl (by decide) rfl rfl q_214 z6 dX4_remove_33 ?_
      refine V_iload_n g 1 dX4_remove_36 rfl ?_
      refine V_aload_n g 0 dX4_remove_37 rfl ?_
      refine V_getR g 4 l0 0 10 rfl (by decide) rfl rfl q_214 z6 dX4_remove_38 ?_
      refine V_iload_n g 1 dX4_remove_41 rfl ?_
      refine V_iconst (v := 1) g dX4_remove_42 (by decide) ?_
      refine V_iadd g dX4_remove_43 ?_
      obtain ⟨z8, hf⟩ := nz_some hf
      obtain ⟨h9, hf⟩ := ckf hf
      refine V_iald g z8 h9 dX4_remove_44 ?_
      obtain ⟨h10, hf⟩ := ckf hf
      obtain ⟨s11, es11, hf⟩ := lt_some hf
      refine V_iast g es11 z8 h10 dX4_remove_45 ?_
      obtain ⟨x12, ex12, hf⟩ := lt_some hf
      refine V_iinc g 1 [(3, vI x12), (0, vR 4 l0)] dX4_remove_46 rfl (by rw [ex12]; rfl) (by decide) rfl ?_
      refine V_goto g 24 dX4_remove_49 (by decide) ?_
      refine V_sub [(0, vR 4 l0), (3, vI x12)] [1, 0] rfl ?_
      exact ih s11 l0 x12 hf
set_option maxRecDepth 20000 in
theorem t_X4_remove {G : GT} {l : Launch} (hl : l.stackTraces = false) {fu : Nat} {s s' : St} {a0 : Nat} {a1 : Int32} (hf : f_X4_remove fu s a0 a1 = some s') : MetG G l yX4_remove (.code yX4_remove cX4_remove 4 none) 1 s [vR 4 a0, vI a1] (s', .inl none) := by
  refine MetG_of hl (by decide +kernel) (Nat.le_of_ble_eq_true rfl) (fun E g f eG eL => ?_)
  subst eG; subst eL
  have g : GX E "ThinSeries$Roster" cX4_remove 4 1 := g
  have f : FX E "remove" none [] := f
  show V E 4 (QE E (s', .inl none)) s 0 [(0, vR 4 a0), (1, vI a1)] []
  unfold f_X4_remove at hf
  refine V_aload_n g 0 dX4_remove_0 rfl ?_
  refine V_iload_n g 1 dX4_remove_1 rfl ?_
  obtain ⟨z1, hf⟩ := nz_some hf
  obtain ⟨s2, x3, hc, hf⟩ := bI_some hf
  refine cV1 g [vI a1] [] s2 (vI x3) cf_X4_placeOf (t_X4_placeOf g.2.2.2.2.2.2.1 hc) (RC_own g rfl z1) z1 (by decide) q_411 (Nat.le_of_ble_eq_true rfl) dX4_remove_2 ?_ rfl
  refine V_istore_n g [(2, vI x3), (0, vR 4 a0), (1, vI a1)] dX4_remove_5 rfl (by decide) rfl ?_
  refine V_iload_n g 0 dX4_remove_6 rfl ?_
  refine V_iconst (v := (-1)) g dX4_remove_7 (by decide) ?_
  refine V_icmp_ne g 12 dX4_remove_8 (by decide) (fun c4 => ?_) (fun c4 => ?_)
  · have hf := it_f hf c4
    refine V_aload_n g 1 dX4_remove_12 rfl ?_
    refine V_dup g dX4_remove_13 rfl ?_
    refine V_getI g 4 a0 2 rfl (by decide) rfl q_218 z1 dX4_remove_14 ?_
    refine V_iconst (v := 1) g dX4_remove_17 (by decide) ?_
    refine V_isub g dX4_remove_18 ?_
    obtain ⟨s5, es5, hf⟩ := lt_some hf
    refine V_putI g 4 a0 2 es5 rfl (by decide) rfl q_218 z1 (Or.inl rfl) pf_4_2 dX4_remove_19 ?_
    refine V_iload_n g 0 dX4_remove_22 rfl ?_
    refine V_istore_n g [(3, vI x3), (2, vI x3), (0, vR 4 a0), (1, vI a1)] dX4_remove_23 rfl (by decide) rfl ?_
    refine V_sub [(0, vR 4 a0), (3, vI x3)] [2, 0] rfl ?_
    exact t_X4_remove_b24 g f _ s5 a0 x3 hf
  · have hf := it_t hf c4
    cases hf
    exact V_return g f dX4_remove_11
set_option maxRecDepth 20000 in
theorem t_X8_drop {G : GT} {l : Launch} (hl : l.stackTraces = false) {fu : Nat} {s s' : St} {a0 : Nat} {a1 : Int32} {w' : Int32} (hf : f_X8_drop fu s a0 a1 = some (s', w')) : MetG G l yX8_drop (.code yX8_drop cX8_drop 2 (some .int)) 3 s [vR 8 a0, vI a1] (s', .inl (some (vI w'))) := by
  refine MetG_of hl (by decide +kernel) (Nat.le_of_ble_eq_true rfl) (fun E g f eG eL => ?_)
  subst eG; subst eL
  have g : GX E "ThinSeries" cX8_drop 2 3 := g
  have f : FX E "drop" (some .int) [] := f
  show V E 2 (QE E (s', .inl (some (vI w')))) s 0 [(0, vR 8 a0), (1, vI a1)] []
  unfold f_X8_drop at hf
  refine V_iload_n g 1 dX8_drop_0 rfl ?_
  obtain ⟨s1, x2, hc, hf⟩ := bI_some hf
  refine cS1 g [vI a1] [] s1 (vI x2) cf_X8_isId (t_X8_isId g.2.2.2.2.2.2.1 hc) (by decide) q_386 (Nat.le_of_ble_eq_true rfl) dX8_drop_1 ?_ rfl
  refine V_if_ne g 17 dX8_drop_4 (by decide) (fun c3 => ?_) (fun c3 => ?_)
  · have hf := it_f hf c3
    refine V_aload_n g 0 dX8_drop_17 rfl ?_
    obtain ⟨z4, hf⟩ := nz_some hf
    refine V_getR g 8 a0 4 4 rfl (by decide) rfl rfl q_316 z4 dX8_drop_18 ?_
    refine V_iload_n g 1 dX8_drop_21 rfl ?_
    obtain ⟨z5, hf⟩ := nz_some hf
    obtain ⟨s6, x7, hc, hf⟩ := bI_some hf
    refine cV1 g [vI a1] [] s6 (vI x7) cf_X4_knows (t_X4_knows g.2.2.2.2.2.2.1 hc) (RC_own g rfl z5) z5 (by decide) q_407 (Nat.le_of_ble_eq_true rfl) dX8_drop_22 ?_ rfl
    refine V_if_ne g 38 dX8_drop_25 (by decide) (fun c8 => ?_) (fun c8 => ?_)
    · have hf := it_f hf c8
      refine V_aload_n g 0 dX8_drop_38 rfl ?_
      refine V_aload_n g 0 dX8_drop_39 rfl ?_
      refine V_iload_n g 1 dX8_drop_40 rfl ?_
      obtain ⟨s9, x10, hc, hf⟩ := bI_some hf
      refine cV1 g [vI a1] [vR 8 a0] s9 (vR 5 x10) cf_X8_rowsOf (t_X8_rowsOf g.2.2.2.2.2.2.1 hc) (RC_own g rfl z4) z4 (by decide) q_432 (Nat.le_of_ble_eq_true rfl) dX8_drop_41 ?_ rfl
      obtain ⟨s11, hc, hf⟩ := bV_some hf
      refine cV0 g [vR 5 x10] [] s11 cf_X8_tallyAll (t_X8_tallyAll g.2.2.2.2.2.2.1 hc) (RC_own g rfl z4) z4 (by decide) q_582 (Nat.le_of_ble_eq_true rfl) dX8_drop_44 ?_ rfl
      refine V_aload_n g 0 dX8_drop_47 rfl ?_
      refine V_getR g 8 a0 4 4 rfl (by decide) rfl rfl q_316 z4 dX8_drop_48 ?_
      refine V_iload_n g 1 dX8_drop_51 rfl ?_
      obtain ⟨z12, hf⟩ := nz_some hf
      obtain ⟨s13, hc, hf⟩ := bV_some hf
      refine cV0 g [vI a1] [] s13 cf_X4_remove (t_X4_remove g.2.2.2.2.2.2.1 hc) (RC_own g rfl z12) z12 (by decide) q_596 (Nat.le_of_ble_eq_true rfl) dX8_drop_52 ?_ rfl
      refine V_aload_n g 0 dX8_drop_55 rfl ?_
      refine V_iconst (v := 0) g dX8_drop_56 (by decide) ?_
      refine V_iconst (v := 0) g dX8_drop_57 (by decide) ?_
      refine V_iconst (v := (-1)) g dX8_drop_58 (by decide) ?_
      refine V_iconst (v := (-1)) g dX8_drop_59 (by decide) ?_
      obtain ⟨s14, hc, hf⟩ := bV_some hf
      refine cV0 g [vI 0, vI 0, vI ((-1)), vI ((-1))] [] s14 cf_X8_explain (t_X8_explain g.2.2.2.2.2.2.1 hc) (RC_own g rfl z4) z4 (by decide) q_399 (Nat.le_of_ble_eq_true rfl) dX8_drop_60 ?_ rfl
      refine V_aload_n g 0 dX8_drop_63 rfl ?_
      refine V_getR g 8 a0 7 6 rfl (by decide) rfl rfl q_319 z4 dX8_drop_64 ?_
      obtain ⟨z15, hf⟩ := nz_some hf
      refine V_getI g 6 (gR s14 8 a0 7) 1 rfl (by decide) rfl q_238 z15 dX8_drop_67 ?_
      cases hf
      exact V_ireturn g f dX8_drop_70
    · have hf := it_t hf c8
      refine V_aload_n g 0 dX8_drop_28 rfl ?_
      refine V_iconst (v := 3) g dX8_drop_29 (by decide) ?_
      refine V_iconst (v := 0) g dX8_drop_30 (by decide) ?_
      refine V_iconst (v := (-1)) g dX8_drop_31 (by decide) ?_
      refine V_iconst (v := (-1)) g dX8_drop_32 (by decide) ?_
      obtain ⟨s16, hc, hf⟩ := bV_some hf
      refine cV0 g [vI 3, vI 0, vI ((-1)), vI ((-1))] [] s16 cf_X8_explain (t_X8_explain g.2.2.2.2.2.2.1 hc) (RC_own g rfl z4) z4 (by decide) q_399 (Nat.le_of_ble_eq_true rfl) dX8_drop_33 ?_ rfl
      refine V_iconst (v := (-1)) g dX8_drop_36 (by decide) ?_
      cases hf
      exact V_ireturn g f dX8_drop_37
  · have hf := it_t hf c3
    refine V_aload_n g 0 dX8_drop_7 rfl ?_
    refine V_iconst (v := 1) g dX8_drop_8 (by decide) ?_
    refine V_iconst (v := 0) g dX8_drop_9 (by decide) ?_
    refine V_iconst (v := (-1)) g dX8_drop_10 (by decide) ?_
    refine V_iconst (v := (-1)) g dX8_drop_11 (by decide) ?_
    obtain ⟨z17, hf⟩ := nz_some hf
    obtain ⟨s18, hc, hf⟩ := bV_some hf
    refine cV0 g [vI 1, vI 0, vI ((-1)), vI ((-1))] [] s18 cf_X8_explain (t_X8_explain g.2.2.2.2.2.2.1 hc) (RC_own g rfl z17) z17 (by decide) q_399 (Nat.le_of_ble_eq_true rfl) dX8_drop_12 ?_ rfl
    refine V_iconst (v := (-1)) g dX8_drop_15 (by decide) ?_
    cases hf
    exact V_ireturn g f dX8_drop_16
set_option maxRecDepth 20000 in
theorem t_X8_fault {G : GT} {l : Launch} (hl : l.stackTraces = false) {fu : Nat} {s s' : St} {a0 : Nat} {w' : Int32} (hf : f_X8_fault fu s a0 = some (s', w')) : MetG G l yX8_fault (.code yX8_fault cX8_fault 1 (some .int)) 0 s [vR 8 a0] (s', .inl (some (vI w'))) := by
  refine MetG_of hl (by decide +kernel) (Nat.le_of_ble_eq_true rfl) (fun E g f eG eL => ?_)
  subst eG; subst eL
  have g : GX E "ThinSeries" cX8_fault 1 0 := g
  have f : FX E "fault" (some .int) [] := f
  show V E 1 (QE E (s', .inl (some (vI w')))) s 0 [(0, vR 8 a0)] []
  unfold f_X8_fault at hf
  refine V_aload_n g 0 dX8_fault_0 rfl ?_
  obtain ⟨z1, hf⟩ := nz_some hf
  refine V_getI g 8 a0 15 rfl (by decide) rfl q_327 z1 dX8_fault_1 ?_
  cases hf
  exact V_ireturn g f dX8_fault_4
set_option maxRecDepth 20000 in
theorem t_X8_appendToTape_b46 {E : ET} {fu : Nat} {s' : St} (g : GX E "ThinSeries" cX8_appendToTape 3 0) (f : FX E "appendToTape" none []) {s : St} (hf : f_X8_appendToTape_b46 fu s = some s') : V E 3 (QE E (s', .inl none)) s 46 [] [] := by
  unfold f_X8_appendToTape_b46 at hf
  cases hf
  exact V_return g f dX8_appendToTape_46
set_option maxRecDepth 20000 in
theorem t_X8_appendToTape_b3 {E : ET} {fu : Nat} {s' : St} (g : GX E "ThinSeries" cX8_appendToTape 3 0) (f : FX E "appendToTape" none []) : ∀ (n : Nat) (s : St) (l0 : Nat) (l1 : Int32) (l2 : Int32), f_X8_appendToTape_b3 fu n s l0 l1 l2 = some s' → V E 3 (QE E (s', .inl none)) s 3 [(0, vR 8 l0), (1, vI l1), (2, vI l2)] [] := by
  intro n
  induction n with
  | zero =>
    intro s l0 l1 l2 hf
    unfold f_X8_appendToTape_b3 at hf
    exact nomatch hf
  | succ n ih =>
    intro s l0 l1 l2 hf
    unfold f_X8_appendToTape_b3 at hf
    refine V_iload_n g 2 dX8_appendToTape_3 rfl ?_
    refine V_if_lt g 46 dX8_appendToTape_4 (by decide) (fun c1 => ?_) (fun c1 => ?_)
    · have hf := it_t hf c1
      refine V_sub [] [] rfl ?_
      exact t_X8_appendToTape_b46 g f hf
    · have hf := it_f hf c1
      refine V_aload_n g 0 dX8_appendToTape_7 rfl ?_
      obtain ⟨z2, hf⟩ := nz_some hf
      refine V_getI g 8 l0 14 rfl (by decide) rfl q_326 z2 dX8_appendToTape_8 ?_
      refine V_sipush (v := 600) g dX8_appendToTape_11 (by decide) ?_
      refine V_icmp_ge g 46 dX8_appendToTape_14 (by decide) (fun c3 => ?_) (fun c3 => ?_)
      · have hf := it_t hf c3
        refine V_sub [] [] rfl ?_
        exact t_X8_appendToTape_b46 g f hf
      · have hf := it_f hf c3
        refine V_aload_n g 0 dX8_appendToTape_17 rfl ?_
        refine V_getR g 8 l0 0 12 rfl (by decide) rfl rfl q_312 z2 dX8_appendToTape_18 ?_
        refine V_aload_n g 0 dX8_appendToTape_21 rfl ?_
        refine V_getI g 8 l0 14 rfl (by decide) rfl q_326 z2 dX8_appendToTape_22 ?_
        refine V_iload_n g 1 dX8_appendToTape_25 rfl ?_
        refine V_iload_n g 2 dX8_appendToTape_26 rfl ?_
        refine V_iushr g dX8_appendToTape_27 ?_
        refine V_i2b g dX8_appendToTape_28 ?_
        obtain ⟨z4, hf⟩ := nz_some hf
        obtain ⟨h5, hf⟩ := ckf hf
        obtain ⟨s6, es6, hf⟩ := lt_some hf
        refine V_bast g es6 z4 h5 dX8_appendToTape_29 ?_
        refine V_aload_n g 0 dX8_appendToTape_30 rfl ?_
        refine V_dup g dX8_appendToTape_31 rfl ?_
        refine V_getI g 8 l0 14 rfl (by decide) rfl q_326 z2 dX8_appendToTape_32 ?_
        refine V_iconst (v := 1) g dX8_appendToTape_35 (by decide) ?_
        refine V_iadd g dX8_appendToTape_36 ?_
        obtain ⟨s7, es7, hf⟩ := lt_some hf
        refine V_putI g 8 l0 14 es7 rfl (by decide) rfl q_326 z2 (Or.inl rfl) pf_8_14 dX8_appendToTape_37 ?_
        obtain ⟨x8, ex8, hf⟩ := lt_some hf
        refine V_iinc g 2 [(2, vI x8), (0, vR 8 l0), (1, vI l1)] dX8_appendToTape_40 rfl (by rw [ex8]; rfl) (by decide) rfl ?_
        refine V_goto g 3 dX8_appendToTape_43 (by decide) ?_
        refine V_sub [(0, vR 8 l0), (1, vI l1), (2, vI x8)] [1, 2, 0] rfl ?_
        exact ih s7 l0 l1 x8 hf
set_option maxRecDepth 20000 in
theorem t_X8_appendToTape {G : GT} {l : Launch} (hl : l.stackTraces = false) {fu : Nat} {s s' : St} {a0 : Nat} {a1 : Int32} (hf : f_X8_appendToTape fu s a0 a1 = some s') : MetG G l yX8_appendToTape (.code yX8_appendToTape cX8_appendToTape 3 none) 0 s [vR 8 a0, vI a1] (s', .inl none) := by
  refine MetG_of hl (by decide +kernel) (Nat.le_of_ble_eq_true rfl) (fun E g f eG eL => ?_)
  subst eG; subst eL
  have g : GX E "ThinSeries" cX8_appendToTape 3 0 := g
  have f : FX E "appendToTape" none [] := f
  show V E 3 (QE E (s', .inl none)) s 0 [(0, vR 8 a0), (1, vI a1)] []
  unfold f_X8_appendToTape at hf
  refine V_bipush (v := 24) g dX8_appendToTape_0 (by decide) ?_
  refine V_istore_n g [(2, vI 24), (0, vR 8 a0), (1, vI a1)] dX8_appendToTape_2 rfl (by decide) rfl ?_
  refine V_sub [(0, vR 8 a0), (1, vI a1), (2, vI 24)] [1, 2, 0] rfl ?_
  exact t_X8_appendToTape_b3 g f _ s a0 a1 24 hf
set_option maxRecDepth 20000 in
theorem t_X8_feed {G : GT} {l : Launch} (hl : l.stackTraces = false) {fu : Nat} {s s' : St} {a0 : Nat} {a1 : Int32} {a2 : Int32} {a3 : Int32} {a4 : Int32} {a5 : Int32} {w' : Int32} (hf : f_X8_feed fu s a0 a1 a2 a3 a4 a5 = some (s', w')) : MetG G l yX8_feed (.code yX8_feed cX8_feed 6 (some .int)) 1 s [vR 8 a0, vI a1, vI a2, vI a3, vI a4, vI a5] (s', .inl (some (vI w'))) := by
  refine MetG_of hl (by decide +kernel) (Nat.le_of_ble_eq_true rfl) (fun E g f eG eL => ?_)
  subst eG; subst eL
  have g : GX E "ThinSeries" cX8_feed 6 1 := g
  have f : FX E "feed" (some .int) [] := f
  show V E 6 (QE E (s', .inl (some (vI w')))) s 0 [(0, vR 8 a0), (1, vI a1), (2, vI a2), (3, vI a3), (4, vI a4), (5, vI a5)] []
  unfold f_X8_feed at hf
  refine V_aload_n g 0 dX8_feed_0 rfl ?_
  obtain ⟨z1, hf⟩ := nz_some hf
  refine V_getI g 8 a0 14 rfl (by decide) rfl q_326 z1 dX8_feed_1 ?_
  refine V_sipush (v := 580) g dX8_feed_4 (by decide) ?_
  refine V_icmp_le g 12 dX8_feed_7 (by decide) (fun c2 => ?_) (fun c2 => ?_)
  · have hf := it_t hf c2
    refine V_aload_n g 0 dX8_feed_12 rfl ?_
    refine V_iload_n g 1 dX8_feed_13 rfl ?_
    obtain ⟨s3, hc, hf⟩ := bV_some hf
    refine cV0 g [vI a1] [] s3 cf_X8_appendToTape (t_X8_appendToTape g.2.2.2.2.2.2.1 hc) (RC_own g rfl z1) z1 (by decide) q_374 (Nat.le_of_ble_eq_true rfl) dX8_feed_14 ?_ rfl
    refine V_aload_n g 0 dX8_feed_17 rfl ?_
    refine V_iload_n g 2 dX8_feed_18 rfl ?_
    obtain ⟨s4, hc, hf⟩ := bV_some hf
    refine cV0 g [vI a2] [] s4 cf_X8_appendToTape (t_X8_appendToTape g.2.2.2.2.2.2.1 hc) (RC_own g rfl z1) z1 (by decide) q_374 (Nat.le_of_ble_eq_true rfl) dX8_feed_19 ?_ rfl
    refine V_aload_n g 0 dX8_feed_22 rfl ?_
    refine V_iload_n g 3 dX8_feed_23 rfl ?_
    obtain ⟨s5, hc, hf⟩ := bV_some hf
    refine cV0 g [vI a3] [] s5 cf_X8_appendToTape (t_X8_appendToTape g.2.2.2.2.2.2.1 hc) (RC_own g rfl z1) z1 (by decide) q_374 (Nat.le_of_ble_eq_true rfl) dX8_feed_24 ?_ rfl
    refine V_aload_n g 0 dX8_feed_27 rfl ?_
    refine V_iload g 4 dX8_feed_28 rfl ?_
    obtain ⟨s6, hc, hf⟩ := bV_some hf
    refine cV0 g [vI a4] [] s6 cf_X8_appendToTape (t_X8_appendToTape g.2.2.2.2.2.2.1 hc) (RC_own g rfl z1) z1 (by decide) q_374 (Nat.le_of_ble_eq_true rfl) dX8_feed_30 ?_ rfl
    refine V_aload_n g 0 dX8_feed_33 rfl ?_
    refine V_iload g 5 dX8_feed_34 rfl ?_
    obtain ⟨s7, hc, hf⟩ := bV_some hf
    refine cV0 g [vI a5] [] s7 cf_X8_appendToTape (t_X8_appendToTape g.2.2.2.2.2.2.1 hc) (RC_own g rfl z1) z1 (by decide) q_374 (Nat.le_of_ble_eq_true rfl) dX8_feed_36 ?_ rfl
    refine V_aload_n g 0 dX8_feed_39 rfl ?_
    refine V_getI g 8 a0 14 rfl (by decide) rfl q_326 z1 dX8_feed_40 ?_
    cases hf
    exact V_ireturn g f dX8_feed_43
  · have hf := it_f hf c2
    refine V_iconst (v := (-1)) g dX8_feed_10 (by decide) ?_
    cases hf
    exact V_ireturn g f dX8_feed_11
set_option maxRecDepth 20000 in
theorem t_X8_isTime_b21 {E : ET} {fu : Nat} {s' : St} {w' : Int32} (g : GX E "ThinSeries" cX8_isTime 2 0) (f : FX E "isTime" (some .boolean) []) {s : St} {t0 : Int32} (hf : f_X8_isTime_b21 fu s t0 = some (s', w')) : V E 2 (QE E (s', .inl (some (vI w')))) s 21 [] [vI t0] := by
  unfold f_X8_isTime_b21 at hf
  obtain ⟨h3, hf⟩ := ckf hf
  cases hf
  exact V_zreturn g f (zb_n h3) dX8_isTime_21
set_option maxRecDepth 20000 in
theorem t_X8_isTime_b20 {E : ET} {fu : Nat} {s' : St} {w' : Int32} (g : GX E "ThinSeries" cX8_isTime 2 0) (f : FX E "isTime" (some .boolean) []) {s : St} (hf : f_X8_isTime_b20 fu s = some (s', w')) : V E 2 (QE E (s', .inl (some (vI w')))) s 20 [] [] := by
  unfold f_X8_isTime_b20 at hf
  refine V_iconst (v := 0) g dX8_isTime_20 (by decide) ?_
  exact t_X8_isTime_b21 g f hf
set_option maxRecDepth 20000 in
theorem t_X8_isTime {G : GT} {l : Launch} (hl : l.stackTraces = false) {fu : Nat} {s s' : St} {a0 : Int64} {w' : Int32} (hf : f_X8_isTime fu s a0 = some (s', w')) : MetG G l yX8_isTime (.code yX8_isTime cX8_isTime 2 (some .boolean)) 0 s [vJ a0] (s', .inl (some (vI w'))) := by
  refine MetG_of hl (by decide +kernel) (Nat.le_of_ble_eq_true rfl) (fun E g f eG eL => ?_)
  subst eG; subst eL
  have g : GX E "ThinSeries" cX8_isTime 2 0 := g
  have f : FX E "isTime" (some .boolean) [] := f
  show V E 2 (QE E (s', .inl (some (vI w')))) s 0 [(0, vJ a0)] []
  unfold f_X8_isTime at hf
  refine V_lload_n g 0 dX8_isTime_0 rfl ?_
  refine V_ldc2 (v := (-1000000)) g q_392 dX8_isTime_1 ?_
  refine V_lcmp g dX8_isTime_4 ?_
  refine V_if_lt g 20 dX8_isTime_5 (by decide) (fun c1 => ?_) (fun c1 => ?_)
  · have hf := it_t hf c1
    refine V_sub [] [] rfl ?_
    exact t_X8_isTime_b20 g f hf
  · have hf := it_f hf c1
    refine V_lload_n g 0 dX8_isTime_8 rfl ?_
    refine V_ldc2 (v := 1000000) g q_393 dX8_isTime_9 ?_
    refine V_lcmp g dX8_isTime_12 ?_
    refine V_if_gt g 20 dX8_isTime_13 (by decide) (fun c2 => ?_) (fun c2 => ?_)
    · have hf := it_t hf c2
      refine V_sub [] [] rfl ?_
      exact t_X8_isTime_b20 g f hf
    · have hf := it_f hf c2
      refine V_iconst (v := 1) g dX8_isTime_16 (by decide) ?_
      refine V_goto g 21 dX8_isTime_17 (by decide) ?_
      refine V_sub [] [] rfl ?_
      exact t_X8_isTime_b21 g f hf
set_option maxRecDepth 20000 in
theorem t_X8_isValue_b21 {E : ET} {fu : Nat} {s' : St} {w' : Int32} (g : GX E "ThinSeries" cX8_isValue 2 0) (f : FX E "isValue" (some .boolean) []) {s : St} {t0 : Int32} (hf : f_X8_isValue_b21 fu s t0 = some (s', w')) : V E 2 (QE E (s', .inl (some (vI w')))) s 21 [] [vI t0] := by
  unfold f_X8_isValue_b21 at hf
  obtain ⟨h3, hf⟩ := ckf hf
  cases hf
  exact V_zreturn g f (zb_n h3) dX8_isValue_21
set_option maxRecDepth 20000 in
theorem t_X8_isValue_b20 {E : ET} {fu : Nat} {s' : St} {w' : Int32} (g : GX E "ThinSeries" cX8_isValue 2 0) (f : FX E "isValue" (some .boolean) []) {s : St} (hf : f_X8_isValue_b20 fu s = some (s', w')) : V E 2 (QE E (s', .inl (some (vI w')))) s 20 [] [] := by
  unfold f_X8_isValue_b20 at hf
  refine V_iconst (v := 0) g dX8_isValue_20 (by decide) ?_
  exact t_X8_isValue_b21 g f hf
set_option maxRecDepth 20000 in
theorem t_X8_isValue {G : GT} {l : Launch} (hl : l.stackTraces = false) {fu : Nat} {s s' : St} {a0 : Int64} {w' : Int32} (hf : f_X8_isValue fu s a0 = some (s', w')) : MetG G l yX8_isValue (.code yX8_isValue cX8_isValue 2 (some .boolean)) 0 s [vJ a0] (s', .inl (some (vI w'))) := by
  refine MetG_of hl (by decide +kernel) (Nat.le_of_ble_eq_true rfl) (fun E g f eG eL => ?_)
  subst eG; subst eL
  have g : GX E "ThinSeries" cX8_isValue 2 0 := g
  have f : FX E "isValue" (some .boolean) [] := f
  show V E 2 (QE E (s', .inl (some (vI w')))) s 0 [(0, vJ a0)] []
  unfold f_X8_isValue at hf
  refine V_lload_n g 0 dX8_isValue_0 rfl ?_
  refine V_ldc2 (v := (-10000)) g q_397 dX8_isValue_1 ?_
  refine V_lcmp g dX8_isValue_4 ?_
  refine V_if_lt g 20 dX8_isValue_5 (by decide) (fun c1 => ?_) (fun c1 => ?_)
  · have hf := it_t hf c1
    refine V_sub [] [] rfl ?_
    exact t_X8_isValue_b20 g f hf
  · have hf := it_f hf c1
    refine V_lload_n g 0 dX8_isValue_8 rfl ?_
    refine V_ldc2 (v := 10000) g q_398 dX8_isValue_9 ?_
    refine V_lcmp g dX8_isValue_12 ?_
    refine V_if_gt g 20 dX8_isValue_13 (by decide) (fun c2 => ?_) (fun c2 => ?_)
    · have hf := it_t hf c2
      refine V_sub [] [] rfl ?_
      exact t_X8_isValue_b20 g f hf
    · have hf := it_f hf c2
      refine V_iconst (v := 1) g dX8_isValue_16 (by decide) ?_
      refine V_goto g 21 dX8_isValue_17 (by decide) ?_
      refine V_sub [] [] rfl ?_
      exact t_X8_isValue_b21 g f hf
set_option maxRecDepth 20000 in
theorem t_X8_multipleUpTo_b16 {E : ET} {fu : Nat} {s' : St} {w' : Int32} (g : GX E "ThinSeries" cX8_multipleUpTo 2 1) (f : FX E "multipleUpTo" (some .int) []) {s : St} {t0 : Int32} (hf : f_X8_multipleUpTo_b16 fu s t0 = some (s', w')) : V E 2 (QE E (s', .inl (some (vI w')))) s 16 [] [vI t0] := by
  unfold f_X8_multipleUpTo_b16 at hf
  cases hf
  exact V_ireturn g f dX8_multipleUpTo_16
set_option maxRecDepth 20000 in
theorem t_X8_multipleUpTo {G : GT} {l : Launch} (hl : l.stackTraces = false) {fu : Nat} {s s' : St} {a0 : Int32} {a1 : Int32} {w' : Int32} (hf : f_X8_multipleUpTo fu s a0 a1 = some (s', w')) : MetG G l yX8_multipleUpTo (.code yX8_multipleUpTo cX8_multipleUpTo 2 (some .int)) 1 s [vI a0, vI a1] (s', .inl (some (vI w'))) := by
  refine MetG_of hl (by decide +kernel) (Nat.le_of_ble_eq_true rfl) (fun E g f eG eL => ?_)
  subst eG; subst eL
  have g : GX E "ThinSeries" cX8_multipleUpTo 2 1 := g
  have f : FX E "multipleUpTo" (some .int) [] := f
  show V E 2 (QE E (s', .inl (some (vI w')))) s 0 [(0, vI a0), (1, vI a1)] []
  unfold f_X8_multipleUpTo at hf
  refine V_iload_n g 1 dX8_multipleUpTo_0 rfl ?_
  refine V_iconst (v := 1) g dX8_multipleUpTo_1 (by decide) ?_
  refine V_icmp_ge g 9 dX8_multipleUpTo_2 (by decide) (fun c1 => ?_) (fun c1 => ?_)
  · have hf := it_t hf c1
    refine V_iload_n g 0 dX8_multipleUpTo_9 rfl ?_
    refine V_iload_n g 0 dX8_multipleUpTo_10 rfl ?_
    refine V_iload_n g 1 dX8_multipleUpTo_11 rfl ?_
    obtain ⟨s2, x3, hc, hf⟩ := bI_some hf
    refine cS1 g [vI a0, vI a1] [vI a0] s2 (vI x3) cf_J9_floorMod_7cf53 (t_J9_floorMod_7cf53 g.2.2.2.2.2.2.1 hc) (by decide) q_422 (Nat.le_of_ble_eq_true rfl) dX8_multipleUpTo_12 ?_ rfl
    refine V_isub g dX8_multipleUpTo_15 ?_
    refine V_sub [] [] rfl ?_
    exact t_X8_multipleUpTo_b16 g f hf
  · have hf := it_f hf c1
    refine V_iload_n g 0 dX8_multipleUpTo_5 rfl ?_
    refine V_goto g 16 dX8_multipleUpTo_6 (by decide) ?_
    refine V_sub [] [] rfl ?_
    exact t_X8_multipleUpTo_b16 g f hf
set_option maxRecDepth 20000 in
theorem t_X2_findSeams_b73 {E : ET} {fu : Nat} {s' : St} (g : GX E "ThinSeries$Plan" cX2_findSeams 5 2) (f : FX E "findSeams" none []) {k21 : St → Nat → Nat → Int32 → Int32 → Option (St)} (hk21 : ∀ (s : St) (l0 : Nat) (l2 : Nat) (l3 : Int32) (l4 : Int32), k21 s l0 l2 l3 l4 = some s' → V E 5 (QE E (s', .inl none)) s 21 [(0, vR 2 l0), (2, vR 10 l2), (3, vI l3), (4, vI l4)] []) {s : St} {l0 : Nat} {l2 : Nat} {l3 : Int32} {l4 : Int32} (hf : f_X2_findSeams_b73 fu k21 s l0 l2 l3 l4 = some s') : V E 5 (QE E (s', .inl none)) s 73 [(0, vR 2 l0), (2, vR 10 l2), (3, vI l3), (4, vI l4)] [] := by
  unfold f_X2_findSeams_b73 at hf
  refine V_aload_n g 1 dX2_findSeams_73 rfl ?_
  refine V_iload g 3 dX2_findSeams_74 rfl ?_
  refine V_iload_n g 2 dX2_findSeams_76 rfl ?_
  obtain ⟨z20, hf⟩ := nz_some hf
  obtain ⟨h21, hf⟩ := ckf hf
  obtain ⟨s22, es22, hf⟩ := lt_some hf
  refine V_iast g es22 z20 h21 dX2_findSeams_77 ?_
  obtain ⟨x23, ex23, hf⟩ := lt_some hf
  refine V_iinc g 3 [(4, vI x23), (0, vR 2 l0), (2, vR 10 l2), (3, vI l3)] dX2_findSeams_78 rfl (by rw [ex23]; rfl) (by decide) rfl ?_
  refine V_goto g 21 dX2_findSeams_81 (by decide) ?_
  refine V_sub [(0, vR 2 l0), (2, vR 10 l2), (3, vI l3), (4, vI x23)] [1, 2, 3, 0] rfl ?_
  exact hk21 s22 l0 l2 l3 x23 hf
set_option maxRecDepth 20000 in
theorem t_X2_findSeams_b21 {E : ET} {fu : Nat} {s' : St} (g : GX E "ThinSeries$Plan" cX2_findSeams 5 2) (f : FX E "findSeams" none []) : ∀ (n : Nat) (s : St) (l0 : Nat) (l2 : Nat) (l3 : Int32) (l4 : Int32), f_X2_findSeams_b21 fu n s l0 l2 l3 l4 = some s' → V E 5 (QE E (s', .inl none)) s 21 [(0, vR 2 l0), (2, vR 10 l2), (3, vI l3), (4, vI l4)] [] := by
  intro n
  induction n with
  | zero =>
    intro s l0 l2 l3 l4 hf
    unfold f_X2_findSeams_b21 at hf
    exact nomatch hf
  | succ n ih =>
    intro s l0 l2 l3 l4 hf
    unfold f_X2_findSeams_b21 at hf
    refine V_iload g 3 dX2_findSeams_21 rfl ?_
    refine V_aload_n g 0 dX2_findSeams_23 rfl ?_
    obtain ⟨z9, hf⟩ := nz_some hf
    refine V_getI g 2 l0 3 rfl (by decide) rfl q_295 z9 dX2_findSeams_24 ?_
    refine V_icmp_ge g 84 dX2_findSeams_27 (by decide) (fun c10 => ?_) (fun c10 => ?_)
    · have hf := it_t hf c10
      cases hf
      exact V_return g f dX2_findSeams_84
    · have hf := it_f hf c10
      refine V_iload_n g 2 dX2_findSeams_30 rfl ?_
      refine V_aload_n g 0 dX2_findSeams_31 rfl ?_
      refine V_getR g 2 l0 1 10 rfl (by decide) rfl rfl q_289 z9 dX2_findSeams_32 ?_
      refine V_iload g 3 dX2_findSeams_35 rfl ?_
      obtain ⟨z11, hf⟩ := nz_some hf
      obtain ⟨h12, hf⟩ := ckf hf
      refine V_iald g z11 h12 dX2_findSeams_37 ?_
      refine V_aload_n g 0 dX2_findSeams_38 rfl ?_
      refine V_getR g 2 l0 0 10 rfl (by decide) rfl rfl q_286 z9 dX2_findSeams_39 ?_
      refine V_iload g 3 dX2_findSeams_42 rfl ?_
      obtain ⟨z13, hf⟩ := nz_some hf
      obtain ⟨h14, hf⟩ := ckf hf
      refine V_iald g z13 h14 dX2_findSeams_44 ?_
      refine V_imul g dX2_findSeams_45 ?_
      refine V_isub g dX2_findSeams_46 ?_
      obtain ⟨x15, ex15, hf⟩ := lt_some hf
      refine V_istore_n g [(3, vI x15), (0, vR 2 l0), (2, vR 10 l2), (4, vI l4)] dX2_findSeams_47 ex15 (by decide) rfl ?_
      refine V_iload g 3 dX2_findSeams_48 rfl ?_
      refine V_iconst (v := 1) g dX2_findSeams_50 (by decide) ?_
      refine V_iadd g dX2_findSeams_51 ?_
      refine V_aload_n g 1 dX2_findSeams_52 rfl ?_
      refine V_getI g 2 l0 3 rfl (by decide) rfl q_295 z9 dX2_findSeams_53 ?_
      refine V_icmp_ge g 73 dX2_findSeams_56 (by decide) (fun c16 => ?_) (fun c16 => ?_)
      · have hf := it_t hf c16
        refine V_sub [(0, vR 2 l0), (2, vR 10 l2), (3, vI x15), (4, vI l4)] [1, 2, 0, 3] rfl ?_
        exact t_X2_findSeams_b73 g f ih hf
      · have hf := it_f hf c16
        refine V_iload_n g 0 dX2_findSeams_59 rfl ?_
        refine V_aload_n g 1 dX2_findSeams_60 rfl ?_
        refine V_getR g 2 l0 0 10 rfl (by decide) rfl rfl q_286 z9 dX2_findSeams_61 ?_
        refine V_iload g 3 dX2_findSeams_64 rfl ?_
        refine V_iconst (v := 1) g dX2_findSeams_66 (by decide) ?_
        refine V_iadd g dX2_findSeams_67 ?_
        obtain ⟨h17, hf⟩ := ckf hf
        refine V_iald g z13 h17 dX2_findSeams_68 ?_
        obtain ⟨s18, x19, hc, hf⟩ := bI_some hf
        refine cN1 g [vI x15, vI (gI s 10 (gR s 2 l0 0) (ix (l4 + 1)))] [] s18 (vI x19) cf_X8_multipleUpTo (t_X8_multipleUpTo g.2.2.2.2.2.2.1 hc) (by decide) q_419 (Nat.le_of_ble_eq_true rfl) dX2_findSeams_69 ?_ rfl
        refine V_istore_n g [(3, vI x19), (0, vR 2 l0), (2, vR 10 l2), (4, vI l4)] dX2_findSeams_72 rfl (by decide) rfl ?_
        refine V_sub [(0, vR 2 l0), (2, vR 10 l2), (3, vI x19), (4, vI l4)] [1, 2, 0, 3] rfl ?_
        exact t_X2_findSeams_b73 g f ih hf
set_option maxRecDepth 20000 in
theorem t_X2_findSeams {G : GT} {l : Launch} (hl : l.stackTraces = false) {fu : Nat} {s s' : St} {a0 : Nat} {a1 : Int32} {a2 : Nat} (hf : f_X2_findSeams fu s a0 a1 a2 = some s') : MetG G l yX2_findSeams (.code yX2_findSeams cX2_findSeams 5 none) 2 s [vR 2 a0, vI a1, vR 10 a2] (s', .inl none) := by
  refine MetG_of hl (by decide +kernel) (Nat.le_of_ble_eq_true rfl) (fun E g f eG eL => ?_)
  subst eG; subst eL
  have g : GX E "ThinSeries$Plan" cX2_findSeams 5 2 := g
  have f : FX E "findSeams" none [] := f
  show V E 5 (QE E (s', .inl none)) s 0 [(0, vR 2 a0), (1, vI a1), (2, vR 10 a2)] []
  unfold f_X2_findSeams at hf
  refine V_iload_n g 1 dX2_findSeams_0 rfl ?_
  refine V_aload_n g 0 dX2_findSeams_1 rfl ?_
  obtain ⟨z1, hf⟩ := nz_some hf
  refine V_getR g 2 a0 0 10 rfl (by decide) rfl rfl q_286 z1 dX2_findSeams_2 ?_
  refine V_iconst (v := 0) g dX2_findSeams_5 (by decide) ?_
  obtain ⟨z2, hf⟩ := nz_some hf
  obtain ⟨h3, hf⟩ := ckf hf
  refine V_iald g z2 h3 dX2_findSeams_6 ?_
  obtain ⟨s4, x5, hc, hf⟩ := bI_some hf
  refine cN1 g [vI a1, vI (gI s 10 (gR s 2 a0 0) (ix 0))] [] s4 (vI x5) cf_X8_multipleUpTo (t_X8_multipleUpTo g.2.2.2.2.2.2.1 hc) (by decide) q_419 (Nat.le_of_ble_eq_true rfl) dX2_findSeams_7 ?_ rfl
  refine V_aload_n g 0 dX2_findSeams_10 rfl ?_
  refine V_getR g 2 a0 0 10 rfl (by decide) rfl rfl q_286 z1 dX2_findSeams_11 ?_
  refine V_iconst (v := 0) g dX2_findSeams_14 (by decide) ?_
  obtain ⟨z6, hf⟩ := nz_some hf
  obtain ⟨h7, hf⟩ := ckf hf
  refine V_iald g z6 h7 dX2_findSeams_15 ?_
  refine V_iadd g dX2_findSeams_16 ?_
  obtain ⟨x8, ex8, hf⟩ := lt_some hf
  refine V_istore_n g [(3, vI x8), (0, vR 2 a0), (1, vI a1), (2, vR 10 a2)] dX2_findSeams_17 ex8 (by decide) rfl ?_
  refine V_iconst (v := 0) g dX2_findSeams_18 (by decide) ?_
  refine V_istore g [(4, vI 0), (3, vI x8), (0, vR 2 a0), (1, vI a1), (2, vR 10 a2)] dX2_findSeams_19 rfl (by decide) rfl ?_
  refine V_sub [(0, vR 2 a0), (2, vR 10 a2), (3, vI x8), (4, vI 0)] [2, 4, 1, 0] rfl ?_
  exact t_X2_findSeams_b21 g f _ s4 a0 a2 x8 0 hf
set_option maxRecDepth 20000 in
theorem t_X8_latenessIn {G : GT} {l : Launch} (hl : l.stackTraces = false) {fu : Nat} {s s' : St} {a0 : Nat} {a1 : Nat} {a2 : Int32} {a3 : Int32} {w' : Int32} (hf : f_X8_latenessIn fu s a0 a1 a2 a3 = some (s', w')) : MetG G l yX8_latenessIn (.code yX8_latenessIn cX8_latenessIn 4 (some .int)) 3 s [vR 8 a0, vR 4 a1, vI a2, vI a3] (s', .inl (some (vI w'))) := by
  refine MetG_of hl (by decide +kernel) (Nat.le_of_ble_eq_true rfl) (fun E g f eG eL => ?_)
  subst eG; subst eL
  have g : GX E "ThinSeries" cX8_latenessIn 4 3 := g
  have f : FX E "latenessIn" (some .int) [] := f
  show V E 4 (QE E (s', .inl (some (vI w')))) s 0 [(0, vR 8 a0), (1, vR 4 a1), (2, vI a2), (3, vI a3)] []
  unfold f_X8_latenessIn at hf
  refine V_aload_n g 1 dX8_latenessIn_0 rfl ?_
  refine V_iload_n g 2 dX8_latenessIn_1 rfl ?_
  obtain ⟨z1, hf⟩ := nz_some hf
  obtain ⟨s2, x3, hc, hf⟩ := bI_some hf
  refine cV1 g [vI a2] [] s2 (vI x3) cf_X4_knows (t_X4_knows g.2.2.2.2.2.2.1 hc) (RC_own g rfl z1) z1 (by decide) q_407 (Nat.le_of_ble_eq_true rfl) dX8_latenessIn_2 ?_ rfl
  refine V_if_ne g 10 dX8_latenessIn_5 (by decide) (fun c4 => ?_) (fun c4 => ?_)
  · have hf := it_f hf c4
    refine V_aload_n g 0 dX8_latenessIn_10 rfl ?_
    obtain ⟨z5, hf⟩ := nz_some hf
    refine V_getR g 8 a0 12 2 rfl (by decide) rfl rfl q_324 z5 dX8_latenessIn_11 ?_
    refine V_aload_n g 1 dX8_latenessIn_14 rfl ?_
    refine V_getR g 4 a1 1 10 rfl (by decide) rfl rfl q_217 z1 dX8_latenessIn_15 ?_
    refine V_iload_n g 2 dX8_latenessIn_18 rfl ?_
    obtain ⟨z6, hf⟩ := nz_some hf
    obtain ⟨h7, hf⟩ := ckf hf
    refine V_iald g z6 h7 dX8_latenessIn_19 ?_
    refine V_aload_n g 0 dX8_latenessIn_20 rfl ?_
    refine V_getR g 8 a0 10 10 rfl (by decide) rfl rfl q_322 z5 dX8_latenessIn_21 ?_
    obtain ⟨z8, hf⟩ := nz_some hf
    obtain ⟨s9, hc, hf⟩ := bV_some hf
    refine cV0 g [vI (gI s2 10 (gR s2 4 a1 1) (ix a2)), vR 10 (gR s2 8 a0 10)] [] s9 cf_X2_findSeams (t_X2_findSeams g.2.2.2.2.2.2.1 hc) (RC_own g rfl z8) z8 (by decide) q_415 (Nat.le_of_ble_eq_true rfl) dX8_latenessIn_24 ?_ rfl
    refine V_iconst (v := 0) g dX8_latenessIn_27 (by decide) ?_
    refine V_aload_n g 0 dX8_latenessIn_28 rfl ?_
    refine V_getR g 8 a0 10 10 rfl (by decide) rfl rfl q_322 z5 dX8_latenessIn_29 ?_
    refine V_aload_n g 0 dX8_latenessIn_32 rfl ?_
    refine V_getR g 8 a0 12 2 rfl (by decide) rfl rfl q_324 z5 dX8_latenessIn_33 ?_
    obtain ⟨z10, hf⟩ := nz_some hf
    refine V_getI g 2 (gR s9 8 a0 12) 3 rfl (by decide) rfl q_297 z10 dX8_latenessIn_36 ?_
    refine V_iconst (v := 1) g dX8_latenessIn_39 (by decide) ?_
    refine V_isub g dX8_latenessIn_40 ?_
    obtain ⟨z11, hf⟩ := nz_some hf
    obtain ⟨h12, hf⟩ := ckf hf
    refine V_iald g z11 h12 dX8_latenessIn_41 ?_
    refine V_iload_n g 3 dX8_latenessIn_42 rfl ?_
    refine V_isub g dX8_latenessIn_43 ?_
    obtain ⟨s13, x14, hc, hf⟩ := bI_some hf
    refine cS1 g [vI 0, vI ((gI s9 10 (gR s9 8 a0 10) (ix ((gI s9 2 (gR s9 8 a0 12) 3) - 1))) - a3)] [] s13 (vI x14) cf_J9_max_7cf53 (t_J9_max_7cf53 g.2.2.2.2.2.2.1 hc) (by decide) q_425 (Nat.le_of_ble_eq_true rfl) dX8_latenessIn_44 ?_ rfl
    cases hf
    exact V_ireturn g f dX8_latenessIn_47
  · have hf := it_t hf c4
    refine V_iconst (v := 0) g dX8_latenessIn_8 (by decide) ?_
    cases hf
    exact V_ireturn g f dX8_latenessIn_9
set_option maxRecDepth 20000 in
theorem t_X8_noteLate {G : GT} {l : Launch} (hl : l.stackTraces = false) {fu : Nat} {s s' : St} {a0 : Nat} {a1 : Int32} (hf : f_X8_noteLate fu s a0 a1 = some s') : MetG G l yX8_noteLate (.code yX8_noteLate cX8_noteLate 2 none) 3 s [vR 8 a0, vI a1] (s', .inl none) := by
  refine MetG_of hl (by decide +kernel) (Nat.le_of_ble_eq_true rfl) (fun E g f eG eL => ?_)
  subst eG; subst eL
  have g : GX E "ThinSeries" cX8_noteLate 2 3 := g
  have f : FX E "noteLate" none [] := f
  show V E 2 (QE E (s', .inl none)) s 0 [(0, vR 8 a0), (1, vI a1)] []
  unfold f_X8_noteLate at hf
  refine V_aload_n g 0 dX8_noteLate_0 rfl ?_
  refine V_dup g dX8_noteLate_1 rfl ?_
  obtain ⟨z1, hf⟩ := nz_some hf
  refine V_getI g 8 a0 17 rfl (by decide) rfl q_329 z1 dX8_noteLate_2 ?_
  refine V_iconst (v := 1) g dX8_noteLate_5 (by decide) ?_
  refine V_iadd g dX8_noteLate_6 ?_
  obtain ⟨s2, es2, hf⟩ := lt_some hf
  refine V_putI g 8 a0 17 es2 rfl (by decide) rfl q_329 z1 (Or.inl rfl) pf_8_17 dX8_noteLate_7 ?_
  refine V_aload_n g 0 dX8_noteLate_10 rfl ?_
  refine V_iload_n g 1 dX8_noteLate_11 rfl ?_
  obtain ⟨s3, x4, hc, hf⟩ := bI_some hf
  refine cV1 g [vI a1] [] s3 (vR 5 x4) cf_X8_rowsOf (t_X8_rowsOf g.2.2.2.2.2.2.1 hc) (RC_own g rfl z1) z1 (by decide) q_432 (Nat.le_of_ble_eq_true rfl) dX8_noteLate_12 ?_ rfl
  refine V_dup g dX8_noteLate_15 rfl ?_
  obtain ⟨z5, hf⟩ := nz_some hf
  refine V_getI g 5 x4 9 rfl (by decide) rfl q_459 z5 dX8_noteLate_16 ?_
  refine V_iconst (v := 1) g dX8_noteLate_19 (by decide) ?_
  refine V_iadd g dX8_noteLate_20 ?_
  obtain ⟨s6, es6, hf⟩ := lt_some hf
  refine V_putI g 5 x4 9 es6 rfl (by decide) rfl q_459 z5 (Or.inl rfl) pf_5_9 dX8_noteLate_21 ?_
  cases hf
  exact V_return g f dX8_noteLate_24
set_option maxRecDepth 20000 in
theorem t_X4_use_b79 {E : ET} {fu : Nat} {s' : St} {w' : Int32} (g : GX E "ThinSeries$Roster" cX4_use 7 1) (f : FX E "use" (some .int) []) : ∀ (n : Nat) (s : St) (l0 : Nat) (l1 : Int32) (l2 : Int32) (l4 : Int32) (l6 : Int32), f_X4_use_b79 fu n s l0 l1 l2 l4 l6 = some (s', w') → V E 7 (QE E (s', .inl (some (vI w')))) s 79 [(0, vR 4 l0), (1, vI l1), (2, vI l2), (4, vI l4), (6, vI l6)] [] := by
  intro n
  induction n with
  | zero =>
    intro s l0 l1 l2 l4 l6 hf
    unfold f_X4_use_b79 at hf
    exact nomatch hf
  | succ n ih =>
    intro s l0 l1 l2 l4 l6 hf
    unfold f_X4_use_b79 at hf
    refine V_iload g 4 dX4_use_79 rfl ?_
    refine V_if_le g 106 dX4_use_81 (by decide) (fun c17 => ?_) (fun c17 => ?_)
    · have hf := it_t hf c17
      refine V_aload_n g 0 dX4_use_106 rfl ?_
      obtain ⟨z18, hf⟩ := nz_some hf
      refine V_getR g 4 l0 0 10 rfl (by decide) rfl rfl q_214 z18 dX4_use_107 ?_
      refine V_iconst (v := 0) g dX4_use_110 (by decide) ?_
      refine V_iload_n g 1 dX4_use_111 rfl ?_
      obtain ⟨z19, hf⟩ := nz_some hf
      obtain ⟨h20, hf⟩ := ckf hf
      obtain ⟨s21, es21, hf⟩ := lt_some hf
      refine V_iast g es21 z19 h20 dX4_use_112 ?_
      refine V_aload_n g 0 dX4_use_113 rfl ?_
      refine V_getR g 4 l0 1 10 rfl (by decide) rfl rfl q_216 z18 dX4_use_114 ?_
      refine V_iload_n g 1 dX4_use_117 rfl ?_
      refine V_aload_n g 0 dX4_use_118 rfl ?_
      refine V_getR g 4 l0 1 10 rfl (by decide) rfl rfl q_216 z18 dX4_use_119 ?_
      refine V_iload_n g 1 dX4_use_122 rfl ?_
      obtain ⟨z22, hf⟩ := nz_some hf
      obtain ⟨h23, hf⟩ := ckf hf
      refine V_iald g z22 h23 dX4_use_123 ?_
      refine V_iload_n g 2 dX4_use_124 rfl ?_
      obtain ⟨s24, x25, hc, hf⟩ := bI_some hf
      refine cS1 g [vI (gI s21 10 (gR s21 4 l0 1) (ix l1)), vI l2] [vI l1, vR 10 (gR s21 4 l0 1)] s24 (vI x25) cf_J9_max_7cf53 (t_J9_max_7cf53 g.2.2.2.2.2.2.1 hc) (by decide) q_498 (Nat.le_of_ble_eq_true rfl) dX4_use_125 ?_ rfl
      obtain ⟨h26, hf⟩ := ckf hf
      obtain ⟨s27, es27, hf⟩ := lt_some hf
      refine V_iast g es27 z22 h26 dX4_use_128 ?_
      refine V_iload g 3 dX4_use_129 rfl ?_
      cases hf
      exact V_ireturn g f dX4_use_131
    · have hf := it_f hf c17
      refine V_aload_n g 0 dX4_use_84 rfl ?_
      obtain ⟨z28, hf⟩ := nz_some hf
      refine V_getR g 4 l0 0 10 rfl (by decide) rfl rfl q_214 z28 dX4_use_85 ?_
      refine V_iload g 4 dX4_use_88 rfl ?_
      refine V_aload_n g 0 dX4_use_90 rfl ?_
      refine V_getR g 4 l0 0 10 rfl (by decide) rfl rfl q_214 z28 dX4_use_91 ?_
      refine V_iload g 4 dX4_use_94 rfl ?_
      refine V_iconst (v := 1) g dX4_use_96 (by decide) ?_
      refine V_isub g dX4_use_97 ?_
      obtain ⟨z29, hf⟩ := nz_some hf
      obtain ⟨h30, hf⟩ := ckf hf
      refine V_iald g z29 h30 dX4_use_98 ?_
      obtain ⟨h31, hf⟩ := ckf hf
      obtain ⟨s32, es32, hf⟩ := lt_some hf
      refine V_iast g es32 z29 h31 dX4_use_99 ?_
      obtain ⟨x33, ex33, hf⟩ := lt_some hf
      refine V_iinc g 4 [(6, vI x33), (0, vR 4 l0), (1, vI l1), (2, vI l2), (4, vI l4)] dX4_use_100 rfl (by rw [ex33]; rfl) (by decide) rfl ?_
      refine V_goto g 79 dX4_use_103 (by decide) ?_
      refine V_sub [(0, vR 4 l0), (1, vI l1), (2, vI l2), (4, vI l4), (6, vI x33)] [1, 2, 3, 4, 0] rfl ?_
      exact ih s32 l0 l1 l2 l4 x33 hf
set_option maxRecDepth 20000 in
theorem t_X4_use_b75 {E : ET} {fu : Nat} {s' : St} {w' : Int32} (g : GX E "ThinSeries$Roster" cX4_use 7 1) (f : FX E "use" (some .int) []) {s : St} {l0 : Nat} {l1 : Int32} {l2 : Int32} {l4 : Int32} {l5 : Int32} (hf : f_X4_use_b75 fu s l0 l1 l2 l4 l5 = some (s', w')) : V E 7 (QE E (s', .inl (some (vI w')))) s 75 [(0, vR 4 l0), (1, vI l1), (2, vI l2), (4, vI l4), (5, vI l5)] [] := by
  unfold f_X4_use_b75 at hf
  refine V_iload g 4 dX4_use_75 rfl ?_
  refine V_istore g [(6, vI l5), (0, vR 4 l0), (1, vI l1), (2, vI l2), (4, vI l4), (5, vI l5)] dX4_use_77 rfl (by decide) rfl ?_
  refine V_sub [(0, vR 4 l0), (1, vI l1), (2, vI l2), (4, vI l4), (6, vI l5)] [1, 2, 3, 4, 0] rfl ?_
  exact t_X4_use_b79 g f _ s l0 l1 l2 l4 l5 hf
set_option maxRecDepth 20000 in
theorem t_X4_use_b52 {E : ET} {fu : Nat} {s' : St} {w' : Int32} (g : GX E "ThinSeries$Roster" cX4_use 7 1) (f : FX E "use" (some .int) []) {s : St} {l0 : Nat} {l1 : Int32} {l2 : Int32} {l4 : Int32} (hf : f_X4_use_b52 fu s l0 l1 l2 l4 = some (s', w')) : V E 7 (QE E (s', .inl (some (vI w')))) s 52 [(0, vR 4 l0), (1, vI l1), (2, vI l2), (4, vI l4)] [] := by
  unfold f_X4_use_b52 at hf
  refine V_aload_n g 0 dX4_use_52 rfl ?_
  obtain ⟨z11, hf⟩ := nz_some hf
  refine V_getI g 4 l0 2 rfl (by decide) rfl q_218 z11 dX4_use_53 ?_
  obtain ⟨x12, ex12, hf⟩ := lt_some hf
  refine V_istore g [(5, vI x12), (0, vR 4 l0), (1, vI l1), (2, vI l2), (4, vI l4)] dX4_use_56 ex12 (by decide) rfl ?_
  refine V_aload_n g 1 dX4_use_58 rfl ?_
  refine V_dup g dX4_use_59 rfl ?_
  refine V_getI g 4 l0 2 rfl (by decide) rfl q_218 z11 dX4_use_60 ?_
  refine V_iconst (v := 1) g dX4_use_63 (by decide) ?_
  refine V_iadd g dX4_use_64 ?_
  obtain ⟨s13, es13, hf⟩ := lt_some hf
  refine V_putI g 4 l0 2 es13 rfl (by decide) rfl q_218 z11 (Or.inl rfl) pf_4_2 dX4_use_65 ?_
  refine V_aload_n g 1 dX4_use_68 rfl ?_
  refine V_getR g 4 l0 1 10 rfl (by decide) rfl rfl q_216 z11 dX4_use_69 ?_
  refine V_iload_n g 2 dX4_use_72 rfl ?_
  refine V_iload_n g 3 dX4_use_73 rfl ?_
  obtain ⟨z14, hf⟩ := nz_some hf
  obtain ⟨h15, hf⟩ := ckf hf
  obtain ⟨s16, es16, hf⟩ := lt_some hf
  refine V_iast g es16 z14 h15 dX4_use_74 ?_
  refine V_sub [(0, vR 4 l0), (1, vI l1), (2, vI l2), (4, vI l4), (5, vI x12)] [1, 2, 3, 4, 0] rfl ?_
  exact t_X4_use_b75 g f hf
set_option maxRecDepth 20000 in
theorem t_X4_use {G : GT} {l : Launch} (hl : l.stackTraces = false) {fu : Nat} {s s' : St} {a0 : Nat} {a1 : Int32} {a2 : Int32} {a3 : Int32} {w' : Int32} (hf : f_X4_use fu s a0 a1 a2 a3 = some (s', w')) : MetG G l yX4_use (.code yX4_use cX4_use 7 (some .int)) 1 s [vR 4 a0, vI a1, vI a2, vI a3] (s', .inl (some (vI w'))) := by
  refine MetG_of hl (by decide +kernel) (Nat.le_of_ble_eq_true rfl) (fun E g f eG eL => ?_)
  subst eG; subst eL
  have g : GX E "ThinSeries$Roster" cX4_use 7 1 := g
  have f : FX E "use" (some .int) [] := f
  show V E 7 (QE E (s', .inl (some (vI w')))) s 0 [(0, vR 4 a0), (1, vI a1), (2, vI a2), (3, vI a3)] []
  unfold f_X4_use at hf
  refine V_iconst (v := (-1)) g dX4_use_0 (by decide) ?_
  refine V_istore g [(4, vI ((-1))), (0, vR 4 a0), (1, vI a1), (2, vI a2), (3, vI a3)] dX4_use_1 rfl (by decide) rfl ?_
  refine V_aload_n g 1 dX4_use_3 rfl ?_
  refine V_iload_n g 2 dX4_use_4 rfl ?_
  obtain ⟨z1, hf⟩ := nz_some hf
  obtain ⟨s2, x3, hc, hf⟩ := bI_some hf
  refine cV1 g [vI a1] [] s2 (vI x3) cf_X4_placeOf (t_X4_placeOf g.2.2.2.2.2.2.1 hc) (RC_own g rfl z1) z1 (by decide) q_411 (Nat.le_of_ble_eq_true rfl) dX4_use_5 ?_ rfl
  refine V_istore g [(5, vI x3), (4, vI ((-1))), (0, vR 4 a0), (1, vI a1), (2, vI a2), (3, vI a3)] dX4_use_8 rfl (by decide) rfl ?_
  refine V_iload g 0 dX4_use_10 rfl ?_
  refine V_iconst (v := (-1)) g dX4_use_12 (by decide) ?_
  refine V_icmp_ne g 75 dX4_use_13 (by decide) (fun c4 => ?_) (fun c4 => ?_)
  · have hf := it_f hf c4
    refine V_sub [(0, vR 4 a0), (1, vI a1), (2, vI a2), (4, vI ((-1))), (5, vI x3)] [2, 3, 4, 1, 0] rfl ?_
    exact t_X4_use_b75 g f hf
  · have hf := it_t hf c4
    refine V_aload_n g 2 dX4_use_16 rfl ?_
    refine V_getI g 4 a0 2 rfl (by decide) rfl q_218 z1 dX4_use_17 ?_
    refine V_if_le g 52 dX4_use_20 (by decide) (fun c5 => ?_) (fun c5 => ?_)
    · have hf := it_t hf c5
      refine V_sub [(0, vR 4 a0), (1, vI a1), (2, vI a2), (4, vI ((-1)))] [2, 3, 4, 1] rfl ?_
      exact t_X4_use_b52 g f hf
    · have hf := it_f hf c5
      refine V_aload_n g 2 dX4_use_23 rfl ?_
      refine V_getI g 4 a0 2 rfl (by decide) rfl q_218 z1 dX4_use_24 ?_
      refine V_iload_n g 5 dX4_use_27 rfl ?_
      refine V_icmp_lt g 52 dX4_use_28 (by decide) (fun c6 => ?_) (fun c6 => ?_)
      · have hf := it_t hf c6
        refine V_sub [(0, vR 4 a0), (1, vI a1), (2, vI a2), (4, vI ((-1)))] [2, 3, 4, 1] rfl ?_
        exact t_X4_use_b52 g f hf
      · have hf := it_f hf c6
        refine V_aload_n g 2 dX4_use_31 rfl ?_
        refine V_dup g dX4_use_32 rfl ?_
        refine V_getI g 4 a0 2 rfl (by decide) rfl q_218 z1 dX4_use_33 ?_
        refine V_iconst (v := 1) g dX4_use_36 (by decide) ?_
        refine V_isub g dX4_use_37 ?_
        obtain ⟨s7, es7, hf⟩ := lt_some hf
        refine V_putI g 4 a0 2 es7 rfl (by decide) rfl q_218 z1 (Or.inl rfl) pf_4_2 dX4_use_38 ?_
        refine V_aload_n g 2 dX4_use_41 rfl ?_
        refine V_getR g 4 a0 0 10 rfl (by decide) rfl rfl q_214 z1 dX4_use_42 ?_
        refine V_aload_n g 2 dX4_use_45 rfl ?_
        refine V_getI g 4 a0 2 rfl (by decide) rfl q_218 z1 dX4_use_46 ?_
        obtain ⟨z8, hf⟩ := nz_some hf
        obtain ⟨h9, hf⟩ := ckf hf
        refine V_iald g z8 h9 dX4_use_49 ?_
        obtain ⟨x10, ex10, hf⟩ := lt_some hf
        refine V_istore g [(4, vI x10), (5, vI x3), (0, vR 4 a0), (1, vI a1), (2, vI a2), (3, vI a3)] dX4_use_50 ex10 (by decide) rfl ?_
        refine V_sub [(0, vR 4 a0), (1, vI a1), (2, vI a2), (4, vI x10)] [2, 3, 4, 0] rfl ?_
        exact t_X4_use_b52 g f hf
set_option maxRecDepth 20000 in
theorem t_X5_begin {G : GT} {l : Launch} (hl : l.stackTraces = false) {fu : Nat} {s s' : St} {a0 : Nat} {a1 : Nat} {a2 : Int32} (hf : f_X5_begin fu s a0 a1 a2 = some s') : MetG G l yX5_begin (.code yX5_begin cX5_begin 3 none) 3 s [vR 5 a0, vR 2 a1, vI a2] (s', .inl none) := by
  refine MetG_of hl (by decide +kernel) (Nat.le_of_ble_eq_true rfl) (fun E g f eG eL => ?_)
  subst eG; subst eL
  have g : GX E "ThinSeries$Series" cX5_begin 3 3 := g
  have f : FX E "begin" none [] := f
  show V E 3 (QE E (s', .inl none)) s 0 [(0, vR 5 a0), (1, vR 2 a1), (2, vI a2)] []
  unfold f_X5_begin at hf
  refine V_aload_n g 0 dX5_begin_0 rfl ?_
  refine V_aload_n g 1 dX5_begin_1 rfl ?_
  obtain ⟨z1, hf⟩ := nz_some hf
  obtain ⟨s2, es2, hf⟩ := lt_some hf
  refine V_putR g 5 a0 0 2 es2 rfl (by decide) rfl rfl q_441 z1 (Or.inl rfl) pf_5_0 q_obj dX5_begin_2 ?_
  refine V_aload_n g 0 dX5_begin_5 rfl ?_
  refine V_iconst (v := 0) g dX5_begin_6 (by decide) ?_
  obtain ⟨s3, es3, hf⟩ := lt_some hf
  refine V_putI g 5 a0 8 es3 rfl (by decide) rfl q_456 z1 (Or.inl rfl) pf_5_8 dX5_begin_7 ?_
  refine V_aload_n g 0 dX5_begin_10 rfl ?_
  refine V_iconst (v := 0) g dX5_begin_11 (by decide) ?_
  obtain ⟨s4, es4, hf⟩ := lt_some hf
  refine V_putI g 5 a0 9 es4 rfl (by decide) rfl q_458 z1 (Or.inl rfl) pf_5_9 dX5_begin_12 ?_
  refine V_aload_n g 0 dX5_begin_15 rfl ?_
  refine V_iconst (v := 0) g dX5_begin_16 (by decide) ?_
  obtain ⟨s5, es5, hf⟩ := lt_some hf
  refine V_putI g 5 a0 10 es5 rfl (by decide) rfl q_460 z1 (Or.inl rfl) pf_5_10 dX5_begin_17 ?_
  refine V_aload_n g 0 dX5_begin_20 rfl ?_
  refine V_getR g 5 a0 0 2 rfl (by decide) rfl rfl q_441 z1 dX5_begin_21 ?_
  refine V_iload_n g 2 dX5_begin_24 rfl ?_
  refine V_aload_n g 0 dX5_begin_25 rfl ?_
  refine V_getR g 5 a0 1 10 rfl (by decide) rfl rfl q_442 z1 dX5_begin_26 ?_
  obtain ⟨z6, hf⟩ := nz_some hf
  obtain ⟨s7, hc, hf⟩ := bV_some hf
  refine cV0 g [vI a2, vR 10 (gR s5 5 a0 1)] [] s7 cf_X2_findSeams (t_X2_findSeams g.2.2.2.2.2.2.1 hc) (RC_own g rfl z6) z6 (by decide) q_503 (Nat.le_of_ble_eq_true rfl) dX5_begin_29 ?_ rfl
  cases hf
  exact V_return g f dX5_begin_32
set_option maxRecDepth 20000 in
theorem t_X5_carry {G : GT} {l : Launch} (hl : l.stackTraces = false) {fu : Nat} {s s' : St} {a0 : Nat} {a1 : Int32} {a2 : Int32} {a3 : Int32} (hf : f_X5_carry fu s a0 a1 a2 a3 = some s') : MetG G l yX5_carry (.code yX5_carry cX5_carry 4 none) 0 s [vR 5 a0, vI a1, vI a2, vI a3] (s', .inl none) := by
  refine MetG_of hl (by decide +kernel) (Nat.le_of_ble_eq_true rfl) (fun E g f eG eL => ?_)
  subst eG; subst eL
  have g : GX E "ThinSeries$Series" cX5_carry 4 0 := g
  have f : FX E "carry" none [] := f
  show V E 4 (QE E (s', .inl none)) s 0 [(0, vR 5 a0), (1, vI a1), (2, vI a2), (3, vI a3)] []
  unfold f_X5_carry at hf
  refine V_aload_n g 0 dX5_carry_0 rfl ?_
  obtain ⟨z1, hf⟩ := nz_some hf
  refine V_getR g 5 a0 3 10 rfl (by decide) rfl rfl q_445 z1 dX5_carry_1 ?_
  refine V_iload_n g 2 dX5_carry_4 rfl ?_
  refine V_iload_n g 3 dX5_carry_5 rfl ?_
  obtain ⟨z2, hf⟩ := nz_some hf
  obtain ⟨h3, hf⟩ := ckf hf
  obtain ⟨s4, es4, hf⟩ := lt_some hf
  refine V_iast g es4 z2 h3 dX5_carry_6 ?_
  refine V_aload_n g 0 dX5_carry_7 rfl ?_
  refine V_getR g 5 a0 4 10 rfl (by decide) rfl rfl q_448 z1 dX5_carry_8 ?_
  refine V_iload_n g 2 dX5_carry_11 rfl ?_
  refine V_aload_n g 0 dX5_carry_12 rfl ?_
  refine V_getR g 5 a0 4 10 rfl (by decide) rfl rfl q_448 z1 dX5_carry_13 ?_
  refine V_iload_n g 1 dX5_carry_16 rfl ?_
  obtain ⟨z5, hf⟩ := nz_some hf
  obtain ⟨h6, hf⟩ := ckf hf
  refine V_iald g z5 h6 dX5_carry_17 ?_
  obtain ⟨h7, hf⟩ := ckf hf
  obtain ⟨s8, es8, hf⟩ := lt_some hf
  refine V_iast g es8 z5 h7 dX5_carry_18 ?_
  refine V_aload_n g 0 dX5_carry_19 rfl ?_
  refine V_getR g 5 a0 5 11 rfl (by decide) rfl rfl q_450 z1 dX5_carry_20 ?_
  refine V_iload_n g 2 dX5_carry_23 rfl ?_
  refine V_aload_n g 0 dX5_carry_24 rfl ?_
  refine V_getR g 5 a0 5 11 rfl (by decide) rfl rfl q_450 z1 dX5_carry_25 ?_
  refine V_iload_n g 1 dX5_carry_28 rfl ?_
  obtain ⟨z9, hf⟩ := nz_some hf
  obtain ⟨h10, hf⟩ := ckf hf
  refine V_lald g z9 h10 dX5_carry_29 ?_
  obtain ⟨h11, hf⟩ := ckf hf
  obtain ⟨s12, es12, hf⟩ := lt_some hf
  refine V_last g es12 z9 h11 dX5_carry_30 ?_
  refine V_aload_n g 0 dX5_carry_31 rfl ?_
  refine V_getR g 5 a0 6 10 rfl (by decide) rfl rfl q_452 z1 dX5_carry_32 ?_
  refine V_iload_n g 2 dX5_carry_35 rfl ?_
  refine V_aload_n g 0 dX5_carry_36 rfl ?_
  refine V_getR g 5 a0 6 10 rfl (by decide) rfl rfl q_452 z1 dX5_carry_37 ?_
  refine V_iload_n g 1 dX5_carry_40 rfl ?_
  obtain ⟨z13, hf⟩ := nz_some hf
  obtain ⟨h14, hf⟩ := ckf hf
  refine V_iald g z13 h14 dX5_carry_41 ?_
  obtain ⟨h15, hf⟩ := ckf hf
  obtain ⟨s16, es16, hf⟩ := lt_some hf
  refine V_iast g es16 z13 h15 dX5_carry_42 ?_
  refine V_aload_n g 0 dX5_carry_43 rfl ?_
  refine V_getR g 5 a0 7 10 rfl (by decide) rfl rfl q_454 z1 dX5_carry_44 ?_
  refine V_iload_n g 2 dX5_carry_47 rfl ?_
  refine V_aload_n g 0 dX5_carry_48 rfl ?_
  refine V_getR g 5 a0 7 10 rfl (by decide) rfl rfl q_454 z1 dX5_carry_49 ?_
  refine V_iload_n g 1 dX5_carry_52 rfl ?_
  obtain ⟨z17, hf⟩ := nz_some hf
  obtain ⟨h18, hf⟩ := ckf hf
  refine V_iald g z17 h18 dX5_carry_53 ?_
  obtain ⟨h19, hf⟩ := ckf hf
  obtain ⟨s20, es20, hf⟩ := lt_some hf
  refine V_iast g es20 z17 h19 dX5_carry_54 ?_
  cases hf
  exact V_return g f dX5_carry_55
set_option maxRecDepth 20000 in
theorem t_X5_join {G : GT} {l : Launch} (hl : l.stackTraces = false) {fu : Nat} {s s' : St} {a0 : Nat} {a1 : Int32} {a2 : Int32} (hf : f_X5_join fu s a0 a1 a2 = some s') : MetG G l yX5_join (.code yX5_join cX5_join 3 none) 1 s [vR 5 a0, vI a1, vI a2] (s', .inl none) := by
  refine MetG_of hl (by decide +kernel) (Nat.le_of_ble_eq_true rfl) (fun E g f eG eL => ?_)
  subst eG; subst eL
  have g : GX E "ThinSeries$Series" cX5_join 3 1 := g
  have f : FX E "join" none [] := f
  show V E 3 (QE E (s', .inl none)) s 0 [(0, vR 5 a0), (1, vI a1), (2, vI a2)] []
  unfold f_X5_join at hf
  refine V_aload_n g 0 dX5_join_0 rfl ?_
  obtain ⟨z1, hf⟩ := nz_some hf
  refine V_getR g 5 a0 4 10 rfl (by decide) rfl rfl q_448 z1 dX5_join_1 ?_
  refine V_iload_n g 2 dX5_join_4 rfl ?_
  refine V_dup2 g dX5_join_5 rfl rfl ?_
  obtain ⟨z2, hf⟩ := nz_some hf
  obtain ⟨h3, hf⟩ := ckf hf
  refine V_iald g z2 h3 dX5_join_6 ?_
  refine V_aload_n g 0 dX5_join_7 rfl ?_
  refine V_getR g 5 a0 4 10 rfl (by decide) rfl rfl q_448 z1 dX5_join_8 ?_
  refine V_iload_n g 1 dX5_join_11 rfl ?_
  obtain ⟨h4, hf⟩ := ckf hf
  refine V_iald g z2 h4 dX5_join_12 ?_
  refine V_iadd g dX5_join_13 ?_
  obtain ⟨h5, hf⟩ := ckf hf
  obtain ⟨s6, es6, hf⟩ := lt_some hf
  refine V_iast g es6 z2 h5 dX5_join_14 ?_
  refine V_aload_n g 0 dX5_join_15 rfl ?_
  refine V_getR g 5 a0 5 11 rfl (by decide) rfl rfl q_450 z1 dX5_join_16 ?_
  refine V_iload_n g 2 dX5_join_19 rfl ?_
  refine V_dup2 g dX5_join_20 rfl rfl ?_
  obtain ⟨z7, hf⟩ := nz_some hf
  obtain ⟨h8, hf⟩ := ckf hf
  refine V_lald g z7 h8 dX5_join_21 ?_
  refine V_aload_n g 0 dX5_join_22 rfl ?_
  refine V_getR g 5 a0 5 11 rfl (by decide) rfl rfl q_450 z1 dX5_join_23 ?_
  refine V_iload_n g 1 dX5_join_26 rfl ?_
  obtain ⟨h9, hf⟩ := ckf hf
  refine V_lald g z7 h9 dX5_join_27 ?_
  refine V_ladd g dX5_join_28 ?_
  obtain ⟨h10, hf⟩ := ckf hf
  obtain ⟨s11, es11, hf⟩ := lt_some hf
  refine V_last g es11 z7 h10 dX5_join_29 ?_
  refine V_aload_n g 0 dX5_join_30 rfl ?_
  refine V_getR g 5 a0 6 10 rfl (by decide) rfl rfl q_452 z1 dX5_join_31 ?_
  refine V_iload_n g 2 dX5_join_34 rfl ?_
  refine V_aload_n g 0 dX5_join_35 rfl ?_
  refine V_getR g 5 a0 6 10 rfl (by decide) rfl rfl q_452 z1 dX5_join_36 ?_
  refine V_iload_n g 2 dX5_join_39 rfl ?_
  obtain ⟨z12, hf⟩ := nz_some hf
  obtain ⟨h13, hf⟩ := ckf hf
  refine V_iald g z12 h13 dX5_join_40 ?_
  refine V_aload_n g 0 dX5_join_41 rfl ?_
  refine V_getR g 5 a0 6 10 rfl (by decide) rfl rfl q_452 z1 dX5_join_42 ?_
  refine V_iload_n g 1 dX5_join_45 rfl ?_
  obtain ⟨h14, hf⟩ := ckf hf
  refine V_iald g z12 h14 dX5_join_46 ?_
  obtain ⟨s15, x16, hc, hf⟩ := bI_some hf
  refine cS1 g [vI (gI s11 10 (gR s11 5 a0 6) (ix a2)), vI (gI s11 10 (gR s11 5 a0 6) (ix a1))] [vI a2, vR 10 (gR s11 5 a0 6)] s15 (vI x16) cf_J9_min_7cf53 (t_J9_min_7cf53 g.2.2.2.2.2.2.1 hc) (by decide) q_524 (Nat.le_of_ble_eq_true rfl) dX5_join_47 ?_ rfl
  obtain ⟨h17, hf⟩ := ckf hf
  obtain ⟨s18, es18, hf⟩ := lt_some hf
  refine V_iast g es18 z12 h17 dX5_join_50 ?_
  refine V_aload_n g 0 dX5_join_51 rfl ?_
  refine V_getR g 5 a0 7 10 rfl (by decide) rfl rfl q_454 z1 dX5_join_52 ?_
  refine V_iload_n g 2 dX5_join_55 rfl ?_
  refine V_aload_n g 0 dX5_join_56 rfl ?_
  refine V_getR g 5 a0 7 10 rfl (by decide) rfl rfl q_454 z1 dX5_join_57 ?_
  refine V_iload_n g 2 dX5_join_60 rfl ?_
  obtain ⟨z19, hf⟩ := nz_some hf
  obtain ⟨h20, hf⟩ := ckf hf
  refine V_iald g z19 h20 dX5_join_61 ?_
  refine V_aload_n g 0 dX5_join_62 rfl ?_
  refine V_getR g 5 a0 7 10 rfl (by decide) rfl rfl q_454 z1 dX5_join_63 ?_
  refine V_iload_n g 1 dX5_join_66 rfl ?_
  obtain ⟨h21, hf⟩ := ckf hf
  refine V_iald g z19 h21 dX5_join_67 ?_
  obtain ⟨s22, x23, hc, hf⟩ := bI_some hf
  refine cS1 g [vI (gI s18 10 (gR s18 5 a0 7) (ix a2)), vI (gI s18 10 (gR s18 5 a0 7) (ix a1))] [vI a2, vR 10 (gR s18 5 a0 7)] s22 (vI x23) cf_J9_max_7cf53 (t_J9_max_7cf53 g.2.2.2.2.2.2.1 hc) (by decide) q_527 (Nat.le_of_ble_eq_true rfl) dX5_join_68 ?_ rfl
  obtain ⟨h24, hf⟩ := ckf hf
  obtain ⟨s25, es25, hf⟩ := lt_some hf
  refine V_iast g es25 z19 h24 dX5_join_71 ?_
  cases hf
  exact V_return g f dX5_join_72
set_option maxRecDepth 20000 in
theorem t_X2_tierUnder_b2 {E : ET} {fu : Nat} {s' : St} {w' : Int32} (g : GX E "ThinSeries$Plan" cX2_tierUnder 4 0) (f : FX E "tierUnder" (some .int) []) : ∀ (n : Nat) (s : St) (l0 : Nat) (l1 : Nat) (l2 : Int32) (l3 : Int32), f_X2_tierUnder_b2 fu n s l0 l1 l2 l3 = some (s', w') → V E 4 (QE E (s', .inl (some (vI w')))) s 2 [(0, vR 2 l0), (1, vR 10 l1), (2, vI l2), (3, vI l3)] [] := by
  intro n
  induction n with
  | zero =>
    intro s l0 l1 l2 l3 hf
    unfold f_X2_tierUnder_b2 at hf
    exact nomatch hf
  | succ n ih =>
    intro s l0 l1 l2 l3 hf
    unfold f_X2_tierUnder_b2 at hf
    refine V_iload_n g 3 dX2_tierUnder_2 rfl ?_
    refine V_aload_n g 0 dX2_tierUnder_3 rfl ?_
    obtain ⟨z1, hf⟩ := nz_some hf
    refine V_getI g 2 l0 3 rfl (by decide) rfl q_295 z1 dX2_tierUnder_4 ?_
    refine V_icmp_ge g 25 dX2_tierUnder_7 (by decide) (fun c2 => ?_) (fun c2 => ?_)
    · have hf := it_t hf c2
      refine V_iconst (v := (-1)) g dX2_tierUnder_25 (by decide) ?_
      cases hf
      exact V_ireturn g f dX2_tierUnder_26
    · have hf := it_f hf c2
      refine V_iload_n g 2 dX2_tierUnder_10 rfl ?_
      refine V_aload_n g 1 dX2_tierUnder_11 rfl ?_
      refine V_iload_n g 3 dX2_tierUnder_12 rfl ?_
      obtain ⟨z3, hf⟩ := nz_some hf
      obtain ⟨h4, hf⟩ := ckf hf
      refine V_iald g z3 h4 dX2_tierUnder_13 ?_
      refine V_icmp_lt g 19 dX2_tierUnder_14 (by decide) (fun c5 => ?_) (fun c5 => ?_)
      · have hf := it_t hf c5
        obtain ⟨x6, ex6, hf⟩ := lt_some hf
        refine V_iinc g 3 [(3, vI x6), (0, vR 2 l0), (1, vR 10 l1), (2, vI l2)] dX2_tierUnder_19 rfl (by rw [ex6]; rfl) (by decide) rfl ?_
        refine V_goto g 2 dX2_tierUnder_22 (by decide) ?_
        refine V_sub [(0, vR 2 l0), (1, vR 10 l1), (2, vI l2), (3, vI x6)] [1, 2, 3, 0] rfl ?_
        exact ih s l0 l1 l2 x6 hf
      · have hf := it_f hf c5
        refine V_iload_n g 3 dX2_tierUnder_17 rfl ?_
        cases hf
        exact V_ireturn g f dX2_tierUnder_18
set_option maxRecDepth 20000 in
theorem t_X2_tierUnder {G : GT} {l : Launch} (hl : l.stackTraces = false) {fu : Nat} {s s' : St} {a0 : Nat} {a1 : Nat} {a2 : Int32} {w' : Int32} (hf : f_X2_tierUnder fu s a0 a1 a2 = some (s', w')) : MetG G l yX2_tierUnder (.code yX2_tierUnder cX2_tierUnder 4 (some .int)) 0 s [vR 2 a0, vR 10 a1, vI a2] (s', .inl (some (vI w'))) := by
  refine MetG_of hl (by decide +kernel) (Nat.le_of_ble_eq_true rfl) (fun E g f eG eL => ?_)
  subst eG; subst eL
  have g : GX E "ThinSeries$Plan" cX2_tierUnder 4 0 := g
  have f : FX E "tierUnder" (some .int) [] := f
  show V E 4 (QE E (s', .inl (some (vI w')))) s 0 [(0, vR 2 a0), (1, vR 10 a1), (2, vI a2)] []
  unfold f_X2_tierUnder at hf
  refine V_iconst (v := 0) g dX2_tierUnder_0 (by decide) ?_
  refine V_istore_n g [(3, vI 0), (0, vR 2 a0), (1, vR 10 a1), (2, vI a2)] dX2_tierUnder_1 rfl (by decide) rfl ?_
  refine V_sub [(0, vR 2 a0), (1, vR 10 a1), (2, vI a2), (3, vI 0)] [1, 2, 3, 0] rfl ?_
  exact t_X2_tierUnder_b2 g f _ s a0 a1 a2 0 hf
set_option maxRecDepth 20000 in
theorem t_X5_tierOf {G : GT} {l : Launch} (hl : l.stackTraces = false) {fu : Nat} {s s' : St} {a0 : Nat} {a1 : Int32} {w' : Int32} (hf : f_X5_tierOf fu s a0 a1 = some (s', w')) : MetG G l yX5_tierOf (.code yX5_tierOf cX5_tierOf 2 (some .int)) 1 s [vR 5 a0, vI a1] (s', .inl (some (vI w'))) := by
  refine MetG_of hl (by decide +kernel) (Nat.le_of_ble_eq_true rfl) (fun E g f eG eL => ?_)
  subst eG; subst eL
  have g : GX E "ThinSeries$Series" cX5_tierOf 2 1 := g
  have f : FX E "tierOf" (some .int) [] := f
  show V E 2 (QE E (s', .inl (some (vI w')))) s 0 [(0, vR 5 a0), (1, vI a1)] []
  unfold f_X5_tierOf at hf
  refine V_aload_n g 0 dX5_tierOf_0 rfl ?_
  obtain ⟨z1, hf⟩ := nz_some hf
  refine V_getR g 5 a0 0 2 rfl (by decide) rfl rfl q_441 z1 dX5_tierOf_1 ?_
  refine V_aload_n g 0 dX5_tierOf_4 rfl ?_
  refine V_getR g 5 a0 1 10 rfl (by decide) rfl rfl q_442 z1 dX5_tierOf_5 ?_
  refine V_iload_n g 1 dX5_tierOf_8 rfl ?_
  obtain ⟨z2, hf⟩ := nz_some hf
  obtain ⟨s3, x4, hc, hf⟩ := bI_some hf
  refine cV1 g [vR 10 (gR s 5 a0 1), vI a1] [] s3 (vI x4) cf_X2_tierUnder (t_X2_tierUnder g.2.2.2.2.2.2.1 hc) (RC_own g rfl z2) z2 (by decide) q_515 (Nat.le_of_ble_eq_true rfl) dX5_tierOf_9 ?_ rfl
  cases hf
  exact V_ireturn g f dX5_tierOf_12
set_option maxRecDepth 20000 in
theorem t_X5_moveTo_b158 {E : ET} {fu : Nat} {s' : St} {w' : Int32} (g : GX E "ThinSeries$Series" cX5_moveTo 7 3) (f : FX E "moveTo" (some .int) []) {k54 : St → Nat → Int32 → Int32 → Int32 → Option (St × Int32)} (hk54 : ∀ (s : St) (l0 : Nat) (l2 : Int32) (l3 : Int32) (l4 : Int32), k54 s l0 l2 l3 l4 = some (s', w') → V E 7 (QE E (s', .inl (some (vI w')))) s 54 [(0, vR 5 l0), (2, vI l2), (3, vI l3), (4, vI l4)] []) {s : St} {l0 : Nat} {l2 : Int32} {l3 : Int32} {l4 : Int32} (hf : f_X5_moveTo_b158 fu k54 s l0 l2 l3 l4 = some (s', w')) : V E 7 (QE E (s', .inl (some (vI w')))) s 158 [(0, vR 5 l0), (2, vI l2), (3, vI l3), (4, vI l4)] [] := by
  unfold f_X5_moveTo_b158 at hf
  obtain ⟨x39, ex39, hf⟩ := lt_some hf
  refine V_iinc g 3 [(4, vI x39), (0, vR 5 l0), (2, vI l2), (3, vI l3)] dX5_moveTo_158 rfl (by rw [ex39]; rfl) (by decide) rfl ?_
  refine V_goto g 54 dX5_moveTo_161 (by decide) ?_
  refine V_sub [(0, vR 5 l0), (2, vI l2), (3, vI l3), (4, vI x39)] [1, 2, 3, 0] rfl ?_
  exact hk54 s l0 l2 l3 x39 hf
set_option maxRecDepth 20000 in
theorem t_X5_moveTo_b146 {E : ET} {fu : Nat} {s' : St} {w' : Int32} (g : GX E "ThinSeries$Series" cX5_moveTo 7 3) (f : FX E "moveTo" (some .int) []) {k54 : St → Nat → Int32 → Int32 → Int32 → Option (St × Int32)} (hk54 : ∀ (s : St) (l0 : Nat) (l2 : Int32) (l3 : Int32) (l4 : Int32), k54 s l0 l2 l3 l4 = some (s', w') → V E 7 (QE E (s', .inl (some (vI w')))) s 54 [(0, vR 5 l0), (2, vI l2), (3, vI l3), (4, vI l4)] []) {s : St} {l0 : Nat} {l2 : Int32} {l3 : Int32} {l4 : Int32} {l6 : Int32} (hf : f_X5_moveTo_b146 fu k54 s l0 l2 l3 l4 l6 = some (s', w')) : V E 7 (QE E (s', .inl (some (vI w')))) s 146 [(0, vR 5 l0), (2, vI l2), (3, vI l3), (4, vI l4), (6, vI l6)] [] := by
  unfold f_X5_moveTo_b146 at hf
  refine V_aload_n g 0 dX5_moveTo_146 rfl ?_
  refine V_iload g 3 dX5_moveTo_147 rfl ?_
  refine V_iload_n g 1 dX5_moveTo_149 rfl ?_
  refine V_iload g 4 dX5_moveTo_150 rfl ?_
  obtain ⟨z36, hf⟩ := nz_some hf
  obtain ⟨s37, hc, hf⟩ := bV_some hf
  refine cV0 g [vI l4, vI l2, vI l6] [] s37 cf_X5_carry (t_X5_carry g.2.2.2.2.2.2.1 hc) (RC_own g rfl z36) z36 (by decide) q_528 (Nat.le_of_ble_eq_true rfl) dX5_moveTo_152 ?_ rfl
  obtain ⟨x38, ex38, hf⟩ := lt_some hf
  refine V_iinc g 1 [(2, vI x38), (0, vR 5 l0), (3, vI l3), (4, vI l4), (6, vI l6)] dX5_moveTo_155 rfl (by rw [ex38]; rfl) (by decide) rfl ?_
  refine V_sub [(0, vR 5 l0), (2, vI x38), (3, vI l3), (4, vI l4)] [1, 0, 2, 3] rfl ?_
  exact t_X5_moveTo_b158 g f hk54 hf
set_option maxRecDepth 20000 in
theorem t_X5_moveTo_b54 {E : ET} {fu : Nat} {s' : St} {w' : Int32} (g : GX E "ThinSeries$Series" cX5_moveTo 7 3) (f : FX E "moveTo" (some .int) []) : ∀ (n : Nat) (s : St) (l0 : Nat) (l2 : Int32) (l3 : Int32) (l4 : Int32), f_X5_moveTo_b54 fu n s l0 l2 l3 l4 = some (s', w') → V E 7 (QE E (s', .inl (some (vI w')))) s 54 [(0, vR 5 l0), (2, vI l2), (3, vI l3), (4, vI l4)] [] := by
  intro n
  induction n with
  | zero =>
    intro s l0 l2 l3 l4 hf
    unfold f_X5_moveTo_b54 at hf
    exact nomatch hf
  | succ n ih =>
    intro s l0 l2 l3 l4 hf
    unfold f_X5_moveTo_b54 at hf
    refine V_iload g 3 dX5_moveTo_54 rfl ?_
    refine V_aload_n g 0 dX5_moveTo_56 rfl ?_
    obtain ⟨z12, hf⟩ := nz_some hf
    refine V_getI g 5 l0 8 rfl (by decide) rfl q_456 z12 dX5_moveTo_57 ?_
    refine V_icmp_ge g 164 dX5_moveTo_60 (by decide) (fun c13 => ?_) (fun c13 => ?_)
    · have hf := it_t hf c13
      refine V_aload_n g 0 dX5_moveTo_164 rfl ?_
      refine V_iload_n g 1 dX5_moveTo_165 rfl ?_
      obtain ⟨s14, es14, hf⟩ := lt_some hf
      refine V_putI g 5 l0 8 es14 rfl (by decide) rfl q_456 z12 (Or.inl rfl) pf_5_8 dX5_moveTo_166 ?_
      refine V_aload_n g 0 dX5_moveTo_169 rfl ?_
      refine V_dup g dX5_moveTo_170 rfl ?_
      refine V_getI g 5 l0 10 rfl (by decide) rfl q_460 z12 dX5_moveTo_171 ?_
      refine V_iload_n g 2 dX5_moveTo_174 rfl ?_
      refine V_iadd g dX5_moveTo_175 ?_
      obtain ⟨s15, es15, hf⟩ := lt_some hf
      refine V_putI g 5 l0 10 es15 rfl (by decide) rfl q_460 z12 (Or.inl rfl) pf_5_10 dX5_moveTo_176 ?_
      refine V_iload_n g 2 dX5_moveTo_179 rfl ?_
      cases hf
      exact V_ireturn g f dX5_moveTo_180
    · have hf := it_f hf c13
      refine V_aload_n g 0 dX5_moveTo_63 rfl ?_
      refine V_aload_n g 0 dX5_moveTo_64 rfl ?_
      refine V_getR g 5 l0 3 10 rfl (by decide) rfl rfl q_445 z12 dX5_moveTo_65 ?_
      refine V_iload g 3 dX5_moveTo_68 rfl ?_
      obtain ⟨z16, hf⟩ := nz_some hf
      obtain ⟨h17, hf⟩ := ckf hf
      refine V_iald g z16 h17 dX5_moveTo_70 ?_
      obtain ⟨s18, x19, hc, hf⟩ := bI_some hf
      refine cV1 g [vI (gI s 10 (gR s 5 l0 3) (ix l4))] [] s18 (vI x19) cf_X5_tierOf (t_X5_tierOf g.2.2.2.2.2.2.1 hc) (RC_own g rfl z12) z12 (by decide) q_511 (Nat.le_of_ble_eq_true rfl) dX5_moveTo_71 ?_ rfl
      refine V_istore g [(5, vI x19), (0, vR 5 l0), (2, vI l2), (3, vI l3), (4, vI l4)] dX5_moveTo_74 rfl (by decide) rfl ?_
      refine V_iload g 0 dX5_moveTo_76 rfl ?_
      refine V_iconst (v := (-1)) g dX5_moveTo_78 (by decide) ?_
      refine V_icmp_ne g 95 dX5_moveTo_79 (by decide) (fun c20 => ?_) (fun c20 => ?_)
      · have hf := it_f hf c20
        refine V_aload_n g 1 dX5_moveTo_95 rfl ?_
        refine V_getR g 5 l0 3 10 rfl (by decide) rfl rfl q_445 z12 dX5_moveTo_96 ?_
        refine V_iload g 4 dX5_moveTo_99 rfl ?_
        obtain ⟨z21, hf⟩ := nz_some hf
        obtain ⟨h22, hf⟩ := ckf hf
        refine V_iald g z21 h22 dX5_moveTo_101 ?_
        refine V_aload_n g 1 dX5_moveTo_102 rfl ?_
        refine V_getR g 5 l0 0 2 rfl (by decide) rfl rfl q_441 z12 dX5_moveTo_103 ?_
        obtain ⟨z23, hf⟩ := nz_some hf
        refine V_getR g 2 (gR s18 5 l0 0) 0 10 rfl (by decide) rfl rfl q_287 z23 dX5_moveTo_106 ?_
        refine V_iload g 0 dX5_moveTo_109 rfl ?_
        obtain ⟨z24, hf⟩ := nz_some hf
        obtain ⟨h25, hf⟩ := ckf hf
        refine V_iald g z24 h25 dX5_moveTo_111 ?_
        obtain ⟨s26, x27, hc, hf⟩ := bI_some hf
        refine cN1 g [vI (gI s18 10 (gR s18 5 l0 3) (ix l4)), vI (gI s18 10 (gR s18 2 (gR s18 5 l0 0) 0) (ix x19))] [] s26 (vI x27) cf_X8_multipleUpTo (t_X8_multipleUpTo g.2.2.2.2.2.2.1 hc) (by decide) q_519 (Nat.le_of_ble_eq_true rfl) dX5_moveTo_112 ?_ rfl
        refine V_istore g [(6, vI x27), (5, vI x19), (0, vR 5 l0), (2, vI l2), (3, vI l3), (4, vI l4)] dX5_moveTo_115 rfl (by decide) rfl ?_
        refine V_iload_n g 3 dX5_moveTo_117 rfl ?_
        refine V_if_le g 146 dX5_moveTo_118 (by decide) (fun c28 => ?_) (fun c28 => ?_)
        · have hf := it_t hf c28
          refine V_sub [(0, vR 5 l0), (2, vI l2), (3, vI l3), (4, vI l4), (6, vI x27)] [2, 3, 4, 5, 0] rfl ?_
          exact t_X5_moveTo_b146 g f ih hf
        · have hf := it_f hf c28
          refine V_aload_n g 2 dX5_moveTo_121 rfl ?_
          refine V_getR g 5 l0 3 10 rfl (by decide) rfl rfl q_445 z12 dX5_moveTo_122 ?_
          refine V_iload_n g 3 dX5_moveTo_125 rfl ?_
          refine V_iconst (v := 1) g dX5_moveTo_126 (by decide) ?_
          refine V_isub g dX5_moveTo_127 ?_
          obtain ⟨z29, hf⟩ := nz_some hf
          obtain ⟨h30, hf⟩ := ckf hf
          refine V_iald g z29 h30 dX5_moveTo_128 ?_
          refine V_iload g 0 dX5_moveTo_129 rfl ?_
          refine V_icmp_ne g 146 dX5_moveTo_131 (by decide) (fun c31 => ?_) (fun c31 => ?_)
          · have hf := it_f hf c31
            refine V_sub [(0, vR 5 l0), (2, vI l2), (3, vI l3), (4, vI l4), (6, vI x27)] [2, 3, 4, 5, 0] rfl ?_
            exact t_X5_moveTo_b146 g f ih hf
          · have hf := it_t hf c31
            refine V_aload_n g 2 dX5_moveTo_134 rfl ?_
            refine V_iload g 5 dX5_moveTo_135 rfl ?_
            refine V_iload_n g 3 dX5_moveTo_137 rfl ?_
            refine V_iconst (v := 1) g dX5_moveTo_138 (by decide) ?_
            refine V_isub g dX5_moveTo_139 ?_
            obtain ⟨s32, hc, hf⟩ := bV_some hf
            refine cV0 g [vI l4, vI (l2 - 1)] [] s32 cf_X5_join (t_X5_join g.2.2.2.2.2.2.1 hc) (RC_own g rfl z12) z12 (by decide) q_520 (Nat.le_of_ble_eq_true rfl) dX5_moveTo_140 ?_ rfl
            refine V_goto g 158 dX5_moveTo_143 (by decide) ?_
            refine V_sub [(0, vR 5 l0), (2, vI l2), (3, vI l3), (4, vI l4)] [2, 3, 4, 5] rfl ?_
            exact t_X5_moveTo_b158 g f ih hf
      · have hf := it_t hf c20
        refine V_iload_n g 3 dX5_moveTo_82 rfl ?_
        refine V_aload_n g 1 dX5_moveTo_83 rfl ?_
        refine V_getR g 5 l0 4 10 rfl (by decide) rfl rfl q_448 z12 dX5_moveTo_84 ?_
        refine V_iload g 4 dX5_moveTo_87 rfl ?_
        obtain ⟨z33, hf⟩ := nz_some hf
        obtain ⟨h34, hf⟩ := ckf hf
        refine V_iald g z33 h34 dX5_moveTo_89 ?_
        refine V_iadd g dX5_moveTo_90 ?_
        obtain ⟨x35, ex35, hf⟩ := lt_some hf
        refine V_istore_n g [(3, vI x35), (5, vI x19), (0, vR 5 l0), (2, vI l2), (4, vI l4)] dX5_moveTo_91 ex35 (by decide) rfl ?_
        refine V_goto g 158 dX5_moveTo_92 (by decide) ?_
        refine V_sub [(0, vR 5 l0), (2, vI l2), (3, vI x35), (4, vI l4)] [2, 3, 0, 4] rfl ?_
        exact t_X5_moveTo_b158 g f ih hf
set_option maxRecDepth 20000 in
theorem t_X5_moveTo {G : GT} {l : Launch} (hl : l.stackTraces = false) {fu : Nat} {s s' : St} {a0 : Nat} {a1 : Int32} {w' : Int32} (hf : f_X5_moveTo fu s a0 a1 = some (s', w')) : MetG G l yX5_moveTo (.code yX5_moveTo cX5_moveTo 7 (some .int)) 3 s [vR 5 a0, vI a1] (s', .inl (some (vI w'))) := by
  refine MetG_of hl (by decide +kernel) (Nat.le_of_ble_eq_true rfl) (fun E g f eG eL => ?_)
  subst eG; subst eL
  have g : GX E "ThinSeries$Series" cX5_moveTo 7 3 := g
  have f : FX E "moveTo" (some .int) [] := f
  show V E 7 (QE E (s', .inl (some (vI w')))) s 0 [(0, vR 5 a0), (1, vI a1)] []
  unfold f_X5_moveTo at hf
  refine V_aload_n g 0 dX5_moveTo_0 rfl ?_
  obtain ⟨z1, hf⟩ := nz_some hf
  refine V_getR g 5 a0 0 2 rfl (by decide) rfl rfl q_441 z1 dX5_moveTo_1 ?_
  refine V_iload_n g 1 dX5_moveTo_4 rfl ?_
  refine V_aload_n g 0 dX5_moveTo_5 rfl ?_
  refine V_getR g 5 a0 2 10 rfl (by decide) rfl rfl q_444 z1 dX5_moveTo_6 ?_
  obtain ⟨z2, hf⟩ := nz_some hf
  obtain ⟨s3, hc, hf⟩ := bV_some hf
  refine cV0 g [vI a1, vR 10 (gR s 5 a0 2)] [] s3 cf_X2_findSeams (t_X2_findSeams g.2.2.2.2.2.2.1 hc) (RC_own g rfl z2) z2 (by decide) q_503 (Nat.le_of_ble_eq_true rfl) dX5_moveTo_9 ?_ rfl
  refine V_aload_n g 0 dX5_moveTo_12 rfl ?_
  refine V_getR g 5 a0 2 10 rfl (by decide) rfl rfl q_444 z1 dX5_moveTo_13 ?_
  refine V_iconst (v := 0) g dX5_moveTo_16 (by decide) ?_
  obtain ⟨z4, hf⟩ := nz_some hf
  obtain ⟨h5, hf⟩ := ckf hf
  refine V_iald g z4 h5 dX5_moveTo_17 ?_
  refine V_aload_n g 0 dX5_moveTo_18 rfl ?_
  refine V_getR g 5 a0 1 10 rfl (by decide) rfl rfl q_442 z1 dX5_moveTo_19 ?_
  refine V_iconst (v := 0) g dX5_moveTo_22 (by decide) ?_
  obtain ⟨z6, hf⟩ := nz_some hf
  obtain ⟨h7, hf⟩ := ckf hf
  refine V_iald g z6 h7 dX5_moveTo_23 ?_
  refine V_icmp_ne g 29 dX5_moveTo_24 (by decide) (fun c8 => ?_) (fun c8 => ?_)
  · have hf := it_f hf c8
    refine V_aload_n g 0 dX5_moveTo_29 rfl ?_
    refine V_getR g 5 a0 2 10 rfl (by decide) rfl rfl q_444 z1 dX5_moveTo_30 ?_
    refine V_iconst (v := 0) g dX5_moveTo_33 (by decide) ?_
    refine V_aload_n g 0 dX5_moveTo_34 rfl ?_
    refine V_getR g 5 a0 1 10 rfl (by decide) rfl rfl q_442 z1 dX5_moveTo_35 ?_
    refine V_iconst (v := 0) g dX5_moveTo_38 (by decide) ?_
    refine V_aload_n g 0 dX5_moveTo_39 rfl ?_
    refine V_getR g 5 a0 1 10 rfl (by decide) rfl rfl q_442 z1 dX5_moveTo_40 ?_
    refine V_alen10 g z6 dX5_moveTo_43 ?_
    obtain ⟨h9, hf⟩ := ckf hf
    obtain ⟨h10, hf⟩ := ckf hf
    obtain ⟨s11, es11, hf⟩ := lt_some hf
    refine V_copy10 g es11 (by decide) z4 z6 h9 h10 q_508 q_510 q_509 q_114 (Nat.le_of_ble_eq_true rfl) dX5_moveTo_44 ?_
    refine V_iconst (v := 0) g dX5_moveTo_47 (by decide) ?_
    refine V_istore_n g [(2, vI 0), (0, vR 5 a0), (1, vI a1)] dX5_moveTo_48 rfl (by decide) rfl ?_
    refine V_iconst (v := 0) g dX5_moveTo_49 (by decide) ?_
    refine V_istore_n g [(3, vI 0), (2, vI 0), (0, vR 5 a0), (1, vI a1)] dX5_moveTo_50 rfl (by decide) rfl ?_
    refine V_iconst (v := 0) g dX5_moveTo_51 (by decide) ?_
    refine V_istore g [(4, vI 0), (3, vI 0), (2, vI 0), (0, vR 5 a0), (1, vI a1)] dX5_moveTo_52 rfl (by decide) rfl ?_
    refine V_sub [(0, vR 5 a0), (2, vI 0), (3, vI 0), (4, vI 0)] [3, 2, 1, 0] rfl ?_
    exact t_X5_moveTo_b54 g f _ s11 a0 0 0 0 hf
  · have hf := it_t hf c8
    refine V_iconst (v := 0) g dX5_moveTo_27 (by decide) ?_
    cases hf
    exact V_ireturn g f dX5_moveTo_28
set_option maxRecDepth 20000 in
theorem t_X8_bring_b94 {E : ET} {fu : Nat} {s' : St} {w' : Nat} (g : GX E "ThinSeries" cX8_bring 5 4) (f : FX E "bring" (some (.object "ThinSeries$Series")) []) {s : St} {l4 : Nat} (hf : f_X8_bring_b94 fu s l4 = some (s', w')) : V E 5 (QE E (s', .inl (some (vR 5 w')))) s 94 [(4, vR 5 l4)] [] := by
  unfold f_X8_bring_b94 at hf
  refine V_aload g 0 dX8_bring_94 rfl ?_
  cases hf
  exact V_areturn g f (Or.inl ⟨_, rfl⟩) dX8_bring_96
set_option maxRecDepth 20000 in
theorem t_X8_bring_b47 {E : ET} {fu : Nat} {s' : St} {w' : Nat} (g : GX E "ThinSeries" cX8_bring 5 4) (f : FX E "bring" (some (.object "ThinSeries$Series")) []) {s : St} {l0 : Nat} {l1 : Int32} {l2 : Int32} {l3 : Int32} (hf : f_X8_bring_b47 fu s l0 l1 l2 l3 = some (s', w')) : V E 5 (QE E (s', .inl (some (vR 5 w')))) s 47 [(0, vR 8 l0), (1, vI l1), (2, vI l2), (3, vI l3)] [] := by
  unfold f_X8_bring_b47 at hf
  refine V_aload_n g 0 dX8_bring_47 rfl ?_
  refine V_iload_n g 1 dX8_bring_48 rfl ?_
  obtain ⟨z13, hf⟩ := nz_some hf
  obtain ⟨s14, x15, hc, hf⟩ := bI_some hf
  refine cV1 g [vI l1] [] s14 (vR 5 x15) cf_X8_rowsOf (t_X8_rowsOf g.2.2.2.2.2.2.1 hc) (RC_own g rfl z13) z13 (by decide) q_432 (Nat.le_of_ble_eq_true rfl) dX8_bring_49 ?_ rfl
  refine V_astore g [(4, vR 5 x15), (0, vR 8 l0), (1, vI l1), (2, vI l2), (3, vI l3)] dX8_bring_52 rfl (by decide) rfl ?_
  refine V_iload_n g 4 dX8_bring_54 rfl ?_
  refine V_if_eq g 71 dX8_bring_55 (by decide) (fun c16 => ?_) (fun c16 => ?_)
  · have hf := it_t hf c16
    refine V_aload_n g 1 dX8_bring_71 rfl ?_
    refine V_dup g dX8_bring_72 rfl ?_
    refine V_getI g 8 l0 18 rfl (by decide) rfl q_330 z13 dX8_bring_73 ?_
    refine V_aload g 0 dX8_bring_76 rfl ?_
    refine V_aload_n g 1 dX8_bring_78 rfl ?_
    refine V_getR g 8 l0 4 4 rfl (by decide) rfl rfl q_316 z13 dX8_bring_79 ?_
    obtain ⟨z17, hf⟩ := nz_some hf
    refine V_getR g 4 (gR s14 8 l0 4) 1 10 rfl (by decide) rfl rfl q_217 z17 dX8_bring_82 ?_
    refine V_iload_n g 2 dX8_bring_85 rfl ?_
    obtain ⟨z18, hf⟩ := nz_some hf
    obtain ⟨h19, hf⟩ := ckf hf
    refine V_iald g z18 h19 dX8_bring_86 ?_
    obtain ⟨z20, hf⟩ := nz_some hf
    obtain ⟨s21, x22, hc, hf⟩ := bI_some hf
    refine cV1 g [vI (gI s14 10 (gR s14 4 (gR s14 8 l0 4) 1) (ix l1))] [vI (gI s14 8 l0 18), vR 8 l0] s21 (vI x22) cf_X5_moveTo (t_X5_moveTo g.2.2.2.2.2.2.1 hc) (RC_own g rfl z20) z20 (by decide) q_504 (Nat.le_of_ble_eq_true rfl) dX8_bring_87 ?_ rfl
    refine V_iadd g dX8_bring_90 ?_
    obtain ⟨s23, es23, hf⟩ := lt_some hf
    refine V_putI g 8 l0 18 es23 rfl (by decide) rfl q_330 z13 (Or.inl rfl) pf_8_18 dX8_bring_91 ?_
    refine V_sub [(4, vR 5 x15)] [0] rfl ?_
    exact t_X8_bring_b94 g f hf
  · have hf := it_f hf c16
    refine V_aload g 0 dX8_bring_58 rfl ?_
    refine V_aload_n g 1 dX8_bring_60 rfl ?_
    refine V_getR g 8 l0 12 2 rfl (by decide) rfl rfl q_324 z13 dX8_bring_61 ?_
    refine V_iload_n g 3 dX8_bring_64 rfl ?_
    obtain ⟨z24, hf⟩ := nz_some hf
    obtain ⟨s25, hc, hf⟩ := bV_some hf
    refine cV0 g [vR 2 (gR s14 8 l0 12), vI l2] [] s25 cf_X5_begin (t_X5_begin g.2.2.2.2.2.2.1 hc) (RC_own g rfl z24) z24 (by decide) q_499 (Nat.le_of_ble_eq_true rfl) dX8_bring_65 ?_ rfl
    refine V_goto g 94 dX8_bring_68 (by decide) ?_
    refine V_sub [(4, vR 5 x15)] [0] rfl ?_
    exact t_X8_bring_b94 g f hf
set_option maxRecDepth 20000 in
theorem t_X8_bring_b16 {E : ET} {fu : Nat} {s' : St} {w' : Nat} (g : GX E "ThinSeries" cX8_bring 5 4) (f : FX E "bring" (some (.object "ThinSeries$Series")) []) {s : St} {l0 : Nat} {l1 : Int32} {l2 : Int32} {t0 : Int32} (hf : f_X8_bring_b16 fu s l0 l1 l2 t0 = some (s', w')) : V E 5 (QE E (s', .inl (some (vR 5 w')))) s 16 [(0, vR 8 l0), (1, vI l1), (2, vI l2)] [vI t0] := by
  unfold f_X8_bring_b16 at hf
  refine V_istore_n g [(3, vI t0), (0, vR 8 l0), (1, vI l1), (2, vI l2)] dX8_bring_16 rfl (by decide) rfl ?_
  refine V_aload_n g 1 dX8_bring_17 rfl ?_
  obtain ⟨z6, hf⟩ := nz_some hf
  refine V_getR g 8 l0 4 4 rfl (by decide) rfl rfl q_316 z6 dX8_bring_18 ?_
  refine V_iload_n g 2 dX8_bring_21 rfl ?_
  refine V_iload_n g 3 dX8_bring_22 rfl ?_
  refine V_aload_n g 1 dX8_bring_23 rfl ?_
  refine V_getR g 8 l0 12 2 rfl (by decide) rfl rfl q_324 z6 dX8_bring_24 ?_
  obtain ⟨z7, hf⟩ := nz_some hf
  refine V_getI g 2 (gR s 8 l0 12) 4 rfl (by decide) rfl q_300 z7 dX8_bring_27 ?_
  obtain ⟨z8, hf⟩ := nz_some hf
  obtain ⟨s9, x10, hc, hf⟩ := bI_some hf
  refine cV1 g [vI l1, vI l2, vI (gI s 2 (gR s 8 l0 12) 4)] [] s9 (vI x10) cf_X4_use (t_X4_use g.2.2.2.2.2.2.1 hc) (RC_own g rfl z8) z8 (by decide) q_494 (Nat.le_of_ble_eq_true rfl) dX8_bring_30 ?_ rfl
  refine V_iconst (v := (-1)) g dX8_bring_33 (by decide) ?_
  refine V_icmp_eq g 47 dX8_bring_34 (by decide) (fun c11 => ?_) (fun c11 => ?_)
  · have hf := it_t hf c11
    refine V_sub [(0, vR 8 l0), (1, vI l1), (2, vI l2), (3, vI t0)] [1, 2, 3, 0] rfl ?_
    exact t_X8_bring_b47 g f hf
  · have hf := it_f hf c11
    refine V_aload_n g 1 dX8_bring_37 rfl ?_
    refine V_dup g dX8_bring_38 rfl ?_
    refine V_getI g 8 l0 16 rfl (by decide) rfl q_328 z6 dX8_bring_39 ?_
    refine V_iconst (v := 1) g dX8_bring_42 (by decide) ?_
    refine V_iadd g dX8_bring_43 ?_
    obtain ⟨s12, es12, hf⟩ := lt_some hf
    refine V_putI g 8 l0 16 es12 rfl (by decide) rfl q_328 z6 (Or.inl rfl) pf_8_16 dX8_bring_44 ?_
    refine V_sub [(0, vR 8 l0), (1, vI l1), (2, vI l2), (3, vI t0)] [1, 2, 3, 0] rfl ?_
    exact t_X8_bring_b47 g f hf
set_option maxRecDepth 20000 in
theorem t_X8_bring {G : GT} {l : Launch} (hl : l.stackTraces = false) {fu : Nat} {s s' : St} {a0 : Nat} {a1 : Int32} {a2 : Int32} {w' : Nat} (hf : f_X8_bring fu s a0 a1 a2 = some (s', w')) : MetG G l yX8_bring (.code yX8_bring cX8_bring 5 (some (.object "ThinSeries$Series"))) 4 s [vR 8 a0, vI a1, vI a2] (s', .inl (some (vR 5 w'))) := by
  refine MetG_of hl (by decide +kernel) (Nat.le_of_ble_eq_true rfl) (fun E g f eG eL => ?_)
  subst eG; subst eL
  have g : GX E "ThinSeries" cX8_bring 5 4 := g
  have f : FX E "bring" (some (.object "ThinSeries$Series")) [] := f
  show V E 5 (QE E (s', .inl (some (vR 5 w')))) s 0 [(0, vR 8 a0), (1, vI a1), (2, vI a2)] []
  unfold f_X8_bring at hf
  refine V_aload_n g 0 dX8_bring_0 rfl ?_
  obtain ⟨z1, hf⟩ := nz_some hf
  refine V_getR g 8 a0 4 4 rfl (by decide) rfl rfl q_316 z1 dX8_bring_1 ?_
  refine V_iload_n g 1 dX8_bring_4 rfl ?_
  obtain ⟨z2, hf⟩ := nz_some hf
  obtain ⟨s3, x4, hc, hf⟩ := bI_some hf
  refine cV1 g [vI a1] [] s3 (vI x4) cf_X4_knows (t_X4_knows g.2.2.2.2.2.2.1 hc) (RC_own g rfl z2) z2 (by decide) q_407 (Nat.le_of_ble_eq_true rfl) dX8_bring_5 ?_ rfl
  refine V_if_ne g 15 dX8_bring_8 (by decide) (fun c5 => ?_) (fun c5 => ?_)
  · have hf := it_f hf c5
    refine V_iconst (v := 0) g dX8_bring_15 (by decide) ?_
    exact t_X8_bring_b16 g f hf
  · have hf := it_t hf c5
    refine V_iconst (v := 1) g dX8_bring_11 (by decide) ?_
    refine V_goto g 16 dX8_bring_12 (by decide) ?_
    exact t_X8_bring_b16 g f hf
set_option maxRecDepth 20000 in
theorem t_X5_firstFrom_b41 {E : ET} {fu : Nat} {s' : St} {w' : Int32} (g : GX E "ThinSeries$Series" cX5_firstFrom 5 0) (f : FX E "firstFrom" (some .int) []) {k7 : St → Nat → Int32 → Int32 → Int32 → Option (St × Int32)} (hk7 : ∀ (s : St) (l0 : Nat) (l1 : Int32) (l2 : Int32) (l3 : Int32), k7 s l0 l1 l2 l3 = some (s', w') → V E 5 (QE E (s', .inl (some (vI w')))) s 7 [(0, vR 5 l0), (1, vI l1), (2, vI l2), (3, vI l3)] []) {s : St} {l0 : Nat} {l1 : Int32} {l2 : Int32} {l3 : Int32} (hf : f_X5_firstFrom_b41 fu k7 s l0 l1 l2 l3 = some (s', w')) : V E 5 (QE E (s', .inl (some (vI w')))) s 41 [(0, vR 5 l0), (1, vI l1), (2, vI l2), (3, vI l3)] [] := by
  unfold f_X5_firstFrom_b41 at hf
  refine V_goto g 7 dX5_firstFrom_41 (by decide) ?_
  exact hk7 s l0 l1 l2 l3 hf
set_option maxRecDepth 20000 in
theorem t_X5_firstFrom_b7 {E : ET} {fu : Nat} {s' : St} {w' : Int32} (g : GX E "ThinSeries$Series" cX5_firstFrom 5 0) (f : FX E "firstFrom" (some .int) []) : ∀ (n : Nat) (s : St) (l0 : Nat) (l1 : Int32) (l2 : Int32) (l3 : Int32), f_X5_firstFrom_b7 fu n s l0 l1 l2 l3 = some (s', w') → V E 5 (QE E (s', .inl (some (vI w')))) s 7 [(0, vR 5 l0), (1, vI l1), (2, vI l2), (3, vI l3)] [] := by
  intro n
  induction n with
  | zero =>
    intro s l0 l1 l2 l3 hf
    unfold f_X5_firstFrom_b7 at hf
    exact nomatch hf
  | succ n ih =>
    intro s l0 l1 l2 l3 hf
    unfold f_X5_firstFrom_b7 at hf
    refine V_iload_n g 2 dX5_firstFrom_7 rfl ?_
    refine V_iload_n g 3 dX5_firstFrom_8 rfl ?_
    refine V_icmp_ge g 44 dX5_firstFrom_9 (by decide) (fun c3 => ?_) (fun c3 => ?_)
    · have hf := it_t hf c3
      refine V_iload_n g 2 dX5_firstFrom_44 rfl ?_
      cases hf
      exact V_ireturn g f dX5_firstFrom_45
    · have hf := it_f hf c3
      refine V_iload_n g 2 dX5_firstFrom_12 rfl ?_
      refine V_iload_n g 3 dX5_firstFrom_13 rfl ?_
      refine V_iadd g dX5_firstFrom_14 ?_
      refine V_iconst (v := 1) g dX5_firstFrom_15 (by decide) ?_
      refine V_iushr g dX5_firstFrom_16 ?_
      obtain ⟨x4, ex4, hf⟩ := lt_some hf
      refine V_istore g [(4, vI x4), (0, vR 5 l0), (1, vI l1), (2, vI l2), (3, vI l3)] dX5_firstFrom_17 ex4 (by decide) rfl ?_
      refine V_aload_n g 1 dX5_firstFrom_19 rfl ?_
      obtain ⟨z5, hf⟩ := nz_some hf
      refine V_getR g 5 l0 3 10 rfl (by decide) rfl rfl q_445 z5 dX5_firstFrom_20 ?_
      refine V_iload g 0 dX5_firstFrom_23 rfl ?_
      obtain ⟨z6, hf⟩ := nz_some hf
      obtain ⟨h7, hf⟩ := ckf hf
      refine V_iald g z6 h7 dX5_firstFrom_25 ?_
      refine V_iload_n g 2 dX5_firstFrom_26 rfl ?_
      refine V_icmp_ge g 38 dX5_firstFrom_27 (by decide) (fun c8 => ?_) (fun c8 => ?_)
      · have hf := it_t hf c8
        refine V_iload g 0 dX5_firstFrom_38 rfl ?_
        refine V_istore_n g [(3, vI x4), (4, vI x4), (0, vR 5 l0), (1, vI l1), (2, vI l2)] dX5_firstFrom_40 rfl (by decide) rfl ?_
        refine V_sub [(0, vR 5 l0), (1, vI l1), (2, vI l2), (3, vI x4)] [2, 3, 4, 0] rfl ?_
        exact t_X5_firstFrom_b41 g f ih hf
      · have hf := it_f hf c8
        refine V_iload g 0 dX5_firstFrom_30 rfl ?_
        refine V_iconst (v := 1) g dX5_firstFrom_32 (by decide) ?_
        refine V_iadd g dX5_firstFrom_33 ?_
        obtain ⟨x9, ex9, hf⟩ := lt_some hf
        refine V_istore_n g [(2, vI x9), (4, vI x4), (0, vR 5 l0), (1, vI l1), (3, vI l3)] dX5_firstFrom_34 ex9 (by decide) rfl ?_
        refine V_goto g 41 dX5_firstFrom_35 (by decide) ?_
        refine V_sub [(0, vR 5 l0), (1, vI l1), (2, vI x9), (3, vI l3)] [2, 3, 0, 4] rfl ?_
        exact t_X5_firstFrom_b41 g f ih hf
set_option maxRecDepth 20000 in
theorem t_X5_firstFrom {G : GT} {l : Launch} (hl : l.stackTraces = false) {fu : Nat} {s s' : St} {a0 : Nat} {a1 : Int32} {w' : Int32} (hf : f_X5_firstFrom fu s a0 a1 = some (s', w')) : MetG G l yX5_firstFrom (.code yX5_firstFrom cX5_firstFrom 5 (some .int)) 0 s [vR 5 a0, vI a1] (s', .inl (some (vI w'))) := by
  refine MetG_of hl (by decide +kernel) (Nat.le_of_ble_eq_true rfl) (fun E g f eG eL => ?_)
  subst eG; subst eL
  have g : GX E "ThinSeries$Series" cX5_firstFrom 5 0 := g
  have f : FX E "firstFrom" (some .int) [] := f
  show V E 5 (QE E (s', .inl (some (vI w')))) s 0 [(0, vR 5 a0), (1, vI a1)] []
  unfold f_X5_firstFrom at hf
  refine V_iconst (v := 0) g dX5_firstFrom_0 (by decide) ?_
  refine V_istore_n g [(2, vI 0), (0, vR 5 a0), (1, vI a1)] dX5_firstFrom_1 rfl (by decide) rfl ?_
  refine V_aload_n g 1 dX5_firstFrom_2 rfl ?_
  obtain ⟨z1, hf⟩ := nz_some hf
  refine V_getI g 5 a0 8 rfl (by decide) rfl q_456 z1 dX5_firstFrom_3 ?_
  obtain ⟨x2, ex2, hf⟩ := lt_some hf
  refine V_istore_n g [(3, vI x2), (2, vI 0), (0, vR 5 a0), (1, vI a1)] dX5_firstFrom_6 ex2 (by decide) rfl ?_
  refine V_sub [(0, vR 5 a0), (1, vI a1), (2, vI 0), (3, vI x2)] [2, 3, 1, 0] rfl ?_
  exact t_X5_firstFrom_b7 g f _ s a0 a1 0 x2 hf
