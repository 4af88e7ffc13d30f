set_option maxRecDepth 20000 in
theorem t_X8_of {G : GT} {l : Launch} (hl : l.stackTraces = false) {fu : Nat} {s s' : St} {a0 : Nat} {a1 : Int32} {a2 : Int32} {w' : Nat ⊕ Int64} (hf : f_X8_of fu s a0 a1 a2 = some (s', w')) : MetG G l yX8_of (.code yX8_of cX8_of 4 (some .long)) 7 s [vR 8 a0, vI a1, vI a2] (s', rJ w') := by
  refine MetG_of hl (by decide +kernel) (Nat.le_of_ble_eq_true rfl) (fun E g f eG eL => ?_)
  subst eG; subst eL
  have g : GX E "ThinSeries" cX8_of 4 7 := g
  have f : FX E "of" (some .long) [] := f
  show V E 4 (QE E (s', rJ w')) s 0 [(0, vR 8 a0), (1, vI a1), (2, vI a2)] []
  unfold f_X8_of at hf
  refine V_aload_n g 0 dX8_of_0 rfl ?_
  refine V_iload_n g 1 dX8_of_1 rfl ?_
  obtain ⟨z1, hf⟩ := nz_some hf
  rcases bX_some hf with ⟨s2, e3, hc, hf⟩ | ⟨s2, x4, hc, hf⟩
  · cases hf
    refine cVX g [vI a1] [] _ (exN e3) cf_X8_known (t_X8_known g.2.2.2.2.2.2.1 hc) (RC_own g rfl z1) z1 (by decide) q_1024 (Nat.le_of_ble_eq_true rfl) dX8_of_2 ?_ rfl
    exact VX_out g f
  · refine cV1 g [vI a1] [] s2 (vR 5 x4) cf_X8_known (t_X8_known g.2.2.2.2.2.2.1 hc) (RC_own g rfl z1) z1 (by decide) q_1024 (Nat.le_of_ble_eq_true rfl) dX8_of_2 ?_ rfl
    refine V_astore_n g [(3, vR 5 x4), (0, vR 8 a0), (1, vI a1), (2, vI a2)] dX8_of_5 rfl (by decide) rfl ?_
    refine V_aload_n g 1 dX8_of_6 rfl ?_
    refine V_aload_n g 0 dX8_of_7 rfl ?_
    obtain ⟨s5, hc, hf⟩ := bV_some hf
    refine cV0 g [vR 5 x4] [] s5 cf_X8_tallyAll (t_X8_tallyAll g.2.2.2.2.2.2.1 hc) (RC_own g rfl z1) z1 (by decide) q_582 (Nat.le_of_ble_eq_true rfl) dX8_of_8 ?_ rfl
    refine V_iload_n g 3 dX8_of_11 rfl ?_
    by_cases c6 : a2 = 0
    · subst c6
      have hf := it_t hf rfl
      refine V_tableIn g 60 dX8_of_12 (by decide) (by decide) rfl (by decide) ?_
      refine V_aload_n g 1 dX8_of_60 rfl ?_
      refine V_getR g 8 a0 4 4 rfl (by decide) rfl rfl q_316 z1 dX8_of_61 ?_
      obtain ⟨z7, hf⟩ := nz_some hf
      refine V_getR g 4 (gR s5 8 a0 4) 1 10 rfl (by decide) rfl rfl q_217 z7 dX8_of_64 ?_
      refine V_iload_n g 2 dX8_of_67 rfl ?_
      obtain ⟨z8, hf⟩ := nz_some hf
      obtain ⟨h9, hf⟩ := ckf hf
      refine V_iald g z8 h9 dX8_of_68 ?_
      refine V_i2l g dX8_of_69 ?_
      cases hf
      exact V_lreturn g f dX8_of_70
    · have hf := it_f hf c6
      by_cases c10 : a2 = 1
      · subst c10
        have hf := it_t hf rfl
        refine V_tableIn g 71 dX8_of_12 (by decide) (by decide) rfl (by decide) ?_
        refine V_aload_n g 0 dX8_of_71 rfl ?_
        obtain ⟨z11, hf⟩ := nz_some hf
        refine V_getI g 5 x4 8 rfl (by decide) rfl q_457 z11 dX8_of_72 ?_
        refine V_i2l g dX8_of_75 ?_
        cases hf
        exact V_lreturn g f dX8_of_76
      · have hf := it_f hf c10
        by_cases c12 : a2 = 2
        · subst c12
          have hf := it_t hf rfl
          refine V_tableIn g 77 dX8_of_12 (by decide) (by decide) rfl (by decide) ?_
          refine V_aload_n g 1 dX8_of_77 rfl ?_
          refine V_getR g 8 a0 7 6 rfl (by decide) rfl rfl q_319 z1 dX8_of_78 ?_
          obtain ⟨z13, hf⟩ := nz_some hf
          refine V_getI g 6 (gR s5 8 a0 7) 1 rfl (by decide) rfl q_238 z13 dX8_of_81 ?_
          refine V_i2l g dX8_of_84 ?_
          cases hf
          exact V_lreturn g f dX8_of_85
        · have hf := it_f hf c12
          by_cases c14 : a2 = 3
          · subst c14
            have hf := it_t hf rfl
            refine V_tableIn g 86 dX8_of_12 (by decide) (by decide) rfl (by decide) ?_
            refine V_aload_n g 0 dX8_of_86 rfl ?_
            obtain ⟨z15, hf⟩ := nz_some hf
            refine V_getI g 5 x4 9 rfl (by decide) rfl q_459 z15 dX8_of_87 ?_
            refine V_i2l g dX8_of_90 ?_
            cases hf
            exact V_lreturn g f dX8_of_91
          · have hf := it_f hf c14
            by_cases c16 : a2 = 4
            · subst c16
              have hf := it_t hf rfl
              refine V_tableIn g 92 dX8_of_12 (by decide) (by decide) rfl (by decide) ?_
              refine V_aload_n g 0 dX8_of_92 rfl ?_
              obtain ⟨z17, hf⟩ := nz_some hf
              refine V_getI g 5 x4 10 rfl (by decide) rfl q_461 z17 dX8_of_93 ?_
              refine V_i2l g dX8_of_96 ?_
              cases hf
              exact V_lreturn g f dX8_of_97
            · have hf := it_f hf c16
              by_cases c18 : a2 = 5
              · subst c18
                have hf := it_t hf rfl
                refine V_tableIn g 98 dX8_of_12 (by decide) (by decide) rfl (by decide) ?_
                refine V_aload_n g 1 dX8_of_98 rfl ?_
                refine V_getR g 8 a0 7 6 rfl (by decide) rfl rfl q_319 z1 dX8_of_99 ?_
                obtain ⟨z19, hf⟩ := nz_some hf
                refine V_getI g 6 (gR s5 8 a0 7) 3 rfl (by decide) rfl q_242 z19 dX8_of_102 ?_
                refine V_i2l g dX8_of_105 ?_
                cases hf
                exact V_lreturn g f dX8_of_106
              · have hf := it_f hf c18
                by_cases c20 : a2 = 6
                · subst c20
                  have hf := it_t hf rfl
                  refine V_tableIn g 107 dX8_of_12 (by decide) (by decide) rfl (by decide) ?_
                  refine V_aload_n g 1 dX8_of_107 rfl ?_
                  refine V_getR g 8 a0 7 6 rfl (by decide) rfl rfl q_319 z1 dX8_of_108 ?_
                  obtain ⟨z21, hf⟩ := nz_some hf
                  refine V_getI g 6 (gR s5 8 a0 7) 4 rfl (by decide) rfl q_244 z21 dX8_of_111 ?_
                  refine V_i2l g dX8_of_114 ?_
                  cases hf
                  exact V_lreturn g f dX8_of_115
                · have hf := it_f hf c20
                  by_cases c22 : a2 = 7
                  · subst c22
                    have hf := it_t hf rfl
                    refine V_tableIn g 116 dX8_of_12 (by decide) (by decide) rfl (by decide) ?_
                    refine V_aload_n g 1 dX8_of_116 rfl ?_
                    refine V_getR g 8 a0 7 6 rfl (by decide) rfl rfl q_319 z1 dX8_of_117 ?_
                    obtain ⟨z23, hf⟩ := nz_some hf
                    refine V_getJ g 6 (gR s5 8 a0 7) 2 rfl (by decide) rfl q_240 z23 dX8_of_120 ?_
                    cases hf
                    exact V_lreturn g f dX8_of_123
                  · have hf := it_f hf c22
                    refine V_tableOut g 124 dX8_of_12 (sw_out (fun v h1 h2 => ?_)) (by decide) ?_
                    · rcases (show v = 0 ∨ v = 1 ∨ v = 2 ∨ v = 3 ∨ v = 4 ∨ v = 5 ∨ v = 6 ∨ v = 7 by omega) with rfl | rfl | rfl | rfl | rfl | rfl | rfl | rfl
                      · exact c6
                      · exact c10
                      · exact c12
                      · exact c14
                      · exact c16
                      · exact c18
                      · exact c20
                      · exact c22
                    · skip
                      obtain ⟨h24, hf⟩ := ckf hf
                      cases hf
                      exact thN (j := 17) g f (rm_of h24) q_970 q_116 (by decide) rfl (by decide) (Nat.le_of_ble_eq_true rfl) ⟨⟨dX8_of_124, dX8_of_127⟩, Or.inl ⟨dX8_of_128, dX8_of_130, dX8_of_133⟩⟩
set_option maxRecDepth 20000 in
theorem t_X8_seam {G : GT} {l : Launch} (hl : l.stackTraces = false) {fu : Nat} {s s' : St} {a0 : Nat} {a1 : Int32} {a2 : Int32} {w' : Nat ⊕ Int32} (hf : f_X8_seam fu s a0 a1 a2 = some (s', w')) : MetG G l yX8_seam (.code yX8_seam cX8_seam 4 (some .int)) 7 s [vR 8 a0, vI a1, vI a2] (s', rI w') := by
  refine MetG_of hl (by decide +kernel) (Nat.le_of_ble_eq_true rfl) (fun E g f eG eL => ?_)
  subst eG; subst eL
  have g : GX E "ThinSeries" cX8_seam 4 7 := g
  have f : FX E "seam" (some .int) [] := f
  show V E 4 (QE E (s', rI w')) s 0 [(0, vR 8 a0), (1, vI a1), (2, vI a2)] []
  unfold f_X8_seam at hf
  refine V_aload_n g 0 dX8_seam_0 rfl ?_
  refine V_iload_n g 1 dX8_seam_1 rfl ?_
  obtain ⟨z1, hf⟩ := nz_some hf
  rcases bX_some hf with ⟨s2, e3, hc, hf⟩ | ⟨s2, x4, hc, hf⟩
  · cases hf
    refine cVX g [vI a1] [] _ (exN e3) cf_X8_known (t_X8_known g.2.2.2.2.2.2.1 hc) (RC_own g rfl z1) z1 (by decide) q_1024 (Nat.le_of_ble_eq_true rfl) dX8_seam_2 ?_ rfl
    exact VX_out g f
  · refine cV1 g [vI a1] [] s2 (vR 5 x4) cf_X8_known (t_X8_known g.2.2.2.2.2.2.1 hc) (RC_own g rfl z1) z1 (by decide) q_1024 (Nat.le_of_ble_eq_true rfl) dX8_seam_2 ?_ rfl
    refine V_astore_n g [(3, vR 5 x4), (0, vR 8 a0), (1, vI a1), (2, vI a2)] dX8_seam_5 rfl (by decide) rfl ?_
    refine V_aload_n g 1 dX8_seam_6 rfl ?_
    refine V_iload_n g 3 dX8_seam_7 rfl ?_
    rcases bX_some hf with ⟨s5, e6, hc, hf⟩ | ⟨s5, x7, hc, hf⟩
    · cases hf
      refine cVX g [vI a2] [] _ (exN e6) cf_X8_needTier (t_X8_needTier g.2.2.2.2.2.2.1 hc) (RC_own g rfl z1) z1 (by decide) q_1004 (Nat.le_of_ble_eq_true rfl) dX8_seam_8 ?_ rfl
      exact VX_out g f
    · refine cV0 g [vI a2] [] s5 cf_X8_needTier (t_X8_needTier g.2.2.2.2.2.2.1 hc) (RC_own g rfl z1) z1 (by decide) q_1004 (Nat.le_of_ble_eq_true rfl) dX8_seam_8 ?_ rfl
      refine V_aload_n g 0 dX8_seam_11 rfl ?_
      obtain ⟨z8, hf⟩ := nz_some hf
      refine V_getR g 5 x4 1 10 rfl (by decide) rfl rfl q_443 z8 dX8_seam_12 ?_
      refine V_iload_n g 3 dX8_seam_15 rfl ?_
      obtain ⟨z9, hf⟩ := nz_some hf
      obtain ⟨h10, hf⟩ := ckf hf
      refine V_iald g z9 h10 dX8_seam_16 ?_
      cases hf
      exact V_ireturn g f dX8_seam_17
set_option maxRecDepth 20000 in
theorem t_X0_clear {G : GT} {l : Launch} (hl : l.stackTraces = false) {fu : Nat} {s s' : St} {a0 : Nat} (hf : f_X0_clear fu s a0 = some s') : MetG G l yX0_clear (.code yX0_clear cX0_clear 1 none) 0 s [vR 0 a0] (s', .inl none) := by
  refine MetG_of hl (by decide +kernel) (Nat.le_of_ble_eq_true rfl) (fun E g f eG eL => ?_)
  subst eG; subst eL
  have g : GX E "ThinSeries$Alarm" cX0_clear 1 0 := g
  have f : FX E "clear" none [] := f
  show V E 1 (QE E (s', .inl none)) s 0 [(0, vR 0 a0)] []
  unfold f_X0_clear at hf
  refine V_aload_n g 0 dX0_clear_0 rfl ?_
  refine V_iconst (v := 0) g dX0_clear_1 (by decide) ?_
  obtain ⟨z1, hf⟩ := nz_some hf
  obtain ⟨s2, es2, hf⟩ := lt_some hf
  refine V_putI g 0 a0 2 es2 rfl (by decide) rfl q_270 z1 (Or.inl rfl) pf_0_2 dX0_clear_2 ?_
  cases hf
  exact V_return g f dX0_clear_5
set_option maxRecDepth 20000 in
theorem t_X2_clear {G : GT} {l : Launch} (hl : l.stackTraces = false) {fu : Nat} {s s' : St} {a0 : Nat} (hf : f_X2_clear fu s a0 = some s') : MetG G l yX2_clear (.code yX2_clear cX2_clear 1 none) 1 s [vR 2 a0] (s', .inl none) := by
  refine MetG_of hl (by decide +kernel) (Nat.le_of_ble_eq_true rfl) (fun E g f eG eL => ?_)
  subst eG; subst eL
  have g : GX E "ThinSeries$Plan" cX2_clear 1 1 := g
  have f : FX E "clear" none [] := f
  show V E 1 (QE E (s', .inl none)) s 0 [(0, vR 2 a0)] []
  unfold f_X2_clear at hf
  refine V_aload_n g 0 dX2_clear_0 rfl ?_
  refine V_iconst (v := 0) g dX2_clear_1 (by decide) ?_
  obtain ⟨z1, hf⟩ := nz_some hf
  obtain ⟨s2, es2, hf⟩ := lt_some hf
  refine V_putI g 2 a0 3 es2 rfl (by decide) rfl q_295 z1 (Or.inl rfl) pf_2_3 dX2_clear_2 ?_
  refine V_aload_n g 0 dX2_clear_5 rfl ?_
  refine V_iconst (v := 4) g dX2_clear_6 (by decide) ?_
  obtain ⟨s3, es3, hf⟩ := lt_some hf
  refine V_putI g 2 a0 4 es3 rfl (by decide) rfl q_298 z1 (Or.inl rfl) pf_2_4 dX2_clear_7 ?_
  refine V_aload_n g 0 dX2_clear_10 rfl ?_
  refine V_getR g 2 a0 2 0 rfl (by decide) rfl rfl q_291 z1 dX2_clear_11 ?_
  obtain ⟨z4, hf⟩ := nz_some hf
  obtain ⟨s5, hc, hf⟩ := bV_some hf
  refine cV0 g [] [] s5 cf_X0_clear (t_X0_clear g.2.2.2.2.2.2.1 hc) (RC_own g rfl z4) z4 (by decide) q_690 (Nat.le_of_ble_eq_true rfl) dX2_clear_14 ?_ rfl
  cases hf
  exact V_return g f dX2_clear_17
set_option maxRecDepth 20000 in
theorem t_X0_addStep_b40 {E : ET} {fu : Nat} {s' : St} (g : GX E "ThinSeries$Alarm" cX0_addStep 3 0) (f : FX E "addStep" none []) {s : St} (hf : f_X0_addStep_b40 fu s = some s') : V E 3 (QE E (s', .inl none)) s 40 [] [] := by
  unfold f_X0_addStep_b40 at hf
  cases hf
  exact V_return g f dX0_addStep_40
set_option maxRecDepth 20000 in
theorem t_X0_addStep {G : GT} {l : Launch} (hl : l.stackTraces = false) {fu : Nat} {s s' : St} {a0 : Nat} {a1 : Int32} {a2 : Int32} (hf : f_X0_addStep fu s a0 a1 a2 = some s') : MetG G l yX0_addStep (.code yX0_addStep cX0_addStep 3 none) 0 s [vR 0 a0, vI a1, vI a2] (s', .inl none) := by
  refine MetG_of hl (by decide +kernel) (Nat.le_of_ble_eq_true rfl) (fun E g f eG eL => ?_)
  subst eG; subst eL
  have g : GX E "ThinSeries$Alarm" cX0_addStep 3 0 := g
  have f : FX E "addStep" none [] := f
  show V E 3 (QE E (s', .inl none)) s 0 [(0, vR 0 a0), (1, vI a1), (2, vI a2)] []
  unfold f_X0_addStep at hf
  refine V_aload_n g 0 dX0_addStep_0 rfl ?_
  obtain ⟨z1, hf⟩ := nz_some hf
  refine V_getI g 0 a0 2 rfl (by decide) rfl q_270 z1 dX0_addStep_1 ?_
  refine V_sipush (v := 160) g dX0_addStep_4 (by decide) ?_
  refine V_icmp_ge g 40 dX0_addStep_7 (by decide) (fun c2 => ?_) (fun c2 => ?_)
  · have hf := it_t hf c2
    refine V_sub [] [] rfl ?_
    exact t_X0_addStep_b40 g f hf
  · have hf := it_f hf c2
    refine V_aload_n g 0 dX0_addStep_10 rfl ?_
    refine V_getR g 0 a0 0 10 rfl (by decide) rfl rfl q_268 z1 dX0_addStep_11 ?_
    refine V_aload_n g 0 dX0_addStep_14 rfl ?_
    refine V_getI g 0 a0 2 rfl (by decide) rfl q_270 z1 dX0_addStep_15 ?_
    refine V_iload_n g 1 dX0_addStep_18 rfl ?_
    obtain ⟨z3, hf⟩ := nz_some hf
    obtain ⟨h4, hf⟩ := ckf hf
    obtain ⟨s5, es5, hf⟩ := lt_some hf
    refine V_iast g es5 z3 h4 dX0_addStep_19 ?_
    refine V_aload_n g 0 dX0_addStep_20 rfl ?_
    refine V_getR g 0 a0 1 10 rfl (by decide) rfl rfl q_269 z1 dX0_addStep_21 ?_
    refine V_aload_n g 0 dX0_addStep_24 rfl ?_
    refine V_getI g 0 a0 2 rfl (by decide) rfl q_270 z1 dX0_addStep_25 ?_
    refine V_iload_n g 2 dX0_addStep_28 rfl ?_
    obtain ⟨z6, hf⟩ := nz_some hf
    obtain ⟨h7, hf⟩ := ckf hf
    obtain ⟨s8, es8, hf⟩ := lt_some hf
    refine V_iast g es8 z6 h7 dX0_addStep_29 ?_
    refine V_aload_n g 0 dX0_addStep_30 rfl ?_
    refine V_dup g dX0_addStep_31 rfl ?_
    refine V_getI g 0 a0 2 rfl (by decide) rfl q_270 z1 dX0_addStep_32 ?_
    refine V_iconst (v := 1) g dX0_addStep_35 (by decide) ?_
    refine V_iadd g dX0_addStep_36 ?_
    obtain ⟨s9, es9, hf⟩ := lt_some hf
    refine V_putI g 0 a0 2 es9 rfl (by decide) rfl q_270 z1 (Or.inl rfl) pf_0_2 dX0_addStep_37 ?_
    refine V_sub [] [] rfl ?_
    exact t_X0_addStep_b40 g f hf
set_option maxRecDepth 20000 in
theorem t_X0_addJoint {G : GT} {l : Launch} (hl : l.stackTraces = false) {fu : Nat} {s s' : St} {a0 : Nat} {a1 : Int32} (hf : f_X0_addJoint fu s a0 a1 = some s') : MetG G l yX0_addJoint (.code yX0_addJoint cX0_addJoint 2 none) 1 s [vR 0 a0, vI a1] (s', .inl none) := by
  refine MetG_of hl (by decide +kernel) (Nat.le_of_ble_eq_true rfl) (fun E g f eG eL => ?_)
  subst eG; subst eL
  have g : GX E "ThinSeries$Alarm" cX0_addJoint 2 1 := g
  have f : FX E "addJoint" none [] := f
  show V E 2 (QE E (s', .inl none)) s 0 [(0, vR 0 a0), (1, vI a1)] []
  unfold f_X0_addJoint at hf
  refine V_aload_n g 0 dX0_addJoint_0 rfl ?_
  refine V_iload_n g 1 dX0_addJoint_1 rfl ?_
  refine V_iconst (v := 0) g dX0_addJoint_2 (by decide) ?_
  obtain ⟨z1, hf⟩ := nz_some hf
  obtain ⟨s2, hc, hf⟩ := bV_some hf
  refine cV0 g [vI a1, vI 0] [] s2 cf_X0_addStep (t_X0_addStep g.2.2.2.2.2.2.1 hc) (RC_own g rfl z1) z1 (by decide) q_884 (Nat.le_of_ble_eq_true rfl) dX0_addJoint_3 ?_ rfl
  cases hf
  exact V_return g f dX0_addJoint_6
set_option maxRecDepth 20000 in
theorem t_X0_addComparison {G : GT} {l : Launch} (hl : l.stackTraces = false) {fu : Nat} {s s' : St} {a0 : Nat} {a1 : Int32} {a2 : Int32} {a3 : Int32} (hf : f_X0_addComparison fu s a0 a1 a2 a3 = some s') : MetG G l yX0_addComparison (.code yX0_addComparison cX0_addComparison 4 none) 1 s [vR 0 a0, vI a1, vI a2, vI a3] (s', .inl none) := by
  refine MetG_of hl (by decide +kernel) (Nat.le_of_ble_eq_true rfl) (fun E g f eG eL => ?_)
  subst eG; subst eL
  have g : GX E "ThinSeries$Alarm" cX0_addComparison 4 1 := g
  have f : FX E "addComparison" none [] := f
  show V E 4 (QE E (s', .inl none)) s 0 [(0, vR 0 a0), (1, vI a1), (2, vI a2), (3, vI a3)] []
  unfold f_X0_addComparison at hf
  refine V_aload_n g 0 dX0_addComparison_0 rfl ?_
  refine V_iload_n g 1 dX0_addComparison_1 rfl ?_
  refine V_iconst (v := 3) g dX0_addComparison_2 (by decide) ?_
  refine V_imul g dX0_addComparison_3 ?_
  refine V_iload_n g 2 dX0_addComparison_4 rfl ?_
  refine V_iadd g dX0_addComparison_5 ?_
  refine V_iload_n g 3 dX0_addComparison_6 rfl ?_
  obtain ⟨z1, hf⟩ := nz_some hf
  obtain ⟨s2, hc, hf⟩ := bV_some hf
  refine cV0 g [vI ((a1 * 3) + a2), vI a3] [] s2 cf_X0_addStep (t_X0_addStep g.2.2.2.2.2.2.1 hc) (RC_own g rfl z1) z1 (by decide) q_884 (Nat.le_of_ble_eq_true rfl) dX0_addComparison_7 ?_ rfl
  cases hf
  exact V_return g f dX0_addComparison_10
set_option maxRecDepth 20000 in
theorem t_X3_factHere_b88 {E : ET} {fu : Nat} {s' : St} {w' : Int32} (g : GX E "ThinSeries$PlanReader" cX3_factHere 1 5) (f : FX E "factHere" (some .int) []) {s : St} {t0 : Int32} (hf : f_X3_factHere_b88 fu s t0 = some (s', w')) : V E 1 (QE E (s', .inl (some (vI w')))) s 88 [] [vI t0] := by
  unfold f_X3_factHere_b88 at hf
  cases hf
  exact V_ireturn g f dX3_factHere_88
set_option maxRecDepth 20000 in
theorem t_X3_factHere {G : GT} {l : Launch} (hl : l.stackTraces = false) {fu : Nat} {s s' : St} {a0 : Nat} {w' : Int32} (hf : f_X3_factHere fu s a0 = some (s', w')) : MetG G l yX3_factHere (.code yX3_factHere cX3_factHere 1 (some .int)) 5 s [vR 3 a0] (s', .inl (some (vI w'))) := by
  refine MetG_of hl (by decide +kernel) (Nat.le_of_ble_eq_true rfl) (fun E g f eG eL => ?_)
  subst eG; subst eL
  have g : GX E "ThinSeries$PlanReader" cX3_factHere 1 5 := g
  have f : FX E "factHere" (some .int) [] := f
  show V E 1 (QE E (s', .inl (some (vI w')))) s 0 [(0, vR 3 a0)] []
  unfold f_X3_factHere at hf
  refine V_aload_n g 0 dX3_factHere_0 rfl ?_
  obtain ⟨z1, hf⟩ := nz_some hf
  refine V_getR g 3 a0 0 7 rfl (by decide) rfl rfl q_173 z1 dX3_factHere_1 ?_
  refine V_ldcS g 7 (by decide) rfl dX3_factHere_4 ?_
  obtain ⟨z2, hf⟩ := nz_some hf
  obtain ⟨s3, x4, hc, hf⟩ := bI_some hf
  refine cV1 g [vR 16 7] [] s3 (vI x4) cf_X7_isWord (t_X7_isWord g.2.2.2.2.2.2.1 hc) (RC_own g rfl z2) z2 (by decide) q_801 (Nat.le_of_ble_eq_true rfl) dX3_factHere_6 ?_ rfl
  refine V_if_eq g 14 dX3_factHere_9 (by decide) (fun c5 => ?_) (fun c5 => ?_)
  · have hf := it_t hf c5
    refine V_aload_n g 0 dX3_factHere_14 rfl ?_
    refine V_getR g 3 a0 0 7 rfl (by decide) rfl rfl q_173 z1 dX3_factHere_15 ?_
    refine V_ldcS g 8 (by decide) rfl dX3_factHere_18 ?_
    obtain ⟨z6, hf⟩ := nz_some hf
    obtain ⟨s7, x8, hc, hf⟩ := bI_some hf
    refine cV1 g [vR 16 8] [] s7 (vI x8) cf_X7_isWord (t_X7_isWord g.2.2.2.2.2.2.1 hc) (RC_own g rfl z6) z6 (by decide) q_801 (Nat.le_of_ble_eq_true rfl) dX3_factHere_20 ?_ rfl
    refine V_if_eq g 28 dX3_factHere_23 (by decide) (fun c9 => ?_) (fun c9 => ?_)
    · have hf := it_t hf c9
      refine V_aload_n g 0 dX3_factHere_28 rfl ?_
      refine V_getR g 3 a0 0 7 rfl (by decide) rfl rfl q_173 z1 dX3_factHere_29 ?_
      refine V_ldcS g 9 (by decide) rfl dX3_factHere_32 ?_
      obtain ⟨z10, hf⟩ := nz_some hf
      obtain ⟨s11, x12, hc, hf⟩ := bI_some hf
      refine cV1 g [vR 16 9] [] s11 (vI x12) cf_X7_isWord (t_X7_isWord g.2.2.2.2.2.2.1 hc) (RC_own g rfl z10) z10 (by decide) q_801 (Nat.le_of_ble_eq_true rfl) dX3_factHere_34 ?_ rfl
      refine V_if_eq g 42 dX3_factHere_37 (by decide) (fun c13 => ?_) (fun c13 => ?_)
      · have hf := it_t hf c13
        refine V_aload_n g 0 dX3_factHere_42 rfl ?_
        refine V_getR g 3 a0 0 7 rfl (by decide) rfl rfl q_173 z1 dX3_factHere_43 ?_
        refine V_ldcS g 10 (by decide) rfl dX3_factHere_46 ?_
        obtain ⟨z14, hf⟩ := nz_some hf
        obtain ⟨s15, x16, hc, hf⟩ := bI_some hf
        refine cV1 g [vR 16 10] [] s15 (vI x16) cf_X7_isWord (t_X7_isWord g.2.2.2.2.2.2.1 hc) (RC_own g rfl z14) z14 (by decide) q_801 (Nat.le_of_ble_eq_true rfl) dX3_factHere_48 ?_ rfl
        refine V_if_eq g 56 dX3_factHere_51 (by decide) (fun c17 => ?_) (fun c17 => ?_)
        · have hf := it_t hf c17
          refine V_aload_n g 0 dX3_factHere_56 rfl ?_
          refine V_getR g 3 a0 0 7 rfl (by decide) rfl rfl q_173 z1 dX3_factHere_57 ?_
          refine V_ldcS g 11 (by decide) rfl dX3_factHere_60 ?_
          obtain ⟨z18, hf⟩ := nz_some hf
          obtain ⟨s19, x20, hc, hf⟩ := bI_some hf
          refine cV1 g [vR 16 11] [] s19 (vI x20) cf_X7_isWord (t_X7_isWord g.2.2.2.2.2.2.1 hc) (RC_own g rfl z18) z18 (by decide) q_801 (Nat.le_of_ble_eq_true rfl) dX3_factHere_62 ?_ rfl
          refine V_if_eq g 70 dX3_factHere_65 (by decide) (fun c21 => ?_) (fun c21 => ?_)
          · have hf := it_t hf c21
            refine V_aload_n g 0 dX3_factHere_70 rfl ?_
            refine V_getR g 3 a0 0 7 rfl (by decide) rfl rfl q_173 z1 dX3_factHere_71 ?_
            refine V_ldcS g 3 (by decide) rfl dX3_factHere_74 ?_
            obtain ⟨z22, hf⟩ := nz_some hf
            obtain ⟨s23, x24, hc, hf⟩ := bI_some hf
            refine cV1 g [vR 16 3] [] s23 (vI x24) cf_X7_isWord (t_X7_isWord g.2.2.2.2.2.2.1 hc) (RC_own g rfl z22) z22 (by decide) q_801 (Nat.le_of_ble_eq_true rfl) dX3_factHere_76 ?_ rfl
            refine V_if_eq g 87 dX3_factHere_79 (by decide) (fun c25 => ?_) (fun c25 => ?_)
            · have hf := it_t hf c25
              refine V_iconst (v := (-1)) g dX3_factHere_87 (by decide) ?_
              refine V_sub [] [] rfl ?_
              exact t_X3_factHere_b88 g f hf
            · have hf := it_f hf c25
              refine V_bipush (v := 6) g dX3_factHere_82 (by decide) ?_
              refine V_goto g 88 dX3_factHere_84 (by decide) ?_
              refine V_sub [] [] rfl ?_
              exact t_X3_factHere_b88 g f hf
          · have hf := it_f hf c21
            refine V_iconst (v := 5) g dX3_factHere_68 (by decide) ?_
            cases hf
            exact V_ireturn g f dX3_factHere_69
        · have hf := it_f hf c17
          refine V_iconst (v := 4) g dX3_factHere_54 (by decide) ?_
          cases hf
          exact V_ireturn g f dX3_factHere_55
      · have hf := it_f hf c13
        refine V_iconst (v := 3) g dX3_factHere_40 (by decide) ?_
        cases hf
        exact V_ireturn g f dX3_factHere_41
    · have hf := it_f hf c9
      refine V_iconst (v := 2) g dX3_factHere_26 (by decide) ?_
      cases hf
      exact V_ireturn g f dX3_factHere_27
  · have hf := it_f hf c5
    refine V_iconst (v := 1) g dX3_factHere_12 (by decide) ?_
    cases hf
    exact V_ireturn g f dX3_factHere_13
set_option maxRecDepth 20000 in
theorem t_X3_relationHere_b45 {E : ET} {fu : Nat} {s' : St} {w' : Int32} (g : GX E "ThinSeries$PlanReader" cX3_relationHere 1 1) (f : FX E "relationHere" (some .int) []) {s : St} {t0 : Int32} (hf : f_X3_relationHere_b45 fu s t0 = some (s', w')) : V E 1 (QE E (s', .inl (some (vI w')))) s 45 [] [vI t0] := by
  unfold f_X3_relationHere_b45 at hf
  cases hf
  exact V_ireturn g f dX3_relationHere_45
set_option maxRecDepth 20000 in
theorem t_X3_relationHere {G : GT} {l : Launch} (hl : l.stackTraces = false) {fu : Nat} {s s' : St} {a0 : Nat} {w' : Int32} (hf : f_X3_relationHere fu s a0 = some (s', w')) : MetG G l yX3_relationHere (.code yX3_relationHere cX3_relationHere 1 (some .int)) 1 s [vR 3 a0] (s', .inl (some (vI w'))) := by
  refine MetG_of hl (by decide +kernel) (Nat.le_of_ble_eq_true rfl) (fun E g f eG eL => ?_)
  subst eG; subst eL
  have g : GX E "ThinSeries$PlanReader" cX3_relationHere 1 1 := g
  have f : FX E "relationHere" (some .int) [] := f
  show V E 1 (QE E (s', .inl (some (vI w')))) s 0 [(0, vR 3 a0)] []
  unfold f_X3_relationHere at hf
  refine V_aload_n g 0 dX3_relationHere_0 rfl ?_
  obtain ⟨z1, hf⟩ := nz_some hf
  refine V_getR g 3 a0 0 7 rfl (by decide) rfl rfl q_173 z1 dX3_relationHere_1 ?_
  refine V_bipush (v := 60) g dX3_relationHere_4 (by decide) ?_
  obtain ⟨z2, hf⟩ := nz_some hf
  obtain ⟨s3, x4, hc, hf⟩ := bI_some hf
  refine cV1 g [vI 60] [] s3 (vI x4) cf_X7_isSign (t_X7_isSign g.2.2.2.2.2.2.1 hc) (RC_own g rfl z2) z2 (by decide) q_871 (Nat.le_of_ble_eq_true rfl) dX3_relationHere_6 ?_ rfl
  refine V_if_eq g 14 dX3_relationHere_9 (by decide) (fun c5 => ?_) (fun c5 => ?_)
  · have hf := it_t hf c5
    refine V_aload_n g 0 dX3_relationHere_14 rfl ?_
    refine V_getR g 3 a0 0 7 rfl (by decide) rfl rfl q_173 z1 dX3_relationHere_15 ?_
    refine V_bipush (v := 61) g dX3_relationHere_18 (by decide) ?_
    obtain ⟨z6, hf⟩ := nz_some hf
    obtain ⟨s7, x8, hc, hf⟩ := bI_some hf
    refine cV1 g [vI 61] [] s7 (vI x8) cf_X7_isSign (t_X7_isSign g.2.2.2.2.2.2.1 hc) (RC_own g rfl z6) z6 (by decide) q_871 (Nat.le_of_ble_eq_true rfl) dX3_relationHere_20 ?_ rfl
    refine V_if_eq g 28 dX3_relationHere_23 (by decide) (fun c9 => ?_) (fun c9 => ?_)
    · have hf := it_t hf c9
      refine V_aload_n g 0 dX3_relationHere_28 rfl ?_
      refine V_getR g 3 a0 0 7 rfl (by decide) rfl rfl q_173 z1 dX3_relationHere_29 ?_
      refine V_bipush (v := 62) g dX3_relationHere_32 (by decide) ?_
      obtain ⟨z10, hf⟩ := nz_some hf
      obtain ⟨s11, x12, hc, hf⟩ := bI_some hf
      refine cV1 g [vI 62] [] s11 (vI x12) cf_X7_isSign (t_X7_isSign g.2.2.2.2.2.2.1 hc) (RC_own g rfl z10) z10 (by decide) q_871 (Nat.le_of_ble_eq_true rfl) dX3_relationHere_34 ?_ rfl
      refine V_if_eq g 44 dX3_relationHere_37 (by decide) (fun c13 => ?_) (fun c13 => ?_)
      · have hf := it_t hf c13
        refine V_iconst (v := (-1)) g dX3_relationHere_44 (by decide) ?_
        refine V_sub [] [] rfl ?_
        exact t_X3_relationHere_b45 g f hf
      · have hf := it_f hf c13
        refine V_iconst (v := 2) g dX3_relationHere_40 (by decide) ?_
        refine V_goto g 45 dX3_relationHere_41 (by decide) ?_
        refine V_sub [] [] rfl ?_
        exact t_X3_relationHere_b45 g f hf
    · have hf := it_f hf c9
      refine V_iconst (v := 1) g dX3_relationHere_26 (by decide) ?_
      cases hf
      exact V_ireturn g f dX3_relationHere_27
  · have hf := it_f hf c5
    refine V_iconst (v := 0) g dX3_relationHere_12 (by decide) ?_
    cases hf
    exact V_ireturn g f dX3_relationHere_13
set_option maxRecDepth 20000 in
theorem t_X3_readTest_b83 {E : ET} {fu : Nat} {s' : St} {w' : Int32} {dR : Nat} {c_X3_readUnit : St → Nat → Nat → Int32 → Option (St × Int32)} (g : GX E "ThinSeries$PlanReader" cX3_readTest 5 (dR + 1)) (f : FX E "readTest" (some .boolean) []) (hc_X3_readUnit : ∀ {s : St} {b0 : Nat} {b1 : Nat} {b2 : Int32} {s' : St} {w' : Int32}, c_X3_readUnit s b0 b1 b2 = some (s', w') → MetG E.G E.l yX3_readUnit (.code yX3_readUnit cX3_readUnit 7 (some .boolean)) dR s [vR 3 b0, vR 0 b1, vI b2] (s', .inl (some (vI w')))) (hdR : 5 ≤ dR) {k2 : St → Nat → Nat → Int32 → Int32 → Option (St × Int32)} (hk2 : ∀ (s : St) (l0 : Nat) (l1 : Nat) (l2 : Int32) (l3 : Int32), k2 s l0 l1 l2 l3 = some (s', w') → V E 5 (QE E (s', .inl (some (vI w')))) s 2 [(0, vR 3 l0), (1, vR 0 l1), (2, vI l2), (3, vI l3)] []) {s : St} {l0 : Nat} {l1 : Nat} {l2 : Int32} {l3 : Int32} (hf : f_X3_readTest_b83 fu c_X3_readUnit k2 s l0 l1 l2 l3 = some (s', w')) : V E 5 (QE E (s', .inl (some (vI w')))) s 83 [(0, vR 3 l0), (1, vR 0 l1), (2, vI l2), (3, vI l3)] [] := by
  unfold f_X3_readTest_b83 at hf
  refine V_aload_n g 0 dX3_readTest_83 rfl ?_
  obtain ⟨z26, hf⟩ := nz_some hf
  refine V_getR g 3 l0 0 7 rfl (by decide) rfl rfl q_173 z26 dX3_readTest_84 ?_
  refine V_ldcS g 13 (by decide) rfl dX3_readTest_87 ?_
  obtain ⟨z27, hf⟩ := nz_some hf
  obtain ⟨s28, x29, hc, hf⟩ := bI_some hf
  refine cV1 g [vR 16 13] [] s28 (vI x29) cf_X7_isWord (t_X7_isWord g.2.2.2.2.2.2.1 hc) (RC_own g rfl z27) z27 (by omega) q_801 (Nat.le_of_ble_eq_true rfl) dX3_readTest_89 ?_ rfl
  refine V_if_ne g 97 dX3_readTest_92 (by decide) (fun c30 => ?_) (fun c30 => ?_)
  · have hf := it_f hf c30
    refine V_aload_n g 0 dX3_readTest_97 rfl ?_
    refine V_getR g 3 l0 0 7 rfl (by decide) rfl rfl q_173 z26 dX3_readTest_98 ?_
    obtain ⟨z31, hf⟩ := nz_some hf
    obtain ⟨s32, hc, hf⟩ := bV_some hf
    refine cV0 g [] [] s32 cf_X7_next (t_X7_next g.2.2.2.2.2.2.1 hc) (RC_own g rfl z31) z31 (by omega) q_838 (Nat.le_of_ble_eq_true rfl) dX3_readTest_101 ?_ rfl
    obtain ⟨x33, ex33, hf⟩ := lt_some hf
    refine V_iinc g 3 [(3, vI x33), (0, vR 3 l0), (1, vR 0 l1), (2, vI l2)] dX3_readTest_104 rfl (by rw [ex33]; rfl) (by decide) rfl ?_
    refine V_goto g 2 dX3_readTest_107 (by decide) ?_
    refine V_sub [(0, vR 3 l0), (1, vR 0 l1), (2, vI l2), (3, vI x33)] [1, 2, 3, 0] rfl ?_
    exact hk2 s32 l0 l1 l2 x33 hf
  · have hf := it_t hf c30
    refine V_iconst (v := 1) g dX3_readTest_95 (by decide) ?_
    obtain ⟨h34, hf⟩ := ckf hf
    cases hf
    exact V_zreturn g f (zb_n h34) dX3_readTest_96
set_option maxRecDepth 20000 in
theorem t_X3_readTest_b73 {E : ET} {fu : Nat} {s' : St} {w' : Int32} {dR : Nat} {c_X3_readUnit : St → Nat → Nat → Int32 → Option (St × Int32)} (g : GX E "ThinSeries$PlanReader" cX3_readTest 5 (dR + 1)) (f : FX E "readTest" (some .boolean) []) (hc_X3_readUnit : ∀ {s : St} {b0 : Nat} {b1 : Nat} {b2 : Int32} {s' : St} {w' : Int32}, c_X3_readUnit s b0 b1 b2 = some (s', w') → MetG E.G E.l yX3_readUnit (.code yX3_readUnit cX3_readUnit 7 (some .boolean)) dR s [vR 3 b0, vR 0 b1, vI b2] (s', .inl (some (vI w')))) (hdR : 5 ≤ dR) {k2 : St → Nat → Nat → Int32 → Int32 → Option (St × Int32)} (hk2 : ∀ (s : St) (l0 : Nat) (l1 : Nat) (l2 : Int32) (l3 : Int32), k2 s l0 l1 l2 l3 = some (s', w') → V E 5 (QE E (s', .inl (some (vI w')))) s 2 [(0, vR 3 l0), (1, vR 0 l1), (2, vI l2), (3, vI l3)] []) {s : St} {l0 : Nat} {l1 : Nat} {l2 : Int32} {l3 : Int32} (hf : f_X3_readTest_b73 fu c_X3_readUnit k2 s l0 l1 l2 l3 = some (s', w')) : V E 5 (QE E (s', .inl (some (vI w')))) s 73 [(0, vR 3 l0), (1, vR 0 l1), (2, vI l2), (3, vI l3)] [] := by
  unfold f_X3_readTest_b73 at hf
  refine V_iload_n g 3 dX3_readTest_73 rfl ?_
  refine V_if_le g 83 dX3_readTest_74 (by decide) (fun c23 => ?_) (fun c23 => ?_)
  · have hf := it_t hf c23
    exact t_X3_readTest_b83 g f hc_X3_readUnit hdR hk2 hf
  · have hf := it_f hf c23
    refine V_aload_n g 1 dX3_readTest_77 rfl ?_
    refine V_bipush (v := 102) g dX3_readTest_78 (by decide) ?_
    obtain ⟨z24, hf⟩ := nz_some hf
    obtain ⟨s25, hc, hf⟩ := bV_some hf
    refine cV0 g [vI 102] [] s25 cf_X0_addJoint (t_X0_addJoint g.2.2.2.2.2.2.1 hc) (RC_own g rfl z24) z24 (by omega) q_880 (Nat.le_of_ble_eq_true rfl) dX3_readTest_80 ?_ rfl
    exact t_X3_readTest_b83 g f hc_X3_readUnit hdR hk2 hf
set_option maxRecDepth 20000 in
theorem t_X3_readTest_b23 {E : ET} {fu : Nat} {s' : St} {w' : Int32} {dR : Nat} {c_X3_readUnit : St → Nat → Nat → Int32 → Option (St × Int32)} (g : GX E "ThinSeries$PlanReader" cX3_readTest 5 (dR + 1)) (f : FX E "readTest" (some .boolean) []) (hc_X3_readUnit : ∀ {s : St} {b0 : Nat} {b1 : Nat} {b2 : Int32} {s' : St} {w' : Int32}, c_X3_readUnit s b0 b1 b2 = some (s', w') → MetG E.G E.l yX3_readUnit (.code yX3_readUnit cX3_readUnit 7 (some .boolean)) dR s [vR 3 b0, vR 0 b1, vI b2] (s', .inl (some (vI w')))) (hdR : 5 ≤ dR) {k2 : St → Nat → Nat → Int32 → Int32 → Option (St × Int32)} (hk2 : ∀ (s : St) (l0 : Nat) (l1 : Nat) (l2 : Int32) (l3 : Int32), k2 s l0 l1 l2 l3 = some (s', w') → V E 5 (QE E (s', .inl (some (vI w')))) s 2 [(0, vR 3 l0), (1, vR 0 l1), (2, vI l2), (3, vI l3)] []) : ∀ (n : Nat) (s : St) (l0 : Nat) (l1 : Nat) (l2 : Int32) (l3 : Int32) (l4 : Int32), f_X3_readTest_b23 fu c_X3_readUnit k2 n s l0 l1 l2 l3 l4 = some (s', w') → V E 5 (QE E (s', .inl (some (vI w')))) s 23 [(0, vR 3 l0), (1, vR 0 l1), (2, vI l2), (3, vI l3), (4, vI l4)] [] := by
  intro n
  induction n with
  | zero =>
    intro s l0 l1 l2 l3 l4 hf
    unfold f_X3_readTest_b23 at hf
    exact nomatch hf
  | succ n ih =>
    intro s l0 l1 l2 l3 l4 hf
    unfold f_X3_readTest_b23 at hf
    refine V_iload g 4 dX3_readTest_23 rfl ?_
    refine V_sipush (v := 600) g dX3_readTest_25 (by decide) ?_
    refine V_icmp_ge g 73 dX3_readTest_28 (by decide) (fun c8 => ?_) (fun c8 => ?_)
    · have hf := it_t hf c8
      refine V_sub [(0, vR 3 l0), (1, vR 0 l1), (2, vI l2), (3, vI l3)] [0, 1, 2, 3] rfl ?_
      exact t_X3_readTest_b73 g f hc_X3_readUnit hdR hk2 hf
    · have hf := it_f hf c8
      refine V_aload_n g 0 dX3_readTest_31 rfl ?_
      obtain ⟨z9, hf⟩ := nz_some hf
      refine V_getR g 3 l0 0 7 rfl (by decide) rfl rfl q_173 z9 dX3_readTest_32 ?_
      refine V_ldcS g 12 (by decide) rfl dX3_readTest_35 ?_
      obtain ⟨z10, hf⟩ := nz_some hf
      obtain ⟨s11, x12, hc, hf⟩ := bI_some hf
      refine cV1 g [vR 16 12] [] s11 (vI x12) cf_X7_isWord (t_X7_isWord g.2.2.2.2.2.2.1 hc) (RC_own g rfl z10) z10 (by omega) q_801 (Nat.le_of_ble_eq_true rfl) dX3_readTest_37 ?_ rfl
      refine V_if_eq g 73 dX3_readTest_40 (by decide) (fun c13 => ?_) (fun c13 => ?_)
      · have hf := it_t hf c13
        refine V_sub [(0, vR 3 l0), (1, vR 0 l1), (2, vI l2), (3, vI l3)] [0, 1, 2, 3] rfl ?_
        exact t_X3_readTest_b73 g f hc_X3_readUnit hdR hk2 hf
      · have hf := it_f hf c13
        refine V_aload_n g 0 dX3_readTest_43 rfl ?_
        refine V_getR g 3 l0 0 7 rfl (by decide) rfl rfl q_173 z9 dX3_readTest_44 ?_
        obtain ⟨z14, hf⟩ := nz_some hf
        obtain ⟨s15, hc, hf⟩ := bV_some hf
        refine cV0 g [] [] s15 cf_X7_next (t_X7_next g.2.2.2.2.2.2.1 hc) (RC_own g rfl z14) z14 (by omega) q_838 (Nat.le_of_ble_eq_true rfl) dX3_readTest_47 ?_ rfl
        refine V_aload_n g 0 dX3_readTest_50 rfl ?_
        refine V_aload_n g 1 dX3_readTest_51 rfl ?_
        refine V_iload_n g 2 dX3_readTest_52 rfl ?_
        obtain ⟨s16, x17, hc, hf⟩ := bI_some hf
        refine cV1 g [vR 0 l1, vI l2] [] s16 (vI x17) cf_X3_readUnit (hc_X3_readUnit hc) (RC_own g rfl z9) z9 (by omega) q_866 (Nat.le_of_ble_eq_true rfl) dX3_readTest_53 ?_ rfl
        refine V_if_ne g 61 dX3_readTest_56 (by decide) (fun c18 => ?_) (fun c18 => ?_)
        · have hf := it_f hf c18
          refine V_aload_n g 1 dX3_readTest_61 rfl ?_
          refine V_bipush (v := 101) g dX3_readTest_62 (by decide) ?_
          obtain ⟨z19, hf⟩ := nz_some hf
          obtain ⟨s20, hc, hf⟩ := bV_some hf
          refine cV0 g [vI 101] [] s20 cf_X0_addJoint (t_X0_addJoint g.2.2.2.2.2.2.1 hc) (RC_own g rfl z19) z19 (by omega) q_880 (Nat.le_of_ble_eq_true rfl) dX3_readTest_64 ?_ rfl
          obtain ⟨x21, ex21, hf⟩ := lt_some hf
          refine V_iinc g 4 [(4, vI x21), (0, vR 3 l0), (1, vR 0 l1), (2, vI l2), (3, vI l3)] dX3_readTest_67 rfl (by rw [ex21]; rfl) (by decide) rfl ?_
          refine V_goto g 23 dX3_readTest_70 (by decide) ?_
          refine V_sub [(0, vR 3 l0), (1, vR 0 l1), (2, vI l2), (3, vI l3), (4, vI x21)] [1, 2, 3, 4, 0] rfl ?_
          exact ih s20 l0 l1 l2 l3 x21 hf
        · have hf := it_t hf c18
          refine V_iconst (v := 0) g dX3_readTest_59 (by decide) ?_
          obtain ⟨h22, hf⟩ := ckf hf
          cases hf
          exact V_zreturn g f (zb_n h22) dX3_readTest_60
set_option maxRecDepth 20000 in
theorem t_X3_readTest_b2 {E : ET} {fu : Nat} {s' : St} {w' : Int32} {dR : Nat} {c_X3_readUnit : St → Nat → Nat → Int32 → Option (St × Int32)} (g : GX E "ThinSeries$PlanReader" cX3_readTest 5 (dR + 1)) (f : FX E "readTest" (some .boolean) []) (hc_X3_readUnit : ∀ {s : St} {b0 : Nat} {b1 : Nat} {b2 : Int32} {s' : St} {w' : Int32}, c_X3_readUnit s b0 b1 b2 = some (s', w') → MetG E.G E.l yX3_readUnit (.code yX3_readUnit cX3_readUnit 7 (some .boolean)) dR s [vR 3 b0, vR 0 b1, vI b2] (s', .inl (some (vI w')))) (hdR : 5 ≤ dR) : ∀ (n : Nat) (s : St) (l0 : Nat) (l1 : Nat) (l2 : Int32) (l3 : Int32), f_X3_readTest_b2 fu c_X3_readUnit n s l0 l1 l2 l3 = some (s', w') → V E 5 (QE E (s', .inl (some (vI w')))) s 2 [(0, vR 3 l0), (1, vR 0 l1), (2, vI l2), (3, vI l3)] [] := by
  intro n
  induction n with
  | zero =>
    intro s l0 l1 l2 l3 hf
    unfold f_X3_readTest_b2 at hf
    exact nomatch hf
  | succ n ih =>
    intro s l0 l1 l2 l3 hf
    unfold f_X3_readTest_b2 at hf
    refine V_iload_n g 3 dX3_readTest_2 rfl ?_
    refine V_sipush (v := 600) g dX3_readTest_3 (by decide) ?_
    refine V_icmp_ge g 110 dX3_readTest_6 (by decide) (fun c1 => ?_) (fun c1 => ?_)
    · have hf := it_t hf c1
      refine V_iconst (v := 0) g dX3_readTest_110 (by decide) ?_
      obtain ⟨h2, hf⟩ := ckf hf
      cases hf
      exact V_zreturn g f (zb_n h2) dX3_readTest_111
    · have hf := it_f hf c1
      refine V_aload_n g 0 dX3_readTest_9 rfl ?_
      refine V_aload_n g 1 dX3_readTest_10 rfl ?_
      refine V_iload_n g 2 dX3_readTest_11 rfl ?_
      obtain ⟨z3, hf⟩ := nz_some hf
      obtain ⟨s4, x5, hc, hf⟩ := bI_some hf
      refine cV1 g [vR 0 l1, vI l2] [] s4 (vI x5) cf_X3_readUnit (hc_X3_readUnit hc) (RC_own g rfl z3) z3 (by omega) q_866 (Nat.le_of_ble_eq_true rfl) dX3_readTest_12 ?_ rfl
      refine V_if_ne g 20 dX3_readTest_15 (by decide) (fun c6 => ?_) (fun c6 => ?_)
      · have hf := it_f hf c6
        refine V_iconst (v := 0) g dX3_readTest_20 (by decide) ?_
        refine V_istore g [(4, vI 0), (0, vR 3 l0), (1, vR 0 l1), (2, vI l2), (3, vI l3)] dX3_readTest_21 rfl (by decide) rfl ?_
        refine V_sub [(0, vR 3 l0), (1, vR 0 l1), (2, vI l2), (3, vI l3), (4, vI 0)] [1, 2, 3, 4, 0] rfl ?_
        exact t_X3_readTest_b23 g f hc_X3_readUnit hdR ih _ s4 l0 l1 l2 l3 0 hf
      · have hf := it_t hf c6
        refine V_iconst (v := 0) g dX3_readTest_18 (by decide) ?_
        obtain ⟨h7, hf⟩ := ckf hf
        cases hf
        exact V_zreturn g f (zb_n h7) dX3_readTest_19
set_option maxRecDepth 20000 in
theorem o_X3_readTest {G : GT} {l : Launch} (hl : l.stackTraces = false) {fu : Nat} {dR : Nat} {c_X3_readUnit : St → Nat → Nat → Int32 → Option (St × Int32)} (hc_X3_readUnit : ∀ {s : St} {b0 : Nat} {b1 : Nat} {b2 : Int32} {s' : St} {w' : Int32}, c_X3_readUnit s b0 b1 b2 = some (s', w') → MetG G l yX3_readUnit (.code yX3_readUnit cX3_readUnit 7 (some .boolean)) dR s [vR 3 b0, vR 0 b1, vI b2] (s', .inl (some (vI w')))) (hdR : 5 ≤ dR) {s s' : St} {a0 : Nat} {a1 : Nat} {a2 : Int32} {w' : Int32} (hf : f_X3_readTest fu c_X3_readUnit s a0 a1 a2 = some (s', w')) : MetG G l yX3_readTest (.code yX3_readTest cX3_readTest 5 (some .boolean)) (dR + 1) s [vR 3 a0, vR 0 a1, vI a2] (s', .inl (some (vI w'))) := by
  refine MetG_of hl (by decide +kernel) (Nat.le_of_ble_eq_true rfl) (fun E g f eG eL => ?_)
  subst eG; subst eL
  have g : GX E "ThinSeries$PlanReader" cX3_readTest 5 (dR + 1) := g
  have f : FX E "readTest" (some .boolean) [] := f
  show V E 5 (QE E (s', .inl (some (vI w')))) s 0 [(0, vR 3 a0), (1, vR 0 a1), (2, vI a2)] []
  unfold f_X3_readTest at hf
  refine V_iconst (v := 0) g dX3_readTest_0 (by decide) ?_
  refine V_istore_n g [(3, vI 0), (0, vR 3 a0), (1, vR 0 a1), (2, vI a2)] dX3_readTest_1 rfl (by decide) rfl ?_
  refine V_sub [(0, vR 3 a0), (1, vR 0 a1), (2, vI a2), (3, vI 0)] [1, 2, 3, 0] rfl ?_
  exact t_X3_readTest_b2 g f hc_X3_readUnit hdR _ s a0 a1 a2 0 hf
set_option maxRecDepth 20000 in
theorem t_X3_readUnit_b80 {E : ET} {fu : Nat} {s' : St} {w' : Int32} {dR : Nat} {c_X3_readTest : St → Nat → Nat → Int32 → Option (St × Int32)} {c_X3_readUnit : St → Nat → Nat → Int32 → Option (St × Int32)} (g : GX E "ThinSeries$PlanReader" cX3_readUnit 7 (dR + 1)) (f : FX E "readUnit" (some .boolean) []) (hc_X3_readTest : ∀ {s : St} {b0 : Nat} {b1 : Nat} {b2 : Int32} {s' : St} {w' : Int32}, c_X3_readTest s b0 b1 b2 = some (s', w') → MetG E.G E.l yX3_readTest (.code yX3_readTest cX3_readTest 5 (some .boolean)) dR s [vR 3 b0, vR 0 b1, vI b2] (s', .inl (some (vI w')))) (hc_X3_readUnit : ∀ {s : St} {b0 : Nat} {b1 : Nat} {b2 : Int32} {s' : St} {w' : Int32}, c_X3_readUnit s b0 b1 b2 = some (s', w') → MetG E.G E.l yX3_readUnit (.code yX3_readUnit cX3_readUnit 7 (some .boolean)) dR s [vR 3 b0, vR 0 b1, vI b2] (s', .inl (some (vI w')))) (hdR : 6 ≤ dR) {s : St} {t0 : Int32} (hf : f_X3_readUnit_b80 fu c_X3_readTest c_X3_readUnit s t0 = some (s', w')) : V E 7 (QE E (s', .inl (some (vI w')))) s 80 [] [vI t0] := by
  unfold f_X3_readUnit_b80 at hf
  obtain ⟨h57, hf⟩ := ckf hf
  cases hf
  exact V_zreturn g f (zb_n h57) dX3_readUnit_80
set_option maxRecDepth 20000 in
theorem t_X3_readUnit_b79 {E : ET} {fu : Nat} {s' : St} {w' : Int32} {dR : Nat} {c_X3_readTest : St → Nat → Nat → Int32 → Option (St × Int32)} {c_X3_readUnit : St → Nat → Nat → Int32 → Option (St × Int32)} (g : GX E "ThinSeries$PlanReader" cX3_readUnit 7 (dR + 1)) (f : FX E "readUnit" (some .boolean) []) (hc_X3_readTest : ∀ {s : St} {b0 : Nat} {b1 : Nat} {b2 : Int32} {s' : St} {w' : Int32}, c_X3_readTest s b0 b1 b2 = some (s', w') → MetG E.G E.l yX3_readTest (.code yX3_readTest cX3_readTest 5 (some .boolean)) dR s [vR 3 b0, vR 0 b1, vI b2] (s', .inl (some (vI w')))) (hc_X3_readUnit : ∀ {s : St} {b0 : Nat} {b1 : Nat} {b2 : Int32} {s' : St} {w' : Int32}, c_X3_readUnit s b0 b1 b2 = some (s', w') → MetG E.G E.l yX3_readUnit (.code yX3_readUnit cX3_readUnit 7 (some .boolean)) dR s [vR 3 b0, vR 0 b1, vI b2] (s', .inl (some (vI w')))) (hdR : 6 ≤ dR) {s : St} (hf : f_X3_readUnit_b79 fu c_X3_readTest c_X3_readUnit s = some (s', w')) : V E 7 (QE E (s', .inl (some (vI w')))) s 79 [] [] := by
  unfold f_X3_readUnit_b79 at hf
  refine V_iconst (v := 0) g dX3_readUnit_79 (by decide) ?_
  exact t_X3_readUnit_b80 g f hc_X3_readTest hc_X3_readUnit hdR hf
set_option maxRecDepth 20000 in
theorem t_X3_readUnit_b26 {E : ET} {fu : Nat} {s' : St} {w' : Int32} {dR : Nat} {c_X3_readTest : St → Nat → Nat → Int32 → Option (St × Int32)} {c_X3_readUnit : St → Nat → Nat → Int32 → Option (St × Int32)} (g : GX E "ThinSeries$PlanReader" cX3_readUnit 7 (dR + 1)) (f : FX E "readUnit" (some .boolean) []) (hc_X3_readTest : ∀ {s : St} {b0 : Nat} {b1 : Nat} {b2 : Int32} {s' : St} {w' : Int32}, c_X3_readTest s b0 b1 b2 = some (s', w') → MetG E.G E.l yX3_readTest (.code yX3_readTest cX3_readTest 5 (some .boolean)) dR s [vR 3 b0, vR 0 b1, vI b2] (s', .inl (some (vI w')))) (hc_X3_readUnit : ∀ {s : St} {b0 : Nat} {b1 : Nat} {b2 : Int32} {s' : St} {w' : Int32}, c_X3_readUnit s b0 b1 b2 = some (s', w') → MetG E.G E.l yX3_readUnit (.code yX3_readUnit cX3_readUnit 7 (some .boolean)) dR s [vR 3 b0, vR 0 b1, vI b2] (s', .inl (some (vI w')))) (hdR : 6 ≤ dR) {s : St} {l0 : Nat} {l1 : Nat} {l2 : Int32} {l3 : Int32} (hf : f_X3_readUnit_b26 fu c_X3_readTest c_X3_readUnit s l0 l1 l2 l3 = some (s', w')) : V E 7 (QE E (s', .inl (some (vI w')))) s 26 [(0, vR 3 l0), (1, vR 0 l1), (2, vI l2), (3, vI l3)] [] := by
  unfold f_X3_readUnit_b26 at hf
  refine V_iload_n g 2 dX3_readUnit_26 rfl ?_
  refine V_bipush (v := 6) g dX3_readUnit_27 (by decide) ?_
  refine V_icmp_lt g 41 dX3_readUnit_29 (by decide) (fun c35 => ?_) (fun c35 => ?_)
  · have hf := it_t hf c35
    refine V_aload_n g 0 dX3_readUnit_41 rfl ?_
    obtain ⟨z36, hf⟩ := nz_some hf
    refine V_getR g 3 l0 0 7 rfl (by decide) rfl rfl q_173 z36 dX3_readUnit_42 ?_
    obtain ⟨z37, hf⟩ := nz_some hf
    obtain ⟨s38, hc, hf⟩ := bV_some hf
    refine cV0 g [] [] s38 cf_X7_next (t_X7_next g.2.2.2.2.2.2.1 hc) (RC_own g rfl z37) z37 (by omega) q_838 (Nat.le_of_ble_eq_true rfl) dX3_readUnit_45 ?_ rfl
    refine V_iload_n g 3 dX3_readUnit_48 rfl ?_
    refine V_if_ne g 81 dX3_readUnit_49 (by decide) (fun c39 => ?_) (fun c39 => ?_)
    · have hf := it_f hf c39
      refine V_aload_n g 0 dX3_readUnit_81 rfl ?_
      refine V_aload_n g 1 dX3_readUnit_82 rfl ?_
      refine V_iload_n g 2 dX3_readUnit_83 rfl ?_
      refine V_iconst (v := 1) g dX3_readUnit_84 (by decide) ?_
      refine V_iadd g dX3_readUnit_85 ?_
      obtain ⟨s40, x41, hc, hf⟩ := bI_some hf
      refine cV1 g [vR 0 l1, vI (l2 + 1)] [] s40 (vI x41) cf_X3_readUnit (hc_X3_readUnit hc) (RC_own g rfl z36) z36 (by omega) q_866 (Nat.le_of_ble_eq_true rfl) dX3_readUnit_86 ?_ rfl
      refine V_istore g [(4, vI x41), (0, vR 3 l0), (1, vR 0 l1), (2, vI l2), (3, vI l3)] dX3_readUnit_89 rfl (by decide) rfl ?_
      refine V_aload_n g 2 dX3_readUnit_91 rfl ?_
      refine V_bipush (v := 100) g dX3_readUnit_92 (by decide) ?_
      obtain ⟨z42, hf⟩ := nz_some hf
      obtain ⟨s43, hc, hf⟩ := bV_some hf
      refine cV0 g [vI 100] [] s43 cf_X0_addJoint (t_X0_addJoint g.2.2.2.2.2.2.1 hc) (RC_own g rfl z42) z42 (by omega) q_880 (Nat.le_of_ble_eq_true rfl) dX3_readUnit_94 ?_ rfl
      refine V_iload g 0 dX3_readUnit_97 rfl ?_
      obtain ⟨h44, hf⟩ := ckf hf
      cases hf
      exact V_zreturn g f (zb_n h44) dX3_readUnit_99
    · have hf := it_t hf c39
      refine V_aload_n g 0 dX3_readUnit_52 rfl ?_
      refine V_aload_n g 1 dX3_readUnit_53 rfl ?_
      refine V_iload_n g 2 dX3_readUnit_54 rfl ?_
      refine V_iconst (v := 1) g dX3_readUnit_55 (by decide) ?_
      refine V_iadd g dX3_readUnit_56 ?_
      obtain ⟨s45, x46, hc, hf⟩ := bI_some hf
      refine cV1 g [vR 0 l1, vI (l2 + 1)] [] s45 (vI x46) cf_X3_readTest (hc_X3_readTest hc) (RC_own g rfl z36) z36 (by omega) q_862 (Nat.le_of_ble_eq_true rfl) dX3_readUnit_57 ?_ rfl
      refine V_if_eq g 79 dX3_readUnit_60 (by decide) (fun c47 => ?_) (fun c47 => ?_)
      · have hf := it_t hf c47
        refine V_sub [] [] rfl ?_
        exact t_X3_readUnit_b79 g f hc_X3_readTest hc_X3_readUnit hdR hf
      · have hf := it_f hf c47
        refine V_aload_n g 0 dX3_readUnit_63 rfl ?_
        refine V_getR g 3 l0 0 7 rfl (by decide) rfl rfl q_173 z36 dX3_readUnit_64 ?_
        refine V_bipush (v := 41) g dX3_readUnit_67 (by decide) ?_
        obtain ⟨z48, hf⟩ := nz_some hf
        obtain ⟨s49, x50, hc, hf⟩ := bI_some hf
        refine cV1 g [vI 41] [] s49 (vI x50) cf_X7_takeSign (t_X7_takeSign g.2.2.2.2.2.2.1 hc) (RC_own g rfl z48) z48 (by omega) q_875 (Nat.le_of_ble_eq_true rfl) dX3_readUnit_69 ?_ rfl
        refine V_if_eq g 79 dX3_readUnit_72 (by decide) (fun c51 => ?_) (fun c51 => ?_)
        · have hf := it_t hf c51
          refine V_sub [] [] rfl ?_
          exact t_X3_readUnit_b79 g f hc_X3_readTest hc_X3_readUnit hdR hf
        · have hf := it_f hf c51
          refine V_iconst (v := 1) g dX3_readUnit_75 (by decide) ?_
          refine V_goto g 80 dX3_readUnit_76 (by decide) ?_
          refine V_sub [] [] rfl ?_
          exact t_X3_readUnit_b80 g f hc_X3_readTest hc_X3_readUnit hdR hf
  · have hf := it_f hf c35
    refine V_aload_n g 0 dX3_readUnit_32 rfl ?_
    obtain ⟨z52, hf⟩ := nz_some hf
    refine V_getR g 3 l0 0 7 rfl (by decide) rfl rfl q_173 z52 dX3_readUnit_33 ?_
    refine V_iconst (v := 2) g dX3_readUnit_36 (by decide) ?_
    obtain ⟨z53, hf⟩ := nz_some hf
    obtain ⟨s54, x55, hc, hf⟩ := bI_some hf
    refine cV1 g [vI 2] [] s54 (vI x55) cf_X7_refuse (t_X7_refuse g.2.2.2.2.2.2.1 hc) (RC_own g rfl z53) z53 (by omega) q_834 (Nat.le_of_ble_eq_true rfl) dX3_readUnit_37 ?_ rfl
    obtain ⟨h56, hf⟩ := ckf hf
    cases hf
    exact V_zreturn g f (zb_n h56) dX3_readUnit_40
set_option maxRecDepth 20000 in
theorem o_X3_readUnit {G : GT} {l : Launch} (hl : l.stackTraces = false) {fu : Nat} {dR : Nat} {c_X3_readTest : St → Nat → Nat → Int32 → Option (St × Int32)} {c_X3_readUnit : St → Nat → Nat → Int32 → Option (St × Int32)} (hc_X3_readTest : ∀ {s : St} {b0 : Nat} {b1 : Nat} {b2 : Int32} {s' : St} {w' : Int32}, c_X3_readTest s b0 b1 b2 = some (s', w') → MetG G l yX3_readTest (.code yX3_readTest cX3_readTest 5 (some .boolean)) dR s [vR 3 b0, vR 0 b1, vI b2] (s', .inl (some (vI w')))) (hc_X3_readUnit : ∀ {s : St} {b0 : Nat} {b1 : Nat} {b2 : Int32} {s' : St} {w' : Int32}, c_X3_readUnit s b0 b1 b2 = some (s', w') → MetG G l yX3_readUnit (.code yX3_readUnit cX3_readUnit 7 (some .boolean)) dR s [vR 3 b0, vR 0 b1, vI b2] (s', .inl (some (vI w')))) (hdR : 6 ≤ dR) {s s' : St} {a0 : Nat} {a1 : Nat} {a2 : Int32} {w' : Int32} (hf : f_X3_readUnit fu c_X3_readTest c_X3_readUnit s a0 a1 a2 = some (s', w')) : MetG G l yX3_readUnit (.code yX3_readUnit cX3_readUnit 7 (some .boolean)) (dR + 1) s [vR 3 a0, vR 0 a1, vI a2] (s', .inl (some (vI w'))) := by
  refine MetG_of hl (by decide +kernel) (Nat.le_of_ble_eq_true rfl) (fun E g f eG eL => ?_)
  subst eG; subst eL
  have g : GX E "ThinSeries$PlanReader" cX3_readUnit 7 (dR + 1) := g
  have f : FX E "readUnit" (some .boolean) [] := f
  show V E 7 (QE E (s', .inl (some (vI w')))) s 0 [(0, vR 3 a0), (1, vR 0 a1), (2, vI a2)] []
  unfold f_X3_readUnit at hf
  refine V_aload_n g 0 dX3_readUnit_0 rfl ?_
  obtain ⟨z1, hf⟩ := nz_some hf
  refine V_getR g 3 a0 0 7 rfl (by decide) rfl rfl q_173 z1 dX3_readUnit_1 ?_
  refine V_ldcS g 6 (by decide) rfl dX3_readUnit_4 ?_
  obtain ⟨z2, hf⟩ := nz_some hf
  obtain ⟨s3, x4, hc, hf⟩ := bI_some hf
  refine cV1 g [vR 16 6] [] s3 (vI x4) cf_X7_isWord (t_X7_isWord g.2.2.2.2.2.2.1 hc) (RC_own g rfl z2) z2 (by omega) q_801 (Nat.le_of_ble_eq_true rfl) dX3_readUnit_6 ?_ rfl
  refine V_istore_n g [(3, vI x4), (0, vR 3 a0), (1, vR 0 a1), (2, vI a2)] dX3_readUnit_9 rfl (by decide) rfl ?_
  refine V_iload_n g 0 dX3_readUnit_10 rfl ?_
  refine V_if_ne g 26 dX3_readUnit_11 (by decide) (fun c5 => ?_) (fun c5 => ?_)
  · have hf := it_f hf c5
    refine V_sub [(0, vR 3 a0), (1, vR 0 a1), (2, vI a2), (3, vI x4)] [1, 2, 3, 0] rfl ?_
    exact t_X3_readUnit_b26 g f hc_X3_readTest hc_X3_readUnit hdR hf
  · have hf := it_t hf c5
    refine V_aload_n g 1 dX3_readUnit_14 rfl ?_
    refine V_getR g 3 a0 0 7 rfl (by decide) rfl rfl q_173 z1 dX3_readUnit_15 ?_
    refine V_bipush (v := 40) g dX3_readUnit_18 (by decide) ?_
    obtain ⟨z6, hf⟩ := nz_some hf
    obtain ⟨s7, x8, hc, hf⟩ := bI_some hf
    refine cV1 g [vI 40] [] s7 (vI x8) cf_X7_isSign (t_X7_isSign g.2.2.2.2.2.2.1 hc) (RC_own g rfl z6) z6 (by omega) q_871 (Nat.le_of_ble_eq_true rfl) dX3_readUnit_20 ?_ rfl
    refine V_if_eq g 100 dX3_readUnit_23 (by decide) (fun c9 => ?_) (fun c9 => ?_)
    · have hf := it_t hf c9
      refine V_aload_n g 1 dX3_readUnit_100 rfl ?_
      obtain ⟨s10, x11, hc, hf⟩ := bI_some hf
      refine cV1 g [] [] s10 (vI x11) cf_X3_factHere (t_X3_factHere g.2.2.2.2.2.2.1 hc) (RC_own g rfl z1) z1 (by omega) q_888 (Nat.le_of_ble_eq_true rfl) dX3_readUnit_101 ?_ rfl
      refine V_istore g [(4, vI x11), (3, vI x4), (0, vR 3 a0), (1, vR 0 a1), (2, vI a2)] dX3_readUnit_104 rfl (by decide) rfl ?_
      refine V_iload g 0 dX3_readUnit_106 rfl ?_
      refine V_iconst (v := (-1)) g dX3_readUnit_108 (by decide) ?_
      refine V_icmp_ne g 121 dX3_readUnit_109 (by decide) (fun c12 => ?_) (fun c12 => ?_)
      · have hf := it_f hf c12
        refine V_aload_n g 2 dX3_readUnit_121 rfl ?_
        refine V_getR g 3 a0 0 7 rfl (by decide) rfl rfl q_173 z1 dX3_readUnit_122 ?_
        obtain ⟨z13, hf⟩ := nz_some hf
        obtain ⟨s14, hc, hf⟩ := bV_some hf
        refine cV0 g [] [] s14 cf_X7_next (t_X7_next g.2.2.2.2.2.2.1 hc) (RC_own g rfl z13) z13 (by omega) q_838 (Nat.le_of_ble_eq_true rfl) dX3_readUnit_125 ?_ rfl
        refine V_aload_n g 2 dX3_readUnit_128 rfl ?_
        obtain ⟨s15, x16, hc, hf⟩ := bI_some hf
        refine cV1 g [] [] s15 (vI x16) cf_X3_relationHere (t_X3_relationHere g.2.2.2.2.2.2.1 hc) (RC_own g rfl z1) z1 (by omega) q_897 (Nat.le_of_ble_eq_true rfl) dX3_readUnit_129 ?_ rfl
        refine V_istore g [(5, vI x16), (4, vI x11), (3, vI x4), (0, vR 3 a0), (1, vR 0 a1), (2, vI a2)] dX3_readUnit_132 rfl (by decide) rfl ?_
        refine V_iload g 0 dX3_readUnit_134 rfl ?_
        refine V_iconst (v := (-1)) g dX3_readUnit_136 (by decide) ?_
        refine V_icmp_ne g 149 dX3_readUnit_137 (by decide) (fun c17 => ?_) (fun c17 => ?_)
        · have hf := it_f hf c17
          refine V_aload_n g 3 dX3_readUnit_149 rfl ?_
          refine V_getR g 3 a0 0 7 rfl (by decide) rfl rfl q_173 z1 dX3_readUnit_150 ?_
          obtain ⟨z18, hf⟩ := nz_some hf
          obtain ⟨s19, hc, hf⟩ := bV_some hf
          refine cV0 g [] [] s19 cf_X7_next (t_X7_next g.2.2.2.2.2.2.1 hc) (RC_own g rfl z18) z18 (by omega) q_838 (Nat.le_of_ble_eq_true rfl) dX3_readUnit_153 ?_ rfl
          refine V_aload_n g 3 dX3_readUnit_156 rfl ?_
          refine V_getR g 3 a0 0 7 rfl (by decide) rfl rfl q_173 z1 dX3_readUnit_157 ?_
          refine V_ldc (v := 9999999) g q_901 dX3_readUnit_160 ?_
          obtain ⟨z20, hf⟩ := nz_some hf
          obtain ⟨s21, x22, hc, hf⟩ := bI_some hf
          refine cV1 g [vI 9999999] [] s21 (vI x22) cf_X7_takeSigned (t_X7_takeSigned g.2.2.2.2.2.2.1 hc) (RC_own g rfl z20) z20 (by omega) q_902 (Nat.le_of_ble_eq_true rfl) dX3_readUnit_162 ?_ rfl
          refine V_istore g [(6, vI x22), (5, vI x16), (4, vI x11), (3, vI x4), (0, vR 3 a0), (1, vR 0 a1), (2, vI a2)] dX3_readUnit_165 rfl (by decide) rfl ?_
          refine V_aload_n g 5 dX3_readUnit_167 rfl ?_
          refine V_iload g 2 dX3_readUnit_168 rfl ?_
          refine V_iload g 1 dX3_readUnit_170 rfl ?_
          refine V_aload_n g 4 dX3_readUnit_172 rfl ?_
          refine V_getR g 3 a0 0 7 rfl (by decide) rfl rfl q_173 z1 dX3_readUnit_173 ?_
          obtain ⟨z23, hf⟩ := nz_some hf
          refine V_getI g 7 (gR s21 3 a0 0) 6 rfl (by decide) rfl q_141 z23 dX3_readUnit_176 ?_
          obtain ⟨z24, hf⟩ := nz_some hf
          obtain ⟨s25, hc, hf⟩ := bV_some hf
          refine cV0 g [vI x11, vI x16, vI (gI s21 7 (gR s21 3 a0 0) 6)] [] s25 cf_X0_addComparison (t_X0_addComparison g.2.2.2.2.2.2.1 hc) (RC_own g rfl z24) z24 (by omega) q_906 (Nat.le_of_ble_eq_true rfl) dX3_readUnit_179 ?_ rfl
          refine V_iload g 0 dX3_readUnit_182 rfl ?_
          obtain ⟨h26, hf⟩ := ckf hf
          cases hf
          exact V_zreturn g f (zb_n h26) dX3_readUnit_184
        · have hf := it_t hf c17
          refine V_aload_n g 3 dX3_readUnit_140 rfl ?_
          refine V_getR g 3 a0 0 7 rfl (by decide) rfl rfl q_173 z1 dX3_readUnit_141 ?_
          refine V_iconst (v := 1) g dX3_readUnit_144 (by decide) ?_
          obtain ⟨z27, hf⟩ := nz_some hf
          obtain ⟨s28, x29, hc, hf⟩ := bI_some hf
          refine cV1 g [vI 1] [] s28 (vI x29) cf_X7_refuse (t_X7_refuse g.2.2.2.2.2.2.1 hc) (RC_own g rfl z27) z27 (by omega) q_834 (Nat.le_of_ble_eq_true rfl) dX3_readUnit_145 ?_ rfl
          obtain ⟨h30, hf⟩ := ckf hf
          cases hf
          exact V_zreturn g f (zb_n h30) dX3_readUnit_148
      · have hf := it_t hf c12
        refine V_aload_n g 2 dX3_readUnit_112 rfl ?_
        refine V_getR g 3 a0 0 7 rfl (by decide) rfl rfl q_173 z1 dX3_readUnit_113 ?_
        refine V_iconst (v := 1) g dX3_readUnit_116 (by decide) ?_
        obtain ⟨z31, hf⟩ := nz_some hf
        obtain ⟨s32, x33, hc, hf⟩ := bI_some hf
        refine cV1 g [vI 1] [] s32 (vI x33) cf_X7_refuse (t_X7_refuse g.2.2.2.2.2.2.1 hc) (RC_own g rfl z31) z31 (by omega) q_834 (Nat.le_of_ble_eq_true rfl) dX3_readUnit_117 ?_ rfl
        obtain ⟨h34, hf⟩ := ckf hf
        cases hf
        exact V_zreturn g f (zb_n h34) dX3_readUnit_120
    · have hf := it_f hf c9
      refine V_sub [(0, vR 3 a0), (1, vR 0 a1), (2, vI a2), (3, vI x4)] [1, 2, 3, 0] rfl ?_
      exact t_X3_readUnit_b26 g f hc_X3_readTest hc_X3_readUnit hdR hf
theorem t_fr_X3 {G : GT} {l : Launch} (hl : l.stackTraces = false) {fu : Nat} : ∀ n : Nat, (∀ {s : St} {a0 : Nat} {a1 : Nat} {a2 : Int32} {s' : St} {w' : Int32}, (fr_X3 fu n).1 s a0 a1 a2 = some (s', w') → MetG G l yX3_readTest (.code yX3_readTest cX3_readTest 5 (some .boolean)) (6 + n) s [vR 3 a0, vR 0 a1, vI a2] (s', .inl (some (vI w')))) ∧ (∀ {s : St} {a0 : Nat} {a1 : Nat} {a2 : Int32} {s' : St} {w' : Int32}, (fr_X3 fu n).2 s a0 a1 a2 = some (s', w') → MetG G l yX3_readUnit (.code yX3_readUnit cX3_readUnit 7 (some .boolean)) (6 + n) s [vR 3 a0, vR 0 a1, vI a2] (s', .inl (some (vI w')))) := by
  intro n
  induction n with
  | zero => exact ⟨(fun hf => nomatch hf), (fun hf => nomatch hf)⟩
  | succ n ih => exact ⟨(fun {s} {a0} {a1} {a2} {s'} {w'} hf => o_X3_readTest hl ih.2 (by omega) hf), (fun {s} {a0} {a1} {a2} {s'} {w'} hf => o_X3_readUnit hl ih.1 ih.2 (by omega) hf)⟩
theorem t_X3_readTest {G : GT} {l : Launch} (hl : l.stackTraces = false) {fu : Nat} {s s' : St} {a0 : Nat} {a1 : Nat} {a2 : Int32} {w' : Int32} (hf : r_X3_readTest fu s a0 a1 a2 = some (s', w')) : MetG G l yX3_readTest (.code yX3_readTest cX3_readTest 5 (some .boolean)) 46 s [vR 3 a0, vR 0 a1, vI a2] (s', .inl (some (vI w'))) := (t_fr_X3 hl 40).1 hf
theorem t_X3_readUnit {G : GT} {l : Launch} (hl : l.stackTraces = false) {fu : Nat} {s s' : St} {a0 : Nat} {a1 : Nat} {a2 : Int32} {w' : Int32} (hf : r_X3_readUnit fu s a0 a1 a2 = some (s', w')) : MetG G l yX3_readUnit (.code yX3_readUnit cX3_readUnit 7 (some .boolean)) 46 s [vR 3 a0, vR 0 a1, vI a2] (s', .inl (some (vI w'))) := (t_fr_X3 hl 40).2 hf
set_option maxRecDepth 20000 in
theorem t_X2_isFull_b13 {E : ET} {fu : Nat} {s' : St} {w' : Int32} (g : GX E "ThinSeries$Plan" cX2_isFull 1 0) (f : FX E "isFull" (some .boolean) []) {s : St} {t0 : Int32} (hf : f_X2_isFull_b13 fu s t0 = some (s', w')) : V E 1 (QE E (s', .inl (some (vI w')))) s 13 [] [vI t0] := by
  unfold f_X2_isFull_b13 at hf
  obtain ⟨h3, hf⟩ := ckf hf
  cases hf
  exact V_zreturn g f (zb_n h3) dX2_isFull_13
set_option maxRecDepth 20000 in
theorem t_X2_isFull {G : GT} {l : Launch} (hl : l.stackTraces = false) {fu : Nat} {s s' : St} {a0 : Nat} {w' : Int32} (hf : f_X2_isFull fu s a0 = some (s', w')) : MetG G l yX2_isFull (.code yX2_isFull cX2_isFull 1 (some .boolean)) 0 s [vR 2 a0] (s', .inl (some (vI w'))) := by
  refine MetG_of hl (by decide +kernel) (Nat.le_of_ble_eq_true rfl) (fun E g f eG eL => ?_)
  subst eG; subst eL
  have g : GX E "ThinSeries$Plan" cX2_isFull 1 0 := g
  have f : FX E "isFull" (some .boolean) [] := f
  show V E 1 (QE E (s', .inl (some (vI w')))) s 0 [(0, vR 2 a0)] []
  unfold f_X2_isFull at hf
  refine V_aload_n g 0 dX2_isFull_0 rfl ?_
  obtain ⟨z1, hf⟩ := nz_some hf
  refine V_getI g 2 a0 3 rfl (by decide) rfl q_295 z1 dX2_isFull_1 ?_
  refine V_iconst (v := 4) g dX2_isFull_4 (by decide) ?_
  refine V_icmp_lt g 12 dX2_isFull_5 (by decide) (fun c2 => ?_) (fun c2 => ?_)
  · have hf := it_t hf c2
    refine V_iconst (v := 0) g dX2_isFull_12 (by decide) ?_
    refine V_sub [] [] rfl ?_
    exact t_X2_isFull_b13 g f hf
  · have hf := it_f hf c2
    refine V_iconst (v := 1) g dX2_isFull_8 (by decide) ?_
    refine V_goto g 13 dX2_isFull_9 (by decide) ?_
    refine V_sub [] [] rfl ?_
    exact t_X2_isFull_b13 g f hf
set_option maxRecDepth 20000 in
theorem t_X2_addTier_b37 {E : ET} {fu : Nat} {s' : St} (g : GX E "ThinSeries$Plan" cX2_addTier 3 1) (f : FX E "addTier" none []) {s : St} (hf : f_X2_addTier_b37 fu s = some s') : V E 3 (QE E (s', .inl none)) s 37 [] [] := by
  unfold f_X2_addTier_b37 at hf
  cases hf
  exact V_return g f dX2_addTier_37
set_option maxRecDepth 20000 in
theorem t_X2_addTier {G : GT} {l : Launch} (hl : l.stackTraces = false) {fu : Nat} {s s' : St} {a0 : Nat} {a1 : Int32} {a2 : Int32} (hf : f_X2_addTier fu s a0 a1 a2 = some s') : MetG G l yX2_addTier (.code yX2_addTier cX2_addTier 3 none) 1 s [vR 2 a0, vI a1, vI a2] (s', .inl none) := by
  refine MetG_of hl (by decide +kernel) (Nat.le_of_ble_eq_true rfl) (fun E g f eG eL => ?_)
  subst eG; subst eL
  have g : GX E "ThinSeries$Plan" cX2_addTier 3 1 := g
  have f : FX E "addTier" none [] := f
  show V E 3 (QE E (s', .inl none)) s 0 [(0, vR 2 a0), (1, vI a1), (2, vI a2)] []
  unfold f_X2_addTier at hf
  refine V_aload_n g 0 dX2_addTier_0 rfl ?_
  obtain ⟨z1, hf⟩ := nz_some hf
  obtain ⟨s2, x3, hc, hf⟩ := bI_some hf
  refine cV1 g [] [] s2 (vI x3) cf_X2_isFull (t_X2_isFull g.2.2.2.2.2.2.1 hc) (RC_own g rfl z1) z1 (by decide) q_858 (Nat.le_of_ble_eq_true rfl) dX2_addTier_1 ?_ rfl
  refine V_if_ne g 37 dX2_addTier_4 (by decide) (fun c4 => ?_) (fun c4 => ?_)
  · have hf := it_f hf c4
    refine V_sub [] [] rfl ?_
    exact t_X2_addTier_b37 g f hf
  · have hf := it_t hf c4
    refine V_aload_n g 0 dX2_addTier_7 rfl ?_
    refine V_getR g 2 a0 0 10 rfl (by decide) rfl rfl q_286 z1 dX2_addTier_8 ?_
    refine V_aload_n g 0 dX2_addTier_11 rfl ?_
    refine V_getI g 2 a0 3 rfl (by decide) rfl q_295 z1 dX2_addTier_12 ?_
    refine V_iload_n g 1 dX2_addTier_15 rfl ?_
    obtain ⟨z5, hf⟩ := nz_some hf
    obtain ⟨h6, hf⟩ := ckf hf
    obtain ⟨s7, es7, hf⟩ := lt_some hf
    refine V_iast g es7 z5 h6 dX2_addTier_16 ?_
    refine V_aload_n g 0 dX2_addTier_17 rfl ?_
    refine V_getR g 2 a0 1 10 rfl (by decide) rfl rfl q_289 z1 dX2_addTier_18 ?_
    refine V_aload_n g 0 dX2_addTier_21 rfl ?_
    refine V_getI g 2 a0 3 rfl (by decide) rfl q_295 z1 dX2_addTier_22 ?_
    refine V_iload_n g 2 dX2_addTier_25 rfl ?_
    obtain ⟨z8, hf⟩ := nz_some hf
    obtain ⟨h9, hf⟩ := ckf hf
    obtain ⟨s10, es10, hf⟩ := lt_some hf
    refine V_iast g es10 z8 h9 dX2_addTier_26 ?_
    refine V_aload_n g 0 dX2_addTier_27 rfl ?_
    refine V_dup g dX2_addTier_28 rfl ?_
    refine V_getI g 2 a0 3 rfl (by decide) rfl q_295 z1 dX2_addTier_29 ?_
    refine V_iconst (v := 1) g dX2_addTier_32 (by decide) ?_
    refine V_iadd g dX2_addTier_33 ?_
    obtain ⟨s11, es11, hf⟩ := lt_some hf
    refine V_putI g 2 a0 3 es11 rfl (by decide) rfl q_295 z1 (Or.inl rfl) pf_2_3 dX2_addTier_34 ?_
    refine V_sub [] [] rfl ?_
    exact t_X2_addTier_b37 g f hf
set_option maxRecDepth 20000 in
theorem t_X2_canFollow_b42 {E : ET} {fu : Nat} {s' : St} {w' : Int32} (g : GX E "ThinSeries$Plan" cX2_canFollow 3 2) (f : FX E "canFollow" (some .boolean) []) {s : St} {t0 : Int32} (hf : f_X2_canFollow_b42 fu s t0 = some (s', w')) : V E 3 (QE E (s', .inl (some (vI w')))) s 42 [] [vI t0] := by
  unfold f_X2_canFollow_b42 at hf
  obtain ⟨h11, hf⟩ := ckf hf
  cases hf
  exact V_zreturn g f (zb_n h11) dX2_canFollow_42
set_option maxRecDepth 20000 in
theorem t_X2_canFollow_b41 {E : ET} {fu : Nat} {s' : St} {w' : Int32} (g : GX E "ThinSeries$Plan" cX2_canFollow 3 2) (f : FX E "canFollow" (some .boolean) []) {s : St} (hf : f_X2_canFollow_b41 fu s = some (s', w')) : V E 3 (QE E (s', .inl (some (vI w')))) s 41 [] [] := by
  unfold f_X2_canFollow_b41 at hf
  refine V_iconst (v := 0) g dX2_canFollow_41 (by decide) ?_
  exact t_X2_canFollow_b42 g f hf
set_option maxRecDepth 20000 in
theorem t_X2_canFollow {G : GT} {l : Launch} (hl : l.stackTraces = false) {fu : Nat} {s s' : St} {a0 : Nat} {a1 : Int32} {w' : Int32} (hf : f_X2_canFollow fu s a0 a1 = some (s', w')) : MetG G l yX2_canFollow (.code yX2_canFollow cX2_canFollow 3 (some .boolean)) 2 s [vR 2 a0, vI a1] (s', .inl (some (vI w'))) := by
  refine MetG_of hl (by decide +kernel) (Nat.le_of_ble_eq_true rfl) (fun E g f eG eL => ?_)
  subst eG; subst eL
  have g : GX E "ThinSeries$Plan" cX2_canFollow 3 2 := g
  have f : FX E "canFollow" (some .boolean) [] := f
  show V E 3 (QE E (s', .inl (some (vI w')))) s 0 [(0, vR 2 a0), (1, vI a1)] []
  unfold f_X2_canFollow at hf
  refine V_aload_n g 0 dX2_canFollow_0 rfl ?_
  obtain ⟨z1, hf⟩ := nz_some hf
  refine V_getI g 2 a0 3 rfl (by decide) rfl q_295 z1 dX2_canFollow_1 ?_
  refine V_if_ne g 9 dX2_canFollow_4 (by decide) (fun c2 => ?_) (fun c2 => ?_)
  · have hf := it_f hf c2
    refine V_aload_n g 0 dX2_canFollow_9 rfl ?_
    refine V_getR g 2 a0 0 10 rfl (by decide) rfl rfl q_286 z1 dX2_canFollow_10 ?_
    refine V_aload_n g 0 dX2_canFollow_13 rfl ?_
    refine V_getI g 2 a0 3 rfl (by decide) rfl q_295 z1 dX2_canFollow_14 ?_
    refine V_iconst (v := 1) g dX2_canFollow_17 (by decide) ?_
    refine V_isub g dX2_canFollow_18 ?_
    obtain ⟨z3, hf⟩ := nz_some hf
    obtain ⟨h4, hf⟩ := ckf hf
    refine V_iald g z3 h4 dX2_canFollow_19 ?_
    obtain ⟨x5, ex5, hf⟩ := lt_some hf
    refine V_istore_n g [(2, vI x5), (0, vR 2 a0), (1, vI a1)] dX2_canFollow_20 ex5 (by decide) rfl ?_
    refine V_iload_n g 2 dX2_canFollow_21 rfl ?_
    refine V_iconst (v := 2) g dX2_canFollow_22 (by decide) ?_
    refine V_iload_n g 0 dX2_canFollow_23 rfl ?_
    refine V_imul g dX2_canFollow_24 ?_
    refine V_icmp_lt g 41 dX2_canFollow_25 (by decide) (fun c6 => ?_) (fun c6 => ?_)
    · have hf := it_t hf c6
      refine V_sub [] [] rfl ?_
      exact t_X2_canFollow_b41 g f hf
    · have hf := it_f hf c6
      refine V_iload_n g 2 dX2_canFollow_28 rfl ?_
      refine V_iload_n g 0 dX2_canFollow_29 rfl ?_
      obtain ⟨s7, x8, hc, hf⟩ := bI_some hf
      refine cN1 g [vI a1, vI x5] [] s7 (vI x8) cf_X8_multipleUpTo (t_X8_multipleUpTo g.2.2.2.2.2.2.1 hc) (by decide) q_419 (Nat.le_of_ble_eq_true rfl) dX2_canFollow_30 ?_ rfl
      refine V_iload_n g 2 dX2_canFollow_33 rfl ?_
      refine V_icmp_ne g 41 dX2_canFollow_34 (by decide) (fun c9 => ?_) (fun c9 => ?_)
      · have hf := it_f hf c9
        refine V_sub [] [] rfl ?_
        exact t_X2_canFollow_b41 g f hf
      · have hf := it_t hf c9
        refine V_iconst (v := 1) g dX2_canFollow_37 (by decide) ?_
        refine V_goto g 42 dX2_canFollow_38 (by decide) ?_
        refine V_sub [] [] rfl ?_
        exact t_X2_canFollow_b42 g f hf
  · have hf := it_t hf c2
    refine V_iconst (v := 1) g dX2_canFollow_7 (by decide) ?_
    obtain ⟨h10, hf⟩ := ckf hf
    cases hf
    exact V_zreturn g f (zb_n h10) dX2_canFollow_8
set_option maxRecDepth 20000 in
theorem t_X3_readTier {G : GT} {l : Launch} (hl : l.stackTraces = false) {fu : Nat} {s s' : St} {a0 : Nat} {a1 : Nat} {w' : Int32} (hf : f_X3_readTier fu s a0 a1 = some (s', w')) : MetG G l yX3_readTier (.code yX3_readTier cX3_readTier 3 (some .boolean)) 6 s [vR 3 a0, vR 2 a1] (s', .inl (some (vI w'))) := by
  refine MetG_of hl (by decide +kernel) (Nat.le_of_ble_eq_true rfl) (fun E g f eG eL => ?_)
  subst eG; subst eL
  have g : GX E "ThinSeries$PlanReader" cX3_readTier 3 6 := g
  have f : FX E "readTier" (some .boolean) [] := f
  show V E 3 (QE E (s', .inl (some (vI w')))) s 0 [(0, vR 3 a0), (1, vR 2 a1)] []
  unfold f_X3_readTier at hf
  refine V_aload_n g 1 dX3_readTier_0 rfl ?_
  obtain ⟨z1, hf⟩ := nz_some hf
  obtain ⟨s2, x3, hc, hf⟩ := bI_some hf
  refine cV1 g [] [] s2 (vI x3) cf_X2_isFull (t_X2_isFull g.2.2.2.2.2.2.1 hc) (RC_own g rfl z1) z1 (by decide) q_830 (Nat.le_of_ble_eq_true rfl) dX3_readTier_1 ?_ rfl
  refine V_if_eq g 16 dX3_readTier_4 (by decide) (fun c4 => ?_) (fun c4 => ?_)
  · have hf := it_t hf c4
    refine V_aload_n g 0 dX3_readTier_16 rfl ?_
    obtain ⟨z5, hf⟩ := nz_some hf
    refine V_getR g 3 a0 0 7 rfl (by decide) rfl rfl q_173 z5 dX3_readTier_17 ?_
    obtain ⟨z6, hf⟩ := nz_some hf
    obtain ⟨s7, hc, hf⟩ := bV_some hf
    refine cV0 g [] [] s7 cf_X7_next (t_X7_next g.2.2.2.2.2.2.1 hc) (RC_own g rfl z6) z6 (by decide) q_838 (Nat.le_of_ble_eq_true rfl) dX3_readTier_20 ?_ rfl
    refine V_aload_n g 0 dX3_readTier_23 rfl ?_
    refine V_getR g 3 a0 0 7 rfl (by decide) rfl rfl q_173 z5 dX3_readTier_24 ?_
    refine V_iconst (v := 1) g dX3_readTier_27 (by decide) ?_
    refine V_ldc (v := 100000) g q_839 dX3_readTier_28 ?_
    obtain ⟨z8, hf⟩ := nz_some hf
    obtain ⟨s9, x10, hc, hf⟩ := bI_some hf
    refine cV1 g [vI 1, vI 100000] [] s9 (vI x10) cf_X7_isNumberWithin (t_X7_isNumberWithin g.2.2.2.2.2.2.1 hc) (RC_own g rfl z8) z8 (by decide) q_840 (Nat.le_of_ble_eq_true rfl) dX3_readTier_30 ?_ rfl
    refine V_if_ne g 38 dX3_readTier_33 (by decide) (fun c11 => ?_) (fun c11 => ?_)
    · have hf := it_f hf c11
      refine V_aload_n g 0 dX3_readTier_38 rfl ?_
      refine V_getR g 3 a0 0 7 rfl (by decide) rfl rfl q_173 z5 dX3_readTier_39 ?_
      obtain ⟨z12, hf⟩ := nz_some hf
      refine V_getI g 7 (gR s9 3 a0 0) 5 rfl (by decide) rfl q_139 z12 dX3_readTier_42 ?_
      obtain ⟨x13, ex13, hf⟩ := lt_some hf
      refine V_istore_n g [(2, vI x13), (0, vR 3 a0), (1, vR 2 a1)] dX3_readTier_45 ex13 (by decide) rfl ?_
      refine V_aload_n g 2 dX3_readTier_46 rfl ?_
      refine V_iload_n g 0 dX3_readTier_47 rfl ?_
      obtain ⟨s14, x15, hc, hf⟩ := bI_some hf
      refine cV1 g [vI x13] [] s14 (vI x15) cf_X2_canFollow (t_X2_canFollow g.2.2.2.2.2.2.1 hc) (RC_own g rfl z1) z1 (by decide) q_845 (Nat.le_of_ble_eq_true rfl) dX3_readTier_48 ?_ rfl
      refine V_if_ne g 63 dX3_readTier_51 (by decide) (fun c16 => ?_) (fun c16 => ?_)
      · have hf := it_f hf c16
        refine V_aload_n g 1 dX3_readTier_63 rfl ?_
        refine V_getR g 3 a0 0 7 rfl (by decide) rfl rfl q_173 z5 dX3_readTier_64 ?_
        obtain ⟨z17, hf⟩ := nz_some hf
        obtain ⟨s18, hc, hf⟩ := bV_some hf
        refine cV0 g [] [] s18 cf_X7_next (t_X7_next g.2.2.2.2.2.2.1 hc) (RC_own g rfl z17) z17 (by decide) q_838 (Nat.le_of_ble_eq_true rfl) dX3_readTier_67 ?_ rfl
        refine V_aload_n g 1 dX3_readTier_70 rfl ?_
        refine V_getR g 3 a0 0 7 rfl (by decide) rfl rfl q_173 z5 dX3_readTier_71 ?_
        refine V_iconst (v := 1) g dX3_readTier_74 (by decide) ?_
        refine V_bipush (v := 20) g dX3_readTier_75 (by decide) ?_
        obtain ⟨z19, hf⟩ := nz_some hf
        obtain ⟨s20, x21, hc, hf⟩ := bI_some hf
        refine cV1 g [vI 1, vI 20] [] s20 (vI x21) cf_X7_takeNumber (t_X7_takeNumber g.2.2.2.2.2.2.1 hc) (RC_own g rfl z19) z19 (by decide) q_849 (Nat.le_of_ble_eq_true rfl) dX3_readTier_77 ?_ rfl
        refine V_if_ne g 85 dX3_readTier_80 (by decide) (fun c22 => ?_) (fun c22 => ?_)
        · have hf := it_f hf c22
          refine V_aload_n g 2 dX3_readTier_85 rfl ?_
          refine V_iload_n g 0 dX3_readTier_86 rfl ?_
          refine V_aload_n g 1 dX3_readTier_87 rfl ?_
          refine V_getR g 3 a0 0 7 rfl (by decide) rfl rfl q_173 z5 dX3_readTier_88 ?_
          obtain ⟨z23, hf⟩ := nz_some hf
          refine V_getI g 7 (gR s20 3 a0 0) 6 rfl (by decide) rfl q_141 z23 dX3_readTier_91 ?_
          obtain ⟨s24, hc, hf⟩ := bV_some hf
          refine cV0 g [vI x13, vI (gI s20 7 (gR s20 3 a0 0) 6)] [] s24 cf_X2_addTier (t_X2_addTier g.2.2.2.2.2.2.1 hc) (RC_own g rfl z1) z1 (by decide) q_854 (Nat.le_of_ble_eq_true rfl) dX3_readTier_94 ?_ rfl
          refine V_iconst (v := 1) g dX3_readTier_97 (by decide) ?_
          obtain ⟨h25, hf⟩ := ckf hf
          cases hf
          exact V_zreturn g f (zb_n h25) dX3_readTier_98
        · have hf := it_t hf c22
          refine V_iconst (v := 0) g dX3_readTier_83 (by decide) ?_
          obtain ⟨h26, hf⟩ := ckf hf
          cases hf
          exact V_zreturn g f (zb_n h26) dX3_readTier_84
      · have hf := it_t hf c16
        refine V_aload_n g 1 dX3_readTier_54 rfl ?_
        refine V_getR g 3 a0 0 7 rfl (by decide) rfl rfl q_173 z5 dX3_readTier_55 ?_
        refine V_iconst (v := 3) g dX3_readTier_58 (by decide) ?_
        obtain ⟨z27, hf⟩ := nz_some hf
        obtain ⟨s28, x29, hc, hf⟩ := bI_some hf
        refine cV1 g [vI 3] [] s28 (vI x29) cf_X7_refuse (t_X7_refuse g.2.2.2.2.2.2.1 hc) (RC_own g rfl z27) z27 (by decide) q_834 (Nat.le_of_ble_eq_true rfl) dX3_readTier_59 ?_ rfl
        obtain ⟨h30, hf⟩ := ckf hf
        cases hf
        exact V_zreturn g f (zb_n h30) dX3_readTier_62
    · have hf := it_t hf c11
      refine V_iconst (v := 0) g dX3_readTier_36 (by decide) ?_
      obtain ⟨h31, hf⟩ := ckf hf
      cases hf
      exact V_zreturn g f (zb_n h31) dX3_readTier_37
  · have hf := it_f hf c4
    refine V_aload_n g 0 dX3_readTier_7 rfl ?_
    obtain ⟨z32, hf⟩ := nz_some hf
    refine V_getR g 3 a0 0 7 rfl (by decide) rfl rfl q_173 z32 dX3_readTier_8 ?_
    refine V_iconst (v := 2) g dX3_readTier_11 (by decide) ?_
    obtain ⟨z33, hf⟩ := nz_some hf
    obtain ⟨s34, x35, hc, hf⟩ := bI_some hf
    refine cV1 g [vI 2] [] s34 (vI x35) cf_X7_refuse (t_X7_refuse g.2.2.2.2.2.2.1 hc) (RC_own g rfl z33) z33 (by decide) q_834 (Nat.le_of_ble_eq_true rfl) dX3_readTier_12 ?_ rfl
    obtain ⟨h36, hf⟩ := ckf hf
    cases hf
    exact V_zreturn g f (zb_n h36) dX3_readTier_15
set_option maxRecDepth 20000 in
theorem t_X3_readClause {G : GT} {l : Launch} (hl : l.stackTraces = false) {fu : Nat} {s s' : St} {a0 : Nat} {a1 : Nat} {w' : Int32} (hf : f_X3_readClause fu s a0 a1 = some (s', w')) : MetG G l yX3_readClause (.code yX3_readClause cX3_readClause 3 (some .boolean)) 47 s [vR 3 a0, vR 2 a1] (s', .inl (some (vI w'))) := by
  refine MetG_of hl (by decide +kernel) (Nat.le_of_ble_eq_true rfl) (fun E g f eG eL => ?_)
  subst eG; subst eL
  have g : GX E "ThinSeries$PlanReader" cX3_readClause 3 47 := g
  have f : FX E "readClause" (some .boolean) [] := f
  show V E 3 (QE E (s', .inl (some (vI w')))) s 0 [(0, vR 3 a0), (1, vR 2 a1)] []
  unfold f_X3_readClause at hf
  refine V_aload_n g 0 dX3_readClause_0 rfl ?_
  obtain ⟨z1, hf⟩ := nz_some hf
  refine V_getR g 3 a0 0 7 rfl (by decide) rfl rfl q_173 z1 dX3_readClause_1 ?_
  refine V_ldcS g 3 (by decide) rfl dX3_readClause_4 ?_
  obtain ⟨z2, hf⟩ := nz_some hf
  obtain ⟨s3, x4, hc, hf⟩ := bI_some hf
  refine cV1 g [vR 16 3] [] s3 (vI x4) cf_X7_isWord (t_X7_isWord g.2.2.2.2.2.2.1 hc) (RC_own g rfl z2) z2 (by decide) q_801 (Nat.le_of_ble_eq_true rfl) dX3_readClause_6 ?_ rfl
  refine V_if_eq g 18 dX3_readClause_9 (by decide) (fun c5 => ?_) (fun c5 => ?_)
  · have hf := it_t hf c5
    refine V_aload_n g 0 dX3_readClause_18 rfl ?_
    refine V_getR g 3 a0 0 7 rfl (by decide) rfl rfl q_173 z1 dX3_readClause_19 ?_
    refine V_ldcS g 4 (by decide) rfl dX3_readClause_22 ?_
    obtain ⟨z6, hf⟩ := nz_some hf
    obtain ⟨s7, x8, hc, hf⟩ := bI_some hf
    refine cV1 g [vR 16 4] [] s7 (vI x8) cf_X7_isWord (t_X7_isWord g.2.2.2.2.2.2.1 hc) (RC_own g rfl z6) z6 (by decide) q_801 (Nat.le_of_ble_eq_true rfl) dX3_readClause_24 ?_ rfl
    refine V_if_eq g 61 dX3_readClause_27 (by decide) (fun c9 => ?_) (fun c9 => ?_)
    · have hf := it_t hf c9
      refine V_aload_n g 0 dX3_readClause_61 rfl ?_
      refine V_getR g 3 a0 0 7 rfl (by decide) rfl rfl q_173 z1 dX3_readClause_62 ?_
      refine V_ldcS g 5 (by decide) rfl dX3_readClause_65 ?_
      obtain ⟨z10, hf⟩ := nz_some hf
      obtain ⟨s11, x12, hc, hf⟩ := bI_some hf
      refine cV1 g [vR 16 5] [] s11 (vI x12) cf_X7_isWord (t_X7_isWord g.2.2.2.2.2.2.1 hc) (RC_own g rfl z10) z10 (by decide) q_801 (Nat.le_of_ble_eq_true rfl) dX3_readClause_67 ?_ rfl
      refine V_if_eq g 97 dX3_readClause_70 (by decide) (fun c13 => ?_) (fun c13 => ?_)
      · have hf := it_t hf c13
        refine V_aload_n g 0 dX3_readClause_97 rfl ?_
        refine V_getR g 3 a0 0 7 rfl (by decide) rfl rfl q_173 z1 dX3_readClause_98 ?_
        refine V_iconst (v := 1) g dX3_readClause_101 (by decide) ?_
        obtain ⟨z14, hf⟩ := nz_some hf
        obtain ⟨s15, x16, hc, hf⟩ := bI_some hf
        refine cV1 g [vI 1] [] s15 (vI x16) cf_X7_refuse (t_X7_refuse g.2.2.2.2.2.2.1 hc) (RC_own g rfl z14) z14 (by decide) q_834 (Nat.le_of_ble_eq_true rfl) dX3_readClause_102 ?_ rfl
        obtain ⟨h17, hf⟩ := ckf hf
        cases hf
        exact V_zreturn g f (zb_n h17) dX3_readClause_105
      · have hf := it_f hf c13
        refine V_aload_n g 0 dX3_readClause_73 rfl ?_
        refine V_getR g 3 a0 0 7 rfl (by decide) rfl rfl q_173 z1 dX3_readClause_74 ?_
        obtain ⟨z18, hf⟩ := nz_some hf
        obtain ⟨s19, hc, hf⟩ := bV_some hf
        refine cV0 g [] [] s19 cf_X7_next (t_X7_next g.2.2.2.2.2.2.1 hc) (RC_own g rfl z18) z18 (by decide) q_838 (Nat.le_of_ble_eq_true rfl) dX3_readClause_77 ?_ rfl
        refine V_aload_n g 1 dX3_readClause_80 rfl ?_
        obtain ⟨z20, hf⟩ := nz_some hf
        refine V_getR g 2 a1 2 0 rfl (by decide) rfl rfl q_292 z20 dX3_readClause_81 ?_
        obtain ⟨z21, hf⟩ := nz_some hf
        obtain ⟨s22, hc, hf⟩ := bV_some hf
        refine cV0 g [] [] s22 cf_X0_clear (t_X0_clear g.2.2.2.2.2.2.1 hc) (RC_own g rfl z21) z21 (by decide) q_861 (Nat.le_of_ble_eq_true rfl) dX3_readClause_84 ?_ rfl
        refine V_aload_n g 0 dX3_readClause_87 rfl ?_
        refine V_aload_n g 1 dX3_readClause_88 rfl ?_
        refine V_getR g 2 a1 2 0 rfl (by decide) rfl rfl q_292 z20 dX3_readClause_89 ?_
        refine V_iconst (v := 0) g dX3_readClause_92 (by decide) ?_
        obtain ⟨s23, x24, hc, hf⟩ := bI_some hf
        refine cV1 g [vR 0 (gR s22 2 a1 2), vI 0] [] s23 (vI x24) cf_X3_readTest (t_X3_readTest g.2.2.2.2.2.2.1 hc) (RC_own g rfl z1) z1 (by decide) q_862 (Nat.le_of_ble_eq_true rfl) dX3_readClause_93 ?_ rfl
        obtain ⟨h25, hf⟩ := ckf hf
        cases hf
        exact V_zreturn g f (zb_n h25) dX3_readClause_96
    · have hf := it_f hf c9
      refine V_aload_n g 0 dX3_readClause_30 rfl ?_
      refine V_getR g 3 a0 0 7 rfl (by decide) rfl rfl q_173 z1 dX3_readClause_31 ?_
      obtain ⟨z26, hf⟩ := nz_some hf
      obtain ⟨s27, hc, hf⟩ := bV_some hf
      refine cV0 g [] [] s27 cf_X7_next (t_X7_next g.2.2.2.2.2.2.1 hc) (RC_own g rfl z26) z26 (by decide) q_838 (Nat.le_of_ble_eq_true rfl) dX3_readClause_34 ?_ rfl
      refine V_aload_n g 0 dX3_readClause_37 rfl ?_
      refine V_getR g 3 a0 0 7 rfl (by decide) rfl rfl q_173 z1 dX3_readClause_38 ?_
      refine V_iconst (v := 1) g dX3_readClause_41 (by decide) ?_
      refine V_bipush (v := 6) g dX3_readClause_42 (by decide) ?_
      obtain ⟨z28, hf⟩ := nz_some hf
      obtain ⟨s29, x30, hc, hf⟩ := bI_some hf
      refine cV1 g [vI 1, vI 6] [] s29 (vI x30) cf_X7_takeNumber (t_X7_takeNumber g.2.2.2.2.2.2.1 hc) (RC_own g rfl z28) z28 (by decide) q_849 (Nat.le_of_ble_eq_true rfl) dX3_readClause_44 ?_ rfl
      refine V_istore_n g [(2, vI x30), (0, vR 3 a0), (1, vR 2 a1)] dX3_readClause_47 rfl (by decide) rfl ?_
      refine V_aload_n g 2 dX3_readClause_48 rfl ?_
      refine V_aload_n g 1 dX3_readClause_49 rfl ?_
      refine V_getR g 3 a0 0 7 rfl (by decide) rfl rfl q_173 z1 dX3_readClause_50 ?_
      obtain ⟨z31, hf⟩ := nz_some hf
      refine V_getI g 7 (gR s29 3 a0 0) 6 rfl (by decide) rfl q_141 z31 dX3_readClause_53 ?_
      obtain ⟨z32, hf⟩ := nz_some hf
      obtain ⟨s33, es33, hf⟩ := lt_some hf
      refine V_putI g 2 a1 4 es33 rfl (by decide) rfl q_299 z32 (Or.inl rfl) pf_2_4 dX3_readClause_56 ?_
      refine V_iload_n g 0 dX3_readClause_59 rfl ?_
      obtain ⟨h34, hf⟩ := ckf hf
      cases hf
      exact V_zreturn g f (zb_n h34) dX3_readClause_60
  · have hf := it_f hf c5
    refine V_aload_n g 0 dX3_readClause_12 rfl ?_
    refine V_aload_n g 1 dX3_readClause_13 rfl ?_
    obtain ⟨s35, x36, hc, hf⟩ := bI_some hf
    refine cV1 g [vR 2 a1] [] s35 (vI x36) cf_X3_readTier (t_X3_readTier g.2.2.2.2.2.2.1 hc) (RC_own g rfl z1) z1 (by decide) q_826 (Nat.le_of_ble_eq_true rfl) dX3_readClause_14 ?_ rfl
    obtain ⟨h37, hf⟩ := ckf hf
    cases hf
    exact V_zreturn g f (zb_n h37) dX3_readClause_17
set_option maxRecDepth 20000 in
theorem t_X3_read_b51 {E : ET} {fu : Nat} {s' : St} {w' : Int32} (g : GX E "ThinSeries$PlanReader" cX3_read 4 48) (f : FX E "read" (some .boolean) []) {s : St} (hf : f_X3_read_b51 fu s = some (s', w')) : V E 4 (QE E (s', .inl (some (vI w')))) s 51 [] [] := by
  unfold f_X3_read_b51 at hf
  refine V_iconst (v := 0) g dX3_read_51 (by decide) ?_
  obtain ⟨h18, hf⟩ := ckf hf
  cases hf
  exact V_zreturn g f (zb_n h18) dX3_read_52
set_option maxRecDepth 20000 in
theorem t_X3_read_b70 {E : ET} {fu : Nat} {s' : St} {w' : Int32} (g : GX E "ThinSeries$PlanReader" cX3_read 4 48) (f : FX E "read" (some .boolean) []) {s : St} (hf : f_X3_read_b70 fu s = some (s', w')) : V E 4 (QE E (s', .inl (some (vI w')))) s 70 [] [] := by
  unfold f_X3_read_b70 at hf
  refine V_iconst (v := 1) g dX3_read_70 (by decide) ?_
  obtain ⟨h22, hf⟩ := ckf hf
  cases hf
  exact V_zreturn g f (zb_n h22) dX3_read_71
set_option maxRecDepth 20000 in
theorem t_X3_read_b59 {E : ET} {fu : Nat} {s' : St} {w' : Int32} (g : GX E "ThinSeries$PlanReader" cX3_read 4 48) (f : FX E "read" (some .boolean) []) {s : St} {l2 : Nat} (hf : f_X3_read_b59 fu s l2 = some (s', w')) : V E 4 (QE E (s', .inl (some (vI w')))) s 59 [(2, vR 2 l2)] [] := by
  unfold f_X3_read_b59 at hf
  refine V_aload_n g 0 dX3_read_59 rfl ?_
  obtain ⟨z19, hf⟩ := nz_some hf
  refine V_getI g 2 l2 3 rfl (by decide) rfl q_296 z19 dX3_read_60 ?_
  refine V_if_ne g 70 dX3_read_63 (by decide) (fun c20 => ?_) (fun c20 => ?_)
  · have hf := it_f hf c20
    refine V_sub [] [] rfl ?_
    exact t_X3_read_b70 g f hf
  · have hf := it_t hf c20
    refine V_aload_n g 0 dX3_read_66 rfl ?_
    obtain ⟨s21, hc, hf⟩ := bV_some hf
    refine cV0 g [] [] s21 cf_X2_takeFirstTiers (t_X2_takeFirstTiers g.2.2.2.2.2.2.1 hc) (RC_own g rfl z19) z19 (by decide) q_912 (Nat.le_of_ble_eq_true rfl) dX3_read_67 ?_ rfl
    refine V_sub [] [] rfl ?_
    exact t_X3_read_b70 g f hf
set_option maxRecDepth 20000 in
theorem t_X3_read_b14 {E : ET} {fu : Nat} {s' : St} {w' : Int32} (g : GX E "ThinSeries$PlanReader" cX3_read 4 48) (f : FX E "read" (some .boolean) []) : ∀ (n : Nat) (s : St) (l0 : Nat) (l2 : Nat) (l3 : Int32), f_X3_read_b14 fu n s l0 l2 l3 = some (s', w') → V E 4 (QE E (s', .inl (some (vI w')))) s 14 [(0, vR 3 l0), (2, vR 2 l2), (3, vI l3)] [] := by
  intro n
  induction n with
  | zero =>
    intro s l0 l2 l3 hf
    unfold f_X3_read_b14 at hf
    exact nomatch hf
  | succ n ih =>
    intro s l0 l2 l3 hf
    unfold f_X3_read_b14 at hf
    refine V_iload_n g 2 dX3_read_14 rfl ?_
    refine V_sipush (v := 600) g dX3_read_15 (by decide) ?_
    refine V_icmp_ge g 59 dX3_read_18 (by decide) (fun c6 => ?_) (fun c6 => ?_)
    · have hf := it_t hf c6
      refine V_sub [(2, vR 2 l2)] [1] rfl ?_
      exact t_X3_read_b59 g f hf
    · have hf := it_f hf c6
      refine V_aload_n g 0 dX3_read_21 rfl ?_
      obtain ⟨z7, hf⟩ := nz_some hf
      refine V_getR g 3 l0 0 7 rfl (by decide) rfl rfl q_173 z7 dX3_read_22 ?_
      obtain ⟨z8, hf⟩ := nz_some hf
      refine V_getI g 7 (gR s 3 l0 0) 4 rfl (by decide) rfl q_136 z8 dX3_read_25 ?_
      refine V_if_eq g 59 dX3_read_28 (by decide) (fun c9 => ?_) (fun c9 => ?_)
      · have hf := it_t hf c9
        refine V_sub [(2, vR 2 l2)] [1] rfl ?_
        exact t_X3_read_b59 g f hf
      · have hf := it_f hf c9
        refine V_aload_n g 0 dX3_read_31 rfl ?_
        refine V_aload_n g 1 dX3_read_32 rfl ?_
        obtain ⟨s10, x11, hc, hf⟩ := bI_some hf
        refine cV1 g [vR 2 l2] [] s10 (vI x11) cf_X3_readClause (t_X3_readClause g.2.2.2.2.2.2.1 hc) (RC_own g rfl z7) z7 (by decide) q_796 (Nat.le_of_ble_eq_true rfl) dX3_read_33 ?_ rfl
        refine V_if_eq g 51 dX3_read_36 (by decide) (fun c12 => ?_) (fun c12 => ?_)
        · have hf := it_t hf c12
          refine V_sub [] [] rfl ?_
          exact t_X3_read_b51 g f hf
        · have hf := it_f hf c12
          refine V_aload_n g 0 dX3_read_39 rfl ?_
          refine V_getR g 3 l0 0 7 rfl (by decide) rfl rfl q_173 z7 dX3_read_40 ?_
          refine V_bipush (v := 59) g dX3_read_43 (by decide) ?_
          obtain ⟨z13, hf⟩ := nz_some hf
          obtain ⟨s14, x15, hc, hf⟩ := bI_some hf
          refine cV1 g [vI 59] [] s14 (vI x15) cf_X7_takeSign (t_X7_takeSign g.2.2.2.2.2.2.1 hc) (RC_own g rfl z13) z13 (by decide) q_875 (Nat.le_of_ble_eq_true rfl) dX3_read_45 ?_ rfl
          refine V_if_ne g 53 dX3_read_48 (by decide) (fun c16 => ?_) (fun c16 => ?_)
          · have hf := it_f hf c16
            obtain ⟨x17, ex17, hf⟩ := lt_some hf
            refine V_iinc g 2 [(3, vI x17), (0, vR 3 l0), (2, vR 2 l2)] dX3_read_53 rfl (by rw [ex17]; rfl) (by decide) rfl ?_
            refine V_goto g 14 dX3_read_56 (by decide) ?_
            refine V_sub [(0, vR 3 l0), (2, vR 2 l2), (3, vI x17)] [1, 2, 0] rfl ?_
            exact ih s14 l0 l2 x17 hf
          · have hf := it_t hf c16
            refine V_sub [] [] rfl ?_
            exact t_X3_read_b51 g f hf
set_option maxRecDepth 20000 in
theorem t_X3_read {G : GT} {l : Launch} (hl : l.stackTraces = false) {fu : Nat} {s s' : St} {a0 : Nat} {a1 : Int32} {a2 : Nat} {w' : Int32} (hf : f_X3_read fu s a0 a1 a2 = some (s', w')) : MetG G l yX3_read (.code yX3_read cX3_read 4 (some .boolean)) 48 s [vR 3 a0, vI a1, vR 2 a2] (s', .inl (some (vI w'))) := by
  refine MetG_of hl (by decide +kernel) (Nat.le_of_ble_eq_true rfl) (fun E g f eG eL => ?_)
  subst eG; subst eL
  have g : GX E "ThinSeries$PlanReader" cX3_read 4 48 := g
  have f : FX E "read" (some .boolean) [] := f
  show V E 4 (QE E (s', .inl (some (vI w')))) s 0 [(0, vR 3 a0), (1, vI a1), (2, vR 2 a2)] []
  unfold f_X3_read at hf
  refine V_aload_n g 2 dX3_read_0 rfl ?_
  obtain ⟨z1, hf⟩ := nz_some hf
  obtain ⟨s2, hc, hf⟩ := bV_some hf
  refine cV0 g [] [] s2 cf_X2_clear (t_X2_clear g.2.2.2.2.2.2.1 hc) (RC_own g rfl z1) z1 (by decide) q_686 (Nat.le_of_ble_eq_true rfl) dX3_read_1 ?_ rfl
  refine V_aload_n g 0 dX3_read_4 rfl ?_
  obtain ⟨z3, hf⟩ := nz_some hf
  refine V_getR g 3 a0 0 7 rfl (by decide) rfl rfl q_173 z3 dX3_read_5 ?_
  refine V_iload_n g 1 dX3_read_8 rfl ?_
  obtain ⟨z4, hf⟩ := nz_some hf
  obtain ⟨s5, hc, hf⟩ := bV_some hf
  refine cV0 g [vI a1] [] s5 cf_X7_open (t_X7_open g.2.2.2.2.2.2.1 hc) (RC_own g rfl z4) z4 (by decide) q_694 (Nat.le_of_ble_eq_true rfl) dX3_read_9 ?_ rfl
  refine V_iconst (v := 0) g dX3_read_12 (by decide) ?_
  refine V_istore_n g [(3, vI 0), (0, vR 3 a0), (1, vI a1), (2, vR 2 a2)] dX3_read_13 rfl (by decide) rfl ?_
  refine V_sub [(0, vR 3 a0), (2, vR 2 a2), (3, vI 0)] [1, 3, 0] rfl ?_
  exact t_X3_read_b14 g f _ s5 a0 a2 0 hf
set_option maxRecDepth 20000 in
theorem t_X4_clear {G : GT} {l : Launch} (hl : l.stackTraces = false) {fu : Nat} {s s' : St} {a0 : Nat} (hf : f_X4_clear fu s a0 = some s') : MetG G l yX4_clear (.code yX4_clear cX4_clear 1 none) 0 s [vR 4 a0] (s', .inl none) := by
  refine MetG_of hl (by decide +kernel) (Nat.le_of_ble_eq_true rfl) (fun E g f eG eL => ?_)
  subst eG; subst eL
  have g : GX E "ThinSeries$Roster" cX4_clear 1 0 := g
  have f : FX E "clear" none [] := f
  show V E 1 (QE E (s', .inl none)) s 0 [(0, vR 4 a0)] []
  unfold f_X4_clear at hf
  refine V_aload_n g 0 dX4_clear_0 rfl ?_
  refine V_iconst (v := 0) g dX4_clear_1 (by decide) ?_
  obtain ⟨z1, hf⟩ := nz_some hf
  obtain ⟨s2, es2, hf⟩ := lt_some hf
  refine V_putI g 4 a0 2 es2 rfl (by decide) rfl q_218 z1 (Or.inl rfl) pf_4_2 dX4_clear_2 ?_
  cases hf
  exact V_return g f dX4_clear_5
set_option maxRecDepth 20000 in
theorem t_X8_tell_b12 {E : ET} {fu : Nat} {s' : St} {w' : Nat ⊕ Int32} (g : GX E "ThinSeries" cX8_tell 4 49) (f : FX E "tell" (some .int) []) {s : St} (hf : f_X8_tell_b12 fu s = some (s', w')) : V E 4 (QE E (s', rI w')) s 12 [] [] := by
  unfold f_X8_tell_b12 at hf
  obtain ⟨h17, hf⟩ := ckf hf
  cases hf
  exact thI (j := 1) g f (rm_of h17) q_616 q_106 (by decide) rfl (by decide) (Nat.le_of_ble_eq_true rfl) ⟨⟨dX8_tell_12, dX8_tell_15⟩, Or.inl ⟨dX8_tell_16, dX8_tell_18, dX8_tell_21⟩⟩
set_option maxRecDepth 20000 in
theorem t_X8_tell {G : GT} {l : Launch} (hl : l.stackTraces = false) {fu : Nat} {s s' : St} {a0 : Nat} {a1 : Int32} {w' : Nat ⊕ Int32} (hf : f_X8_tell fu s a0 a1 = some (s', w')) : MetG G l yX8_tell (.code yX8_tell cX8_tell 4 (some .int)) 49 s [vR 8 a0, vI a1] (s', rI w') := by
  refine MetG_of hl (by decide +kernel) (Nat.le_of_ble_eq_true rfl) (fun E g f eG eL => ?_)
  subst eG; subst eL
  have g : GX E "ThinSeries" cX8_tell 4 49 := g
  have f : FX E "tell" (some .int) [] := f
  show V E 4 (QE E (s', rI w')) s 0 [(0, vR 8 a0), (1, vI a1)] []
  unfold f_X8_tell at hf
  refine V_iload_n g 1 dX8_tell_0 rfl ?_
  refine V_if_lt g 12 dX8_tell_1 (by decide) (fun c1 => ?_) (fun c1 => ?_)
  · have hf := it_t hf c1
    refine V_sub [] [] rfl ?_
    exact t_X8_tell_b12 g f hf
  · have hf := it_f hf c1
    refine V_iload_n g 1 dX8_tell_4 rfl ?_
    refine V_aload_n g 0 dX8_tell_5 rfl ?_
    obtain ⟨z2, hf⟩ := nz_some hf
    refine V_getI g 8 a0 14 rfl (by decide) rfl q_326 z2 dX8_tell_6 ?_
    refine V_icmp_le g 22 dX8_tell_9 (by decide) (fun c3 => ?_) (fun c3 => ?_)
    · have hf := it_t hf c3
      refine V_aload_n g 0 dX8_tell_22 rfl ?_
      refine V_iconst (v := 0) g dX8_tell_23 (by decide) ?_
      obtain ⟨s4, es4, hf⟩ := lt_some hf
      refine V_putI g 8 a0 14 es4 rfl (by decide) rfl q_326 z2 (Or.inl rfl) pf_8_14 dX8_tell_24 ?_
      refine V_aload_n g 0 dX8_tell_27 rfl ?_
      refine V_getR g 8 a0 2 3 rfl (by decide) rfl rfl q_314 z2 dX8_tell_28 ?_
      refine V_iload_n g 1 dX8_tell_31 rfl ?_
      refine V_aload_n g 0 dX8_tell_32 rfl ?_
      refine V_getR g 8 a0 13 2 rfl (by decide) rfl rfl q_325 z2 dX8_tell_33 ?_
      obtain ⟨z5, hf⟩ := nz_some hf
      obtain ⟨s6, x7, hc, hf⟩ := bI_some hf
      refine cV1 g [vI a1, vR 2 (gR s4 8 a0 13)] [] s6 (vI x7) cf_X3_read (t_X3_read g.2.2.2.2.2.2.1 hc) (RC_own g rfl z5) z5 (by decide) q_682 (Nat.le_of_ble_eq_true rfl) dX8_tell_36 ?_ rfl
      refine V_istore_n g [(2, vI x7), (0, vR 8 a0), (1, vI a1)] dX8_tell_39 rfl (by decide) rfl ?_
      refine V_aload_n g 1 dX8_tell_40 rfl ?_
      refine V_aload_n g 1 dX8_tell_41 rfl ?_
      refine V_getR g 8 a0 1 7 rfl (by decide) rfl rfl q_313 z2 dX8_tell_42 ?_
      obtain ⟨z8, hf⟩ := nz_some hf
      refine V_getI g 7 (gR s6 8 a0 1) 8 rfl (by decide) rfl q_146 z8 dX8_tell_45 ?_
      obtain ⟨s9, es9, hf⟩ := lt_some hf
      refine V_putI g 8 a0 15 es9 rfl (by decide) rfl q_327 z2 (Or.inl rfl) pf_8_15 dX8_tell_48 ?_
      refine V_iload_n g 0 dX8_tell_51 rfl ?_
      refine V_if_ne g 63 dX8_tell_52 (by decide) (fun c10 => ?_) (fun c10 => ?_)
      · have hf := it_f hf c10
        refine V_aload_n g 1 dX8_tell_63 rfl ?_
        refine V_getR g 8 a0 12 2 rfl (by decide) rfl rfl q_324 z2 dX8_tell_64 ?_
        obtain ⟨x11, ex11, hf⟩ := lt_some hf
        refine V_astore_n g [(3, vR 2 x11), (2, vI x7), (0, vR 8 a0), (1, vI a1)] dX8_tell_67 ex11 (by decide) rfl ?_
        refine V_aload_n g 2 dX8_tell_68 rfl ?_
        refine V_aload_n g 2 dX8_tell_69 rfl ?_
        refine V_getR g 8 a0 13 2 rfl (by decide) rfl rfl q_325 z2 dX8_tell_70 ?_
        obtain ⟨s12, es12, hf⟩ := lt_some hf
        refine V_putR g 8 a0 12 2 es12 rfl (by decide) rfl rfl q_324 z2 (Or.inl rfl) pf_8_12 q_obj dX8_tell_73 ?_
        refine V_aload_n g 2 dX8_tell_76 rfl ?_
        refine V_aload_n g 0 dX8_tell_77 rfl ?_
        obtain ⟨s13, es13, hf⟩ := lt_some hf
        refine V_putR g 8 a0 13 2 es13 rfl (by decide) rfl rfl q_325 z2 (Or.inl rfl) pf_8_13 q_obj dX8_tell_78 ?_
        refine V_aload_n g 2 dX8_tell_81 rfl ?_
        refine V_getR g 8 a0 4 4 rfl (by decide) rfl rfl q_316 z2 dX8_tell_82 ?_
        obtain ⟨z14, hf⟩ := nz_some hf
        obtain ⟨s15, hc, hf⟩ := bV_some hf
        refine cV0 g [] [] s15 cf_X4_clear (t_X4_clear g.2.2.2.2.2.2.1 hc) (RC_own g rfl z14) z14 (by decide) q_913 (Nat.le_of_ble_eq_true rfl) dX8_tell_85 ?_ rfl
        refine V_iconst (v := 0) g dX8_tell_88 (by decide) ?_
        cases hf
        exact V_ireturn g f dX8_tell_89
      · have hf := it_t hf c10
        refine V_aload_n g 1 dX8_tell_55 rfl ?_
        refine V_getR g 8 a0 1 7 rfl (by decide) rfl rfl q_313 z2 dX8_tell_56 ?_
        obtain ⟨z16, hf⟩ := nz_some hf
        refine V_getI g 7 (gR s9 8 a0 1) 7 rfl (by decide) rfl q_144 z16 dX8_tell_59 ?_
        cases hf
        exact V_ireturn g f dX8_tell_62
    · have hf := it_f hf c3
      refine V_sub [] [] rfl ?_
      exact t_X8_tell_b12 g f hf
set_option maxRecDepth 20000 in
theorem t_X8_tier_b35 {E : ET} {fu : Nat} {s' : St} {w' : Nat ⊕ Int32} (g : GX E "ThinSeries" cX8_tier 3 7) (f : FX E "tier" (some .int) []) {s : St} {t0 : Int32} (hf : f_X8_tier_b35 fu s t0 = some (s', w')) : V E 3 (QE E (s', rI w')) s 35 [] [vI t0] := by
  unfold f_X8_tier_b35 at hf
  cases hf
  exact V_ireturn g f dX8_tier_35
set_option maxRecDepth 20000 in
theorem t_X8_tier {G : GT} {l : Launch} (hl : l.stackTraces = false) {fu : Nat} {s s' : St} {a0 : Nat} {a1 : Int32} {a2 : Int32} {w' : Nat ⊕ Int32} (hf : f_X8_tier fu s a0 a1 a2 = some (s', w')) : MetG G l yX8_tier (.code yX8_tier cX8_tier 3 (some .int)) 7 s [vR 8 a0, vI a1, vI a2] (s', rI w') := by
  refine MetG_of hl (by decide +kernel) (Nat.le_of_ble_eq_true rfl) (fun E g f eG eL => ?_)
  subst eG; subst eL
  have g : GX E "ThinSeries" cX8_tier 3 7 := g
  have f : FX E "tier" (some .int) [] := f
  show V E 3 (QE E (s', rI w')) s 0 [(0, vR 8 a0), (1, vI a1), (2, vI a2)] []
  unfold f_X8_tier at hf
  refine V_aload_n g 0 dX8_tier_0 rfl ?_
  refine V_iload_n g 1 dX8_tier_1 rfl ?_
  obtain ⟨z1, hf⟩ := nz_some hf
  rcases bX_some hf with ⟨s2, e3, hc, hf⟩ | ⟨s2, x4, hc, hf⟩
  · cases hf
    refine cVX g [vI a1] [] _ (exN e3) cf_X8_needTier (t_X8_needTier g.2.2.2.2.2.2.1 hc) (RC_own g rfl z1) z1 (by decide) q_1004 (Nat.le_of_ble_eq_true rfl) dX8_tier_2 ?_ rfl
    exact VX_out g f
  · refine cV0 g [vI a1] [] s2 cf_X8_needTier (t_X8_needTier g.2.2.2.2.2.2.1 hc) (RC_own g rfl z1) z1 (by decide) q_1004 (Nat.le_of_ble_eq_true rfl) dX8_tier_2 ?_ rfl
    refine V_iload_n g 2 dX8_tier_5 rfl ?_
    refine V_iconst (v := 1) g dX8_tier_6 (by decide) ?_
    rcases bX_some hf with ⟨s5, e6, hc, hf⟩ | ⟨s5, x7, hc, hf⟩
    · cases hf
      refine cSX g [vI a2, vI 1] [] _ (exN e6) cf_X8_needWhat (t_X8_needWhat g.2.2.2.2.2.2.1 hc) (by decide) q_967 (Nat.le_of_ble_eq_true rfl) dX8_tier_7 ?_ rfl
      exact VX_out g f
    · refine cS0 g [vI a2, vI 1] [] s5 cf_X8_needWhat (t_X8_needWhat g.2.2.2.2.2.2.1 hc) (by decide) q_967 (Nat.le_of_ble_eq_true rfl) dX8_tier_7 ?_ rfl
      refine V_iload_n g 2 dX8_tier_10 rfl ?_
      refine V_if_ne g 26 dX8_tier_11 (by decide) (fun c8 => ?_) (fun c8 => ?_)
      · have hf := it_f hf c8
        refine V_aload_n g 0 dX8_tier_26 rfl ?_
        refine V_getR g 8 a0 12 2 rfl (by decide) rfl rfl q_324 z1 dX8_tier_27 ?_
        obtain ⟨z9, hf⟩ := nz_some hf
        refine V_getR g 2 (gR s5 8 a0 12) 1 10 rfl (by decide) rfl rfl q_290 z9 dX8_tier_30 ?_
        refine V_iload_n g 1 dX8_tier_33 rfl ?_
        obtain ⟨z10, hf⟩ := nz_some hf
        obtain ⟨h11, hf⟩ := ckf hf
        refine V_iald g z10 h11 dX8_tier_34 ?_
        refine V_sub [] [] rfl ?_
        exact t_X8_tier_b35 g f hf
      · have hf := it_t hf c8
        refine V_aload_n g 0 dX8_tier_14 rfl ?_
        refine V_getR g 8 a0 12 2 rfl (by decide) rfl rfl q_324 z1 dX8_tier_15 ?_
        obtain ⟨z12, hf⟩ := nz_some hf
        refine V_getR g 2 (gR s5 8 a0 12) 0 10 rfl (by decide) rfl rfl q_288 z12 dX8_tier_18 ?_
        refine V_iload_n g 1 dX8_tier_21 rfl ?_
        obtain ⟨z13, hf⟩ := nz_some hf
        obtain ⟨h14, hf⟩ := ckf hf
        refine V_iald g z13 h14 dX8_tier_22 ?_
        refine V_goto g 35 dX8_tier_23 (by decide) ?_
        refine V_sub [] [] rfl ?_
        exact t_X8_tier_b35 g f hf
set_option maxRecDepth 20000 in
theorem t_X8_tallyStretch_b96 {E : ET} {fu : Nat} {s' : St} (g : GX E "ThinSeries" cX8_tallyStretch 7 3) (f : FX E "tallyStretch" none []) {k17 : St → Nat → Nat → Int32 → Int32 → Int32 → Option (St)} (hk17 : ∀ (s : St) (l0 : Nat) (l1 : Nat) (l2 : Int32) (l3 : Int32) (l4 : Int32), k17 s l0 l1 l2 l3 l4 = some s' → V E 7 (QE E (s', .inl none)) s 17 [(0, vR 8 l0), (1, vR 5 l1), (2, vI l2), (3, vI l3), (4, vI l4)] []) {s : St} {l0 : Nat} {l1 : Nat} {l2 : Int32} {l3 : Int32} {l4 : Int32} (hf : f_X8_tallyStretch_b96 fu k17 s l0 l1 l2 l3 l4 = some s') : V E 7 (QE E (s', .inl none)) s 96 [(0, vR 8 l0), (1, vR 5 l1), (2, vI l2), (3, vI l3), (4, vI l4)] [] := by
  unfold f_X8_tallyStretch_b96 at hf
  obtain ⟨x27, ex27, hf⟩ := lt_some hf
  refine V_iinc g 4 [(4, vI x27), (0, vR 8 l0), (1, vR 5 l1), (2, vI l2), (3, vI l3)] dX8_tallyStretch_96 rfl (by rw [ex27]; rfl) (by decide) rfl ?_
  refine V_goto g 17 dX8_tallyStretch_99 (by decide) ?_
  refine V_sub [(0, vR 8 l0), (1, vR 5 l1), (2, vI l2), (3, vI l3), (4, vI x27)] [1, 2, 3, 4, 0] rfl ?_
  exact hk17 s l0 l1 l2 l3 x27 hf
set_option maxRecDepth 20000 in
theorem t_X8_tallyStretch_b71 {E : ET} {fu : Nat} {s' : St} (g : GX E "ThinSeries" cX8_tallyStretch 7 3) (f : FX E "tallyStretch" none []) {k17 : St → Nat → Nat → Int32 → Int32 → Int32 → Option (St)} (hk17 : ∀ (s : St) (l0 : Nat) (l1 : Nat) (l2 : Int32) (l3 : Int32) (l4 : Int32), k17 s l0 l1 l2 l3 l4 = some s' → V E 7 (QE E (s', .inl none)) s 17 [(0, vR 8 l0), (1, vR 5 l1), (2, vI l2), (3, vI l3), (4, vI l4)] []) {s : St} {l0 : Nat} {l1 : Nat} {l2 : Int32} {l3 : Int32} {l4 : Int32} {l5 : Int32} {l6 : Int32} (hf : f_X8_tallyStretch_b71 fu k17 s l0 l1 l2 l3 l4 l5 l6 = some s') : V E 7 (QE E (s', .inl none)) s 71 [(0, vR 8 l0), (1, vR 5 l1), (2, vI l2), (3, vI l3), (4, vI l4), (5, vI l5), (6, vI l6)] [] := by
  unfold f_X8_tallyStretch_b71 at hf
  refine V_iload g 5 dX8_tallyStretch_71 rfl ?_
  refine V_iload_n g 2 dX8_tallyStretch_73 rfl ?_
  obtain ⟨s19, x20, hc, hf⟩ := bI_some hf
  refine cS1 g [vI l5, vI l2] [] s19 (vI x20) cf_J9_max_7cf53 (t_J9_max_7cf53 g.2.2.2.2.2.2.1 hc) (by decide) q_425 (Nat.le_of_ble_eq_true rfl) dX8_tallyStretch_74 ?_ rfl
  refine V_iload g 6 dX8_tallyStretch_77 rfl ?_
  refine V_iload_n g 3 dX8_tallyStretch_79 rfl ?_
  obtain ⟨s21, x22, hc, hf⟩ := bI_some hf
  refine cS1 g [vI l6, vI l3] [vI x20] s21 (vI x22) cf_J9_min_7cf53 (t_J9_min_7cf53 g.2.2.2.2.2.2.1 hc) (by decide) q_1101 (Nat.le_of_ble_eq_true rfl) dX8_tallyStretch_80 ?_ rfl
  refine V_icmp_ge g 96 dX8_tallyStretch_83 (by decide) (fun c23 => ?_) (fun c23 => ?_)
  · have hf := it_t hf c23
    refine V_sub [(0, vR 8 l0), (1, vR 5 l1), (2, vI l2), (3, vI l3), (4, vI l4)] [0, 1, 2, 3, 4] rfl ?_
    exact t_X8_tallyStretch_b96 g f hk17 hf
  · have hf := it_f hf c23
    refine V_aload_n g 0 dX8_tallyStretch_86 rfl ?_
    obtain ⟨z24, hf⟩ := nz_some hf
    refine V_getR g 8 l0 8 6 rfl (by decide) rfl rfl q_320 z24 dX8_tallyStretch_87 ?_
    refine V_aload_n g 1 dX8_tallyStretch_90 rfl ?_
    refine V_iload g 4 dX8_tallyStretch_91 rfl ?_
    obtain ⟨z25, hf⟩ := nz_some hf
    obtain ⟨s26, hc, hf⟩ := bV_some hf
    refine cV0 g [vR 5 l1, vI l4] [] s26 cf_X6_add (t_X6_add g.2.2.2.2.2.2.1 hc) (RC_own g rfl z25) z25 (by decide) q_590 (Nat.le_of_ble_eq_true rfl) dX8_tallyStretch_93 ?_ rfl
    refine V_sub [(0, vR 8 l0), (1, vR 5 l1), (2, vI l2), (3, vI l3), (4, vI l4)] [0, 1, 2, 3, 4] rfl ?_
    exact t_X8_tallyStretch_b96 g f hk17 hf
set_option maxRecDepth 20000 in
theorem t_X8_tallyStretch_b17 {E : ET} {fu : Nat} {s' : St} (g : GX E "ThinSeries" cX8_tallyStretch 7 3) (f : FX E "tallyStretch" none []) : ∀ (n : Nat) (s : St) (l0 : Nat) (l1 : Nat) (l2 : Int32) (l3 : Int32) (l4 : Int32), f_X8_tallyStretch_b17 fu n s l0 l1 l2 l3 l4 = some s' → V E 7 (QE E (s', .inl none)) s 17 [(0, vR 8 l0), (1, vR 5 l1), (2, vI l2), (3, vI l3), (4, vI l4)] [] := by
  intro n
  induction n with
  | zero =>
    intro s l0 l1 l2 l3 l4 hf
    unfold f_X8_tallyStretch_b17 at hf
    exact nomatch hf
  | succ n ih =>
    intro s l0 l1 l2 l3 l4 hf
    unfold f_X8_tallyStretch_b17 at hf
    refine V_iload g 4 dX8_tallyStretch_17 rfl ?_
    refine V_aload_n g 1 dX8_tallyStretch_19 rfl ?_
    obtain ⟨z6, hf⟩ := nz_some hf
    refine V_getI g 5 l1 8 rfl (by decide) rfl q_457 z6 dX8_tallyStretch_20 ?_
    refine V_icmp_ge g 102 dX8_tallyStretch_23 (by decide) (fun c7 => ?_) (fun c7 => ?_)
    · have hf := it_t hf c7
      cases hf
      exact V_return g f dX8_tallyStretch_102
    · have hf := it_f hf c7
      refine V_aload_n g 1 dX8_tallyStretch_26 rfl ?_
      refine V_getR g 5 l1 3 10 rfl (by decide) rfl rfl q_447 z6 dX8_tallyStretch_27 ?_
      refine V_iload g 4 dX8_tallyStretch_30 rfl ?_
      obtain ⟨z8, hf⟩ := nz_some hf
      obtain ⟨h9, hf⟩ := ckf hf
      refine V_iald g z8 h9 dX8_tallyStretch_32 ?_
      obtain ⟨x10, ex10, hf⟩ := lt_some hf
      refine V_istore g [(5, vI x10), (0, vR 8 l0), (1, vR 5 l1), (2, vI l2), (3, vI l3), (4, vI l4)] dX8_tallyStretch_33 ex10 (by decide) rfl ?_
      refine V_iload g 0 dX8_tallyStretch_35 rfl ?_
      refine V_aload_n g 2 dX8_tallyStretch_37 rfl ?_
      refine V_iload g 5 dX8_tallyStretch_38 rfl ?_
      obtain ⟨s11, x12, hc, hf⟩ := bI_some hf
      refine cV1 g [vI l4] [vI x10] s11 (vI x12) cf_X5_spanAt (t_X5_spanAt g.2.2.2.2.2.2.1 hc) (RC_own g rfl z6) z6 (by decide) q_1097 (Nat.le_of_ble_eq_true rfl) dX8_tallyStretch_40 ?_ rfl
      refine V_iadd g dX8_tallyStretch_43 ?_
      obtain ⟨x13, ex13, hf⟩ := lt_some hf
      refine V_istore g [(6, vI x13), (5, vI x10), (0, vR 8 l0), (1, vR 5 l1), (2, vI l2), (3, vI l3), (4, vI l4)] dX8_tallyStretch_44 ex13 (by decide) rfl ?_
      refine V_iload g 1 dX8_tallyStretch_46 rfl ?_
      refine V_iload_n g 4 dX8_tallyStretch_48 rfl ?_
      refine V_icmp_lt g 71 dX8_tallyStretch_49 (by decide) (fun c14 => ?_) (fun c14 => ?_)
      · have hf := it_t hf c14
        refine V_sub [(0, vR 8 l0), (1, vR 5 l1), (2, vI l2), (3, vI l3), (4, vI l4), (5, vI x10), (6, vI x13)] [2, 3, 4, 5, 6, 1, 0] rfl ?_
        exact t_X8_tallyStretch_b71 g f ih hf
      · have hf := it_f hf c14
        refine V_iload g 0 dX8_tallyStretch_52 rfl ?_
        refine V_iload_n g 5 dX8_tallyStretch_54 rfl ?_
        refine V_icmp_gt g 71 dX8_tallyStretch_55 (by decide) (fun c15 => ?_) (fun c15 => ?_)
        · have hf := it_t hf c15
          refine V_sub [(0, vR 8 l0), (1, vR 5 l1), (2, vI l2), (3, vI l3), (4, vI l4), (5, vI x10), (6, vI x13)] [2, 3, 4, 5, 6, 1, 0] rfl ?_
          exact t_X8_tallyStretch_b71 g f ih hf
        · have hf := it_f hf c15
          refine V_aload_n g 2 dX8_tallyStretch_58 rfl ?_
          obtain ⟨z16, hf⟩ := nz_some hf
          refine V_getR g 8 l0 7 6 rfl (by decide) rfl rfl q_319 z16 dX8_tallyStretch_59 ?_
          refine V_aload_n g 3 dX8_tallyStretch_62 rfl ?_
          refine V_iload g 6 dX8_tallyStretch_63 rfl ?_
          obtain ⟨z17, hf⟩ := nz_some hf
          obtain ⟨s18, hc, hf⟩ := bV_some hf
          refine cV0 g [vR 5 l1, vI l4] [] s18 cf_X6_add (t_X6_add g.2.2.2.2.2.2.1 hc) (RC_own g rfl z17) z17 (by decide) q_590 (Nat.le_of_ble_eq_true rfl) dX8_tallyStretch_65 ?_ rfl
          refine V_goto g 96 dX8_tallyStretch_68 (by decide) ?_
          refine V_sub [(0, vR 8 l0), (1, vR 5 l1), (2, vI l2), (3, vI l3), (4, vI l4)] [2, 3, 4, 5, 6] rfl ?_
          exact t_X8_tallyStretch_b96 g f ih hf
set_option maxRecDepth 20000 in
theorem t_X8_tallyStretch {G : GT} {l : Launch} (hl : l.stackTraces = false) {fu : Nat} {s s' : St} {a0 : Nat} {a1 : Nat} {a2 : Int32} {a3 : Int32} (hf : f_X8_tallyStretch fu s a0 a1 a2 a3 = some s') : MetG G l yX8_tallyStretch (.code yX8_tallyStretch cX8_tallyStretch 7 none) 3 s [vR 8 a0, vR 5 a1, vI a2, vI a3] (s', .inl none) := by
  refine MetG_of hl (by decide +kernel) (Nat.le_of_ble_eq_true rfl) (fun E g f eG eL => ?_)
  subst eG; subst eL
  have g : GX E "ThinSeries" cX8_tallyStretch 7 3 := g
  have f : FX E "tallyStretch" none [] := f
  show V E 7 (QE E (s', .inl none)) s 0 [(0, vR 8 a0), (1, vR 5 a1), (2, vI a2), (3, vI a3)] []
  unfold f_X8_tallyStretch at hf
  refine V_aload_n g 0 dX8_tallyStretch_0 rfl ?_
  obtain ⟨z1, hf⟩ := nz_some hf
  refine V_getR g 8 a0 7 6 rfl (by decide) rfl rfl q_319 z1 dX8_tallyStretch_1 ?_
  obtain ⟨z2, hf⟩ := nz_some hf
  obtain ⟨s3, hc, hf⟩ := bV_some hf
  refine cV0 g [] [] s3 cf_X6_clear (t_X6_clear g.2.2.2.2.2.2.1 hc) (RC_own g rfl z2) z2 (by decide) q_586 (Nat.le_of_ble_eq_true rfl) dX8_tallyStretch_4 ?_ rfl
  refine V_aload_n g 0 dX8_tallyStretch_7 rfl ?_
  refine V_getR g 8 a0 8 6 rfl (by decide) rfl rfl q_320 z1 dX8_tallyStretch_8 ?_
  obtain ⟨z4, hf⟩ := nz_some hf
  obtain ⟨s5, hc, hf⟩ := bV_some hf
  refine cV0 g [] [] s5 cf_X6_clear (t_X6_clear g.2.2.2.2.2.2.1 hc) (RC_own g rfl z4) z4 (by decide) q_586 (Nat.le_of_ble_eq_true rfl) dX8_tallyStretch_11 ?_ rfl
  refine V_iconst (v := 0) g dX8_tallyStretch_14 (by decide) ?_
  refine V_istore g [(4, vI 0), (0, vR 8 a0), (1, vR 5 a1), (2, vI a2), (3, vI a3)] dX8_tallyStretch_15 rfl (by decide) rfl ?_
  refine V_sub [(0, vR 8 a0), (1, vR 5 a1), (2, vI a2), (3, vI a3), (4, vI 0)] [1, 2, 3, 4, 0] rfl ?_
  exact t_X8_tallyStretch_b17 g f _ s5 a0 a1 a2 a3 0 hf
set_option maxRecDepth 20000 in
theorem t_X8_total_b35 {E : ET} {fu : Nat} {s' : St} {w' : Nat ⊕ Int64} (g : GX E "ThinSeries" cX8_total 6 7) (f : FX E "total" (some .long) []) {s : St} (hf : f_X8_total_b35 fu s = some (s', w')) : V E 6 (QE E (s', rJ w')) s 35 [] [] := by
  unfold f_X8_total_b35 at hf
  obtain ⟨h25, hf⟩ := ckf hf
  cases hf
  exact thI (j := 22) g f (rm_of h25) q_616 q_106 (by decide) rfl (by decide) (Nat.le_of_ble_eq_true rfl) ⟨⟨dX8_total_35, dX8_total_38⟩, Or.inr ⟨dX8_total_39, dX8_total_42, dX8_total_45⟩⟩
set_option maxRecDepth 20000 in
theorem t_X8_total {G : GT} {l : Launch} (hl : l.stackTraces = false) {fu : Nat} {s s' : St} {a0 : Nat} {a1 : Int32} {a2 : Int32} {a3 : Int32} {a4 : Int32} {w' : Nat ⊕ Int64} (hf : f_X8_total fu s a0 a1 a2 a3 a4 = some (s', w')) : MetG G l yX8_total (.code yX8_total cX8_total 6 (some .long)) 7 s [vR 8 a0, vI a1, vI a2, vI a3, vI a4] (s', rJ w') := by
  refine MetG_of hl (by decide +kernel) (Nat.le_of_ble_eq_true rfl) (fun E g f eG eL => ?_)
  subst eG; subst eL
  have g : GX E "ThinSeries" cX8_total 6 7 := g
  have f : FX E "total" (some .long) [] := f
  show V E 6 (QE E (s', rJ w')) s 0 [(0, vR 8 a0), (1, vI a1), (2, vI a2), (3, vI a3), (4, vI a4)] []
  unfold f_X8_total at hf
  refine V_aload_n g 0 dX8_total_0 rfl ?_
  refine V_iload_n g 1 dX8_total_1 rfl ?_
  obtain ⟨z1, hf⟩ := nz_some hf
  rcases bX_some hf with ⟨s2, e3, hc, hf⟩ | ⟨s2, x4, hc, hf⟩
  · cases hf
    refine cVX g [vI a1] [] _ (exN e3) cf_X8_known (t_X8_known g.2.2.2.2.2.2.1 hc) (RC_own g rfl z1) z1 (by decide) q_1024 (Nat.le_of_ble_eq_true rfl) dX8_total_2 ?_ rfl
    exact VX_out g f
  · refine cV1 g [vI a1] [] s2 (vR 5 x4) cf_X8_known (t_X8_known g.2.2.2.2.2.2.1 hc) (RC_own g rfl z1) z1 (by decide) q_1024 (Nat.le_of_ble_eq_true rfl) dX8_total_2 ?_ rfl
    refine V_astore g [(5, vR 5 x4), (0, vR 8 a0), (1, vI a1), (2, vI a2), (3, vI a3), (4, vI a4)] dX8_total_5 rfl (by decide) rfl ?_
    refine V_iload g 5 dX8_total_7 rfl ?_
    refine V_bipush (v := 6) g dX8_total_9 (by decide) ?_
    rcases bX_some hf with ⟨s5, e6, hc, hf⟩ | ⟨s5, x7, hc, hf⟩
    · cases hf
      refine cSX g [vI a4, vI 6] [] _ (exN e6) cf_X8_needWhat (t_X8_needWhat g.2.2.2.2.2.2.1 hc) (by decide) q_967 (Nat.le_of_ble_eq_true rfl) dX8_total_11 ?_ rfl
      exact VX_out g f
    · refine cS0 g [vI a4, vI 6] [] s5 cf_X8_needWhat (t_X8_needWhat g.2.2.2.2.2.2.1 hc) (by decide) q_967 (Nat.le_of_ble_eq_true rfl) dX8_total_11 ?_ rfl
      refine V_iload_n g 3 dX8_total_14 rfl ?_
      refine V_i2l g dX8_total_15 ?_
      obtain ⟨s8, x9, hc, hf⟩ := bI_some hf
      refine cS1 g [vJ (Int32.toInt64 a2)] [] s8 (vI x9) cf_X8_isTime (t_X8_isTime g.2.2.2.2.2.2.1 hc) (by decide) q_389 (Nat.le_of_ble_eq_true rfl) dX8_total_16 ?_ rfl
      refine V_if_eq g 35 dX8_total_19 (by decide) (fun c10 => ?_) (fun c10 => ?_)
      · have hf := it_t hf c10
        refine V_sub [] [] rfl ?_
        exact t_X8_total_b35 g f hf
      · have hf := it_f hf c10
        refine V_iload_n g 4 dX8_total_22 rfl ?_
        refine V_i2l g dX8_total_23 ?_
        obtain ⟨s11, x12, hc, hf⟩ := bI_some hf
        refine cS1 g [vJ (Int32.toInt64 a3)] [] s11 (vI x12) cf_X8_isTime (t_X8_isTime g.2.2.2.2.2.2.1 hc) (by decide) q_389 (Nat.le_of_ble_eq_true rfl) dX8_total_24 ?_ rfl
        refine V_if_eq g 35 dX8_total_27 (by decide) (fun c13 => ?_) (fun c13 => ?_)
        · have hf := it_t hf c13
          refine V_sub [] [] rfl ?_
          exact t_X8_total_b35 g f hf
        · have hf := it_f hf c13
          refine V_iload_n g 4 dX8_total_30 rfl ?_
          refine V_iload_n g 3 dX8_total_31 rfl ?_
          refine V_icmp_ge g 46 dX8_total_32 (by decide) (fun c14 => ?_) (fun c14 => ?_)
          · have hf := it_t hf c14
            refine V_aload_n g 1 dX8_total_46 rfl ?_
            refine V_aload g 0 dX8_total_47 rfl ?_
            refine V_iload_n g 3 dX8_total_49 rfl ?_
            refine V_iload_n g 4 dX8_total_50 rfl ?_
            obtain ⟨s15, hc, hf⟩ := bV_some hf
            refine cV0 g [vR 5 x4, vI a2, vI a3] [] s15 cf_X8_tallyStretch (t_X8_tallyStretch g.2.2.2.2.2.2.1 hc) (RC_own g rfl z1) z1 (by decide) q_1093 (Nat.le_of_ble_eq_true rfl) dX8_total_51 ?_ rfl
            refine V_iload g 5 dX8_total_54 rfl ?_
            by_cases c16 : a4 = 4
            · subst c16
              have hf := it_t hf rfl
              refine V_tableIn g 84 dX8_total_56 (by decide) (by decide) rfl (by decide) ?_
              refine V_aload_n g 1 dX8_total_84 rfl ?_
              refine V_getR g 8 a0 8 6 rfl (by decide) rfl rfl q_320 z1 dX8_total_85 ?_
              obtain ⟨z17, hf⟩ := nz_some hf
              refine V_getI g 6 (gR s15 8 a0 8) 1 rfl (by decide) rfl q_238 z17 dX8_total_88 ?_
              refine V_i2l g dX8_total_91 ?_
              cases hf
              exact V_lreturn g f dX8_total_92
            · have hf := it_f hf c16
              by_cases c18 : a4 = 5
              · subst c18
                have hf := it_t hf rfl
                refine V_tableIn g 93 dX8_total_56 (by decide) (by decide) rfl (by decide) ?_
                refine V_aload_n g 1 dX8_total_93 rfl ?_
                refine V_getR g 8 a0 7 6 rfl (by decide) rfl rfl q_319 z1 dX8_total_94 ?_
                obtain ⟨z19, hf⟩ := nz_some hf
                refine V_getI g 6 (gR s15 8 a0 7) 0 rfl (by decide) rfl q_236 z19 dX8_total_97 ?_
                refine V_i2l g dX8_total_100 ?_
                cases hf
                exact V_lreturn g f dX8_total_101
              · have hf := it_f hf c18
                by_cases c20 : a4 = 6
                · subst c20
                  have hf := it_t hf rfl
                  refine V_tableIn g 102 dX8_total_56 (by decide) (by decide) rfl (by decide) ?_
                  refine V_aload_n g 1 dX8_total_102 rfl ?_
                  refine V_getR g 8 a0 8 6 rfl (by decide) rfl rfl q_320 z1 dX8_total_103 ?_
                  obtain ⟨z21, hf⟩ := nz_some hf
                  refine V_getI g 6 (gR s15 8 a0 8) 0 rfl (by decide) rfl q_236 z21 dX8_total_106 ?_
                  refine V_i2l g dX8_total_109 ?_
                  cases hf
                  exact V_lreturn g f dX8_total_110
                · have hf := it_f hf c20
                  refine V_tableOut g 111 dX8_total_56 (sw_out (fun v h1 h2 => ?_)) (by decide) ?_
                  · rcases (show v = 4 ∨ v = 5 ∨ v = 6 by omega) with rfl | rfl | rfl
                    · exact c16
                    · exact c18
                    · exact c20
                  · skip
                    refine V_aload_n g 1 dX8_total_111 rfl ?_
                    refine V_getR g 8 a0 7 6 rfl (by decide) rfl rfl q_319 z1 dX8_total_112 ?_
                    refine V_iload g 5 dX8_total_115 rfl ?_
                    obtain ⟨z22, hf⟩ := nz_some hf
                    obtain ⟨s23, x24, hc, hf⟩ := bI_some hf
                    refine cV1 g [vI a4] [] s23 (vJ x24) cf_X6_fact (t_X6_fact g.2.2.2.2.2.2.1 hc) (RC_own g rfl z22) z22 (by decide) q_1102 (Nat.le_of_ble_eq_true rfl) dX8_total_117 ?_ rfl
                    cases hf
                    exact V_lreturn g f dX8_total_120
          · have hf := it_f hf c14
            refine V_sub [] [] rfl ?_
            exact t_X8_total_b35 g f hf
set_option maxRecDepth 20000 in
theorem t_X5_surveyTrend_b111 {E : ET} {fu : Nat} {s' : St} (g : GX E "ThinSeries$Series" cX5_surveyTrend 6 3) (f : FX E "surveyTrend" none []) {k33 : St → Nat → Nat → Int32 → Int32 → Option (St)} (hk33 : ∀ (s : St) (l0 : Nat) (l2 : Nat) (l3 : Int32) (l4 : Int32), k33 s l0 l2 l3 l4 = some s' → V E 6 (QE E (s', .inl none)) s 33 [(0, vR 5 l0), (2, vR 10 l2), (3, vI l3), (4, vI l4)] []) {s : St} {l0 : Nat} {l2 : Nat} {l3 : Int32} {l4 : Int32} (hf : f_X5_surveyTrend_b111 fu k33 s l0 l2 l3 l4 = some s') : V E 6 (QE E (s', .inl none)) s 111 [(0, vR 5 l0), (2, vR 10 l2), (3, vI l3), (4, vI l4)] [] := by
  unfold f_X5_surveyTrend_b111 at hf
  obtain ⟨x45, ex45, hf⟩ := lt_some hf
  refine V_iinc g 3 [(4, vI x45), (0, vR 5 l0), (2, vR 10 l2), (3, vI l3)] dX5_surveyTrend_111 rfl (by rw [ex45]; rfl) (by decide) rfl ?_
  refine V_goto g 33 dX5_surveyTrend_114 (by decide) ?_
  refine V_sub [(0, vR 5 l0), (2, vR 10 l2), (3, vI l3), (4, vI x45)] [1, 2, 3, 0] rfl ?_
  exact hk33 s l0 l2 l3 x45 hf
set_option maxRecDepth 20000 in
theorem t_X5_surveyTrend_b86 {E : ET} {fu : Nat} {s' : St} (g : GX E "ThinSeries$Series" cX5_surveyTrend 6 3) (f : FX E "surveyTrend" none []) {k33 : St → Nat → Nat → Int32 → Int32 → Option (St)} (hk33 : ∀ (s : St) (l0 : Nat) (l2 : Nat) (l3 : Int32) (l4 : Int32), k33 s l0 l2 l3 l4 = some s' → V E 6 (QE E (s', .inl none)) s 33 [(0, vR 5 l0), (2, vR 10 l2), (3, vI l3), (4, vI l4)] []) {s : St} {l0 : Nat} {l2 : Nat} {l3 : Int32} {l4 : Int32} {l5 : Int32} {t0 : Int32} {t1 : Int32} {t2 : Int32} {t3 : Nat} (hf : f_X5_surveyTrend_b86 fu k33 s l0 l2 l3 l4 l5 t0 t1 t2 t3 = some s') : V E 6 (QE E (s', .inl none)) s 86 [(0, vR 5 l0), (2, vR 10 l2), (3, vI l3), (4, vI l4), (5, vI l5)] [vI t0, vI t1, vI t2, vR 10 t3] := by
  unfold f_X5_surveyTrend_b86 at hf
  refine V_iadd g dX5_surveyTrend_86 ?_
  obtain ⟨z32, hf⟩ := nz_some hf
  obtain ⟨h33, hf⟩ := ckf hf
  obtain ⟨s34, es34, hf⟩ := lt_some hf
  refine V_iast g es34 z32 h33 dX5_surveyTrend_87 ?_
  refine V_iload g 4 dX5_surveyTrend_88 rfl ?_
  refine V_aload_n g 1 dX5_surveyTrend_90 rfl ?_
  refine V_iconst (v := 2) g dX5_surveyTrend_91 (by decide) ?_
  obtain ⟨z35, hf⟩ := nz_some hf
  obtain ⟨h36, hf⟩ := ckf hf
  refine V_iald g z35 h36 dX5_surveyTrend_92 ?_
  refine V_icmp_le g 111 dX5_surveyTrend_93 (by decide) (fun c37 => ?_) (fun c37 => ?_)
  · have hf := it_t hf c37
    refine V_sub [(0, vR 5 l0), (2, vR 10 l2), (3, vI l3), (4, vI l4)] [0, 1, 2, 3] rfl ?_
    exact t_X5_surveyTrend_b111 g f hk33 hf
  · have hf := it_f hf c37
    refine V_aload_n g 1 dX5_surveyTrend_96 rfl ?_
    refine V_iconst (v := 2) g dX5_surveyTrend_97 (by decide) ?_
    refine V_iload g 4 dX5_surveyTrend_98 rfl ?_
    obtain ⟨h38, hf⟩ := ckf hf
    obtain ⟨s39, es39, hf⟩ := lt_some hf
    refine V_iast g es39 z35 h38 dX5_surveyTrend_100 ?_
    refine V_aload_n g 1 dX5_surveyTrend_101 rfl ?_
    refine V_iconst (v := 3) g dX5_surveyTrend_102 (by decide) ?_
    refine V_aload_n g 0 dX5_surveyTrend_103 rfl ?_
    obtain ⟨z40, hf⟩ := nz_some hf
    refine V_getR g 5 l0 3 10 rfl (by decide) rfl rfl q_445 z40 dX5_surveyTrend_104 ?_
    refine V_iload g 3 dX5_surveyTrend_107 rfl ?_
    obtain ⟨z41, hf⟩ := nz_some hf
    obtain ⟨h42, hf⟩ := ckf hf
    refine V_iald g z41 h42 dX5_surveyTrend_109 ?_
    obtain ⟨h43, hf⟩ := ckf hf
    obtain ⟨s44, es44, hf⟩ := lt_some hf
    refine V_iast g es44 z35 h43 dX5_surveyTrend_110 ?_
    refine V_sub [(0, vR 5 l0), (2, vR 10 l2), (3, vI l3), (4, vI l4)] [0, 1, 2, 3] rfl ?_
    exact t_X5_surveyTrend_b111 g f hk33 hf
set_option maxRecDepth 20000 in
theorem t_X5_surveyTrend_b70 {E : ET} {fu : Nat} {s' : St} (g : GX E "ThinSeries$Series" cX5_surveyTrend 6 3) (f : FX E "surveyTrend" none []) {k33 : St → Nat → Nat → Int32 → Int32 → Option (St)} (hk33 : ∀ (s : St) (l0 : Nat) (l2 : Nat) (l3 : Int32) (l4 : Int32), k33 s l0 l2 l3 l4 = some s' → V E 6 (QE E (s', .inl none)) s 33 [(0, vR 5 l0), (2, vR 10 l2), (3, vI l3), (4, vI l4)] []) {s : St} {l0 : Nat} {l2 : Nat} {l3 : Int32} {l4 : Int32} {l5 : Int32} {t0 : Int32} {t1 : Int32} {t2 : Int32} {t3 : Nat} (hf : f_X5_surveyTrend_b70 fu k33 s l0 l2 l3 l4 l5 t0 t1 t2 t3 = some s') : V E 6 (QE E (s', .inl none)) s 70 [(0, vR 5 l0), (2, vR 10 l2), (3, vI l3), (4, vI l4), (5, vI l5)] [vI t0, vI t1, vI t2, vR 10 t3] := by
  unfold f_X5_surveyTrend_b70 at hf
  refine V_iadd g dX5_surveyTrend_70 ?_
  obtain ⟨z26, hf⟩ := nz_some hf
  obtain ⟨h27, hf⟩ := ckf hf
  obtain ⟨s28, es28, hf⟩ := lt_some hf
  refine V_iast g es28 z26 h27 dX5_surveyTrend_71 ?_
  refine V_aload_n g 1 dX5_surveyTrend_72 rfl ?_
  refine V_iconst (v := 1) g dX5_surveyTrend_73 (by decide) ?_
  refine V_dup2 g dX5_surveyTrend_74 rfl rfl ?_
  obtain ⟨z29, hf⟩ := nz_some hf
  obtain ⟨h30, hf⟩ := ckf hf
  refine V_iald g z29 h30 dX5_surveyTrend_75 ?_
  refine V_iload g 4 dX5_surveyTrend_76 rfl ?_
  refine V_if_ge g 85 dX5_surveyTrend_78 (by decide) (fun c31 => ?_) (fun c31 => ?_)
  · have hf := it_t hf c31
    refine V_iconst (v := 0) g dX5_surveyTrend_85 (by decide) ?_
    exact t_X5_surveyTrend_b86 g f hk33 hf
  · have hf := it_f hf c31
    refine V_iconst (v := 1) g dX5_surveyTrend_81 (by decide) ?_
    refine V_goto g 86 dX5_surveyTrend_82 (by decide) ?_
    exact t_X5_surveyTrend_b86 g f hk33 hf
set_option maxRecDepth 20000 in
theorem t_X5_surveyTrend_b33 {E : ET} {fu : Nat} {s' : St} (g : GX E "ThinSeries$Series" cX5_surveyTrend 6 3) (f : FX E "surveyTrend" none []) : ∀ (n : Nat) (s : St) (l0 : Nat) (l2 : Nat) (l3 : Int32) (l4 : Int32), f_X5_surveyTrend_b33 fu n s l0 l2 l3 l4 = some s' → V E 6 (QE E (s', .inl none)) s 33 [(0, vR 5 l0), (2, vR 10 l2), (3, vI l3), (4, vI l4)] [] := by
  intro n
  induction n with
  | zero =>
    intro s l0 l2 l3 l4 hf
    unfold f_X5_surveyTrend_b33 at hf
    exact nomatch hf
  | succ n ih =>
    intro s l0 l2 l3 l4 hf
    unfold f_X5_surveyTrend_b33 at hf
    refine V_iload g 3 dX5_surveyTrend_33 rfl ?_
    refine V_iload_n g 2 dX5_surveyTrend_35 rfl ?_
    refine V_icmp_ge g 117 dX5_surveyTrend_36 (by decide) (fun c16 => ?_) (fun c16 => ?_)
    · have hf := it_t hf c16
      cases hf
      exact V_return g f dX5_surveyTrend_117
    · have hf := it_f hf c16
      refine V_aload_n g 0 dX5_surveyTrend_39 rfl ?_
      refine V_iload g 3 dX5_surveyTrend_40 rfl ?_
      obtain ⟨z17, hf⟩ := nz_some hf
      obtain ⟨s18, x19, hc, hf⟩ := bI_some hf
      refine cV1 g [vI l4] [] s18 (vI x19) cf_X5_mean (t_X5_mean g.2.2.2.2.2.2.1 hc) (RC_own g rfl z17) z17 (by decide) q_1062 (Nat.le_of_ble_eq_true rfl) dX5_surveyTrend_42 ?_ rfl
      refine V_aload_n g 0 dX5_surveyTrend_45 rfl ?_
      refine V_iload g 3 dX5_surveyTrend_46 rfl ?_
      refine V_iconst (v := 1) g dX5_surveyTrend_48 (by decide) ?_
      refine V_isub g dX5_surveyTrend_49 ?_
      obtain ⟨s20, x21, hc, hf⟩ := bI_some hf
      refine cV1 g [vI (l4 - 1)] [vI x19] s20 (vI x21) cf_X5_mean (t_X5_mean g.2.2.2.2.2.2.1 hc) (RC_own g rfl z17) z17 (by decide) q_1062 (Nat.le_of_ble_eq_true rfl) dX5_surveyTrend_50 ?_ rfl
      refine V_isub g dX5_surveyTrend_53 ?_
      obtain ⟨x22, ex22, hf⟩ := lt_some hf
      refine V_istore g [(5, vI x22), (0, vR 5 l0), (2, vR 10 l2), (3, vI l3), (4, vI l4)] dX5_surveyTrend_54 ex22 (by decide) rfl ?_
      refine V_aload_n g 2 dX5_surveyTrend_56 rfl ?_
      refine V_iconst (v := 0) g dX5_surveyTrend_57 (by decide) ?_
      refine V_dup2 g dX5_surveyTrend_58 rfl rfl ?_
      obtain ⟨z23, hf⟩ := nz_some hf
      obtain ⟨h24, hf⟩ := ckf hf
      refine V_iald g z23 h24 dX5_surveyTrend_59 ?_
      refine V_iload g 0 dX5_surveyTrend_60 rfl ?_
      refine V_if_le g 69 dX5_surveyTrend_62 (by decide) (fun c25 => ?_) (fun c25 => ?_)
      · have hf := it_t hf c25
        refine V_iconst (v := 0) g dX5_surveyTrend_69 (by decide) ?_
        refine V_sub [(0, vR 5 l0), (2, vR 10 l2), (3, vI l3), (4, vI l4), (5, vI x22)] [1, 2, 3, 4, 0] rfl ?_
        exact t_X5_surveyTrend_b70 g f ih hf
      · have hf := it_f hf c25
        refine V_iconst (v := 1) g dX5_surveyTrend_65 (by decide) ?_
        refine V_goto g 70 dX5_surveyTrend_66 (by decide) ?_
        refine V_sub [(0, vR 5 l0), (2, vR 10 l2), (3, vI l3), (4, vI l4), (5, vI x22)] [1, 2, 3, 4, 0] rfl ?_
        exact t_X5_surveyTrend_b70 g f ih hf
set_option maxRecDepth 20000 in
theorem t_X5_surveyTrend {G : GT} {l : Launch} (hl : l.stackTraces = false) {fu : Nat} {s s' : St} {a0 : Nat} {a1 : Int32} {a2 : Nat} (hf : f_X5_surveyTrend fu s a0 a1 a2 = some s') : MetG G l yX5_surveyTrend (.code yX5_surveyTrend cX5_surveyTrend 6 none) 3 s [vR 5 a0, vI a1, vR 10 a2] (s', .inl none) := by
  refine MetG_of hl (by decide +kernel) (Nat.le_of_ble_eq_true rfl) (fun E g f eG eL => ?_)
  subst eG; subst eL
  have g : GX E "ThinSeries$Series" cX5_surveyTrend 6 3 := g
  have f : FX E "surveyTrend" none [] := f
  show V E 6 (QE E (s', .inl none)) s 0 [(0, vR 5 a0), (1, vI a1), (2, vR 10 a2)] []
  unfold f_X5_surveyTrend at hf
  refine V_aload_n g 2 dX5_surveyTrend_0 rfl ?_
  refine V_iconst (v := 0) g dX5_surveyTrend_1 (by decide) ?_
  refine V_iconst (v := 0) g dX5_surveyTrend_2 (by decide) ?_
  obtain ⟨z1, hf⟩ := nz_some hf
  obtain ⟨h2, hf⟩ := ckf hf
  obtain ⟨s3, es3, hf⟩ := lt_some hf
  refine V_iast g es3 z1 h2 dX5_surveyTrend_3 ?_
  refine V_aload_n g 2 dX5_surveyTrend_4 rfl ?_
  refine V_iconst (v := 1) g dX5_surveyTrend_5 (by decide) ?_
  refine V_iconst (v := 0) g dX5_surveyTrend_6 (by decide) ?_
  obtain ⟨h4, hf⟩ := ckf hf
  obtain ⟨s5, es5, hf⟩ := lt_some hf
  refine V_iast g es5 z1 h4 dX5_surveyTrend_7 ?_
  refine V_aload_n g 2 dX5_surveyTrend_8 rfl ?_
  refine V_iconst (v := 2) g dX5_surveyTrend_9 (by decide) ?_
  refine V_iconst (v := 0) g dX5_surveyTrend_10 (by decide) ?_
  obtain ⟨h6, hf⟩ := ckf hf
  obtain ⟨s7, es7, hf⟩ := lt_some hf
  refine V_iast g es7 z1 h6 dX5_surveyTrend_11 ?_
  refine V_aload_n g 2 dX5_surveyTrend_12 rfl ?_
  refine V_iconst (v := 3) g dX5_surveyTrend_13 (by decide) ?_
  refine V_sipush (v := (-20000)) g dX5_surveyTrend_14 (by decide) ?_
  obtain ⟨h8, hf⟩ := ckf hf
  obtain ⟨s9, es9, hf⟩ := lt_some hf
  refine V_iast g es9 z1 h8 dX5_surveyTrend_17 ?_
  refine V_aload_n g 0 dX5_surveyTrend_18 rfl ?_
  refine V_iload_n g 1 dX5_surveyTrend_19 rfl ?_
  obtain ⟨z10, hf⟩ := nz_some hf
  obtain ⟨s11, x12, hc, hf⟩ := bI_some hf
  refine cV1 g [vI a1] [] s11 (vI x12) cf_X5_endOf (t_X5_endOf g.2.2.2.2.2.2.1 hc) (RC_own g rfl z10) z10 (by decide) q_1193 (Nat.le_of_ble_eq_true rfl) dX5_surveyTrend_20 ?_ rfl
  refine V_istore_n g [(3, vI x12), (0, vR 5 a0), (1, vI a1), (2, vR 10 a2)] dX5_surveyTrend_23 rfl (by decide) rfl ?_
  refine V_aload_n g 1 dX5_surveyTrend_24 rfl ?_
  refine V_iload_n g 2 dX5_surveyTrend_25 rfl ?_
  obtain ⟨s13, x14, hc, hf⟩ := bI_some hf
  refine cV1 g [vI a1] [] s13 (vI x14) cf_X5_beginOf (t_X5_beginOf g.2.2.2.2.2.2.1 hc) (RC_own g rfl z10) z10 (by decide) q_1194 (Nat.le_of_ble_eq_true rfl) dX5_surveyTrend_26 ?_ rfl
  refine V_iconst (v := 1) g dX5_surveyTrend_29 (by decide) ?_
  refine V_iadd g dX5_surveyTrend_30 ?_
  obtain ⟨x15, ex15, hf⟩ := lt_some hf
  refine V_istore g [(4, vI x15), (3, vI x12), (0, vR 5 a0), (1, vI a1), (2, vR 10 a2)] dX5_surveyTrend_31 ex15 (by decide) rfl ?_
  refine V_sub [(0, vR 5 a0), (2, vR 10 a2), (3, vI x12), (4, vI x15)] [2, 4, 1, 0] rfl ?_
  exact t_X5_surveyTrend_b33 g f _ s13 a0 a2 x12 x15 hf
set_option maxRecDepth 20000 in
theorem t_X8_trend {G : GT} {l : Launch} (hl : l.stackTraces = false) {fu : Nat} {s s' : St} {a0 : Nat} {a1 : Int32} {a2 : Int32} {a3 : Int32} {w' : Nat ⊕ Int64} (hf : f_X8_trend fu s a0 a1 a2 a3 = some (s', w')) : MetG G l yX8_trend (.code yX8_trend cX8_trend 5 (some .long)) 7 s [vR 8 a0, vI a1, vI a2, vI a3] (s', rJ w') := by
  refine MetG_of hl (by decide +kernel) (Nat.le_of_ble_eq_true rfl) (fun E g f eG eL => ?_)
  subst eG; subst eL
  have g : GX E "ThinSeries" cX8_trend 5 7 := g
  have f : FX E "trend" (some .long) [] := f
  show V E 5 (QE E (s', rJ w')) s 0 [(0, vR 8 a0), (1, vI a1), (2, vI a2), (3, vI a3)] []
  unfold f_X8_trend at hf
  refine V_aload_n g 0 dX8_trend_0 rfl ?_
  refine V_iload_n g 1 dX8_trend_1 rfl ?_
  obtain ⟨z1, hf⟩ := nz_some hf
  rcases bX_some hf with ⟨s2, e3, hc, hf⟩ | ⟨s2, x4, hc, hf⟩
  · cases hf
    refine cVX g [vI a1] [] _ (exN e3) cf_X8_known (t_X8_known g.2.2.2.2.2.2.1 hc) (RC_own g rfl z1) z1 (by decide) q_1024 (Nat.le_of_ble_eq_true rfl) dX8_trend_2 ?_ rfl
    exact VX_out g f
  · refine cV1 g [vI a1] [] s2 (vR 5 x4) cf_X8_known (t_X8_known g.2.2.2.2.2.2.1 hc) (RC_own g rfl z1) z1 (by decide) q_1024 (Nat.le_of_ble_eq_true rfl) dX8_trend_2 ?_ rfl
    refine V_astore g [(4, vR 5 x4), (0, vR 8 a0), (1, vI a1), (2, vI a2), (3, vI a3)] dX8_trend_5 rfl (by decide) rfl ?_
    refine V_aload_n g 1 dX8_trend_7 rfl ?_
    refine V_iload_n g 3 dX8_trend_8 rfl ?_
    rcases bX_some hf with ⟨s5, e6, hc, hf⟩ | ⟨s5, x7, hc, hf⟩
    · cases hf
      refine cVX g [vI a2] [] _ (exN e6) cf_X8_needTier (t_X8_needTier g.2.2.2.2.2.2.1 hc) (RC_own g rfl z1) z1 (by decide) q_1004 (Nat.le_of_ble_eq_true rfl) dX8_trend_9 ?_ rfl
      exact VX_out g f
    · refine cV0 g [vI a2] [] s5 cf_X8_needTier (t_X8_needTier g.2.2.2.2.2.2.1 hc) (RC_own g rfl z1) z1 (by decide) q_1004 (Nat.le_of_ble_eq_true rfl) dX8_trend_9 ?_ rfl
      refine V_iload_n g 4 dX8_trend_12 rfl ?_
      refine V_iconst (v := 3) g dX8_trend_13 (by decide) ?_
      rcases bX_some hf with ⟨s8, e9, hc, hf⟩ | ⟨s8, x10, hc, hf⟩
      · cases hf
        refine cSX g [vI a3, vI 3] [] _ (exN e9) cf_X8_needWhat (t_X8_needWhat g.2.2.2.2.2.2.1 hc) (by decide) q_967 (Nat.le_of_ble_eq_true rfl) dX8_trend_14 ?_ rfl
        exact VX_out g f
      · refine cS0 g [vI a3, vI 3] [] s8 cf_X8_needWhat (t_X8_needWhat g.2.2.2.2.2.2.1 hc) (by decide) q_967 (Nat.le_of_ble_eq_true rfl) dX8_trend_14 ?_ rfl
        refine V_aload g 0 dX8_trend_17 rfl ?_
        refine V_iload_n g 3 dX8_trend_19 rfl ?_
        refine V_aload_n g 1 dX8_trend_20 rfl ?_
        refine V_getR g 8 a0 9 10 rfl (by decide) rfl rfl q_321 z1 dX8_trend_21 ?_
        obtain ⟨z11, hf⟩ := nz_some hf
        obtain ⟨s12, hc, hf⟩ := bV_some hf
        refine cV0 g [vI a2, vR 10 (gR s8 8 a0 9)] [] s12 cf_X5_surveyTrend (t_X5_surveyTrend g.2.2.2.2.2.2.1 hc) (RC_own g rfl z11) z11 (by decide) q_1189 (Nat.le_of_ble_eq_true rfl) dX8_trend_24 ?_ rfl
        refine V_aload_n g 1 dX8_trend_27 rfl ?_
        refine V_getR g 8 a0 9 10 rfl (by decide) rfl rfl q_321 z1 dX8_trend_28 ?_
        refine V_iload_n g 4 dX8_trend_31 rfl ?_
        obtain ⟨z13, hf⟩ := nz_some hf
        obtain ⟨h14, hf⟩ := ckf hf
        refine V_iald g z13 h14 dX8_trend_32 ?_
        refine V_i2l g dX8_trend_33 ?_
        cases hf
        exact V_lreturn g f dX8_trend_34
set_option maxRecDepth 20000 in
theorem t_X8_multipleFrom {G : GT} {l : Launch} (hl : l.stackTraces = false) {fu : Nat} {s s' : St} {a0 : Int32} {a1 : Int32} {w' : Int32} (hf : f_X8_multipleFrom fu s a0 a1 = some (s', w')) : MetG G l yX8_multipleFrom (.code yX8_multipleFrom cX8_multipleFrom 2 (some .int)) 2 s [vI a0, vI a1] (s', .inl (some (vI w'))) := by
  refine MetG_of hl (by decide +kernel) (Nat.le_of_ble_eq_true rfl) (fun E g f eG eL => ?_)
  subst eG; subst eL
  have g : GX E "ThinSeries" cX8_multipleFrom 2 2 := g
  have f : FX E "multipleFrom" (some .int) [] := f
  show V E 2 (QE E (s', .inl (some (vI w')))) s 0 [(0, vI a0), (1, vI a1)] []
  unfold f_X8_multipleFrom at hf
  refine V_iload_n g 0 dX8_multipleFrom_0 rfl ?_
  refine V_ineg g dX8_multipleFrom_1 ?_
  refine V_iload_n g 1 dX8_multipleFrom_2 rfl ?_
  obtain ⟨s1, x2, hc, hf⟩ := bI_some hf
  refine cS1 g [vI (-a0), vI a1] [] s1 (vI x2) cf_X8_multipleUpTo (t_X8_multipleUpTo g.2.2.2.2.2.2.1 hc) (by decide) q_1080 (Nat.le_of_ble_eq_true rfl) dX8_multipleFrom_3 ?_ rfl
  refine V_ineg g dX8_multipleFrom_6 ?_
  cases hf
  exact V_ireturn g f dX8_multipleFrom_7
set_option maxRecDepth 20000 in
theorem t_X2_leastHeadPast_b37 {E : ET} {fu : Nat} {s' : St} {w' : Int32} (g : GX E "ThinSeries$Plan" cX2_leastHeadPast 5 3) (f : FX E "leastHeadPast" (some .int) []) {k7 : St → Nat → Int32 → Int32 → Option (St × Int32)} (hk7 : ∀ (s : St) (l0 : Nat) (l3 : Int32) (l4 : Int32), k7 s l0 l3 l4 = some (s', w') → V E 5 (QE E (s', .inl (some (vI w')))) s 7 [(0, vR 2 l0), (3, vI l3), (4, vI l4)] []) {s : St} {l0 : Nat} {l3 : Int32} {l4 : Int32} (hf : f_X2_leastHeadPast_b37 fu k7 s l0 l3 l4 = some (s', w')) : V E 5 (QE E (s', .inl (some (vI w')))) s 37 [(0, vR 2 l0), (3, vI l3), (4, vI l4)] [] := by
  unfold f_X2_leastHeadPast_b37 at hf
  refine V_iload_n g 1 dX2_leastHeadPast_37 rfl ?_
  refine V_aload_n g 0 dX2_leastHeadPast_38 rfl ?_
  obtain ⟨z15, hf⟩ := nz_some hf
  refine V_getR g 2 l0 1 10 rfl (by decide) rfl rfl q_289 z15 dX2_leastHeadPast_39 ?_
  refine V_iload g 2 dX2_leastHeadPast_42 rfl ?_
  obtain ⟨z16, hf⟩ := nz_some hf
  obtain ⟨h17, hf⟩ := ckf hf
  refine V_iald g z16 h17 dX2_leastHeadPast_44 ?_
  refine V_aload_n g 0 dX2_leastHeadPast_45 rfl ?_
  refine V_getR g 2 l0 0 10 rfl (by decide) rfl rfl q_286 z15 dX2_leastHeadPast_46 ?_
  refine V_iload g 2 dX2_leastHeadPast_49 rfl ?_
  obtain ⟨z18, hf⟩ := nz_some hf
  obtain ⟨h19, hf⟩ := ckf hf
  refine V_iald g z18 h19 dX2_leastHeadPast_51 ?_
  refine V_imul g dX2_leastHeadPast_52 ?_
  refine V_iadd g dX2_leastHeadPast_53 ?_
  obtain ⟨x20, ex20, hf⟩ := lt_some hf
  refine V_istore_n g [(3, vI x20), (0, vR 2 l0), (4, vI l4)] dX2_leastHeadPast_54 ex20 (by decide) rfl ?_
  obtain ⟨x21, ex21, hf⟩ := lt_some hf
  refine V_iinc g 2 [(4, vI x21), (3, vI x20), (0, vR 2 l0)] dX2_leastHeadPast_55 rfl (by rw [ex21]; rfl) (by decide) rfl ?_
  refine V_goto g 7 dX2_leastHeadPast_58 (by decide) ?_
  refine V_sub [(0, vR 2 l0), (3, vI x20), (4, vI x21)] [2, 1, 0] rfl ?_
  exact hk7 s l0 x20 x21 hf
set_option maxRecDepth 20000 in
theorem t_X2_leastHeadPast_b7 {E : ET} {fu : Nat} {s' : St} {w' : Int32} (g : GX E "ThinSeries$Plan" cX2_leastHeadPast 5 3) (f : FX E "leastHeadPast" (some .int) []) : ∀ (n : Nat) (s : St) (l0 : Nat) (l3 : Int32) (l4 : Int32), f_X2_leastHeadPast_b7 fu n s l0 l3 l4 = some (s', w') → V E 5 (QE E (s', .inl (some (vI w')))) s 7 [(0, vR 2 l0), (3, vI l3), (4, vI l4)] [] := by
  intro n
  induction n with
  | zero =>
    intro s l0 l3 l4 hf
    unfold f_X2_leastHeadPast_b7 at hf
    exact nomatch hf
  | succ n ih =>
    intro s l0 l3 l4 hf
    unfold f_X2_leastHeadPast_b7 at hf
    refine V_iload g 2 dX2_leastHeadPast_7 rfl ?_
    refine V_if_lt g 61 dX2_leastHeadPast_9 (by decide) (fun c2 => ?_) (fun c2 => ?_)
    · have hf := it_t hf c2
      refine V_iload_n g 1 dX2_leastHeadPast_61 rfl ?_
      refine V_aload_n g 0 dX2_leastHeadPast_62 rfl ?_
      obtain ⟨z3, hf⟩ := nz_some hf
      refine V_getR g 2 l0 0 10 rfl (by decide) rfl rfl q_286 z3 dX2_leastHeadPast_63 ?_
      refine V_iconst (v := 0) g dX2_leastHeadPast_66 (by decide) ?_
      obtain ⟨z4, hf⟩ := nz_some hf
      obtain ⟨h5, hf⟩ := ckf hf
      refine V_iald g z4 h5 dX2_leastHeadPast_67 ?_
      refine V_isub g dX2_leastHeadPast_68 ?_
      refine V_aload_n g 0 dX2_leastHeadPast_69 rfl ?_
      refine V_getR g 2 l0 0 10 rfl (by decide) rfl rfl q_286 z3 dX2_leastHeadPast_70 ?_
      refine V_iconst (v := 0) g dX2_leastHeadPast_73 (by decide) ?_
      obtain ⟨h6, hf⟩ := ckf hf
      refine V_iald g z4 h6 dX2_leastHeadPast_74 ?_
      obtain ⟨s7, x8, hc, hf⟩ := bI_some hf
      refine cN1 g [vI (l3 - (gI s 10 (gR s 2 l0 0) (ix 0))), vI (gI s 10 (gR s 2 l0 0) (ix 0))] [] s7 (vI x8) cf_X8_multipleFrom (t_X8_multipleFrom g.2.2.2.2.2.2.1 hc) (by decide) q_1178 (Nat.le_of_ble_eq_true rfl) dX2_leastHeadPast_75 ?_ rfl
      cases hf
      exact V_ireturn g f dX2_leastHeadPast_78
    · have hf := it_f hf c2
      refine V_iload g 2 dX2_leastHeadPast_12 rfl ?_
      refine V_iconst (v := 1) g dX2_leastHeadPast_14 (by decide) ?_
      refine V_iadd g dX2_leastHeadPast_15 ?_
      refine V_aload_n g 0 dX2_leastHeadPast_16 rfl ?_
      obtain ⟨z9, hf⟩ := nz_some hf
      refine V_getI g 2 l0 3 rfl (by decide) rfl q_295 z9 dX2_leastHeadPast_17 ?_
      refine V_icmp_ge g 37 dX2_leastHeadPast_20 (by decide) (fun c10 => ?_) (fun c10 => ?_)
      · have hf := it_t hf c10
        exact t_X2_leastHeadPast_b37 g f ih hf
      · have hf := it_f hf c10
        refine V_iload_n g 1 dX2_leastHeadPast_23 rfl ?_
        refine V_aload_n g 0 dX2_leastHeadPast_24 rfl ?_
        refine V_getR g 2 l0 0 10 rfl (by decide) rfl rfl q_286 z9 dX2_leastHeadPast_25 ?_
        refine V_iload g 2 dX2_leastHeadPast_28 rfl ?_
        refine V_iconst (v := 1) g dX2_leastHeadPast_30 (by decide) ?_
        refine V_iadd g dX2_leastHeadPast_31 ?_
        obtain ⟨z11, hf⟩ := nz_some hf
        obtain ⟨h12, hf⟩ := ckf hf
        refine V_iald g z11 h12 dX2_leastHeadPast_32 ?_
        obtain ⟨s13, x14, hc, hf⟩ := bI_some hf
        refine cN1 g [vI l3, vI (gI s 10 (gR s 2 l0 0) (ix (l4 + 1)))] [] s13 (vI x14) cf_X8_multipleFrom (t_X8_multipleFrom g.2.2.2.2.2.2.1 hc) (by decide) q_1178 (Nat.le_of_ble_eq_true rfl) dX2_leastHeadPast_33 ?_ rfl
        refine V_istore_n g [(3, vI x14), (0, vR 2 l0), (4, vI l4)] dX2_leastHeadPast_36 rfl (by decide) rfl ?_
        refine V_sub [(0, vR 2 l0), (3, vI x14), (4, vI l4)] [1, 0, 2] rfl ?_
        exact t_X2_leastHeadPast_b37 g f ih hf
set_option maxRecDepth 20000 in
theorem t_X2_leastHeadPast {G : GT} {l : Launch} (hl : l.stackTraces = false) {fu : Nat} {s s' : St} {a0 : Nat} {a1 : Int32} {a2 : Int32} {w' : Int32} (hf : f_X2_leastHeadPast fu s a0 a1 a2 = some (s', w')) : MetG G l yX2_leastHeadPast (.code yX2_leastHeadPast cX2_leastHeadPast 5 (some .int)) 3 s [vR 2 a0, vI a1, vI a2] (s', .inl (some (vI w'))) := by
  refine MetG_of hl (by decide +kernel) (Nat.le_of_ble_eq_true rfl) (fun E g f eG eL => ?_)
  subst eG; subst eL
  have g : GX E "ThinSeries$Plan" cX2_leastHeadPast 5 3 := g
  have f : FX E "leastHeadPast" (some .int) [] := f
  show V E 5 (QE E (s', .inl (some (vI w')))) s 0 [(0, vR 2 a0), (1, vI a1), (2, vI a2)] []
  unfold f_X2_leastHeadPast at hf
  refine V_iload_n g 2 dX2_leastHeadPast_0 rfl ?_
  refine V_iconst (v := 1) g dX2_leastHeadPast_1 (by decide) ?_
  refine V_iadd g dX2_leastHeadPast_2 ?_
  obtain ⟨x1, ex1, hf⟩ := lt_some hf
  refine V_istore_n g [(3, vI x1), (0, vR 2 a0), (1, vI a1), (2, vI a2)] dX2_leastHeadPast_3 ex1 (by decide) rfl ?_
  refine V_iload_n g 2 dX2_leastHeadPast_4 rfl ?_
  refine V_istore g [(4, vI a1), (3, vI x1), (0, vR 2 a0), (1, vI a1), (2, vI a2)] dX2_leastHeadPast_5 rfl (by decide) rfl ?_
  refine V_sub [(0, vR 2 a0), (3, vI x1), (4, vI a1)] [2, 1, 0] rfl ?_
  exact t_X2_leastHeadPast_b7 g f _ s a0 x1 a1 hf
set_option maxRecDepth 20000 in
theorem t_X8_until_b67 {E : ET} {fu : Nat} {s' : St} {w' : Nat ⊕ Int32} (g : GX E "ThinSeries" cX8_until 5 7) (f : FX E "until" (some .int) []) {s : St} {t0 : Int32} (hf : f_X8_until_b67 fu s t0 = some (s', w')) : V E 5 (QE E (s', rI w')) s 67 [] [vI t0] := by
  unfold f_X8_until_b67 at hf
  cases hf
  exact V_ireturn g f dX8_until_67
set_option maxRecDepth 20000 in
theorem t_X8_until {G : GT} {l : Launch} (hl : l.stackTraces = false) {fu : Nat} {s s' : St} {a0 : Nat} {a1 : Int32} {a2 : Int32} {a3 : Int32} {w' : Nat ⊕ Int32} (hf : f_X8_until fu s a0 a1 a2 a3 = some (s', w')) : MetG G l yX8_until (.code yX8_until cX8_until 5 (some .int)) 7 s [vR 8 a0, vI a1, vI a2, vI a3] (s', rI w') := by
  refine MetG_of hl (by decide +kernel) (Nat.le_of_ble_eq_true rfl) (fun E g f eG eL => ?_)
  subst eG; subst eL
  have g : GX E "ThinSeries" cX8_until 5 7 := g
  have f : FX E "until" (some .int) [] := f
  show V E 5 (QE E (s', rI w')) s 0 [(0, vR 8 a0), (1, vI a1), (2, vI a2), (3, vI a3)] []
  unfold f_X8_until at hf
  refine V_aload_n g 0 dX8_until_0 rfl ?_
  refine V_iload_n g 1 dX8_until_1 rfl ?_
  obtain ⟨z1, hf⟩ := nz_some hf
  rcases bX_some hf with ⟨s2, e3, hc, hf⟩ | ⟨s2, x4, hc, hf⟩
  · cases hf
    refine cVX g [vI a1] [] _ (exN e3) cf_X8_known (t_X8_known g.2.2.2.2.2.2.1 hc) (RC_own g rfl z1) z1 (by decide) q_1024 (Nat.le_of_ble_eq_true rfl) dX8_until_2 ?_ rfl
    exact VX_out g f
  · refine cV1 g [vI a1] [] s2 (vR 5 x4) cf_X8_known (t_X8_known g.2.2.2.2.2.2.1 hc) (RC_own g rfl z1) z1 (by decide) q_1024 (Nat.le_of_ble_eq_true rfl) dX8_until_2 ?_ rfl
    refine V_pop g dX8_until_5 rfl ?_
    refine V_aload_n g 0 dX8_until_6 rfl ?_
    refine V_iload_n g 2 dX8_until_7 rfl ?_
    rcases bX_some hf with ⟨s5, e6, hc, hf⟩ | ⟨s5, x7, hc, hf⟩
    · cases hf
      refine cVX g [vI a2] [] _ (exN e6) cf_X8_needTier (t_X8_needTier g.2.2.2.2.2.2.1 hc) (RC_own g rfl z1) z1 (by decide) q_1004 (Nat.le_of_ble_eq_true rfl) dX8_until_8 ?_ rfl
      exact VX_out g f
    · refine cV0 g [vI a2] [] s5 cf_X8_needTier (t_X8_needTier g.2.2.2.2.2.2.1 hc) (RC_own g rfl z1) z1 (by decide) q_1004 (Nat.le_of_ble_eq_true rfl) dX8_until_8 ?_ rfl
      refine V_iload_n g 3 dX8_until_11 rfl ?_
      refine V_i2l g dX8_until_12 ?_
      obtain ⟨s8, x9, hc, hf⟩ := bI_some hf
      refine cS1 g [vJ (Int32.toInt64 a3)] [] s8 (vI x9) cf_X8_isTime (t_X8_isTime g.2.2.2.2.2.2.1 hc) (by decide) q_389 (Nat.le_of_ble_eq_true rfl) dX8_until_13 ?_ rfl
      refine V_if_ne g 30 dX8_until_16 (by decide) (fun c10 => ?_) (fun c10 => ?_)
      · have hf := it_f hf c10
        refine V_aload_n g 0 dX8_until_30 rfl ?_
        refine V_getR g 8 a0 4 4 rfl (by decide) rfl rfl q_316 z1 dX8_until_31 ?_
        obtain ⟨z11, hf⟩ := nz_some hf
        refine V_getR g 4 (gR s8 8 a0 4) 1 10 rfl (by decide) rfl rfl q_217 z11 dX8_until_34 ?_
        refine V_iload_n g 1 dX8_until_37 rfl ?_
        obtain ⟨z12, hf⟩ := nz_some hf
        obtain ⟨h13, hf⟩ := ckf hf
        refine V_iald g z12 h13 dX8_until_38 ?_
        refine V_aload_n g 0 dX8_until_39 rfl ?_
        refine V_getR g 8 a0 12 2 rfl (by decide) rfl rfl q_324 z1 dX8_until_40 ?_
        refine V_iload_n g 2 dX8_until_43 rfl ?_
        refine V_iload_n g 3 dX8_until_44 rfl ?_
        obtain ⟨z14, hf⟩ := nz_some hf
        obtain ⟨s15, x16, hc, hf⟩ := bI_some hf
        refine cV1 g [vI a2, vI a3] [vI (gI s8 10 (gR s8 4 (gR s8 8 a0 4) 1) (ix a1))] s15 (vI x16) cf_X2_leastHeadPast (t_X2_leastHeadPast g.2.2.2.2.2.2.1 hc) (RC_own g rfl z14) z14 (by decide) q_1174 (Nat.le_of_ble_eq_true rfl) dX8_until_45 ?_ rfl
        obtain ⟨s17, x18, hc, hf⟩ := bI_some hf
        refine cS1 g [vI (gI s8 10 (gR s8 4 (gR s8 8 a0 4) 1) (ix a1)), vI x16] [] s17 (vI x18) cf_J9_max_7cf53 (t_J9_max_7cf53 g.2.2.2.2.2.2.1 hc) (by decide) q_425 (Nat.le_of_ble_eq_true rfl) dX8_until_48 ?_ rfl
        refine V_istore g [(4, vI x18), (0, vR 8 a0), (1, vI a1), (2, vI a2), (3, vI a3)] dX8_until_51 rfl (by decide) rfl ?_
        refine V_iload g 0 dX8_until_53 rfl ?_
        refine V_ldcw (v := 1000000) g q_1181 dX8_until_55 ?_
        refine V_icmp_le g 65 dX8_until_58 (by decide) (fun c19 => ?_) (fun c19 => ?_)
        · have hf := it_t hf c19
          refine V_iload g 0 dX8_until_65 rfl ?_
          refine V_sub [] [] rfl ?_
          exact t_X8_until_b67 g f hf
        · have hf := it_f hf c19
          refine V_iconst (v := (-1)) g dX8_until_61 (by decide) ?_
          refine V_goto g 67 dX8_until_62 (by decide) ?_
          refine V_sub [] [] rfl ?_
          exact t_X8_until_b67 g f hf
      · have hf := it_t hf c10
        obtain ⟨h20, hf⟩ := ckf hf
        cases hf
        exact thI (j := 21) g f (rm_of h20) q_616 q_106 (by decide) rfl (by decide) (Nat.le_of_ble_eq_true rfl) ⟨⟨dX8_until_19, dX8_until_22⟩, Or.inr ⟨dX8_until_23, dX8_until_26, dX8_until_29⟩⟩
set_option maxRecDepth 20000 in
theorem t_X8_used_b15 {E : ET} {fu : Nat} {s' : St} {w' : Nat ⊕ Int32} (g : GX E "ThinSeries" cX8_used 2 6) (f : FX E "used" (some .int) []) {s : St} (hf : f_X8_used_b15 fu s = some (s', w')) : V E 2 (QE E (s', rI w')) s 15 [] [] := by
  unfold f_X8_used_b15 at hf
  obtain ⟨h7, hf⟩ := ckf hf
  cases hf
  exact thN (j := 19) g f (rm_of h7) q_970 q_116 (by decide) rfl (by decide) (Nat.le_of_ble_eq_true rfl) ⟨⟨dX8_used_15, dX8_used_18⟩, Or.inl ⟨dX8_used_19, dX8_used_21, dX8_used_24⟩⟩
set_option maxRecDepth 20000 in
theorem t_X8_used {G : GT} {l : Launch} (hl : l.stackTraces = false) {fu : Nat} {s s' : St} {a0 : Nat} {a1 : Int32} {w' : Nat ⊕ Int32} (hf : f_X8_used fu s a0 a1 = some (s', w')) : MetG G l yX8_used (.code yX8_used cX8_used 2 (some .int)) 6 s [vR 8 a0, vI a1] (s', rI w') := by
  refine MetG_of hl (by decide +kernel) (Nat.le_of_ble_eq_true rfl) (fun E g f eG eL => ?_)
  subst eG; subst eL
  have g : GX E "ThinSeries" cX8_used 2 6 := g
  have f : FX E "used" (some .int) [] := f
  show V E 2 (QE E (s', rI w')) s 0 [(0, vR 8 a0), (1, vI a1)] []
  unfold f_X8_used at hf
  refine V_iload_n g 1 dX8_used_0 rfl ?_
  refine V_if_lt g 15 dX8_used_1 (by decide) (fun c1 => ?_) (fun c1 => ?_)
  · have hf := it_t hf c1
    refine V_sub [] [] rfl ?_
    exact t_X8_used_b15 g f hf
  · have hf := it_f hf c1
    refine V_iload_n g 1 dX8_used_4 rfl ?_
    refine V_aload_n g 0 dX8_used_5 rfl ?_
    obtain ⟨z2, hf⟩ := nz_some hf
    refine V_getR g 8 a0 4 4 rfl (by decide) rfl rfl q_316 z2 dX8_used_6 ?_
    obtain ⟨z3, hf⟩ := nz_some hf
    refine V_getI g 4 (gR s 8 a0 4) 2 rfl (by decide) rfl q_219 z3 dX8_used_9 ?_
    refine V_icmp_lt g 25 dX8_used_12 (by decide) (fun c4 => ?_) (fun c4 => ?_)
    · have hf := it_t hf c4
      refine V_aload_n g 0 dX8_used_25 rfl ?_
      refine V_getR g 8 a0 4 4 rfl (by decide) rfl rfl q_316 z2 dX8_used_26 ?_
      refine V_getR g 4 (gR s 8 a0 4) 0 10 rfl (by decide) rfl rfl q_215 z3 dX8_used_29 ?_
      refine V_iload_n g 1 dX8_used_32 rfl ?_
      obtain ⟨z5, hf⟩ := nz_some hf
      obtain ⟨h6, hf⟩ := ckf hf
      refine V_iald g z5 h6 dX8_used_33 ?_
      cases hf
      exact V_ireturn g f dX8_used_34
    · have hf := it_f hf c4
      refine V_sub [] [] rfl ?_
      exact t_X8_used_b15 g f hf
