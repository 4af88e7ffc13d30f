set_option maxRecDepth 20000 in
theorem t_X5_hasStart_b23 {E : ET} {fu : Nat} {s' : St} {w' : Int32} (g : GX E "ThinSeries$Series" cX5_hasStart 3 0) (f : FX E "hasStart" (some .boolean) []) {s : St} {t0 : Int32} (hf : f_X5_hasStart_b23 fu s t0 = some (s', w')) : V E 3 (QE E (s', .inl (some (vI w')))) s 23 [] [vI t0] := by
  unfold f_X5_hasStart_b23 at hf
  obtain ⟨h6, hf⟩ := ckf hf
  cases hf
  exact V_zreturn g f (zb_n h6) dX5_hasStart_23
set_option maxRecDepth 20000 in
theorem t_X5_hasStart_b22 {E : ET} {fu : Nat} {s' : St} {w' : Int32} (g : GX E "ThinSeries$Series" cX5_hasStart 3 0) (f : FX E "hasStart" (some .boolean) []) {s : St} (hf : f_X5_hasStart_b22 fu s = some (s', w')) : V E 3 (QE E (s', .inl (some (vI w')))) s 22 [] [] := by
  unfold f_X5_hasStart_b22 at hf
  refine V_iconst (v := 0) g dX5_hasStart_22 (by decide) ?_
  exact t_X5_hasStart_b23 g f hf
set_option maxRecDepth 20000 in
theorem t_X5_hasStart {G : GT} {l : Launch} (hl : l.stackTraces = false) {fu : Nat} {s s' : St} {a0 : Nat} {a1 : Int32} {a2 : Int32} {w' : Int32} (hf : f_X5_hasStart fu s a0 a1 a2 = some (s', w')) : MetG G l yX5_hasStart (.code yX5_hasStart cX5_hasStart 3 (some .boolean)) 0 s [vR 5 a0, vI a1, vI a2] (s', .inl (some (vI w'))) := by
  refine MetG_of hl (by decide +kernel) (Nat.le_of_ble_eq_true rfl) (fun E g f eG eL => ?_)
  subst eG; subst eL
  have g : GX E "ThinSeries$Series" cX5_hasStart 3 0 := g
  have f : FX E "hasStart" (some .boolean) [] := f
  show V E 3 (QE E (s', .inl (some (vI w')))) s 0 [(0, vR 5 a0), (1, vI a1), (2, vI a2)] []
  unfold f_X5_hasStart at hf
  refine V_iload_n g 1 dX5_hasStart_0 rfl ?_
  refine V_aload_n g 0 dX5_hasStart_1 rfl ?_
  obtain ⟨z1, hf⟩ := nz_some hf
  refine V_getI g 5 a0 8 rfl (by decide) rfl q_456 z1 dX5_hasStart_2 ?_
  refine V_icmp_ge g 22 dX5_hasStart_5 (by decide) (fun c2 => ?_) (fun c2 => ?_)
  · have hf := it_t hf c2
    refine V_sub [] [] rfl ?_
    exact t_X5_hasStart_b22 g f hf
  · have hf := it_f hf c2
    refine V_aload_n g 0 dX5_hasStart_8 rfl ?_
    refine V_getR g 5 a0 3 10 rfl (by decide) rfl rfl q_445 z1 dX5_hasStart_9 ?_
    refine V_iload_n g 1 dX5_hasStart_12 rfl ?_
    obtain ⟨z3, hf⟩ := nz_some hf
    obtain ⟨h4, hf⟩ := ckf hf
    refine V_iald g z3 h4 dX5_hasStart_13 ?_
    refine V_iload_n g 2 dX5_hasStart_14 rfl ?_
    refine V_icmp_ne g 22 dX5_hasStart_15 (by decide) (fun c5 => ?_) (fun c5 => ?_)
    · have hf := it_f hf c5
      refine V_sub [] [] rfl ?_
      exact t_X5_hasStart_b22 g f hf
    · have hf := it_t hf c5
      refine V_iconst (v := 1) g dX5_hasStart_18 (by decide) ?_
      refine V_goto g 23 dX5_hasStart_19 (by decide) ?_
      refine V_sub [] [] rfl ?_
      exact t_X5_hasStart_b23 g f hf
set_option maxRecDepth 20000 in
theorem t_X5_makeRoom {G : GT} {l : Launch} (hl : l.stackTraces = false) {fu : Nat} {s s' : St} {a0 : Nat} {w' : Int32} (hf : f_X5_makeRoom fu s a0 = some (s', w')) : MetG G l yX5_makeRoom (.code yX5_makeRoom cX5_makeRoom 2 (some .boolean)) 2 s [vR 5 a0] (s', .inl (some (vI w'))) := by
  refine MetG_of hl (by decide +kernel) (Nat.le_of_ble_eq_true rfl) (fun E g f eG eL => ?_)
  subst eG; subst eL
  have g : GX E "ThinSeries$Series" cX5_makeRoom 2 2 := g
  have f : FX E "makeRoom" (some .boolean) [] := f
  show V E 2 (QE E (s', .inl (some (vI w')))) s 0 [(0, vR 5 a0)] []
  unfold f_X5_makeRoom at hf
  refine V_aload_n g 0 dX5_makeRoom_0 rfl ?_
  obtain ⟨z1, hf⟩ := nz_some hf
  refine V_getI g 5 a0 8 rfl (by decide) rfl q_456 z1 dX5_makeRoom_1 ?_
  refine V_aload_n g 0 dX5_makeRoom_4 rfl ?_
  refine V_getR g 5 a0 3 10 rfl (by decide) rfl rfl q_445 z1 dX5_makeRoom_5 ?_
  obtain ⟨z2, hf⟩ := nz_some hf
  refine V_alen10 g z2 dX5_makeRoom_8 ?_
  refine V_icmp_ge g 14 dX5_makeRoom_9 (by decide) (fun c3 => ?_) (fun c3 => ?_)
  · have hf := it_t hf c3
    refine V_aload_n g 0 dX5_makeRoom_14 rfl ?_
    refine V_getR g 5 a0 3 10 rfl (by decide) rfl rfl q_445 z1 dX5_makeRoom_15 ?_
    refine V_alen10 g z2 dX5_makeRoom_18 ?_
    refine V_ldc (v := 32768) g q_548 dX5_makeRoom_19 ?_
    refine V_icmp_lt g 26 dX5_makeRoom_21 (by decide) (fun c4 => ?_) (fun c4 => ?_)
    · have hf := it_t hf c4
      refine V_aload_n g 0 dX5_makeRoom_26 rfl ?_
      refine V_getR g 5 a0 3 10 rfl (by decide) rfl rfl q_445 z1 dX5_makeRoom_27 ?_
      refine V_alen10 g z2 dX5_makeRoom_30 ?_
      refine V_iconst (v := 2) g dX5_makeRoom_31 (by decide) ?_
      refine V_imul g dX5_makeRoom_32 ?_
      obtain ⟨x5, ex5, hf⟩ := lt_some hf
      refine V_istore_n g [(1, vI x5), (0, vR 5 a0)] dX5_makeRoom_33 ex5 (by decide) rfl ?_
      refine V_aload_n g 1 dX5_makeRoom_34 rfl ?_
      refine V_aload_n g 1 dX5_makeRoom_35 rfl ?_
      refine V_getR g 5 a0 3 10 rfl (by decide) rfl rfl q_445 z1 dX5_makeRoom_36 ?_
      refine V_iload_n g 0 dX5_makeRoom_39 rfl ?_
      obtain ⟨s6, x7, hc, hf⟩ := bI_some hf
      refine cS1 g [vR 10 (gR s 5 a0 3), vI x5] [vR 5 a0] s6 (vR 10 x7) cf_J7_copyOf_59c91 (t_J7_copyOf_59c91 g.2.2.2.2.2.2.1 hc) (by decide) q_549 (Nat.le_of_ble_eq_true rfl) dX5_makeRoom_40 ?_ rfl
      obtain ⟨s8, es8, hf⟩ := lt_some hf
      refine V_putR g 5 a0 3 10 es8 rfl (by decide) rfl rfl q_445 z1 (Or.inl rfl) pf_5_3 q_arr dX5_makeRoom_43 ?_
      refine V_aload_n g 1 dX5_makeRoom_46 rfl ?_
      refine V_aload_n g 1 dX5_makeRoom_47 rfl ?_
      refine V_getR g 5 a0 4 10 rfl (by decide) rfl rfl q_448 z1 dX5_makeRoom_48 ?_
      refine V_iload_n g 0 dX5_makeRoom_51 rfl ?_
      obtain ⟨s9, x10, hc, hf⟩ := bI_some hf
      refine cS1 g [vR 10 (gR s8 5 a0 4), vI x5] [vR 5 a0] s9 (vR 10 x10) cf_J7_copyOf_59c91 (t_J7_copyOf_59c91 g.2.2.2.2.2.2.1 hc) (by decide) q_549 (Nat.le_of_ble_eq_true rfl) dX5_makeRoom_52 ?_ rfl
      obtain ⟨s11, es11, hf⟩ := lt_some hf
      refine V_putR g 5 a0 4 10 es11 rfl (by decide) rfl rfl q_448 z1 (Or.inl rfl) pf_5_4 q_arr dX5_makeRoom_55 ?_
      refine V_aload_n g 1 dX5_makeRoom_58 rfl ?_
      refine V_aload_n g 1 dX5_makeRoom_59 rfl ?_
      refine V_getR g 5 a0 5 11 rfl (by decide) rfl rfl q_450 z1 dX5_makeRoom_60 ?_
      refine V_iload_n g 0 dX5_makeRoom_63 rfl ?_
      obtain ⟨s12, x13, hc, hf⟩ := bI_some hf
      refine cS1 g [vR 11 (gR s11 5 a0 5), vI x5] [vR 5 a0] s12 (vR 11 x13) cf_J7_copyOf_c38d5 (t_J7_copyOf_c38d5 g.2.2.2.2.2.2.1 hc) (by decide) q_561 (Nat.le_of_ble_eq_true rfl) dX5_makeRoom_64 ?_ rfl
      obtain ⟨s14, es14, hf⟩ := lt_some hf
      refine V_putR g 5 a0 5 11 es14 rfl (by decide) rfl rfl q_450 z1 (Or.inl rfl) pf_5_5 q_arr dX5_makeRoom_67 ?_
      refine V_aload_n g 1 dX5_makeRoom_70 rfl ?_
      refine V_aload_n g 1 dX5_makeRoom_71 rfl ?_
      refine V_getR g 5 a0 6 10 rfl (by decide) rfl rfl q_452 z1 dX5_makeRoom_72 ?_
      refine V_iload_n g 0 dX5_makeRoom_75 rfl ?_
      obtain ⟨s15, x16, hc, hf⟩ := bI_some hf
      refine cS1 g [vR 10 (gR s14 5 a0 6), vI x5] [vR 5 a0] s15 (vR 10 x16) cf_J7_copyOf_59c91 (t_J7_copyOf_59c91 g.2.2.2.2.2.2.1 hc) (by decide) q_549 (Nat.le_of_ble_eq_true rfl) dX5_makeRoom_76 ?_ rfl
      obtain ⟨s17, es17, hf⟩ := lt_some hf
      refine V_putR g 5 a0 6 10 es17 rfl (by decide) rfl rfl q_452 z1 (Or.inl rfl) pf_5_6 q_arr dX5_makeRoom_79 ?_
      refine V_aload_n g 1 dX5_makeRoom_82 rfl ?_
      refine V_aload_n g 1 dX5_makeRoom_83 rfl ?_
      refine V_getR g 5 a0 7 10 rfl (by decide) rfl rfl q_454 z1 dX5_makeRoom_84 ?_
      refine V_iload_n g 0 dX5_makeRoom_87 rfl ?_
      obtain ⟨s18, x19, hc, hf⟩ := bI_some hf
      refine cS1 g [vR 10 (gR s17 5 a0 7), vI x5] [vR 5 a0] s18 (vR 10 x19) cf_J7_copyOf_59c91 (t_J7_copyOf_59c91 g.2.2.2.2.2.2.1 hc) (by decide) q_549 (Nat.le_of_ble_eq_true rfl) dX5_makeRoom_88 ?_ rfl
      obtain ⟨s20, es20, hf⟩ := lt_some hf
      refine V_putR g 5 a0 7 10 es20 rfl (by decide) rfl rfl q_454 z1 (Or.inl rfl) pf_5_7 q_arr dX5_makeRoom_91 ?_
      refine V_iconst (v := 1) g dX5_makeRoom_94 (by decide) ?_
      obtain ⟨h21, hf⟩ := ckf hf
      cases hf
      exact V_zreturn g f (zb_n h21) dX5_makeRoom_95
    · have hf := it_f hf c4
      refine V_iconst (v := 0) g dX5_makeRoom_24 (by decide) ?_
      obtain ⟨h22, hf⟩ := ckf hf
      cases hf
      exact V_zreturn g f (zb_n h22) dX5_makeRoom_25
  · have hf := it_f hf c3
    refine V_iconst (v := 1) g dX5_makeRoom_12 (by decide) ?_
    obtain ⟨h23, hf⟩ := ckf hf
    cases hf
    exact V_zreturn g f (zb_n h23) dX5_makeRoom_13
set_option maxRecDepth 20000 in
theorem t_X5_openAt {G : GT} {l : Launch} (hl : l.stackTraces = false) {fu : Nat} {s s' : St} {a0 : Nat} {a1 : Int32} {a2 : Int32} {a3 : Int32} (hf : f_X5_openAt fu s a0 a1 a2 a3 = some s') : MetG G l yX5_openAt (.code yX5_openAt cX5_openAt 5 none) 1 s [vR 5 a0, vI a1, vI a2, vI a3] (s', .inl none) := by
  refine MetG_of hl (by decide +kernel) (Nat.le_of_ble_eq_true rfl) (fun E g f eG eL => ?_)
  subst eG; subst eL
  have g : GX E "ThinSeries$Series" cX5_openAt 5 1 := g
  have f : FX E "openAt" none [] := f
  show V E 5 (QE E (s', .inl none)) s 0 [(0, vR 5 a0), (1, vI a1), (2, vI a2), (3, vI a3)] []
  unfold f_X5_openAt at hf
  refine V_aload_n g 0 dX5_openAt_0 rfl ?_
  obtain ⟨z1, hf⟩ := nz_some hf
  refine V_getI g 5 a0 8 rfl (by decide) rfl q_456 z1 dX5_openAt_1 ?_
  refine V_iload_n g 1 dX5_openAt_4 rfl ?_
  refine V_isub g dX5_openAt_5 ?_
  obtain ⟨x2, ex2, hf⟩ := lt_some hf
  refine V_istore g [(4, vI x2), (0, vR 5 a0), (1, vI a1), (2, vI a2), (3, vI a3)] dX5_openAt_6 ex2 (by decide) rfl ?_
  refine V_aload_n g 1 dX5_openAt_8 rfl ?_
  refine V_getR g 5 a0 3 10 rfl (by decide) rfl rfl q_445 z1 dX5_openAt_9 ?_
  refine V_iload_n g 2 dX5_openAt_12 rfl ?_
  refine V_aload_n g 1 dX5_openAt_13 rfl ?_
  refine V_getR g 5 a0 3 10 rfl (by decide) rfl rfl q_445 z1 dX5_openAt_14 ?_
  refine V_iload_n g 2 dX5_openAt_17 rfl ?_
  refine V_iconst (v := 1) g dX5_openAt_18 (by decide) ?_
  refine V_iadd g dX5_openAt_19 ?_
  refine V_iload g 0 dX5_openAt_20 rfl ?_
  obtain ⟨z3, hf⟩ := nz_some hf
  obtain ⟨h4, hf⟩ := ckf hf
  obtain ⟨h5, hf⟩ := ckf hf
  obtain ⟨s6, es6, hf⟩ := lt_some hf
  refine V_copy10 g es6 (by decide) z3 z3 h4 h5 q_508 q_510 q_509 q_114 (Nat.le_of_ble_eq_true rfl) dX5_openAt_22 ?_
  refine V_aload_n g 1 dX5_openAt_25 rfl ?_
  refine V_getR g 5 a0 4 10 rfl (by decide) rfl rfl q_448 z1 dX5_openAt_26 ?_
  refine V_iload_n g 2 dX5_openAt_29 rfl ?_
  refine V_aload_n g 1 dX5_openAt_30 rfl ?_
  refine V_getR g 5 a0 4 10 rfl (by decide) rfl rfl q_448 z1 dX5_openAt_31 ?_
  refine V_iload_n g 2 dX5_openAt_34 rfl ?_
  refine V_iconst (v := 1) g dX5_openAt_35 (by decide) ?_
  refine V_iadd g dX5_openAt_36 ?_
  refine V_iload g 0 dX5_openAt_37 rfl ?_
  obtain ⟨z7, hf⟩ := nz_some hf
  obtain ⟨h8, hf⟩ := ckf hf
  obtain ⟨h9, hf⟩ := ckf hf
  obtain ⟨s10, es10, hf⟩ := lt_some hf
  refine V_copy10 g es10 (by decide) z7 z7 h8 h9 q_508 q_510 q_509 q_114 (Nat.le_of_ble_eq_true rfl) dX5_openAt_39 ?_
  refine V_aload_n g 1 dX5_openAt_42 rfl ?_
  refine V_getR g 5 a0 5 11 rfl (by decide) rfl rfl q_450 z1 dX5_openAt_43 ?_
  refine V_iload_n g 2 dX5_openAt_46 rfl ?_
  refine V_aload_n g 1 dX5_openAt_47 rfl ?_
  refine V_getR g 5 a0 5 11 rfl (by decide) rfl rfl q_450 z1 dX5_openAt_48 ?_
  refine V_iload_n g 2 dX5_openAt_51 rfl ?_
  refine V_iconst (v := 1) g dX5_openAt_52 (by decide) ?_
  refine V_iadd g dX5_openAt_53 ?_
  refine V_iload g 0 dX5_openAt_54 rfl ?_
  obtain ⟨z11, hf⟩ := nz_some hf
  obtain ⟨h12, hf⟩ := ckf hf
  obtain ⟨h13, hf⟩ := ckf hf
  obtain ⟨s14, es14, hf⟩ := lt_some hf
  refine V_copy11 g es14 (by decide) z11 z11 h12 h13 q_508 q_510 q_509 q_114 (Nat.le_of_ble_eq_true rfl) dX5_openAt_56 ?_
  refine V_aload_n g 1 dX5_openAt_59 rfl ?_
  refine V_getR g 5 a0 6 10 rfl (by decide) rfl rfl q_452 z1 dX5_openAt_60 ?_
  refine V_iload_n g 2 dX5_openAt_63 rfl ?_
  refine V_aload_n g 1 dX5_openAt_64 rfl ?_
  refine V_getR g 5 a0 6 10 rfl (by decide) rfl rfl q_452 z1 dX5_openAt_65 ?_
  refine V_iload_n g 2 dX5_openAt_68 rfl ?_
  refine V_iconst (v := 1) g dX5_openAt_69 (by decide) ?_
  refine V_iadd g dX5_openAt_70 ?_
  refine V_iload g 0 dX5_openAt_71 rfl ?_
  obtain ⟨z15, hf⟩ := nz_some hf
  obtain ⟨h16, hf⟩ := ckf hf
  obtain ⟨h17, hf⟩ := ckf hf
  obtain ⟨s18, es18, hf⟩ := lt_some hf
  refine V_copy10 g es18 (by decide) z15 z15 h16 h17 q_508 q_510 q_509 q_114 (Nat.le_of_ble_eq_true rfl) dX5_openAt_73 ?_
  refine V_aload_n g 1 dX5_openAt_76 rfl ?_
  refine V_getR g 5 a0 7 10 rfl (by decide) rfl rfl q_454 z1 dX5_openAt_77 ?_
  refine V_iload_n g 2 dX5_openAt_80 rfl ?_
  refine V_aload_n g 1 dX5_openAt_81 rfl ?_
  refine V_getR g 5 a0 7 10 rfl (by decide) rfl rfl q_454 z1 dX5_openAt_82 ?_
  refine V_iload_n g 2 dX5_openAt_85 rfl ?_
  refine V_iconst (v := 1) g dX5_openAt_86 (by decide) ?_
  refine V_iadd g dX5_openAt_87 ?_
  refine V_iload g 0 dX5_openAt_88 rfl ?_
  obtain ⟨z19, hf⟩ := nz_some hf
  obtain ⟨h20, hf⟩ := ckf hf
  obtain ⟨h21, hf⟩ := ckf hf
  obtain ⟨s22, es22, hf⟩ := lt_some hf
  refine V_copy10 g es22 (by decide) z19 z19 h20 h21 q_508 q_510 q_509 q_114 (Nat.le_of_ble_eq_true rfl) dX5_openAt_90 ?_
  refine V_aload_n g 1 dX5_openAt_93 rfl ?_
  refine V_getR g 5 a0 3 10 rfl (by decide) rfl rfl q_445 z1 dX5_openAt_94 ?_
  refine V_iload_n g 2 dX5_openAt_97 rfl ?_
  refine V_iload_n g 3 dX5_openAt_98 rfl ?_
  obtain ⟨z23, hf⟩ := nz_some hf
  obtain ⟨h24, hf⟩ := ckf hf
  obtain ⟨s25, es25, hf⟩ := lt_some hf
  refine V_iast g es25 z23 h24 dX5_openAt_99 ?_
  refine V_aload_n g 1 dX5_openAt_100 rfl ?_
  refine V_getR g 5 a0 4 10 rfl (by decide) rfl rfl q_448 z1 dX5_openAt_101 ?_
  refine V_iload_n g 2 dX5_openAt_104 rfl ?_
  refine V_iconst (v := 0) g dX5_openAt_105 (by decide) ?_
  obtain ⟨z26, hf⟩ := nz_some hf
  obtain ⟨h27, hf⟩ := ckf hf
  obtain ⟨s28, es28, hf⟩ := lt_some hf
  refine V_iast g es28 z26 h27 dX5_openAt_106 ?_
  refine V_aload_n g 1 dX5_openAt_107 rfl ?_
  refine V_getR g 5 a0 5 11 rfl (by decide) rfl rfl q_450 z1 dX5_openAt_108 ?_
  refine V_iload_n g 2 dX5_openAt_111 rfl ?_
  refine V_lconst (v := 0) g dX5_openAt_112 (by decide) ?_
  obtain ⟨z29, hf⟩ := nz_some hf
  obtain ⟨h30, hf⟩ := ckf hf
  obtain ⟨s31, es31, hf⟩ := lt_some hf
  refine V_last g es31 z29 h30 dX5_openAt_113 ?_
  refine V_aload_n g 1 dX5_openAt_114 rfl ?_
  refine V_getR g 5 a0 6 10 rfl (by decide) rfl rfl q_452 z1 dX5_openAt_115 ?_
  refine V_iload_n g 2 dX5_openAt_118 rfl ?_
  refine V_iload_n g 4 dX5_openAt_119 rfl ?_
  obtain ⟨z32, hf⟩ := nz_some hf
  obtain ⟨h33, hf⟩ := ckf hf
  obtain ⟨s34, es34, hf⟩ := lt_some hf
  refine V_iast g es34 z32 h33 dX5_openAt_120 ?_
  refine V_aload_n g 1 dX5_openAt_121 rfl ?_
  refine V_getR g 5 a0 7 10 rfl (by decide) rfl rfl q_454 z1 dX5_openAt_122 ?_
  refine V_iload_n g 2 dX5_openAt_125 rfl ?_
  refine V_iload_n g 4 dX5_openAt_126 rfl ?_
  obtain ⟨z35, hf⟩ := nz_some hf
  obtain ⟨h36, hf⟩ := ckf hf
  obtain ⟨s37, es37, hf⟩ := lt_some hf
  refine V_iast g es37 z35 h36 dX5_openAt_127 ?_
  refine V_aload_n g 1 dX5_openAt_128 rfl ?_
  refine V_dup g dX5_openAt_129 rfl ?_
  refine V_getI g 5 a0 8 rfl (by decide) rfl q_456 z1 dX5_openAt_130 ?_
  refine V_iconst (v := 1) g dX5_openAt_133 (by decide) ?_
  refine V_iadd g dX5_openAt_134 ?_
  obtain ⟨s38, es38, hf⟩ := lt_some hf
  refine V_putI g 5 a0 8 es38 rfl (by decide) rfl q_456 z1 (Or.inl rfl) pf_5_8 dX5_openAt_135 ?_
  cases hf
  exact V_return g f dX5_openAt_138
set_option maxRecDepth 20000 in
theorem t_X5_add_b63 {E : ET} {fu : Nat} {s' : St} (g : GX E "ThinSeries$Series" cX5_add 6 3) (f : FX E "add" none []) {s : St} {l0 : Nat} {l2 : Int32} {l5 : Int32} (hf : f_X5_add_b63 fu s l0 l2 l5 = some s') : V E 6 (QE E (s', .inl none)) s 63 [(0, vR 5 l0), (2, vI l2), (5, vI l5)] [] := by
  unfold f_X5_add_b63 at hf
  refine V_aload_n g 0 dX5_add_63 rfl ?_
  obtain ⟨z19, hf⟩ := nz_some hf
  refine V_getR g 5 l0 4 10 rfl (by decide) rfl rfl q_448 z19 dX5_add_64 ?_
  refine V_iload g 2 dX5_add_67 rfl ?_
  refine V_dup2 g dX5_add_69 rfl rfl ?_
  obtain ⟨z20, hf⟩ := nz_some hf
  obtain ⟨h21, hf⟩ := ckf hf
  refine V_iald g z20 h21 dX5_add_70 ?_
  refine V_iconst (v := 1) g dX5_add_71 (by decide) ?_
  refine V_iadd g dX5_add_72 ?_
  obtain ⟨h22, hf⟩ := ckf hf
  obtain ⟨s23, es23, hf⟩ := lt_some hf
  refine V_iast g es23 z20 h22 dX5_add_73 ?_
  refine V_aload_n g 0 dX5_add_74 rfl ?_
  refine V_getR g 5 l0 5 11 rfl (by decide) rfl rfl q_450 z19 dX5_add_75 ?_
  refine V_iload g 2 dX5_add_78 rfl ?_
  refine V_dup2 g dX5_add_80 rfl rfl ?_
  obtain ⟨z24, hf⟩ := nz_some hf
  obtain ⟨h25, hf⟩ := ckf hf
  refine V_lald g z24 h25 dX5_add_81 ?_
  refine V_iload_n g 1 dX5_add_82 rfl ?_
  refine V_i2l g dX5_add_83 ?_
  refine V_ladd g dX5_add_84 ?_
  obtain ⟨h26, hf⟩ := ckf hf
  obtain ⟨s27, es27, hf⟩ := lt_some hf
  refine V_last g es27 z24 h26 dX5_add_85 ?_
  refine V_aload_n g 0 dX5_add_86 rfl ?_
  refine V_getR g 5 l0 6 10 rfl (by decide) rfl rfl q_452 z19 dX5_add_87 ?_
  refine V_iload g 2 dX5_add_90 rfl ?_
  refine V_aload_n g 0 dX5_add_92 rfl ?_
  refine V_getR g 5 l0 6 10 rfl (by decide) rfl rfl q_452 z19 dX5_add_93 ?_
  refine V_iload g 2 dX5_add_96 rfl ?_
  obtain ⟨z28, hf⟩ := nz_some hf
  obtain ⟨h29, hf⟩ := ckf hf
  refine V_iald g z28 h29 dX5_add_98 ?_
  refine V_iload_n g 1 dX5_add_99 rfl ?_
  obtain ⟨s30, x31, hc, hf⟩ := bI_some hf
  refine cS1 g [vI (gI s27 10 (gR s27 5 l0 6) (ix l5)), vI l2] [vI l5, vR 10 (gR s27 5 l0 6)] s30 (vI x31) cf_J9_min_7cf53 (t_J9_min_7cf53 g.2.2.2.2.2.2.1 hc) (by decide) q_524 (Nat.le_of_ble_eq_true rfl) dX5_add_100 ?_ rfl
  obtain ⟨h32, hf⟩ := ckf hf
  obtain ⟨s33, es33, hf⟩ := lt_some hf
  refine V_iast g es33 z28 h32 dX5_add_103 ?_
  refine V_aload_n g 0 dX5_add_104 rfl ?_
  refine V_getR g 5 l0 7 10 rfl (by decide) rfl rfl q_454 z19 dX5_add_105 ?_
  refine V_iload g 2 dX5_add_108 rfl ?_
  refine V_aload_n g 0 dX5_add_110 rfl ?_
  refine V_getR g 5 l0 7 10 rfl (by decide) rfl rfl q_454 z19 dX5_add_111 ?_
  refine V_iload g 2 dX5_add_114 rfl ?_
  obtain ⟨z34, hf⟩ := nz_some hf
  obtain ⟨h35, hf⟩ := ckf hf
  refine V_iald g z34 h35 dX5_add_116 ?_
  refine V_iload_n g 1 dX5_add_117 rfl ?_
  obtain ⟨s36, x37, hc, hf⟩ := bI_some hf
  refine cS1 g [vI (gI s33 10 (gR s33 5 l0 7) (ix l5)), vI l2] [vI l5, vR 10 (gR s33 5 l0 7)] s36 (vI x37) cf_J9_max_7cf53 (t_J9_max_7cf53 g.2.2.2.2.2.2.1 hc) (by decide) q_527 (Nat.le_of_ble_eq_true rfl) dX5_add_118 ?_ rfl
  obtain ⟨h38, hf⟩ := ckf hf
  obtain ⟨s39, es39, hf⟩ := lt_some hf
  refine V_iast g es39 z34 h38 dX5_add_121 ?_
  cases hf
  exact V_return g f dX5_add_122
set_option maxRecDepth 20000 in
theorem t_X5_add {G : GT} {l : Launch} (hl : l.stackTraces = false) {fu : Nat} {s s' : St} {a0 : Nat} {a1 : Int32} {a2 : Int32} (hf : f_X5_add fu s a0 a1 a2 = some s') : MetG G l yX5_add (.code yX5_add cX5_add 6 none) 3 s [vR 5 a0, vI a1, vI a2] (s', .inl none) := by
  refine MetG_of hl (by decide +kernel) (Nat.le_of_ble_eq_true rfl) (fun E g f eG eL => ?_)
  subst eG; subst eL
  have g : GX E "ThinSeries$Series" cX5_add 6 3 := g
  have f : FX E "add" none [] := f
  show V E 6 (QE E (s', .inl none)) s 0 [(0, vR 5 a0), (1, vI a1), (2, vI a2)] []
  unfold f_X5_add at hf
  refine V_aload_n g 0 dX5_add_0 rfl ?_
  refine V_iload_n g 1 dX5_add_1 rfl ?_
  obtain ⟨z1, hf⟩ := nz_some hf
  obtain ⟨s2, x3, hc, hf⟩ := bI_some hf
  refine cV1 g [vI a1] [] s2 (vI x3) cf_X5_tierOf (t_X5_tierOf g.2.2.2.2.2.2.1 hc) (RC_own g rfl z1) z1 (by decide) q_511 (Nat.le_of_ble_eq_true rfl) dX5_add_2 ?_ rfl
  refine V_istore_n g [(3, vI x3), (0, vR 5 a0), (1, vI a1), (2, vI a2)] dX5_add_5 rfl (by decide) rfl ?_
  refine V_iload_n g 0 dX5_add_6 rfl ?_
  refine V_iconst (v := (-1)) g dX5_add_7 (by decide) ?_
  refine V_icmp_ne g 12 dX5_add_8 (by decide) (fun c4 => ?_) (fun c4 => ?_)
  · have hf := it_f hf c4
    refine V_iload_n g 2 dX5_add_12 rfl ?_
    refine V_aload_n g 1 dX5_add_13 rfl ?_
    refine V_getR g 5 a0 0 2 rfl (by decide) rfl rfl q_441 z1 dX5_add_14 ?_
    obtain ⟨z5, hf⟩ := nz_some hf
    refine V_getR g 2 (gR s2 5 a0 0) 0 10 rfl (by decide) rfl rfl q_287 z5 dX5_add_17 ?_
    refine V_iload_n g 0 dX5_add_20 rfl ?_
    obtain ⟨z6, hf⟩ := nz_some hf
    obtain ⟨h7, hf⟩ := ckf hf
    refine V_iald g z6 h7 dX5_add_21 ?_
    obtain ⟨s8, x9, hc, hf⟩ := bI_some hf
    refine cN1 g [vI a1, vI (gI s2 10 (gR s2 2 (gR s2 5 a0 0) 0) (ix x3))] [] s8 (vI x9) cf_X8_multipleUpTo (t_X8_multipleUpTo g.2.2.2.2.2.2.1 hc) (by decide) q_519 (Nat.le_of_ble_eq_true rfl) dX5_add_22 ?_ rfl
    refine V_istore g [(4, vI x9), (3, vI x3), (0, vR 5 a0), (1, vI a1), (2, vI a2)] dX5_add_25 rfl (by decide) rfl ?_
    refine V_aload_n g 2 dX5_add_27 rfl ?_
    refine V_iload g 0 dX5_add_28 rfl ?_
    obtain ⟨s10, x11, hc, hf⟩ := bI_some hf
    refine cV1 g [vI x9] [] s10 (vI x11) cf_X5_firstFrom (t_X5_firstFrom g.2.2.2.2.2.2.1 hc) (RC_own g rfl z1) z1 (by decide) q_536 (Nat.le_of_ble_eq_true rfl) dX5_add_30 ?_ rfl
    refine V_istore g [(5, vI x11), (4, vI x9), (3, vI x3), (0, vR 5 a0), (1, vI a1), (2, vI a2)] dX5_add_33 rfl (by decide) rfl ?_
    refine V_aload_n g 3 dX5_add_35 rfl ?_
    refine V_iload g 0 dX5_add_36 rfl ?_
    refine V_iload g 1 dX5_add_38 rfl ?_
    obtain ⟨s12, x13, hc, hf⟩ := bI_some hf
    refine cV1 g [vI x11, vI x9] [] s12 (vI x13) cf_X5_hasStart (t_X5_hasStart g.2.2.2.2.2.2.1 hc) (RC_own g rfl z1) z1 (by decide) q_540 (Nat.le_of_ble_eq_true rfl) dX5_add_40 ?_ rfl
    refine V_if_ne g 63 dX5_add_43 (by decide) (fun c14 => ?_) (fun c14 => ?_)
    · have hf := it_f hf c14
      refine V_sub [(0, vR 5 a0), (2, vI a2), (5, vI x11)] [3, 5, 0] rfl ?_
      exact t_X5_add_b63 g f hf
    · have hf := it_t hf c14
      refine V_aload_n g 3 dX5_add_46 rfl ?_
      obtain ⟨s15, x16, hc, hf⟩ := bI_some hf
      refine cV1 g [] [] s15 (vI x16) cf_X5_makeRoom (t_X5_makeRoom g.2.2.2.2.2.2.1 hc) (RC_own g rfl z1) z1 (by decide) q_544 (Nat.le_of_ble_eq_true rfl) dX5_add_47 ?_ rfl
      refine V_if_ne g 54 dX5_add_50 (by decide) (fun c17 => ?_) (fun c17 => ?_)
      · have hf := it_f hf c17
        refine V_aload_n g 3 dX5_add_54 rfl ?_
        refine V_iload g 0 dX5_add_55 rfl ?_
        refine V_iload g 1 dX5_add_57 rfl ?_
        refine V_iload_n g 5 dX5_add_59 rfl ?_
        obtain ⟨s18, hc, hf⟩ := bV_some hf
        refine cV0 g [vI x11, vI x9, vI a2] [] s18 cf_X5_openAt (t_X5_openAt g.2.2.2.2.2.2.1 hc) (RC_own g rfl z1) z1 (by decide) q_569 (Nat.le_of_ble_eq_true rfl) dX5_add_60 ?_ rfl
        refine V_sub [(0, vR 5 a0), (2, vI a2), (5, vI x11)] [3, 5, 0] rfl ?_
        exact t_X5_add_b63 g f hf
      · have hf := it_t hf c17
        cases hf
        exact V_return g f dX5_add_53
  · have hf := it_t hf c4
    cases hf
    exact V_return g f dX5_add_11
set_option maxRecDepth 20000 in
theorem t_X8_place {G : GT} {l : Launch} (hl : l.stackTraces = false) {fu : Nat} {s s' : St} {a0 : Nat} {a1 : Int32} {a2 : Int32} {a3 : Int32} {w' : Int32} (hf : f_X8_place fu s a0 a1 a2 a3 = some (s', w')) : MetG G l yX8_place (.code yX8_place cX8_place 5 (some .int)) 5 s [vR 8 a0, vI a1, vI a2, vI a3] (s', .inl (some (vI w'))) := by
  refine MetG_of hl (by decide +kernel) (Nat.le_of_ble_eq_true rfl) (fun E g f eG eL => ?_)
  subst eG; subst eL
  have g : GX E "ThinSeries" cX8_place 5 5 := g
  have f : FX E "place" (some .int) [] := f
  show V E 5 (QE E (s', .inl (some (vI w')))) s 0 [(0, vR 8 a0), (1, vI a1), (2, vI a2), (3, vI a3)] []
  unfold f_X8_place at hf
  refine V_aload_n g 0 dX8_place_0 rfl ?_
  refine V_iload_n g 1 dX8_place_1 rfl ?_
  refine V_iload_n g 2 dX8_place_2 rfl ?_
  obtain ⟨z1, hf⟩ := nz_some hf
  obtain ⟨s2, x3, hc, hf⟩ := bI_some hf
  refine cV1 g [vI a1, vI a2] [] s2 (vR 5 x3) cf_X8_bring (t_X8_bring g.2.2.2.2.2.2.1 hc) (RC_own g rfl z1) z1 (by decide) q_490 (Nat.le_of_ble_eq_true rfl) dX8_place_3 ?_ rfl
  refine V_astore g [(4, vR 5 x3), (0, vR 8 a0), (1, vI a1), (2, vI a2), (3, vI a3)] dX8_place_6 rfl (by decide) rfl ?_
  refine V_aload g 0 dX8_place_8 rfl ?_
  refine V_iload_n g 3 dX8_place_10 rfl ?_
  refine V_iload_n g 4 dX8_place_11 rfl ?_
  obtain ⟨z4, hf⟩ := nz_some hf
  obtain ⟨s5, hc, hf⟩ := bV_some hf
  refine cV0 g [vI a2, vI a3] [] s5 cf_X5_add (t_X5_add g.2.2.2.2.2.2.1 hc) (RC_own g rfl z4) z4 (by decide) q_532 (Nat.le_of_ble_eq_true rfl) dX8_place_12 ?_ rfl
  refine V_aload g 0 dX8_place_15 rfl ?_
  refine V_iload_n g 3 dX8_place_17 rfl ?_
  obtain ⟨s6, x7, hc, hf⟩ := bI_some hf
  refine cV1 g [vI a2] [] s6 (vI x7) cf_X5_tierOf (t_X5_tierOf g.2.2.2.2.2.2.1 hc) (RC_own g rfl z4) z4 (by decide) q_573 (Nat.le_of_ble_eq_true rfl) dX8_place_18 ?_ rfl
  cases hf
  exact V_ireturn g f dX8_place_21
set_option maxRecDepth 20000 in
theorem t_X8_put_b23 {E : ET} {fu : Nat} {s' : St} {w' : Int32} (g : GX E "ThinSeries" cX8_put 5 6) (f : FX E "put" (some .int) []) {s : St} {l0 : Nat} (hf : f_X8_put_b23 fu s l0 = some (s', w')) : V E 5 (QE E (s', .inl (some (vI w')))) s 23 [(0, vR 8 l0)] [] := by
  unfold f_X8_put_b23 at hf
  refine V_aload_n g 0 dX8_put_23 rfl ?_
  refine V_iconst (v := 1) g dX8_put_24 (by decide) ?_
  refine V_iconst (v := 0) g dX8_put_25 (by decide) ?_
  refine V_iconst (v := (-1)) g dX8_put_26 (by decide) ?_
  refine V_iconst (v := (-1)) g dX8_put_27 (by decide) ?_
  obtain ⟨z19, hf⟩ := nz_some hf
  obtain ⟨s20, hc, hf⟩ := bV_some hf
  refine cV0 g [vI 1, vI 0, vI ((-1)), vI ((-1))] [] s20 cf_X8_explain (t_X8_explain g.2.2.2.2.2.2.1 hc) (RC_own g rfl z19) z19 (by decide) q_399 (Nat.le_of_ble_eq_true rfl) dX8_put_28 ?_ rfl
  refine V_iconst (v := (-1)) g dX8_put_31 (by decide) ?_
  cases hf
  exact V_ireturn g f dX8_put_32
set_option maxRecDepth 20000 in
theorem t_X8_put {G : GT} {l : Launch} (hl : l.stackTraces = false) {fu : Nat} {s s' : St} {a0 : Nat} {a1 : Int32} {a2 : Int32} {a3 : Int32} {w' : Int32} (hf : f_X8_put fu s a0 a1 a2 a3 = some (s', w')) : MetG G l yX8_put (.code yX8_put cX8_put 5 (some .int)) 6 s [vR 8 a0, vI a1, vI a2, vI a3] (s', .inl (some (vI w'))) := by
  refine MetG_of hl (by decide +kernel) (Nat.le_of_ble_eq_true rfl) (fun E g f eG eL => ?_)
  subst eG; subst eL
  have g : GX E "ThinSeries" cX8_put 5 6 := g
  have f : FX E "put" (some .int) [] := f
  show V E 5 (QE E (s', .inl (some (vI w')))) s 0 [(0, vR 8 a0), (1, vI a1), (2, vI a2), (3, vI a3)] []
  unfold f_X8_put at hf
  refine V_iload_n g 1 dX8_put_0 rfl ?_
  obtain ⟨s1, x2, hc, hf⟩ := bI_some hf
  refine cS1 g [vI a1] [] s1 (vI x2) cf_X8_isId (t_X8_isId g.2.2.2.2.2.2.1 hc) (by decide) q_386 (Nat.le_of_ble_eq_true rfl) dX8_put_1 ?_ rfl
  refine V_if_eq g 23 dX8_put_4 (by decide) (fun c3 => ?_) (fun c3 => ?_)
  · have hf := it_t hf c3
    refine V_sub [(0, vR 8 a0)] [0] rfl ?_
    exact t_X8_put_b23 g f hf
  · have hf := it_f hf c3
    refine V_iload_n g 2 dX8_put_7 rfl ?_
    refine V_i2l g dX8_put_8 ?_
    obtain ⟨s4, x5, hc, hf⟩ := bI_some hf
    refine cS1 g [vJ (Int32.toInt64 a2)] [] s4 (vI x5) cf_X8_isTime (t_X8_isTime g.2.2.2.2.2.2.1 hc) (by decide) q_389 (Nat.le_of_ble_eq_true rfl) dX8_put_9 ?_ rfl
    refine V_if_eq g 23 dX8_put_12 (by decide) (fun c6 => ?_) (fun c6 => ?_)
    · have hf := it_t hf c6
      refine V_sub [(0, vR 8 a0)] [0] rfl ?_
      exact t_X8_put_b23 g f hf
    · have hf := it_f hf c6
      refine V_iload_n g 3 dX8_put_15 rfl ?_
      refine V_i2l g dX8_put_16 ?_
      obtain ⟨s7, x8, hc, hf⟩ := bI_some hf
      refine cS1 g [vJ (Int32.toInt64 a3)] [] s7 (vI x8) cf_X8_isValue (t_X8_isValue g.2.2.2.2.2.2.1 hc) (by decide) q_394 (Nat.le_of_ble_eq_true rfl) dX8_put_17 ?_ rfl
      refine V_if_ne g 33 dX8_put_20 (by decide) (fun c9 => ?_) (fun c9 => ?_)
      · have hf := it_f hf c9
        refine V_aload_n g 0 dX8_put_33 rfl ?_
        refine V_aload_n g 0 dX8_put_34 rfl ?_
        obtain ⟨z10, hf⟩ := nz_some hf
        refine V_getR g 8 a0 4 4 rfl (by decide) rfl rfl q_316 z10 dX8_put_35 ?_
        refine V_iload_n g 1 dX8_put_38 rfl ?_
        refine V_iload_n g 2 dX8_put_39 rfl ?_
        obtain ⟨s11, x12, hc, hf⟩ := bI_some hf
        refine cV1 g [vR 4 (gR s7 8 a0 4), vI a1, vI a2] [] s11 (vI x12) cf_X8_latenessIn (t_X8_latenessIn g.2.2.2.2.2.2.1 hc) (RC_own g rfl z10) z10 (by decide) q_403 (Nat.le_of_ble_eq_true rfl) dX8_put_40 ?_ rfl
        refine V_istore g [(4, vI x12), (0, vR 8 a0), (1, vI a1), (2, vI a2), (3, vI a3)] dX8_put_43 rfl (by decide) rfl ?_
        refine V_iload g 0 dX8_put_45 rfl ?_
        refine V_if_le g 66 dX8_put_47 (by decide) (fun c13 => ?_) (fun c13 => ?_)
        · have hf := it_t hf c13
          refine V_aload_n g 1 dX8_put_66 rfl ?_
          refine V_iconst (v := 0) g dX8_put_67 (by decide) ?_
          refine V_iconst (v := 0) g dX8_put_68 (by decide) ?_
          refine V_iconst (v := (-1)) g dX8_put_69 (by decide) ?_
          refine V_iconst (v := (-1)) g dX8_put_70 (by decide) ?_
          obtain ⟨s14, hc, hf⟩ := bV_some hf
          refine cV0 g [vI 0, vI 0, vI ((-1)), vI ((-1))] [] s14 cf_X8_explain (t_X8_explain g.2.2.2.2.2.2.1 hc) (RC_own g rfl z10) z10 (by decide) q_399 (Nat.le_of_ble_eq_true rfl) dX8_put_71 ?_ rfl
          refine V_aload_n g 1 dX8_put_74 rfl ?_
          refine V_iload_n g 2 dX8_put_75 rfl ?_
          refine V_iload_n g 3 dX8_put_76 rfl ?_
          refine V_iload_n g 4 dX8_put_77 rfl ?_
          obtain ⟨s15, x16, hc, hf⟩ := bI_some hf
          refine cV1 g [vI a1, vI a2, vI a3] [] s15 (vI x16) cf_X8_place (t_X8_place g.2.2.2.2.2.2.1 hc) (RC_own g rfl z10) z10 (by decide) q_486 (Nat.le_of_ble_eq_true rfl) dX8_put_78 ?_ rfl
          cases hf
          exact V_ireturn g f dX8_put_81
        · have hf := it_f hf c13
          refine V_aload_n g 1 dX8_put_50 rfl ?_
          refine V_iload_n g 2 dX8_put_51 rfl ?_
          obtain ⟨s17, hc, hf⟩ := bV_some hf
          refine cV0 g [vI a1] [] s17 cf_X8_noteLate (t_X8_noteLate g.2.2.2.2.2.2.1 hc) (RC_own g rfl z10) z10 (by decide) q_428 (Nat.le_of_ble_eq_true rfl) dX8_put_52 ?_ rfl
          refine V_aload_n g 1 dX8_put_55 rfl ?_
          refine V_iconst (v := 2) g dX8_put_56 (by decide) ?_
          refine V_iconst (v := 0) g dX8_put_57 (by decide) ?_
          refine V_iload g 0 dX8_put_58 rfl ?_
          refine V_iconst (v := (-1)) g dX8_put_60 (by decide) ?_
          obtain ⟨s18, hc, hf⟩ := bV_some hf
          refine cV0 g [vI 2, vI 0, vI x12, vI ((-1))] [] s18 cf_X8_explain (t_X8_explain g.2.2.2.2.2.2.1 hc) (RC_own g rfl z10) z10 (by decide) q_399 (Nat.le_of_ble_eq_true rfl) dX8_put_61 ?_ rfl
          refine V_iconst (v := (-1)) g dX8_put_64 (by decide) ?_
          cases hf
          exact V_ireturn g f dX8_put_65
      · have hf := it_t hf c9
        refine V_sub [(0, vR 8 a0)] [0] rfl ?_
        exact t_X8_put_b23 g f hf
set_option maxRecDepth 20000 in
theorem t_X8_placeIfItCanBe_b15 {E : ET} {fu : Nat} {s' : St} {w' : Int32} (g : GX E "ThinSeries" cX8_placeIfItCanBe 6 6) (f : FX E "placeIfItCanBe" (some .boolean) []) {s : St} (hf : f_X8_placeIfItCanBe_b15 fu s = some (s', w')) : V E 6 (QE E (s', .inl (some (vI w')))) s 15 [] [] := by
  unfold f_X8_placeIfItCanBe_b15 at hf
  refine V_iconst (v := 0) g dX8_placeIfItCanBe_15 (by decide) ?_
  obtain ⟨h16, hf⟩ := ckf hf
  cases hf
  exact V_zreturn g f (zb_n h16) dX8_placeIfItCanBe_16
set_option maxRecDepth 20000 in
theorem t_X8_placeIfItCanBe {G : GT} {l : Launch} (hl : l.stackTraces = false) {fu : Nat} {s s' : St} {a0 : Nat} {a1 : Int32} {a2 : Int64} {a3 : Int64} {w' : Int32} (hf : f_X8_placeIfItCanBe fu s a0 a1 a2 a3 = some (s', w')) : MetG G l yX8_placeIfItCanBe (.code yX8_placeIfItCanBe cX8_placeIfItCanBe 6 (some .boolean)) 6 s [vR 8 a0, vI a1, vJ a2, vJ a3] (s', .inl (some (vI w'))) := by
  refine MetG_of hl (by decide +kernel) (Nat.le_of_ble_eq_true rfl) (fun E g f eG eL => ?_)
  subst eG; subst eL
  have g : GX E "ThinSeries" cX8_placeIfItCanBe 6 6 := g
  have f : FX E "placeIfItCanBe" (some .boolean) [] := f
  show V E 6 (QE E (s', .inl (some (vI w')))) s 0 [(0, vR 8 a0), (1, vI a1), (2, vJ a2), (4, vJ a3)] []
  unfold f_X8_placeIfItCanBe at hf
  refine V_lload_n g 2 dX8_placeIfItCanBe_0 rfl ?_
  obtain ⟨s1, x2, hc, hf⟩ := bI_some hf
  refine cS1 g [vJ a2] [] s1 (vI x2) cf_X8_isTime (t_X8_isTime g.2.2.2.2.2.2.1 hc) (by decide) q_389 (Nat.le_of_ble_eq_true rfl) dX8_placeIfItCanBe_1 ?_ rfl
  refine V_if_eq g 15 dX8_placeIfItCanBe_4 (by decide) (fun c3 => ?_) (fun c3 => ?_)
  · have hf := it_t hf c3
    refine V_sub [] [] rfl ?_
    exact t_X8_placeIfItCanBe_b15 g f hf
  · have hf := it_f hf c3
    refine V_lload g 3 dX8_placeIfItCanBe_7 rfl ?_
    obtain ⟨s4, x5, hc, hf⟩ := bI_some hf
    refine cS1 g [vJ a3] [] s4 (vI x5) cf_X8_isValue (t_X8_isValue g.2.2.2.2.2.2.1 hc) (by decide) q_394 (Nat.le_of_ble_eq_true rfl) dX8_placeIfItCanBe_9 ?_ rfl
    refine V_if_ne g 17 dX8_placeIfItCanBe_12 (by decide) (fun c6 => ?_) (fun c6 => ?_)
    · have hf := it_f hf c6
      refine V_aload_n g 0 dX8_placeIfItCanBe_17 rfl ?_
      refine V_aload_n g 0 dX8_placeIfItCanBe_18 rfl ?_
      obtain ⟨z7, hf⟩ := nz_some hf
      refine V_getR g 8 a0 4 4 rfl (by decide) rfl rfl q_316 z7 dX8_placeIfItCanBe_19 ?_
      refine V_iload_n g 1 dX8_placeIfItCanBe_22 rfl ?_
      refine V_lload_n g 2 dX8_placeIfItCanBe_23 rfl ?_
      refine V_l2i g dX8_placeIfItCanBe_24 ?_
      obtain ⟨s8, x9, hc, hf⟩ := bI_some hf
      refine cV1 g [vR 4 (gR s4 8 a0 4), vI a1, vI (Int64.toInt32 a2)] [] s8 (vI x9) cf_X8_latenessIn (t_X8_latenessIn g.2.2.2.2.2.2.1 hc) (RC_own g rfl z7) z7 (by decide) q_403 (Nat.le_of_ble_eq_true rfl) dX8_placeIfItCanBe_25 ?_ rfl
      refine V_if_le g 38 dX8_placeIfItCanBe_28 (by decide) (fun c10 => ?_) (fun c10 => ?_)
      · have hf := it_t hf c10
        refine V_aload_n g 0 dX8_placeIfItCanBe_38 rfl ?_
        refine V_iload_n g 1 dX8_placeIfItCanBe_39 rfl ?_
        refine V_lload_n g 2 dX8_placeIfItCanBe_40 rfl ?_
        refine V_l2i g dX8_placeIfItCanBe_41 ?_
        refine V_lload g 3 dX8_placeIfItCanBe_42 rfl ?_
        refine V_l2i g dX8_placeIfItCanBe_44 ?_
        obtain ⟨s11, x12, hc, hf⟩ := bI_some hf
        refine cV1 g [vI a1, vI (Int64.toInt32 a2), vI (Int64.toInt32 a3)] [] s11 (vI x12) cf_X8_place (t_X8_place g.2.2.2.2.2.2.1 hc) (RC_own g rfl z7) z7 (by decide) q_486 (Nat.le_of_ble_eq_true rfl) dX8_placeIfItCanBe_45 ?_ rfl
        refine V_pop g dX8_placeIfItCanBe_48 rfl ?_
        refine V_iconst (v := 1) g dX8_placeIfItCanBe_49 (by decide) ?_
        obtain ⟨h13, hf⟩ := ckf hf
        cases hf
        exact V_zreturn g f (zb_n h13) dX8_placeIfItCanBe_50
      · have hf := it_f hf c10
        refine V_aload_n g 0 dX8_placeIfItCanBe_31 rfl ?_
        refine V_iload_n g 1 dX8_placeIfItCanBe_32 rfl ?_
        obtain ⟨s14, hc, hf⟩ := bV_some hf
        refine cV0 g [vI a1] [] s14 cf_X8_noteLate (t_X8_noteLate g.2.2.2.2.2.2.1 hc) (RC_own g rfl z7) z7 (by decide) q_428 (Nat.le_of_ble_eq_true rfl) dX8_placeIfItCanBe_33 ?_ rfl
        refine V_iconst (v := 0) g dX8_placeIfItCanBe_36 (by decide) ?_
        obtain ⟨h15, hf⟩ := ckf hf
        cases hf
        exact V_zreturn g f (zb_n h15) dX8_placeIfItCanBe_37
    · have hf := it_t hf c6
      refine V_sub [] [] rfl ?_
      exact t_X8_placeIfItCanBe_b15 g f hf
set_option maxRecDepth 20000 in
theorem t_X8_sheet_b17 {E : ET} {fu : Nat} {s' : St} {w' : Int32} (g : GX E "ThinSeries" cX8_sheet 9 7) (f : FX E "sheet" (some .int) []) {s : St} {l0 : Nat} (hf : f_X8_sheet_b17 fu s l0 = some (s', w')) : V E 9 (QE E (s', .inl (some (vI w')))) s 17 [(0, vR 8 l0)] [] := by
  unfold f_X8_sheet_b17 at hf
  refine V_aload_n g 0 dX8_sheet_17 rfl ?_
  refine V_iconst (v := 1) g dX8_sheet_18 (by decide) ?_
  refine V_iconst (v := 0) g dX8_sheet_19 (by decide) ?_
  refine V_iconst (v := (-1)) g dX8_sheet_20 (by decide) ?_
  refine V_iconst (v := (-1)) g dX8_sheet_21 (by decide) ?_
  obtain ⟨z6, hf⟩ := nz_some hf
  obtain ⟨s7, hc, hf⟩ := bV_some hf
  refine cV0 g [vI 1, vI 0, vI ((-1)), vI ((-1))] [] s7 cf_X8_explain (t_X8_explain g.2.2.2.2.2.2.1 hc) (RC_own g rfl z6) z6 (by decide) q_399 (Nat.le_of_ble_eq_true rfl) dX8_sheet_22 ?_ rfl
  refine V_iconst (v := (-1)) g dX8_sheet_25 (by decide) ?_
  cases hf
  exact V_ireturn g f dX8_sheet_26
set_option maxRecDepth 20000 in
theorem t_X8_sheet_b71 {E : ET} {fu : Nat} {s' : St} {w' : Int32} (g : GX E "ThinSeries" cX8_sheet 9 7) (f : FX E "sheet" (some .int) []) {k33 : St → Nat → Int32 → Int32 → Int32 → Int32 → Int32 → Int32 → Int32 → Int32 → Option (St × Int32)} (hk33 : ∀ (s : St) (l0 : Nat) (l1 : Int32) (l2 : Int32) (l3 : Int32) (l4 : Int32) (l5 : Int32) (l6 : Int32) (l7 : Int32) (l8 : Int32), k33 s l0 l1 l2 l3 l4 l5 l6 l7 l8 = some (s', w') → V E 9 (QE E (s', .inl (some (vI w')))) s 33 [(0, vR 8 l0), (1, vI l1), (2, vI l2), (3, vI l3), (4, vI l4), (5, vI l5), (6, vI l6), (7, vI l7), (8, vI l8)] []) {s : St} {l0 : Nat} {l1 : Int32} {l2 : Int32} {l3 : Int32} {l4 : Int32} {l5 : Int32} {l6 : Int32} {l7 : Int32} {l8 : Int32} (hf : f_X8_sheet_b71 fu k33 s l0 l1 l2 l3 l4 l5 l6 l7 l8 = some (s', w')) : V E 9 (QE E (s', .inl (some (vI w')))) s 71 [(0, vR 8 l0), (1, vI l1), (2, vI l2), (3, vI l3), (4, vI l4), (5, vI l5), (6, vI l6), (7, vI l7), (8, vI l8)] [] := by
  unfold f_X8_sheet_b71 at hf
  obtain ⟨x16, ex16, hf⟩ := lt_some hf
  refine V_iinc g 8 [(8, vI x16), (0, vR 8 l0), (1, vI l1), (2, vI l2), (3, vI l3), (4, vI l4), (5, vI l5), (6, vI l6), (7, vI l7)] dX8_sheet_71 rfl (by rw [ex16]; rfl) (by decide) rfl ?_
  refine V_goto g 33 dX8_sheet_74 (by decide) ?_
  refine V_sub [(0, vR 8 l0), (1, vI l1), (2, vI l2), (3, vI l3), (4, vI l4), (5, vI l5), (6, vI l6), (7, vI l7), (8, vI x16)] [1, 2, 3, 4, 5, 6, 7, 8, 0] rfl ?_
  exact hk33 s l0 l1 l2 l3 l4 l5 l6 l7 x16 hf
set_option maxRecDepth 20000 in
theorem t_X8_sheet_b33 {E : ET} {fu : Nat} {s' : St} {w' : Int32} (g : GX E "ThinSeries" cX8_sheet 9 7) (f : FX E "sheet" (some .int) []) : ∀ (n : Nat) (s : St) (l0 : Nat) (l1 : Int32) (l2 : Int32) (l3 : Int32) (l4 : Int32) (l5 : Int32) (l6 : Int32) (l7 : Int32) (l8 : Int32), f_X8_sheet_b33 fu n s l0 l1 l2 l3 l4 l5 l6 l7 l8 = some (s', w') → V E 9 (QE E (s', .inl (some (vI w')))) s 33 [(0, vR 8 l0), (1, vI l1), (2, vI l2), (3, vI l3), (4, vI l4), (5, vI l5), (6, vI l6), (7, vI l7), (8, vI l8)] [] := by
  intro n
  induction n with
  | zero =>
    intro s l0 l1 l2 l3 l4 l5 l6 l7 l8 hf
    unfold f_X8_sheet_b33 at hf
    exact nomatch hf
  | succ n ih =>
    intro s l0 l1 l2 l3 l4 l5 l6 l7 l8 hf
    unfold f_X8_sheet_b33 at hf
    refine V_iload g 8 dX8_sheet_33 rfl ?_
    refine V_iload_n g 2 dX8_sheet_35 rfl ?_
    refine V_icmp_ge g 77 dX8_sheet_36 (by decide) (fun c8 => ?_) (fun c8 => ?_)
    · have hf := it_t hf c8
      refine V_aload_n g 0 dX8_sheet_77 rfl ?_
      refine V_iconst (v := 0) g dX8_sheet_78 (by decide) ?_
      refine V_iconst (v := 0) g dX8_sheet_79 (by decide) ?_
      refine V_iconst (v := (-1)) g dX8_sheet_80 (by decide) ?_
      refine V_iconst (v := (-1)) g dX8_sheet_81 (by decide) ?_
      obtain ⟨z9, hf⟩ := nz_some hf
      obtain ⟨s10, hc, hf⟩ := bV_some hf
      refine cV0 g [vI 0, vI 0, vI ((-1)), vI ((-1))] [] s10 cf_X8_explain (t_X8_explain g.2.2.2.2.2.2.1 hc) (RC_own g rfl z9) z9 (by decide) q_399 (Nat.le_of_ble_eq_true rfl) dX8_sheet_82 ?_ rfl
      refine V_iload g 7 dX8_sheet_85 rfl ?_
      cases hf
      exact V_ireturn g f dX8_sheet_87
    · have hf := it_f hf c8
      refine V_aload_n g 0 dX8_sheet_39 rfl ?_
      refine V_iload_n g 1 dX8_sheet_40 rfl ?_
      refine V_iload_n g 3 dX8_sheet_41 rfl ?_
      refine V_i2l g dX8_sheet_42 ?_
      refine V_iload g 8 dX8_sheet_43 rfl ?_
      refine V_i2l g dX8_sheet_45 ?_
      refine V_iload g 4 dX8_sheet_46 rfl ?_
      refine V_i2l g dX8_sheet_48 ?_
      refine V_lmul g dX8_sheet_49 ?_
      refine V_ladd g dX8_sheet_50 ?_
      refine V_iload g 5 dX8_sheet_51 rfl ?_
      refine V_i2l g dX8_sheet_53 ?_
      refine V_iload g 8 dX8_sheet_54 rfl ?_
      refine V_i2l g dX8_sheet_56 ?_
      refine V_iload g 6 dX8_sheet_57 rfl ?_
      refine V_i2l g dX8_sheet_59 ?_
      refine V_lmul g dX8_sheet_60 ?_
      refine V_ladd g dX8_sheet_61 ?_
      obtain ⟨z11, hf⟩ := nz_some hf
      obtain ⟨s12, x13, hc, hf⟩ := bI_some hf
      refine cV1 g [vI l1, vJ ((Int32.toInt64 l3) + ((Int32.toInt64 l8) * (Int32.toInt64 l4))), vJ ((Int32.toInt64 l5) + ((Int32.toInt64 l8) * (Int32.toInt64 l6)))] [] s12 (vI x13) cf_X8_placeIfItCanBe (t_X8_placeIfItCanBe g.2.2.2.2.2.2.1 hc) (RC_own g rfl z11) z11 (by decide) q_604 (Nat.le_of_ble_eq_true rfl) dX8_sheet_62 ?_ rfl
      refine V_if_eq g 71 dX8_sheet_65 (by decide) (fun c14 => ?_) (fun c14 => ?_)
      · have hf := it_t hf c14
        exact t_X8_sheet_b71 g f ih hf
      · have hf := it_f hf c14
        obtain ⟨x15, ex15, hf⟩ := lt_some hf
        refine V_iinc g 7 [(7, vI x15), (0, vR 8 l0), (1, vI l1), (2, vI l2), (3, vI l3), (4, vI l4), (5, vI l5), (6, vI l6), (8, vI l8)] dX8_sheet_68 rfl (by rw [ex15]; rfl) (by decide) rfl ?_
        refine V_sub [(0, vR 8 l0), (1, vI l1), (2, vI l2), (3, vI l3), (4, vI l4), (5, vI l5), (6, vI l6), (7, vI x15), (8, vI l8)] [1, 2, 3, 4, 5, 6, 7, 0, 8] rfl ?_
        exact t_X8_sheet_b71 g f ih hf
set_option maxRecDepth 20000 in
theorem t_X8_sheet {G : GT} {l : Launch} (hl : l.stackTraces = false) {fu : Nat} {s s' : St} {a0 : Nat} {a1 : Int32} {a2 : Int32} {a3 : Int32} {a4 : Int32} {a5 : Int32} {a6 : Int32} {w' : Int32} (hf : f_X8_sheet fu s a0 a1 a2 a3 a4 a5 a6 = some (s', w')) : MetG G l yX8_sheet (.code yX8_sheet cX8_sheet 9 (some .int)) 7 s [vR 8 a0, vI a1, vI a2, vI a3, vI a4, vI a5, vI a6] (s', .inl (some (vI w'))) := by
  refine MetG_of hl (by decide +kernel) (Nat.le_of_ble_eq_true rfl) (fun E g f eG eL => ?_)
  subst eG; subst eL
  have g : GX E "ThinSeries" cX8_sheet 9 7 := g
  have f : FX E "sheet" (some .int) [] := f
  show V E 9 (QE E (s', .inl (some (vI w')))) s 0 [(0, vR 8 a0), (1, vI a1), (2, vI a2), (3, vI a3), (4, vI a4), (5, vI a5), (6, vI a6)] []
  unfold f_X8_sheet at hf
  refine V_iload_n g 1 dX8_sheet_0 rfl ?_
  obtain ⟨s1, x2, hc, hf⟩ := bI_some hf
  refine cS1 g [vI a1] [] s1 (vI x2) cf_X8_isId (t_X8_isId g.2.2.2.2.2.2.1 hc) (by decide) q_386 (Nat.le_of_ble_eq_true rfl) dX8_sheet_1 ?_ rfl
  refine V_if_eq g 17 dX8_sheet_4 (by decide) (fun c3 => ?_) (fun c3 => ?_)
  · have hf := it_t hf c3
    refine V_sub [(0, vR 8 a0)] [0] rfl ?_
    exact t_X8_sheet_b17 g f hf
  · have hf := it_f hf c3
    refine V_iload_n g 2 dX8_sheet_7 rfl ?_
    refine V_if_lt g 17 dX8_sheet_8 (by decide) (fun c4 => ?_) (fun c4 => ?_)
    · have hf := it_t hf c4
      refine V_sub [(0, vR 8 a0)] [0] rfl ?_
      exact t_X8_sheet_b17 g f hf
    · have hf := it_f hf c4
      refine V_iload_n g 2 dX8_sheet_11 rfl ?_
      refine V_bipush (v := 60) g dX8_sheet_12 (by decide) ?_
      refine V_icmp_le g 27 dX8_sheet_14 (by decide) (fun c5 => ?_) (fun c5 => ?_)
      · have hf := it_t hf c5
        refine V_iconst (v := 0) g dX8_sheet_27 (by decide) ?_
        refine V_istore g [(7, vI 0), (0, vR 8 a0), (1, vI a1), (2, vI a2), (3, vI a3), (4, vI a4), (5, vI a5), (6, vI a6)] dX8_sheet_28 rfl (by decide) rfl ?_
        refine V_iconst (v := 0) g dX8_sheet_30 (by decide) ?_
        refine V_istore g [(8, vI 0), (7, vI 0), (0, vR 8 a0), (1, vI a1), (2, vI a2), (3, vI a3), (4, vI a4), (5, vI a5), (6, vI a6)] dX8_sheet_31 rfl (by decide) rfl ?_
        refine V_sub [(0, vR 8 a0), (1, vI a1), (2, vI a2), (3, vI a3), (4, vI a4), (5, vI a5), (6, vI a6), (7, vI 0), (8, vI 0)] [2, 3, 4, 5, 6, 7, 8, 1, 0] rfl ?_
        exact t_X8_sheet_b33 g f _ s1 a0 a1 a2 a3 a4 a5 a6 0 0 hf
      · have hf := it_f hf c5
        refine V_sub [(0, vR 8 a0)] [0] rfl ?_
        exact t_X8_sheet_b17 g f hf
set_option maxRecDepth 20000 in
theorem t_X8_tick_b15 {E : ET} {fu : Nat} {s' : St} {w' : Int32} (g : GX E "ThinSeries" cX8_tick 3 5) (f : FX E "tick" (some .int) []) {s : St} {l0 : Nat} (hf : f_X8_tick_b15 fu s l0 = some (s', w')) : V E 3 (QE E (s', .inl (some (vI w')))) s 15 [(0, vR 8 l0)] [] := by
  unfold f_X8_tick_b15 at hf
  refine V_aload_n g 0 dX8_tick_15 rfl ?_
  refine V_iconst (v := 1) g dX8_tick_16 (by decide) ?_
  refine V_iconst (v := 0) g dX8_tick_17 (by decide) ?_
  refine V_iconst (v := (-1)) g dX8_tick_18 (by decide) ?_
  refine V_iconst (v := (-1)) g dX8_tick_19 (by decide) ?_
  obtain ⟨z12, hf⟩ := nz_some hf
  obtain ⟨s13, hc, hf⟩ := bV_some hf
  refine cV0 g [vI 1, vI 0, vI ((-1)), vI ((-1))] [] s13 cf_X8_explain (t_X8_explain g.2.2.2.2.2.2.1 hc) (RC_own g rfl z12) z12 (by decide) q_399 (Nat.le_of_ble_eq_true rfl) dX8_tick_20 ?_ rfl
  refine V_iconst (v := (-1)) g dX8_tick_23 (by decide) ?_
  cases hf
  exact V_ireturn g f dX8_tick_24
set_option maxRecDepth 20000 in
theorem t_X8_tick {G : GT} {l : Launch} (hl : l.stackTraces = false) {fu : Nat} {s s' : St} {a0 : Nat} {a1 : Int32} {a2 : Int32} {w' : Int32} (hf : f_X8_tick fu s a0 a1 a2 = some (s', w')) : MetG G l yX8_tick (.code yX8_tick cX8_tick 3 (some .int)) 5 s [vR 8 a0, vI a1, vI a2] (s', .inl (some (vI w'))) := by
  refine MetG_of hl (by decide +kernel) (Nat.le_of_ble_eq_true rfl) (fun E g f eG eL => ?_)
  subst eG; subst eL
  have g : GX E "ThinSeries" cX8_tick 3 5 := g
  have f : FX E "tick" (some .int) [] := f
  show V E 3 (QE E (s', .inl (some (vI w')))) s 0 [(0, vR 8 a0), (1, vI a1), (2, vI a2)] []
  unfold f_X8_tick at hf
  refine V_iload_n g 1 dX8_tick_0 rfl ?_
  obtain ⟨s1, x2, hc, hf⟩ := bI_some hf
  refine cS1 g [vI a1] [] s1 (vI x2) cf_X8_isId (t_X8_isId g.2.2.2.2.2.2.1 hc) (by decide) q_386 (Nat.le_of_ble_eq_true rfl) dX8_tick_1 ?_ rfl
  refine V_if_eq g 15 dX8_tick_4 (by decide) (fun c3 => ?_) (fun c3 => ?_)
  · have hf := it_t hf c3
    refine V_sub [(0, vR 8 a0)] [0] rfl ?_
    exact t_X8_tick_b15 g f hf
  · have hf := it_f hf c3
    refine V_iload_n g 2 dX8_tick_7 rfl ?_
    refine V_i2l g dX8_tick_8 ?_
    obtain ⟨s4, x5, hc, hf⟩ := bI_some hf
    refine cS1 g [vJ (Int32.toInt64 a2)] [] s4 (vI x5) cf_X8_isTime (t_X8_isTime g.2.2.2.2.2.2.1 hc) (by decide) q_389 (Nat.le_of_ble_eq_true rfl) dX8_tick_9 ?_ rfl
    refine V_if_ne g 25 dX8_tick_12 (by decide) (fun c6 => ?_) (fun c6 => ?_)
    · have hf := it_f hf c6
      refine V_aload_n g 0 dX8_tick_25 rfl ?_
      refine V_iconst (v := 0) g dX8_tick_26 (by decide) ?_
      refine V_iconst (v := 0) g dX8_tick_27 (by decide) ?_
      refine V_iconst (v := (-1)) g dX8_tick_28 (by decide) ?_
      refine V_iconst (v := (-1)) g dX8_tick_29 (by decide) ?_
      obtain ⟨z7, hf⟩ := nz_some hf
      obtain ⟨s8, hc, hf⟩ := bV_some hf
      refine cV0 g [vI 0, vI 0, vI ((-1)), vI ((-1))] [] s8 cf_X8_explain (t_X8_explain g.2.2.2.2.2.2.1 hc) (RC_own g rfl z7) z7 (by decide) q_399 (Nat.le_of_ble_eq_true rfl) dX8_tick_30 ?_ rfl
      refine V_aload_n g 0 dX8_tick_33 rfl ?_
      refine V_iload_n g 1 dX8_tick_34 rfl ?_
      refine V_iload_n g 2 dX8_tick_35 rfl ?_
      obtain ⟨s9, x10, hc, hf⟩ := bI_some hf
      refine cV1 g [vI a1, vI a2] [] s9 (vR 5 x10) cf_X8_bring (t_X8_bring g.2.2.2.2.2.2.1 hc) (RC_own g rfl z7) z7 (by decide) q_490 (Nat.le_of_ble_eq_true rfl) dX8_tick_36 ?_ rfl
      obtain ⟨z11, hf⟩ := nz_some hf
      refine V_getI g 5 x10 8 rfl (by decide) rfl q_457 z11 dX8_tick_39 ?_
      cases hf
      exact V_ireturn g f dX8_tick_42
    · have hf := it_t hf c6
      refine V_sub [(0, vR 8 a0)] [0] rfl ?_
      exact t_X8_tick_b15 g f hf
set_option maxRecDepth 20000 in
theorem t_X8_known {G : GT} {l : Launch} (hl : l.stackTraces = false) {fu : Nat} {s s' : St} {a0 : Nat} {a1 : Int32} {w' : Nat ⊕ Nat} (hf : f_X8_known fu s a0 a1 = some (s', w')) : MetG G l yX8_known (.code yX8_known cX8_known 2 (some (.object "ThinSeries$Series"))) 6 s [vR 8 a0, vI a1] (s', rR 5 w') := by
  refine MetG_of hl (by decide +kernel) (Nat.le_of_ble_eq_true rfl) (fun E g f eG eL => ?_)
  subst eG; subst eL
  have g : GX E "ThinSeries" cX8_known 2 6 := g
  have f : FX E "known" (some (.object "ThinSeries$Series")) [] := f
  show V E 2 (QE E (s', rR 5 w')) s 0 [(0, vR 8 a0), (1, vI a1)] []
  unfold f_X8_known at hf
  refine V_aload_n g 0 dX8_known_0 rfl ?_
  obtain ⟨z1, hf⟩ := nz_some hf
  refine V_getR g 8 a0 4 4 rfl (by decide) rfl rfl q_316 z1 dX8_known_1 ?_
  refine V_iload_n g 1 dX8_known_4 rfl ?_
  obtain ⟨z2, hf⟩ := nz_some hf
  obtain ⟨s3, x4, hc, hf⟩ := bI_some hf
  refine cV1 g [vI a1] [] s3 (vI x4) cf_X4_knows (t_X4_knows g.2.2.2.2.2.2.1 hc) (RC_own g rfl z2) z2 (by decide) q_407 (Nat.le_of_ble_eq_true rfl) dX8_known_5 ?_ rfl
  refine V_if_ne g 21 dX8_known_8 (by decide) (fun c5 => ?_) (fun c5 => ?_)
  · have hf := it_f hf c5
    refine V_aload_n g 0 dX8_known_21 rfl ?_
    refine V_iload_n g 1 dX8_known_22 rfl ?_
    obtain ⟨s6, x7, hc, hf⟩ := bI_some hf
    refine cV1 g [vI a1] [] s6 (vR 5 x7) cf_X8_rowsOf (t_X8_rowsOf g.2.2.2.2.2.2.1 hc) (RC_own g rfl z1) z1 (by decide) q_432 (Nat.le_of_ble_eq_true rfl) dX8_known_23 ?_ rfl
    cases hf
    exact V_areturn g f (Or.inl ⟨_, rfl⟩) dX8_known_26
  · have hf := it_t hf c5
    obtain ⟨h8, hf⟩ := ckf hf
    cases hf
    exact thN (j := 19) g f (rm_of h8) q_970 q_116 (by decide) rfl (by decide) (Nat.le_of_ble_eq_true rfl) ⟨⟨dX8_known_11, dX8_known_14⟩, Or.inl ⟨dX8_known_15, dX8_known_17, dX8_known_20⟩⟩
set_option maxRecDepth 20000 in
theorem t_X8_needWhat_b9 {E : ET} {fu : Nat} {s' : St} {w' : Nat ⊕ Unit} (g : GX E "ThinSeries" cX8_needWhat 2 6) (f : FX E "needWhat" none []) {s : St} (hf : f_X8_needWhat_b9 fu s = some (s', w')) : V E 2 (QE E (s', rV w')) s 9 [] [] := by
  unfold f_X8_needWhat_b9 at hf
  obtain ⟨h3, hf⟩ := ckf hf
  cases hf
  exact thN (j := 17) g f (rm_of h3) q_970 q_116 (by decide) rfl (by decide) (Nat.le_of_ble_eq_true rfl) ⟨⟨dX8_needWhat_9, dX8_needWhat_12⟩, Or.inl ⟨dX8_needWhat_13, dX8_needWhat_15, dX8_needWhat_18⟩⟩
set_option maxRecDepth 20000 in
theorem t_X8_needWhat {G : GT} {l : Launch} (hl : l.stackTraces = false) {fu : Nat} {s s' : St} {a0 : Int32} {a1 : Int32} {w' : Nat ⊕ Unit} (hf : f_X8_needWhat fu s a0 a1 = some (s', w')) : MetG G l yX8_needWhat (.code yX8_needWhat cX8_needWhat 2 none) 6 s [vI a0, vI a1] (s', rV w') := by
  refine MetG_of hl (by decide +kernel) (Nat.le_of_ble_eq_true rfl) (fun E g f eG eL => ?_)
  subst eG; subst eL
  have g : GX E "ThinSeries" cX8_needWhat 2 6 := g
  have f : FX E "needWhat" none [] := f
  show V E 2 (QE E (s', rV w')) s 0 [(0, vI a0), (1, vI a1)] []
  unfold f_X8_needWhat at hf
  refine V_iload_n g 0 dX8_needWhat_0 rfl ?_
  refine V_if_lt g 9 dX8_needWhat_1 (by decide) (fun c1 => ?_) (fun c1 => ?_)
  · have hf := it_t hf c1
    refine V_sub [] [] rfl ?_
    exact t_X8_needWhat_b9 g f hf
  · have hf := it_f hf c1
    refine V_iload_n g 0 dX8_needWhat_4 rfl ?_
    refine V_iload_n g 1 dX8_needWhat_5 rfl ?_
    refine V_icmp_le g 19 dX8_needWhat_6 (by decide) (fun c2 => ?_) (fun c2 => ?_)
    · have hf := it_t hf c2
      cases hf
      exact V_return g f dX8_needWhat_19
    · have hf := it_f hf c2
      refine V_sub [] [] rfl ?_
      exact t_X8_needWhat_b9 g f hf
set_option maxRecDepth 20000 in
theorem t_X8_quotient_b16 {E : ET} {fu : Nat} {s' : St} {w' : Int32} (g : GX E "ThinSeries" cX8_quotient 3 1) (f : FX E "quotient" (some .int) []) {s : St} {t0 : Int32} (hf : f_X8_quotient_b16 fu s t0 = some (s', w')) : V E 3 (QE E (s', .inl (some (vI w')))) s 16 [] [vI t0] := by
  unfold f_X8_quotient_b16 at hf
  cases hf
  exact V_ireturn g f dX8_quotient_16
set_option maxRecDepth 20000 in
theorem t_X8_quotient {G : GT} {l : Launch} (hl : l.stackTraces = false) {fu : Nat} {s s' : St} {a0 : Int64} {a1 : Int32} {w' : Int32} (hf : f_X8_quotient fu s a0 a1 = some (s', w')) : MetG G l yX8_quotient (.code yX8_quotient cX8_quotient 3 (some .int)) 1 s [vJ a0, vI a1] (s', .inl (some (vI w'))) := by
  refine MetG_of hl (by decide +kernel) (Nat.le_of_ble_eq_true rfl) (fun E g f eG eL => ?_)
  subst eG; subst eL
  have g : GX E "ThinSeries" cX8_quotient 3 1 := g
  have f : FX E "quotient" (some .int) [] := f
  show V E 3 (QE E (s', .inl (some (vI w')))) s 0 [(0, vJ a0), (2, vI a1)] []
  unfold f_X8_quotient at hf
  refine V_iload_n g 1 dX8_quotient_0 rfl ?_
  refine V_iconst (v := 1) g dX8_quotient_1 (by decide) ?_
  refine V_icmp_ge g 9 dX8_quotient_2 (by decide) (fun c1 => ?_) (fun c1 => ?_)
  · have hf := it_t hf c1
    refine V_lload_n g 0 dX8_quotient_9 rfl ?_
    refine V_iload_n g 1 dX8_quotient_10 rfl ?_
    refine V_i2l g dX8_quotient_11 ?_
    obtain ⟨s2, x3, hc, hf⟩ := bI_some hf
    refine cS1 g [vJ a0, vJ (Int32.toInt64 a1)] [] s2 (vJ x3) cf_J9_floorDiv_f86c9 (t_J9_floorDiv_f86c9 g.2.2.2.2.2.2.1 hc) (by decide) q_1069 (Nat.le_of_ble_eq_true rfl) dX8_quotient_12 ?_ rfl
    refine V_l2i g dX8_quotient_15 ?_
    refine V_sub [] [] rfl ?_
    exact t_X8_quotient_b16 g f hf
  · have hf := it_f hf c1
    refine V_iconst (v := 0) g dX8_quotient_5 (by decide) ?_
    refine V_goto g 16 dX8_quotient_6 (by decide) ?_
    refine V_sub [] [] rfl ?_
    exact t_X8_quotient_b16 g f hf
set_option maxRecDepth 20000 in
theorem t_X5_mean {G : GT} {l : Launch} (hl : l.stackTraces = false) {fu : Nat} {s s' : St} {a0 : Nat} {a1 : Int32} {w' : Int32} (hf : f_X5_mean fu s a0 a1 = some (s', w')) : MetG G l yX5_mean (.code yX5_mean cX5_mean 2 (some .int)) 2 s [vR 5 a0, vI a1] (s', .inl (some (vI w'))) := by
  refine MetG_of hl (by decide +kernel) (Nat.le_of_ble_eq_true rfl) (fun E g f eG eL => ?_)
  subst eG; subst eL
  have g : GX E "ThinSeries$Series" cX5_mean 2 2 := g
  have f : FX E "mean" (some .int) [] := f
  show V E 2 (QE E (s', .inl (some (vI w')))) s 0 [(0, vR 5 a0), (1, vI a1)] []
  unfold f_X5_mean at hf
  refine V_aload_n g 0 dX5_mean_0 rfl ?_
  obtain ⟨z1, hf⟩ := nz_some hf
  refine V_getR g 5 a0 5 11 rfl (by decide) rfl rfl q_450 z1 dX5_mean_1 ?_
  refine V_iload_n g 1 dX5_mean_4 rfl ?_
  obtain ⟨z2, hf⟩ := nz_some hf
  obtain ⟨h3, hf⟩ := ckf hf
  refine V_lald g z2 h3 dX5_mean_5 ?_
  refine V_aload_n g 0 dX5_mean_6 rfl ?_
  refine V_getR g 5 a0 4 10 rfl (by decide) rfl rfl q_448 z1 dX5_mean_7 ?_
  refine V_iload_n g 1 dX5_mean_10 rfl ?_
  obtain ⟨z4, hf⟩ := nz_some hf
  obtain ⟨h5, hf⟩ := ckf hf
  refine V_iald g z4 h5 dX5_mean_11 ?_
  obtain ⟨s6, x7, hc, hf⟩ := bI_some hf
  refine cN1 g [vJ (gJ s 11 (gR s 5 a0 5) (ix a1)), vI (gI s 10 (gR s 5 a0 4) (ix a1))] [] s6 (vI x7) cf_X8_quotient (t_X8_quotient g.2.2.2.2.2.2.1 hc) (by decide) q_1066 (Nat.le_of_ble_eq_true rfl) dX5_mean_12 ?_ rfl
  cases hf
  exact V_ireturn g f dX5_mean_15
set_option maxRecDepth 20000 in
theorem t_X5_fact {G : GT} {l : Launch} (hl : l.stackTraces = false) {fu : Nat} {s s' : St} {a0 : Nat} {a1 : Int32} {a2 : Int32} {w' : Int64} (hf : f_X5_fact fu s a0 a1 a2 = some (s', w')) : MetG G l yX5_fact (.code yX5_fact cX5_fact 3 (some .long)) 3 s [vR 5 a0, vI a1, vI a2] (s', .inl (some (vJ w'))) := by
  refine MetG_of hl (by decide +kernel) (Nat.le_of_ble_eq_true rfl) (fun E g f eG eL => ?_)
  subst eG; subst eL
  have g : GX E "ThinSeries$Series" cX5_fact 3 3 := g
  have f : FX E "fact" (some .long) [] := f
  show V E 3 (QE E (s', .inl (some (vJ w')))) s 0 [(0, vR 5 a0), (1, vI a1), (2, vI a2)] []
  unfold f_X5_fact at hf
  refine V_iload_n g 2 dX5_fact_0 rfl ?_
  by_cases c1 : a2 = 0
  · subst c1
    have hf := it_t hf rfl
    refine V_tableIn g 36 dX5_fact_1 (by decide) (by decide) rfl (by decide) ?_
    refine V_aload_n g 0 dX5_fact_36 rfl ?_
    obtain ⟨z2, hf⟩ := nz_some hf
    refine V_getR g 5 a0 3 10 rfl (by decide) rfl rfl q_445 z2 dX5_fact_37 ?_
    refine V_iload_n g 1 dX5_fact_40 rfl ?_
    obtain ⟨z3, hf⟩ := nz_some hf
    obtain ⟨h4, hf⟩ := ckf hf
    refine V_iald g z3 h4 dX5_fact_41 ?_
    refine V_i2l g dX5_fact_42 ?_
    cases hf
    exact V_lreturn g f dX5_fact_43
  · have hf := it_f hf c1
    by_cases c5 : a2 = 1
    · subst c5
      have hf := it_t hf rfl
      refine V_tableIn g 44 dX5_fact_1 (by decide) (by decide) rfl (by decide) ?_
      refine V_aload_n g 0 dX5_fact_44 rfl ?_
      obtain ⟨z6, hf⟩ := nz_some hf
      refine V_getR g 5 a0 4 10 rfl (by decide) rfl rfl q_448 z6 dX5_fact_45 ?_
      refine V_iload_n g 1 dX5_fact_48 rfl ?_
      obtain ⟨z7, hf⟩ := nz_some hf
      obtain ⟨h8, hf⟩ := ckf hf
      refine V_iald g z7 h8 dX5_fact_49 ?_
      refine V_i2l g dX5_fact_50 ?_
      cases hf
      exact V_lreturn g f dX5_fact_51
    · have hf := it_f hf c5
      by_cases c9 : a2 = 2
      · subst c9
        have hf := it_t hf rfl
        refine V_tableIn g 52 dX5_fact_1 (by decide) (by decide) rfl (by decide) ?_
        refine V_aload_n g 0 dX5_fact_52 rfl ?_
        obtain ⟨z10, hf⟩ := nz_some hf
        refine V_getR g 5 a0 5 11 rfl (by decide) rfl rfl q_450 z10 dX5_fact_53 ?_
        refine V_iload_n g 1 dX5_fact_56 rfl ?_
        obtain ⟨z11, hf⟩ := nz_some hf
        obtain ⟨h12, hf⟩ := ckf hf
        refine V_lald g z11 h12 dX5_fact_57 ?_
        cases hf
        exact V_lreturn g f dX5_fact_58
      · have hf := it_f hf c9
        by_cases c13 : a2 = 3
        · subst c13
          have hf := it_t hf rfl
          refine V_tableIn g 59 dX5_fact_1 (by decide) (by decide) rfl (by decide) ?_
          refine V_aload_n g 0 dX5_fact_59 rfl ?_
          obtain ⟨z14, hf⟩ := nz_some hf
          refine V_getR g 5 a0 6 10 rfl (by decide) rfl rfl q_452 z14 dX5_fact_60 ?_
          refine V_iload_n g 1 dX5_fact_63 rfl ?_
          obtain ⟨z15, hf⟩ := nz_some hf
          obtain ⟨h16, hf⟩ := ckf hf
          refine V_iald g z15 h16 dX5_fact_64 ?_
          refine V_i2l g dX5_fact_65 ?_
          cases hf
          exact V_lreturn g f dX5_fact_66
        · have hf := it_f hf c13
          by_cases c17 : a2 = 4
          · subst c17
            have hf := it_t hf rfl
            refine V_tableIn g 67 dX5_fact_1 (by decide) (by decide) rfl (by decide) ?_
            refine V_aload_n g 0 dX5_fact_67 rfl ?_
            obtain ⟨z18, hf⟩ := nz_some hf
            refine V_getR g 5 a0 7 10 rfl (by decide) rfl rfl q_454 z18 dX5_fact_68 ?_
            refine V_iload_n g 1 dX5_fact_71 rfl ?_
            obtain ⟨z19, hf⟩ := nz_some hf
            obtain ⟨h20, hf⟩ := ckf hf
            refine V_iald g z19 h20 dX5_fact_72 ?_
            refine V_i2l g dX5_fact_73 ?_
            cases hf
            exact V_lreturn g f dX5_fact_74
          · have hf := it_f hf c17
            refine V_tableOut g 75 dX5_fact_1 (sw_out (fun v h1 h2 => ?_)) (by decide) ?_
            · rcases (show v = 0 ∨ v = 1 ∨ v = 2 ∨ v = 3 ∨ v = 4 by omega) with rfl | rfl | rfl | rfl | rfl
              · exact c1
              · exact c5
              · exact c9
              · exact c13
              · exact c17
            · skip
              refine V_aload_n g 0 dX5_fact_75 rfl ?_
              refine V_iload_n g 1 dX5_fact_76 rfl ?_
              obtain ⟨z21, hf⟩ := nz_some hf
              obtain ⟨s22, x23, hc, hf⟩ := bI_some hf
              refine cV1 g [vI a1] [] s22 (vI x23) cf_X5_mean (t_X5_mean g.2.2.2.2.2.2.1 hc) (RC_own g rfl z21) z21 (by decide) q_1062 (Nat.le_of_ble_eq_true rfl) dX5_fact_77 ?_ rfl
              refine V_i2l g dX5_fact_80 ?_
              cases hf
              exact V_lreturn g f dX5_fact_81
set_option maxRecDepth 20000 in
theorem t_X0_compares_b94 {E : ET} {fu : Nat} {s' : St} {w' : Int32} (g : GX E "ThinSeries$Alarm" cX0_compares 7 4) (f : FX E "compares" (some .boolean) []) {s : St} {t0 : Int32} (hf : f_X0_compares_b94 fu s t0 = some (s', w')) : V E 7 (QE E (s', .inl (some (vI w')))) s 94 [] [vI t0] := by
  unfold f_X0_compares_b94 at hf
  obtain ⟨h31, hf⟩ := ckf hf
  cases hf
  exact V_zreturn g f (zb_n h31) dX0_compares_94
set_option maxRecDepth 20000 in
theorem t_X0_compares_b113 {E : ET} {fu : Nat} {s' : St} {w' : Int32} (g : GX E "ThinSeries$Alarm" cX0_compares 7 4) (f : FX E "compares" (some .boolean) []) {s : St} {t0 : Int32} (hf : f_X0_compares_b113 fu s t0 = some (s', w')) : V E 7 (QE E (s', .inl (some (vI w')))) s 113 [] [vI t0] := by
  unfold f_X0_compares_b113 at hf
  obtain ⟨h32, hf⟩ := ckf hf
  cases hf
  exact V_zreturn g f (zb_n h32) dX0_compares_113
set_option maxRecDepth 20000 in
theorem t_X0_compares_b132 {E : ET} {fu : Nat} {s' : St} {w' : Int32} (g : GX E "ThinSeries$Alarm" cX0_compares 7 4) (f : FX E "compares" (some .boolean) []) {s : St} {t0 : Int32} (hf : f_X0_compares_b132 fu s t0 = some (s', w')) : V E 7 (QE E (s', .inl (some (vI w')))) s 132 [] [vI t0] := by
  unfold f_X0_compares_b132 at hf
  obtain ⟨h33, hf⟩ := ckf hf
  cases hf
  exact V_zreturn g f (zb_n h33) dX0_compares_132
set_option maxRecDepth 20000 in
theorem t_X0_compares_b38 {E : ET} {fu : Nat} {s' : St} {w' : Int32} (g : GX E "ThinSeries$Alarm" cX0_compares 7 4) (f : FX E "compares" (some .boolean) []) {s : St} {l0 : Nat} {l1 : Int32} {t0 : Int64} (hf : f_X0_compares_b38 fu s l0 l1 t0 = some (s', w')) : V E 7 (QE E (s', .inl (some (vI w')))) s 38 [(0, vR 0 l0), (1, vI l1)] [vJ t0] := by
  unfold f_X0_compares_b38 at hf
  refine V_lstore g [(5, vJ t0), (0, vR 0 l0), (1, vI l1)] dX0_compares_38 rfl (by decide) rfl ?_
  refine V_aload_n g 1 dX0_compares_40 rfl ?_
  obtain ⟨z15, hf⟩ := nz_some hf
  refine V_getR g 0 l0 0 10 rfl (by decide) rfl rfl q_268 z15 dX0_compares_41 ?_
  refine V_iload_n g 2 dX0_compares_44 rfl ?_
  obtain ⟨z16, hf⟩ := nz_some hf
  obtain ⟨h17, hf⟩ := ckf hf
  refine V_iald g z16 h17 dX0_compares_45 ?_
  refine V_iconst (v := 3) g dX0_compares_46 (by decide) ?_
  refine V_irem g dX0_compares_47 (by decide) ?_
  obtain ⟨x19, ex19, hf⟩ := lt_some hf
  refine V_eqI ex19 ?_
  by_cases c20 : x19 = 0
  · subst c20
    have hf := it_t hf rfl
    refine V_lookup g 76 dX0_compares_48 (by decide) rfl (by decide) ?_
    refine V_lload g 0 dX0_compares_76 rfl ?_
    refine V_aload_n g 1 dX0_compares_78 rfl ?_
    refine V_getR g 0 l0 1 10 rfl (by decide) rfl rfl q_269 z15 dX0_compares_79 ?_
    refine V_iload_n g 2 dX0_compares_82 rfl ?_
    obtain ⟨z21, hf⟩ := nz_some hf
    obtain ⟨h22, hf⟩ := ckf hf
    refine V_iald g z21 h22 dX0_compares_83 ?_
    refine V_i2l g dX0_compares_84 ?_
    refine V_lcmp g dX0_compares_85 ?_
    refine V_if_ge g 93 dX0_compares_86 (by decide) (fun c23 => ?_) (fun c23 => ?_)
    · have hf := it_t hf c23
      refine V_iconst (v := 0) g dX0_compares_93 (by decide) ?_
      refine V_sub [] [] rfl ?_
      exact t_X0_compares_b94 g f hf
    · have hf := it_f hf c23
      refine V_iconst (v := 1) g dX0_compares_89 (by decide) ?_
      refine V_goto g 94 dX0_compares_90 (by decide) ?_
      refine V_sub [] [] rfl ?_
      exact t_X0_compares_b94 g f hf
  · have hf := it_f hf c20
    by_cases c24 : x19 = 1
    · subst c24
      have hf := it_t hf rfl
      refine V_lookup g 95 dX0_compares_48 (by decide) rfl (by decide) ?_
      refine V_lload g 0 dX0_compares_95 rfl ?_
      refine V_aload_n g 1 dX0_compares_97 rfl ?_
      refine V_getR g 0 l0 1 10 rfl (by decide) rfl rfl q_269 z15 dX0_compares_98 ?_
      refine V_iload_n g 2 dX0_compares_101 rfl ?_
      obtain ⟨z25, hf⟩ := nz_some hf
      obtain ⟨h26, hf⟩ := ckf hf
      refine V_iald g z25 h26 dX0_compares_102 ?_
      refine V_i2l g dX0_compares_103 ?_
      refine V_lcmp g dX0_compares_104 ?_
      refine V_if_ne g 112 dX0_compares_105 (by decide) (fun c27 => ?_) (fun c27 => ?_)
      · have hf := it_f hf c27
        refine V_iconst (v := 0) g dX0_compares_112 (by decide) ?_
        refine V_sub [] [] rfl ?_
        exact t_X0_compares_b113 g f hf
      · have hf := it_t hf c27
        refine V_iconst (v := 1) g dX0_compares_108 (by decide) ?_
        refine V_goto g 113 dX0_compares_109 (by decide) ?_
        refine V_sub [] [] rfl ?_
        exact t_X0_compares_b113 g f hf
    · have hf := it_f hf c24
      refine V_lookup g 114 dX0_compares_48 (by decide) (lk_out (by decide) (fun q h1 h2 => ?_)) (by decide) ?_
      · simp only [List.mem_cons, List.not_mem_nil, or_false] at h1
        rcases h1 with rfl | rfl
        · exact c20 h2
        · exact c24 h2
      · skip
        refine V_lload g 0 dX0_compares_114 rfl ?_
        refine V_aload_n g 1 dX0_compares_116 rfl ?_
        refine V_getR g 0 l0 1 10 rfl (by decide) rfl rfl q_269 z15 dX0_compares_117 ?_
        refine V_iload_n g 2 dX0_compares_120 rfl ?_
        obtain ⟨z28, hf⟩ := nz_some hf
        obtain ⟨h29, hf⟩ := ckf hf
        refine V_iald g z28 h29 dX0_compares_121 ?_
        refine V_i2l g dX0_compares_122 ?_
        refine V_lcmp g dX0_compares_123 ?_
        refine V_if_le g 131 dX0_compares_124 (by decide) (fun c30 => ?_) (fun c30 => ?_)
        · have hf := it_t hf c30
          refine V_iconst (v := 0) g dX0_compares_131 (by decide) ?_
          refine V_sub [] [] rfl ?_
          exact t_X0_compares_b132 g f hf
        · have hf := it_f hf c30
          refine V_iconst (v := 1) g dX0_compares_127 (by decide) ?_
          refine V_goto g 132 dX0_compares_128 (by decide) ?_
          refine V_sub [] [] rfl ?_
          exact t_X0_compares_b132 g f hf
set_option maxRecDepth 20000 in
theorem t_X0_compares {G : GT} {l : Launch} (hl : l.stackTraces = false) {fu : Nat} {s s' : St} {a0 : Nat} {a1 : Int32} {a2 : Nat} {a3 : Int32} {w' : Int32} (hf : f_X0_compares fu s a0 a1 a2 a3 = some (s', w')) : MetG G l yX0_compares (.code yX0_compares cX0_compares 7 (some .boolean)) 4 s [vR 0 a0, vI a1, vR 5 a2, vI a3] (s', .inl (some (vI w'))) := by
  refine MetG_of hl (by decide +kernel) (Nat.le_of_ble_eq_true rfl) (fun E g f eG eL => ?_)
  subst eG; subst eL
  have g : GX E "ThinSeries$Alarm" cX0_compares 7 4 := g
  have f : FX E "compares" (some .boolean) [] := f
  show V E 7 (QE E (s', .inl (some (vI w')))) s 0 [(0, vR 0 a0), (1, vI a1), (2, vR 5 a2), (3, vI a3)] []
  unfold f_X0_compares at hf
  refine V_aload_n g 0 dX0_compares_0 rfl ?_
  obtain ⟨z1, hf⟩ := nz_some hf
  refine V_getR g 0 a0 0 10 rfl (by decide) rfl rfl q_268 z1 dX0_compares_1 ?_
  refine V_iload_n g 1 dX0_compares_4 rfl ?_
  obtain ⟨z2, hf⟩ := nz_some hf
  obtain ⟨h3, hf⟩ := ckf hf
  refine V_iald g z2 h3 dX0_compares_5 ?_
  refine V_iconst (v := 3) g dX0_compares_6 (by decide) ?_
  refine V_idiv g dX0_compares_7 (by decide) ?_
  obtain ⟨x5, ex5, hf⟩ := lt_some hf
  refine V_istore g [(4, vI x5), (0, vR 0 a0), (1, vI a1), (2, vR 5 a2), (3, vI a3)] dX0_compares_8 ex5 (by decide) rfl ?_
  refine V_iload g 0 dX0_compares_10 rfl ?_
  refine V_bipush (v := 6) g dX0_compares_12 (by decide) ?_
  refine V_icmp_ne g 31 dX0_compares_14 (by decide) (fun c6 => ?_) (fun c6 => ?_)
  · have hf := it_f hf c6
    refine V_aload_n g 3 dX0_compares_31 rfl ?_
    refine V_iload_n g 4 dX0_compares_32 rfl ?_
    refine V_iload g 0 dX0_compares_33 rfl ?_
    obtain ⟨z7, hf⟩ := nz_some hf
    obtain ⟨s8, x9, hc, hf⟩ := bI_some hf
    refine cV1 g [vI a3, vI x5] [] s8 (vJ x9) cf_X5_fact (t_X5_fact g.2.2.2.2.2.2.1 hc) (RC_own g rfl z7) z7 (by decide) q_1150 (Nat.le_of_ble_eq_true rfl) dX0_compares_35 ?_ rfl
    refine V_sub [(0, vR 0 a0), (1, vI a1)] [1, 2] rfl ?_
    exact t_X0_compares_b38 g f hf
  · have hf := it_t hf c6
    refine V_aload_n g 3 dX0_compares_17 rfl ?_
    refine V_aload_n g 3 dX0_compares_18 rfl ?_
    obtain ⟨z10, hf⟩ := nz_some hf
    refine V_getR g 5 a2 3 10 rfl (by decide) rfl rfl q_446 z10 dX0_compares_19 ?_
    refine V_iload_n g 4 dX0_compares_22 rfl ?_
    obtain ⟨z11, hf⟩ := nz_some hf
    obtain ⟨h12, hf⟩ := ckf hf
    refine V_iald g z11 h12 dX0_compares_23 ?_
    obtain ⟨s13, x14, hc, hf⟩ := bI_some hf
    refine cV1 g [vI (gI s 10 (gR s 5 a2 3) (ix a3))] [] s13 (vI x14) cf_X5_tierOf (t_X5_tierOf g.2.2.2.2.2.2.1 hc) (RC_own g rfl z10) z10 (by decide) q_1149 (Nat.le_of_ble_eq_true rfl) dX0_compares_24 ?_ rfl
    refine V_i2l g dX0_compares_27 ?_
    refine V_goto g 38 dX0_compares_28 (by decide) ?_
    refine V_sub [(0, vR 0 a0), (1, vI a1)] [1, 2] rfl ?_
    exact t_X0_compares_b38 g f hf
set_option maxRecDepth 20000 in
theorem t_X0_isSoOf_b113 {E : ET} {fu : Nat} {s' : St} {w' : Int32} (g : GX E "ThinSeries$Alarm" cX0_isSoOf 7 5) (f : FX E "isSoOf" (some .boolean) []) {k5 : St → Nat → Nat → Int32 → Int32 → Int32 → Option (St × Int32)} (hk5 : ∀ (s : St) (l0 : Nat) (l1 : Nat) (l2 : Int32) (l3 : Int32) (l4 : Int32), k5 s l0 l1 l2 l3 l4 = some (s', w') → V E 7 (QE E (s', .inl (some (vI w')))) s 5 [(0, vR 0 l0), (1, vR 5 l1), (2, vI l2), (3, vI l3), (4, vI l4)] []) {s : St} {l0 : Nat} {l1 : Nat} {l2 : Int32} {l3 : Int32} {l4 : Int32} (hf : f_X0_isSoOf_b113 fu k5 s l0 l1 l2 l3 l4 = some (s', w')) : V E 7 (QE E (s', .inl (some (vI w')))) s 113 [(0, vR 0 l0), (1, vR 5 l1), (2, vI l2), (3, vI l3), (4, vI l4)] [] := by
  unfold f_X0_isSoOf_b113 at hf
  obtain ⟨x19, ex19, hf⟩ := lt_some hf
  refine V_iinc g 4 [(4, vI x19), (0, vR 0 l0), (1, vR 5 l1), (2, vI l2), (3, vI l3)] dX0_isSoOf_113 rfl (by rw [ex19]; rfl) (by decide) rfl ?_
  refine V_goto g 5 dX0_isSoOf_116 (by decide) ?_
  refine V_sub [(0, vR 0 l0), (1, vR 5 l1), (2, vI l2), (3, vI l3), (4, vI x19)] [1, 2, 3, 4, 0] rfl ?_
  exact hk5 s l0 l1 l2 l3 x19 hf
set_option maxRecDepth 20000 in
theorem t_X0_isSoOf_b79 {E : ET} {fu : Nat} {s' : St} {w' : Int32} (g : GX E "ThinSeries$Alarm" cX0_isSoOf 7 5) (f : FX E "isSoOf" (some .boolean) []) {k5 : St → Nat → Nat → Int32 → Int32 → Int32 → Option (St × Int32)} (hk5 : ∀ (s : St) (l0 : Nat) (l1 : Nat) (l2 : Int32) (l3 : Int32) (l4 : Int32), k5 s l0 l1 l2 l3 l4 = some (s', w') → V E 7 (QE E (s', .inl (some (vI w')))) s 5 [(0, vR 0 l0), (1, vR 5 l1), (2, vI l2), (3, vI l3), (4, vI l4)] []) {s : St} {l0 : Nat} {l1 : Nat} {l2 : Int32} {l4 : Int32} {t0 : Int32} (hf : f_X0_isSoOf_b79 fu k5 s l0 l1 l2 l4 t0 = some (s', w')) : V E 7 (QE E (s', .inl (some (vI w')))) s 79 [(0, vR 0 l0), (1, vR 5 l1), (2, vI l2), (4, vI l4)] [vI t0] := by
  unfold f_X0_isSoOf_b79 at hf
  refine V_istore_n g [(3, vI t0), (0, vR 0 l0), (1, vR 5 l1), (2, vI l2), (4, vI l4)] dX0_isSoOf_79 rfl (by decide) rfl ?_
  refine V_goto g 113 dX0_isSoOf_80 (by decide) ?_
  refine V_sub [(0, vR 0 l0), (1, vR 5 l1), (2, vI l2), (3, vI t0), (4, vI l4)] [1, 2, 3, 0, 4] rfl ?_
  exact t_X0_isSoOf_b113 g f hk5 hf
set_option maxRecDepth 20000 in
theorem t_X0_isSoOf_b111 {E : ET} {fu : Nat} {s' : St} {w' : Int32} (g : GX E "ThinSeries$Alarm" cX0_isSoOf 7 5) (f : FX E "isSoOf" (some .boolean) []) {k5 : St → Nat → Nat → Int32 → Int32 → Int32 → Option (St × Int32)} (hk5 : ∀ (s : St) (l0 : Nat) (l1 : Nat) (l2 : Int32) (l3 : Int32) (l4 : Int32), k5 s l0 l1 l2 l3 l4 = some (s', w') → V E 7 (QE E (s', .inl (some (vI w')))) s 5 [(0, vR 0 l0), (1, vR 5 l1), (2, vI l2), (3, vI l3), (4, vI l4)] []) {s : St} {l0 : Nat} {l1 : Nat} {l2 : Int32} {l4 : Int32} {t0 : Int32} {t1 : Int32} (hf : f_X0_isSoOf_b111 fu k5 s l0 l1 l2 l4 t0 t1 = some (s', w')) : V E 7 (QE E (s', .inl (some (vI w')))) s 111 [(0, vR 0 l0), (1, vR 5 l1), (2, vI l2), (4, vI l4)] [vI t0, vI t1] := by
  unfold f_X0_isSoOf_b111 at hf
  refine V_ior g dX0_isSoOf_111 ?_
  obtain ⟨x18, ex18, hf⟩ := lt_some hf
  refine V_istore_n g [(3, vI x18), (0, vR 0 l0), (1, vR 5 l1), (2, vI l2), (4, vI l4)] dX0_isSoOf_112 ex18 (by decide) rfl ?_
  refine V_sub [(0, vR 0 l0), (1, vR 5 l1), (2, vI l2), (3, vI x18), (4, vI l4)] [1, 2, 3, 0, 4] rfl ?_
  exact t_X0_isSoOf_b113 g f hk5 hf
set_option maxRecDepth 20000 in
theorem t_X0_isSoOf_b131 {E : ET} {fu : Nat} {s' : St} {w' : Int32} (g : GX E "ThinSeries$Alarm" cX0_isSoOf 7 5) (f : FX E "isSoOf" (some .boolean) []) {s : St} {t0 : Int32} (hf : f_X0_isSoOf_b131 fu s t0 = some (s', w')) : V E 7 (QE E (s', .inl (some (vI w')))) s 131 [] [vI t0] := by
  unfold f_X0_isSoOf_b131 at hf
  obtain ⟨h20, hf⟩ := ckf hf
  cases hf
  exact V_zreturn g f (zb_n h20) dX0_isSoOf_131
set_option maxRecDepth 20000 in
theorem t_X0_isSoOf_b5 {E : ET} {fu : Nat} {s' : St} {w' : Int32} (g : GX E "ThinSeries$Alarm" cX0_isSoOf 7 5) (f : FX E "isSoOf" (some .boolean) []) : ∀ (n : Nat) (s : St) (l0 : Nat) (l1 : Nat) (l2 : Int32) (l3 : Int32) (l4 : Int32), f_X0_isSoOf_b5 fu n s l0 l1 l2 l3 l4 = some (s', w') → V E 7 (QE E (s', .inl (some (vI w')))) s 5 [(0, vR 0 l0), (1, vR 5 l1), (2, vI l2), (3, vI l3), (4, vI l4)] [] := by
  intro n
  induction n with
  | zero =>
    intro s l0 l1 l2 l3 l4 hf
    unfold f_X0_isSoOf_b5 at hf
    exact nomatch hf
  | succ n ih =>
    intro s l0 l1 l2 l3 l4 hf
    unfold f_X0_isSoOf_b5 at hf
    refine V_iload g 4 dX0_isSoOf_5 rfl ?_
    refine V_aload_n g 0 dX0_isSoOf_7 rfl ?_
    obtain ⟨z1, hf⟩ := nz_some hf
    refine V_getI g 0 l0 2 rfl (by decide) rfl q_270 z1 dX0_isSoOf_8 ?_
    refine V_icmp_ge g 119 dX0_isSoOf_11 (by decide) (fun c2 => ?_) (fun c2 => ?_)
    · have hf := it_t hf c2
      refine V_iload_n g 3 dX0_isSoOf_119 rfl ?_
      refine V_iconst (v := 1) g dX0_isSoOf_120 (by decide) ?_
      refine V_iand g dX0_isSoOf_121 ?_
      refine V_iconst (v := 1) g dX0_isSoOf_122 (by decide) ?_
      refine V_icmp_ne g 130 dX0_isSoOf_123 (by decide) (fun c3 => ?_) (fun c3 => ?_)
      · have hf := it_f hf c3
        refine V_iconst (v := 0) g dX0_isSoOf_130 (by decide) ?_
        refine V_sub [] [] rfl ?_
        exact t_X0_isSoOf_b131 g f hf
      · have hf := it_t hf c3
        refine V_iconst (v := 1) g dX0_isSoOf_126 (by decide) ?_
        refine V_goto g 131 dX0_isSoOf_127 (by decide) ?_
        refine V_sub [] [] rfl ?_
        exact t_X0_isSoOf_b131 g f hf
    · have hf := it_f hf c2
      refine V_iload_n g 3 dX0_isSoOf_14 rfl ?_
      refine V_iconst (v := 1) g dX0_isSoOf_15 (by decide) ?_
      refine V_iand g dX0_isSoOf_16 ?_
      obtain ⟨x4, ex4, hf⟩ := lt_some hf
      refine V_istore g [(5, vI x4), (0, vR 0 l0), (1, vR 5 l1), (2, vI l2), (3, vI l3), (4, vI l4)] dX0_isSoOf_17 ex4 (by decide) rfl ?_
      refine V_iload_n g 4 dX0_isSoOf_19 rfl ?_
      refine V_iconst (v := 1) g dX0_isSoOf_20 (by decide) ?_
      refine V_ishr g dX0_isSoOf_21 ?_
      obtain ⟨x5, ex5, hf⟩ := lt_some hf
      refine V_istore g [(6, vI x5), (5, vI x4), (0, vR 0 l0), (1, vR 5 l1), (2, vI l2), (3, vI l3), (4, vI l4)] dX0_isSoOf_22 ex5 (by decide) rfl ?_
      refine V_aload_n g 2 dX0_isSoOf_24 rfl ?_
      refine V_getR g 0 l0 0 10 rfl (by decide) rfl rfl q_268 z1 dX0_isSoOf_25 ?_
      refine V_iload g 6 dX0_isSoOf_28 rfl ?_
      obtain ⟨z6, hf⟩ := nz_some hf
      obtain ⟨h7, hf⟩ := ckf hf
      refine V_iald g z6 h7 dX0_isSoOf_30 ?_
      obtain ⟨x8, ex8, hf⟩ := lt_some hf
      refine V_eqI ex8 ?_
      by_cases c9 : x8 = 100
      · subst c9
        have hf := it_t hf rfl
        refine V_tableIn g 56 dX0_isSoOf_31 (by decide) (by decide) rfl (by decide) ?_
        refine V_iload_n g 5 dX0_isSoOf_56 rfl ?_
        refine V_iconst (v := 1) g dX0_isSoOf_57 (by decide) ?_
        refine V_ixor g dX0_isSoOf_58 ?_
        obtain ⟨x10, ex10, hf⟩ := lt_some hf
        refine V_istore_n g [(3, vI x10), (6, vI x5), (5, vI x4), (0, vR 0 l0), (1, vR 5 l1), (2, vI l2), (4, vI l4)] dX0_isSoOf_59 ex10 (by decide) rfl ?_
        refine V_goto g 113 dX0_isSoOf_60 (by decide) ?_
        refine V_sub [(0, vR 0 l0), (1, vR 5 l1), (2, vI l2), (3, vI x10), (4, vI l4)] [3, 4, 5, 0, 6] rfl ?_
        exact t_X0_isSoOf_b113 g f ih hf
      · have hf := it_f hf c9
        by_cases c11 : x8 = 101
        · subst c11
          have hf := it_t hf rfl
          refine V_tableIn g 63 dX0_isSoOf_31 (by decide) (by decide) rfl (by decide) ?_
          refine V_iload g 1 dX0_isSoOf_63 rfl ?_
          refine V_iconst (v := 1) g dX0_isSoOf_65 (by decide) ?_
          refine V_icmp_ne g 74 dX0_isSoOf_66 (by decide) (fun c12 => ?_) (fun c12 => ?_)
          · have hf := it_f hf c12
            refine V_iload g 0 dX0_isSoOf_74 rfl ?_
            refine V_bipush (v := (-2)) g dX0_isSoOf_76 (by decide) ?_
            refine V_iand g dX0_isSoOf_78 ?_
            refine V_sub [(0, vR 0 l0), (1, vR 5 l1), (2, vI l2), (4, vI l4)] [2, 3, 4, 6] rfl ?_
            exact t_X0_isSoOf_b79 g f ih hf
          · have hf := it_t hf c12
            refine V_iload g 0 dX0_isSoOf_69 rfl ?_
            refine V_goto g 79 dX0_isSoOf_71 (by decide) ?_
            refine V_sub [(0, vR 0 l0), (1, vR 5 l1), (2, vI l2), (4, vI l4)] [2, 3, 4, 6] rfl ?_
            exact t_X0_isSoOf_b79 g f ih hf
        · have hf := it_f hf c11
          by_cases c13 : x8 = 102
          · subst c13
            have hf := it_t hf rfl
            refine V_tableIn g 83 dX0_isSoOf_31 (by decide) (by decide) rfl (by decide) ?_
            refine V_iload g 0 dX0_isSoOf_83 rfl ?_
            refine V_iload g 1 dX0_isSoOf_85 rfl ?_
            refine V_ior g dX0_isSoOf_87 ?_
            obtain ⟨x14, ex14, hf⟩ := lt_some hf
            refine V_istore_n g [(3, vI x14), (6, vI x5), (5, vI x4), (0, vR 0 l0), (1, vR 5 l1), (2, vI l2), (4, vI l4)] dX0_isSoOf_88 ex14 (by decide) rfl ?_
            refine V_goto g 113 dX0_isSoOf_89 (by decide) ?_
            refine V_sub [(0, vR 0 l0), (1, vR 5 l1), (2, vI l2), (3, vI x14), (4, vI l4)] [3, 4, 5, 0, 6] rfl ?_
            exact t_X0_isSoOf_b113 g f ih hf
          · have hf := it_f hf c13
            refine V_tableOut g 92 dX0_isSoOf_31 (sw_out (fun v h1 h2 => ?_)) (by decide) ?_
            · rcases (show v = 100 ∨ v = 101 ∨ v = 102 by omega) with rfl | rfl | rfl
              · exact c9
              · exact c11
              · exact c13
            · skip
              refine V_iload_n g 5 dX0_isSoOf_92 rfl ?_
              refine V_iconst (v := 1) g dX0_isSoOf_93 (by decide) ?_
              refine V_ishl g dX0_isSoOf_94 ?_
              refine V_aload_n g 2 dX0_isSoOf_95 rfl ?_
              refine V_iload g 6 dX0_isSoOf_96 rfl ?_
              refine V_aload_n g 3 dX0_isSoOf_98 rfl ?_
              refine V_iload_n g 4 dX0_isSoOf_99 rfl ?_
              obtain ⟨s15, x16, hc, hf⟩ := bI_some hf
              refine cV1 g [vI l4, vR 5 l1, vI l2] [vI (l3 <<< (1 &&& 31))] s15 (vI x16) cf_X0_compares (t_X0_compares g.2.2.2.2.2.2.1 hc) (RC_own g rfl z1) z1 (by decide) q_1145 (Nat.le_of_ble_eq_true rfl) dX0_isSoOf_100 ?_ rfl
              refine V_if_eq g 110 dX0_isSoOf_103 (by decide) (fun c17 => ?_) (fun c17 => ?_)
              · have hf := it_t hf c17
                refine V_iconst (v := 0) g dX0_isSoOf_110 (by decide) ?_
                refine V_sub [(0, vR 0 l0), (1, vR 5 l1), (2, vI l2), (4, vI l4)] [2, 3, 4, 6] rfl ?_
                exact t_X0_isSoOf_b111 g f ih hf
              · have hf := it_f hf c17
                refine V_iconst (v := 1) g dX0_isSoOf_106 (by decide) ?_
                refine V_goto g 111 dX0_isSoOf_107 (by decide) ?_
                refine V_sub [(0, vR 0 l0), (1, vR 5 l1), (2, vI l2), (4, vI l4)] [2, 3, 4, 6] rfl ?_
                exact t_X0_isSoOf_b111 g f ih hf
set_option maxRecDepth 20000 in
theorem t_X0_isSoOf {G : GT} {l : Launch} (hl : l.stackTraces = false) {fu : Nat} {s s' : St} {a0 : Nat} {a1 : Nat} {a2 : Int32} {w' : Int32} (hf : f_X0_isSoOf fu s a0 a1 a2 = some (s', w')) : MetG G l yX0_isSoOf (.code yX0_isSoOf cX0_isSoOf 7 (some .boolean)) 5 s [vR 0 a0, vR 5 a1, vI a2] (s', .inl (some (vI w'))) := by
  refine MetG_of hl (by decide +kernel) (Nat.le_of_ble_eq_true rfl) (fun E g f eG eL => ?_)
  subst eG; subst eL
  have g : GX E "ThinSeries$Alarm" cX0_isSoOf 7 5 := g
  have f : FX E "isSoOf" (some .boolean) [] := f
  show V E 7 (QE E (s', .inl (some (vI w')))) s 0 [(0, vR 0 a0), (1, vR 5 a1), (2, vI a2)] []
  unfold f_X0_isSoOf at hf
  refine V_iconst (v := 0) g dX0_isSoOf_0 (by decide) ?_
  refine V_istore_n g [(3, vI 0), (0, vR 0 a0), (1, vR 5 a1), (2, vI a2)] dX0_isSoOf_1 rfl (by decide) rfl ?_
  refine V_iconst (v := 0) g dX0_isSoOf_2 (by decide) ?_
  refine V_istore g [(4, vI 0), (3, vI 0), (0, vR 0 a0), (1, vR 5 a1), (2, vI a2)] dX0_isSoOf_3 rfl (by decide) rfl ?_
  refine V_sub [(0, vR 0 a0), (1, vR 5 a1), (2, vI a2), (3, vI 0), (4, vI 0)] [2, 3, 4, 1, 0] rfl ?_
  exact t_X0_isSoOf_b5 g f _ s a0 a1 a2 0 0 hf
set_option maxRecDepth 20000 in
theorem t_X0_isTold_b12 {E : ET} {fu : Nat} {s' : St} {w' : Int32} (g : GX E "ThinSeries$Alarm" cX0_isTold 1 0) (f : FX E "isTold" (some .boolean) []) {s : St} {t0 : Int32} (hf : f_X0_isTold_b12 fu s t0 = some (s', w')) : V E 1 (QE E (s', .inl (some (vI w')))) s 12 [] [vI t0] := by
  unfold f_X0_isTold_b12 at hf
  obtain ⟨h3, hf⟩ := ckf hf
  cases hf
  exact V_zreturn g f (zb_n h3) dX0_isTold_12
set_option maxRecDepth 20000 in
theorem t_X0_isTold {G : GT} {l : Launch} (hl : l.stackTraces = false) {fu : Nat} {s s' : St} {a0 : Nat} {w' : Int32} (hf : f_X0_isTold fu s a0 = some (s', w')) : MetG G l yX0_isTold (.code yX0_isTold cX0_isTold 1 (some .boolean)) 0 s [vR 0 a0] (s', .inl (some (vI w'))) := by
  refine MetG_of hl (by decide +kernel) (Nat.le_of_ble_eq_true rfl) (fun E g f eG eL => ?_)
  subst eG; subst eL
  have g : GX E "ThinSeries$Alarm" cX0_isTold 1 0 := g
  have f : FX E "isTold" (some .boolean) [] := f
  show V E 1 (QE E (s', .inl (some (vI w')))) s 0 [(0, vR 0 a0)] []
  unfold f_X0_isTold at hf
  refine V_aload_n g 0 dX0_isTold_0 rfl ?_
  obtain ⟨z1, hf⟩ := nz_some hf
  refine V_getI g 0 a0 2 rfl (by decide) rfl q_270 z1 dX0_isTold_1 ?_
  refine V_if_le g 11 dX0_isTold_4 (by decide) (fun c2 => ?_) (fun c2 => ?_)
  · have hf := it_t hf c2
    refine V_iconst (v := 0) g dX0_isTold_11 (by decide) ?_
    refine V_sub [] [] rfl ?_
    exact t_X0_isTold_b12 g f hf
  · have hf := it_f hf c2
    refine V_iconst (v := 1) g dX0_isTold_7 (by decide) ?_
    refine V_goto g 12 dX0_isTold_8 (by decide) ?_
    refine V_sub [] [] rfl ?_
    exact t_X0_isTold_b12 g f hf
set_option maxRecDepth 20000 in
theorem t_X5_spanAt_b29 {E : ET} {fu : Nat} {s' : St} {w' : Int32} (g : GX E "ThinSeries$Series" cX5_spanAt 3 2) (f : FX E "spanAt" (some .int) []) {s : St} {t0 : Int32} (hf : f_X5_spanAt_b29 fu s t0 = some (s', w')) : V E 3 (QE E (s', .inl (some (vI w')))) s 29 [] [vI t0] := by
  unfold f_X5_spanAt_b29 at hf
  cases hf
  exact V_ireturn g f dX5_spanAt_29
set_option maxRecDepth 20000 in
theorem t_X5_spanAt {G : GT} {l : Launch} (hl : l.stackTraces = false) {fu : Nat} {s s' : St} {a0 : Nat} {a1 : Int32} {w' : Int32} (hf : f_X5_spanAt fu s a0 a1 = some (s', w')) : MetG G l yX5_spanAt (.code yX5_spanAt cX5_spanAt 3 (some .int)) 2 s [vR 5 a0, vI a1] (s', .inl (some (vI w'))) := by
  refine MetG_of hl (by decide +kernel) (Nat.le_of_ble_eq_true rfl) (fun E g f eG eL => ?_)
  subst eG; subst eL
  have g : GX E "ThinSeries$Series" cX5_spanAt 3 2 := g
  have f : FX E "spanAt" (some .int) [] := f
  show V E 3 (QE E (s', .inl (some (vI w')))) s 0 [(0, vR 5 a0), (1, vI a1)] []
  unfold f_X5_spanAt at hf
  refine V_aload_n g 0 dX5_spanAt_0 rfl ?_
  refine V_aload_n g 0 dX5_spanAt_1 rfl ?_
  obtain ⟨z1, hf⟩ := nz_some hf
  refine V_getR g 5 a0 3 10 rfl (by decide) rfl rfl q_445 z1 dX5_spanAt_2 ?_
  refine V_iload_n g 1 dX5_spanAt_5 rfl ?_
  obtain ⟨z2, hf⟩ := nz_some hf
  obtain ⟨h3, hf⟩ := ckf hf
  refine V_iald g z2 h3 dX5_spanAt_6 ?_
  obtain ⟨s4, x5, hc, hf⟩ := bI_some hf
  refine cV1 g [vI (gI s 10 (gR s 5 a0 3) (ix a1))] [] s4 (vI x5) cf_X5_tierOf (t_X5_tierOf g.2.2.2.2.2.2.1 hc) (RC_own g rfl z1) z1 (by decide) q_511 (Nat.le_of_ble_eq_true rfl) dX5_spanAt_7 ?_ rfl
  refine V_istore_n g [(2, vI x5), (0, vR 5 a0), (1, vI a1)] dX5_spanAt_10 rfl (by decide) rfl ?_
  refine V_iload_n g 0 dX5_spanAt_11 rfl ?_
  refine V_iconst (v := (-1)) g dX5_spanAt_12 (by decide) ?_
  refine V_icmp_ne g 20 dX5_spanAt_13 (by decide) (fun c6 => ?_) (fun c6 => ?_)
  · have hf := it_f hf c6
    refine V_aload_n g 1 dX5_spanAt_20 rfl ?_
    refine V_getR g 5 a0 0 2 rfl (by decide) rfl rfl q_441 z1 dX5_spanAt_21 ?_
    obtain ⟨z7, hf⟩ := nz_some hf
    refine V_getR g 2 (gR s4 5 a0 0) 0 10 rfl (by decide) rfl rfl q_287 z7 dX5_spanAt_24 ?_
    refine V_iload_n g 0 dX5_spanAt_27 rfl ?_
    obtain ⟨z8, hf⟩ := nz_some hf
    obtain ⟨h9, hf⟩ := ckf hf
    refine V_iald g z8 h9 dX5_spanAt_28 ?_
    refine V_sub [] [] rfl ?_
    exact t_X5_spanAt_b29 g f hf
  · have hf := it_t hf c6
    refine V_iconst (v := 1) g dX5_spanAt_16 (by decide) ?_
    refine V_goto g 29 dX5_spanAt_17 (by decide) ?_
    refine V_sub [] [] rfl ?_
    exact t_X5_spanAt_b29 g f hf
set_option maxRecDepth 20000 in
theorem t_X5_isBesideTheOneAhead_b57 {E : ET} {fu : Nat} {s' : St} {w' : Int32} (g : GX E "ThinSeries$Series" cX5_isBesideTheOneAhead 2 3) (f : FX E "isBesideTheOneAhead" (some .boolean) []) {s : St} {t0 : Int32} (hf : f_X5_isBesideTheOneAhead_b57 fu s t0 = some (s', w')) : V E 2 (QE E (s', .inl (some (vI w')))) s 57 [] [vI t0] := by
  unfold f_X5_isBesideTheOneAhead_b57 at hf
  obtain ⟨h18, hf⟩ := ckf hf
  cases hf
  exact V_zreturn g f (zb_n h18) dX5_isBesideTheOneAhead_57
set_option maxRecDepth 20000 in
theorem t_X5_isBesideTheOneAhead_b56 {E : ET} {fu : Nat} {s' : St} {w' : Int32} (g : GX E "ThinSeries$Series" cX5_isBesideTheOneAhead 2 3) (f : FX E "isBesideTheOneAhead" (some .boolean) []) {s : St} (hf : f_X5_isBesideTheOneAhead_b56 fu s = some (s', w')) : V E 2 (QE E (s', .inl (some (vI w')))) s 56 [] [] := by
  unfold f_X5_isBesideTheOneAhead_b56 at hf
  refine V_iconst (v := 0) g dX5_isBesideTheOneAhead_56 (by decide) ?_
  exact t_X5_isBesideTheOneAhead_b57 g f hf
set_option maxRecDepth 20000 in
theorem t_X5_isBesideTheOneAhead {G : GT} {l : Launch} (hl : l.stackTraces = false) {fu : Nat} {s s' : St} {a0 : Nat} {a1 : Int32} {w' : Int32} (hf : f_X5_isBesideTheOneAhead fu s a0 a1 = some (s', w')) : MetG G l yX5_isBesideTheOneAhead (.code yX5_isBesideTheOneAhead cX5_isBesideTheOneAhead 2 (some .boolean)) 3 s [vR 5 a0, vI a1] (s', .inl (some (vI w'))) := by
  refine MetG_of hl (by decide +kernel) (Nat.le_of_ble_eq_true rfl) (fun E g f eG eL => ?_)
  subst eG; subst eL
  have g : GX E "ThinSeries$Series" cX5_isBesideTheOneAhead 2 3 := g
  have f : FX E "isBesideTheOneAhead" (some .boolean) [] := f
  show V E 2 (QE E (s', .inl (some (vI w')))) s 0 [(0, vR 5 a0), (1, vI a1)] []
  unfold f_X5_isBesideTheOneAhead at hf
  refine V_iload_n g 1 dX5_isBesideTheOneAhead_0 rfl ?_
  refine V_if_le g 56 dX5_isBesideTheOneAhead_1 (by decide) (fun c1 => ?_) (fun c1 => ?_)
  · have hf := it_t hf c1
    refine V_sub [] [] rfl ?_
    exact t_X5_isBesideTheOneAhead_b56 g f hf
  · have hf := it_f hf c1
    refine V_aload_n g 0 dX5_isBesideTheOneAhead_4 rfl ?_
    refine V_aload_n g 0 dX5_isBesideTheOneAhead_5 rfl ?_
    obtain ⟨z2, hf⟩ := nz_some hf
    refine V_getR g 5 a0 3 10 rfl (by decide) rfl rfl q_445 z2 dX5_isBesideTheOneAhead_6 ?_
    refine V_iload_n g 1 dX5_isBesideTheOneAhead_9 rfl ?_
    refine V_iconst (v := 1) g dX5_isBesideTheOneAhead_10 (by decide) ?_
    refine V_isub g dX5_isBesideTheOneAhead_11 ?_
    obtain ⟨z3, hf⟩ := nz_some hf
    obtain ⟨h4, hf⟩ := ckf hf
    refine V_iald g z3 h4 dX5_isBesideTheOneAhead_12 ?_
    obtain ⟨s5, x6, hc, hf⟩ := bI_some hf
    refine cV1 g [vI (gI s 10 (gR s 5 a0 3) (ix (a1 - 1)))] [] s5 (vI x6) cf_X5_tierOf (t_X5_tierOf g.2.2.2.2.2.2.1 hc) (RC_own g rfl z2) z2 (by decide) q_511 (Nat.le_of_ble_eq_true rfl) dX5_isBesideTheOneAhead_13 ?_ rfl
    refine V_aload_n g 0 dX5_isBesideTheOneAhead_16 rfl ?_
    refine V_aload_n g 0 dX5_isBesideTheOneAhead_17 rfl ?_
    refine V_getR g 5 a0 3 10 rfl (by decide) rfl rfl q_445 z2 dX5_isBesideTheOneAhead_18 ?_
    refine V_iload_n g 1 dX5_isBesideTheOneAhead_21 rfl ?_
    obtain ⟨z7, hf⟩ := nz_some hf
    obtain ⟨h8, hf⟩ := ckf hf
    refine V_iald g z7 h8 dX5_isBesideTheOneAhead_22 ?_
    obtain ⟨s9, x10, hc, hf⟩ := bI_some hf
    refine cV1 g [vI (gI s5 10 (gR s5 5 a0 3) (ix a1))] [vI x6] s9 (vI x10) cf_X5_tierOf (t_X5_tierOf g.2.2.2.2.2.2.1 hc) (RC_own g rfl z2) z2 (by decide) q_511 (Nat.le_of_ble_eq_true rfl) dX5_isBesideTheOneAhead_23 ?_ rfl
    refine V_icmp_ne g 56 dX5_isBesideTheOneAhead_26 (by decide) (fun c11 => ?_) (fun c11 => ?_)
    · have hf := it_f hf c11
      refine V_sub [] [] rfl ?_
      exact t_X5_isBesideTheOneAhead_b56 g f hf
    · have hf := it_t hf c11
      refine V_aload_n g 0 dX5_isBesideTheOneAhead_29 rfl ?_
      refine V_getR g 5 a0 3 10 rfl (by decide) rfl rfl q_445 z2 dX5_isBesideTheOneAhead_30 ?_
      refine V_iload_n g 1 dX5_isBesideTheOneAhead_33 rfl ?_
      obtain ⟨z12, hf⟩ := nz_some hf
      obtain ⟨h13, hf⟩ := ckf hf
      refine V_iald g z12 h13 dX5_isBesideTheOneAhead_34 ?_
      refine V_aload_n g 0 dX5_isBesideTheOneAhead_35 rfl ?_
      refine V_getR g 5 a0 3 10 rfl (by decide) rfl rfl q_445 z2 dX5_isBesideTheOneAhead_36 ?_
      refine V_iload_n g 1 dX5_isBesideTheOneAhead_39 rfl ?_
      refine V_iconst (v := 1) g dX5_isBesideTheOneAhead_40 (by decide) ?_
      refine V_isub g dX5_isBesideTheOneAhead_41 ?_
      obtain ⟨h14, hf⟩ := ckf hf
      refine V_iald g z12 h14 dX5_isBesideTheOneAhead_42 ?_
      refine V_isub g dX5_isBesideTheOneAhead_43 ?_
      refine V_aload_n g 0 dX5_isBesideTheOneAhead_44 rfl ?_
      refine V_iload_n g 1 dX5_isBesideTheOneAhead_45 rfl ?_
      obtain ⟨s15, x16, hc, hf⟩ := bI_some hf
      refine cV1 g [vI a1] [vI ((gI s9 10 (gR s9 5 a0 3) (ix a1)) - (gI s9 10 (gR s9 5 a0 3) (ix (a1 - 1))))] s15 (vI x16) cf_X5_spanAt (t_X5_spanAt g.2.2.2.2.2.2.1 hc) (RC_own g rfl z2) z2 (by decide) q_1155 (Nat.le_of_ble_eq_true rfl) dX5_isBesideTheOneAhead_46 ?_ rfl
      refine V_icmp_ne g 56 dX5_isBesideTheOneAhead_49 (by decide) (fun c17 => ?_) (fun c17 => ?_)
      · have hf := it_f hf c17
        refine V_sub [] [] rfl ?_
        exact t_X5_isBesideTheOneAhead_b56 g f hf
      · have hf := it_t hf c17
        refine V_iconst (v := 1) g dX5_isBesideTheOneAhead_52 (by decide) ?_
        refine V_goto g 57 dX5_isBesideTheOneAhead_53 (by decide) ?_
        refine V_sub [] [] rfl ?_
        exact t_X5_isBesideTheOneAhead_b57 g f hf
set_option maxRecDepth 20000 in
theorem t_X5_surveyAlarms_b135 {E : ET} {fu : Nat} {s' : St} (g : GX E "ThinSeries$Series" cX5_surveyAlarms 5 6) (f : FX E "surveyAlarms" none []) {k41 : St → Nat → Nat → Int32 → Int32 → Int32 → Option (St)} (hk41 : ∀ (s : St) (l0 : Nat) (l1 : Nat) (l2 : Int32) (l3 : Int32) (l4 : Int32), k41 s l0 l1 l2 l3 l4 = some s' → V E 5 (QE E (s', .inl none)) s 41 [(0, vR 5 l0), (1, vR 10 l1), (2, vI l2), (3, vI l3), (4, vI l4)] []) {s : St} {l0 : Nat} {l1 : Nat} {l2 : Int32} {l3 : Int32} {l4 : Int32} (hf : f_X5_surveyAlarms_b135 fu k41 s l0 l1 l2 l3 l4 = some s') : V E 5 (QE E (s', .inl none)) s 135 [(0, vR 5 l0), (1, vR 10 l1), (2, vI l2), (3, vI l3), (4, vI l4)] [] := by
  unfold f_X5_surveyAlarms_b135 at hf
  obtain ⟨x50, ex50, hf⟩ := lt_some hf
  refine V_iinc g 4 [(4, vI x50), (0, vR 5 l0), (1, vR 10 l1), (2, vI l2), (3, vI l3)] dX5_surveyAlarms_135 rfl (by rw [ex50]; rfl) (by decide) rfl ?_
  refine V_goto g 41 dX5_surveyAlarms_138 (by decide) ?_
  refine V_sub [(0, vR 5 l0), (1, vR 10 l1), (2, vI l2), (3, vI l3), (4, vI x50)] [1, 2, 3, 4, 0] rfl ?_
  exact hk41 s l0 l1 l2 l3 x50 hf
set_option maxRecDepth 20000 in
theorem t_X5_surveyAlarms_b113 {E : ET} {fu : Nat} {s' : St} (g : GX E "ThinSeries$Series" cX5_surveyAlarms 5 6) (f : FX E "surveyAlarms" none []) {k41 : St → Nat → Nat → Int32 → Int32 → Int32 → Option (St)} (hk41 : ∀ (s : St) (l0 : Nat) (l1 : Nat) (l2 : Int32) (l3 : Int32) (l4 : Int32), k41 s l0 l1 l2 l3 l4 = some s' → V E 5 (QE E (s', .inl none)) s 41 [(0, vR 5 l0), (1, vR 10 l1), (2, vI l2), (3, vI l3), (4, vI l4)] []) {s : St} {l0 : Nat} {l1 : Nat} {l2 : Int32} {l3 : Int32} {l4 : Int32} (hf : f_X5_surveyAlarms_b113 fu k41 s l0 l1 l2 l3 l4 = some s') : V E 5 (QE E (s', .inl none)) s 113 [(0, vR 5 l0), (1, vR 10 l1), (2, vI l2), (3, vI l3), (4, vI l4)] [] := by
  unfold f_X5_surveyAlarms_b113 at hf
  refine V_aload_n g 1 dX5_surveyAlarms_113 rfl ?_
  refine V_iconst (v := 0) g dX5_surveyAlarms_114 (by decide) ?_
  refine V_dup2 g dX5_surveyAlarms_115 rfl rfl ?_
  obtain ⟨z40, hf⟩ := nz_some hf
  obtain ⟨h41, hf⟩ := ckf hf
  refine V_iald g z40 h41 dX5_surveyAlarms_116 ?_
  refine V_iconst (v := 1) g dX5_surveyAlarms_117 (by decide) ?_
  refine V_iadd g dX5_surveyAlarms_118 ?_
  obtain ⟨h42, hf⟩ := ckf hf
  obtain ⟨s43, es43, hf⟩ := lt_some hf
  refine V_iast g es43 z40 h42 dX5_surveyAlarms_119 ?_
  refine V_iload_n g 2 dX5_surveyAlarms_120 rfl ?_
  refine V_aload_n g 1 dX5_surveyAlarms_121 rfl ?_
  refine V_iconst (v := 2) g dX5_surveyAlarms_122 (by decide) ?_
  obtain ⟨h44, hf⟩ := ckf hf
  refine V_iald g z40 h44 dX5_surveyAlarms_123 ?_
  refine V_icmp_le g 135 dX5_surveyAlarms_124 (by decide) (fun c45 => ?_) (fun c45 => ?_)
  · have hf := it_t hf c45
    exact t_X5_surveyAlarms_b135 g f hk41 hf
  · have hf := it_f hf c45
    refine V_aload_n g 1 dX5_surveyAlarms_127 rfl ?_
    refine V_iconst (v := 2) g dX5_surveyAlarms_128 (by decide) ?_
    refine V_iload_n g 2 dX5_surveyAlarms_129 rfl ?_
    obtain ⟨h46, hf⟩ := ckf hf
    obtain ⟨s47, es47, hf⟩ := lt_some hf
    refine V_iast g es47 z40 h46 dX5_surveyAlarms_130 ?_
    refine V_aload_n g 1 dX5_surveyAlarms_131 rfl ?_
    refine V_iconst (v := 3) g dX5_surveyAlarms_132 (by decide) ?_
    refine V_iload_n g 3 dX5_surveyAlarms_133 rfl ?_
    obtain ⟨h48, hf⟩ := ckf hf
    obtain ⟨s49, es49, hf⟩ := lt_some hf
    refine V_iast g es49 z40 h48 dX5_surveyAlarms_134 ?_
    exact t_X5_surveyAlarms_b135 g f hk41 hf
set_option maxRecDepth 20000 in
theorem t_X5_surveyAlarms_b94 {E : ET} {fu : Nat} {s' : St} (g : GX E "ThinSeries$Series" cX5_surveyAlarms 5 6) (f : FX E "surveyAlarms" none []) {k41 : St → Nat → Nat → Int32 → Int32 → Int32 → Option (St)} (hk41 : ∀ (s : St) (l0 : Nat) (l1 : Nat) (l2 : Int32) (l3 : Int32) (l4 : Int32), k41 s l0 l1 l2 l3 l4 = some s' → V E 5 (QE E (s', .inl none)) s 41 [(0, vR 5 l0), (1, vR 10 l1), (2, vI l2), (3, vI l3), (4, vI l4)] []) {s : St} {l0 : Nat} {l1 : Nat} {l2 : Int32} {l3 : Int32} {l4 : Int32} (hf : f_X5_surveyAlarms_b94 fu k41 s l0 l1 l2 l3 l4 = some s') : V E 5 (QE E (s', .inl none)) s 94 [(0, vR 5 l0), (1, vR 10 l1), (2, vI l2), (3, vI l3), (4, vI l4)] [] := by
  unfold f_X5_surveyAlarms_b94 at hf
  obtain ⟨x31, ex31, hf⟩ := lt_some hf
  refine V_iinc g 2 [(2, vI x31), (0, vR 5 l0), (1, vR 10 l1), (3, vI l3), (4, vI l4)] dX5_surveyAlarms_94 rfl (by rw [ex31]; rfl) (by decide) rfl ?_
  refine V_aload_n g 2 dX5_surveyAlarms_97 rfl ?_
  refine V_iconst (v := 0) g dX5_surveyAlarms_98 (by decide) ?_
  obtain ⟨z32, hf⟩ := nz_some hf
  obtain ⟨h33, hf⟩ := ckf hf
  refine V_iald g z32 h33 dX5_surveyAlarms_99 ?_
  refine V_if_ne g 113 dX5_surveyAlarms_100 (by decide) (fun c34 => ?_) (fun c34 => ?_)
  · have hf := it_f hf c34
    refine V_sub [(0, vR 5 l0), (1, vR 10 l1), (2, vI x31), (3, vI l3), (4, vI l4)] [1, 2, 0, 3, 4] rfl ?_
    exact t_X5_surveyAlarms_b113 g f hk41 hf
  · have hf := it_t hf c34
    refine V_aload_n g 2 dX5_surveyAlarms_103 rfl ?_
    refine V_iconst (v := 1) g dX5_surveyAlarms_104 (by decide) ?_
    refine V_aload_n g 1 dX5_surveyAlarms_105 rfl ?_
    obtain ⟨z35, hf⟩ := nz_some hf
    refine V_getR g 5 l0 3 10 rfl (by decide) rfl rfl q_445 z35 dX5_surveyAlarms_106 ?_
    refine V_iload g 4 dX5_surveyAlarms_109 rfl ?_
    obtain ⟨z36, hf⟩ := nz_some hf
    obtain ⟨h37, hf⟩ := ckf hf
    refine V_iald g z36 h37 dX5_surveyAlarms_111 ?_
    obtain ⟨h38, hf⟩ := ckf hf
    obtain ⟨s39, es39, hf⟩ := lt_some hf
    refine V_iast g es39 z32 h38 dX5_surveyAlarms_112 ?_
    refine V_sub [(0, vR 5 l0), (1, vR 10 l1), (2, vI x31), (3, vI l3), (4, vI l4)] [1, 2, 0, 3, 4] rfl ?_
    exact t_X5_surveyAlarms_b113 g f hk41 hf
set_option maxRecDepth 20000 in
theorem t_X5_surveyAlarms_b84 {E : ET} {fu : Nat} {s' : St} (g : GX E "ThinSeries$Series" cX5_surveyAlarms 5 6) (f : FX E "surveyAlarms" none []) {k41 : St → Nat → Nat → Int32 → Int32 → Int32 → Option (St)} (hk41 : ∀ (s : St) (l0 : Nat) (l1 : Nat) (l2 : Int32) (l3 : Int32) (l4 : Int32), k41 s l0 l1 l2 l3 l4 = some s' → V E 5 (QE E (s', .inl none)) s 41 [(0, vR 5 l0), (1, vR 10 l1), (2, vI l2), (3, vI l3), (4, vI l4)] []) {s : St} {l0 : Nat} {l1 : Nat} {l4 : Int32} (hf : f_X5_surveyAlarms_b84 fu k41 s l0 l1 l4 = some s') : V E 5 (QE E (s', .inl none)) s 84 [(0, vR 5 l0), (1, vR 10 l1), (4, vI l4)] [] := by
  unfold f_X5_surveyAlarms_b84 at hf
  refine V_iconst (v := 0) g dX5_surveyAlarms_84 (by decide) ?_
  refine V_istore_n g [(2, vI 0), (0, vR 5 l0), (1, vR 10 l1), (4, vI l4)] dX5_surveyAlarms_85 rfl (by decide) rfl ?_
  refine V_aload_n g 1 dX5_surveyAlarms_86 rfl ?_
  obtain ⟨z27, hf⟩ := nz_some hf
  refine V_getR g 5 l0 3 10 rfl (by decide) rfl rfl q_445 z27 dX5_surveyAlarms_87 ?_
  refine V_iload g 3 dX5_surveyAlarms_90 rfl ?_
  obtain ⟨z28, hf⟩ := nz_some hf
  obtain ⟨h29, hf⟩ := ckf hf
  refine V_iald g z28 h29 dX5_surveyAlarms_92 ?_
  obtain ⟨x30, ex30, hf⟩ := lt_some hf
  refine V_istore_n g [(3, vI x30), (2, vI 0), (0, vR 5 l0), (1, vR 10 l1), (4, vI l4)] dX5_surveyAlarms_93 ex30 (by decide) rfl ?_
  refine V_sub [(0, vR 5 l0), (1, vR 10 l1), (2, vI 0), (3, vI x30), (4, vI l4)] [2, 3, 1, 0, 4] rfl ?_
  exact t_X5_surveyAlarms_b94 g f hk41 hf
set_option maxRecDepth 20000 in
theorem t_X5_surveyAlarms_b41 {E : ET} {fu : Nat} {s' : St} (g : GX E "ThinSeries$Series" cX5_surveyAlarms 5 6) (f : FX E "surveyAlarms" none []) : ∀ (n : Nat) (s : St) (l0 : Nat) (l1 : Nat) (l2 : Int32) (l3 : Int32) (l4 : Int32), f_X5_surveyAlarms_b41 fu n s l0 l1 l2 l3 l4 = some s' → V E 5 (QE E (s', .inl none)) s 41 [(0, vR 5 l0), (1, vR 10 l1), (2, vI l2), (3, vI l3), (4, vI l4)] [] := by
  intro n
  induction n with
  | zero =>
    intro s l0 l1 l2 l3 l4 hf
    unfold f_X5_surveyAlarms_b41 at hf
    exact nomatch hf
  | succ n ih =>
    intro s l0 l1 l2 l3 l4 hf
    unfold f_X5_surveyAlarms_b41 at hf
    refine V_iload g 4 dX5_surveyAlarms_41 rfl ?_
    refine V_aload_n g 0 dX5_surveyAlarms_43 rfl ?_
    obtain ⟨z16, hf⟩ := nz_some hf
    refine V_getI g 5 l0 8 rfl (by decide) rfl q_456 z16 dX5_surveyAlarms_44 ?_
    refine V_icmp_ge g 141 dX5_surveyAlarms_47 (by decide) (fun c17 => ?_) (fun c17 => ?_)
    · have hf := it_t hf c17
      cases hf
      exact V_return g f dX5_surveyAlarms_141
    · have hf := it_f hf c17
      refine V_aload_n g 0 dX5_surveyAlarms_50 rfl ?_
      refine V_getR g 5 l0 0 2 rfl (by decide) rfl rfl q_441 z16 dX5_surveyAlarms_51 ?_
      obtain ⟨z18, hf⟩ := nz_some hf
      refine V_getR g 2 (gR s 5 l0 0) 2 0 rfl (by decide) rfl rfl q_294 z18 dX5_surveyAlarms_54 ?_
      refine V_aload_n g 0 dX5_surveyAlarms_57 rfl ?_
      refine V_iload g 4 dX5_surveyAlarms_58 rfl ?_
      obtain ⟨z19, hf⟩ := nz_some hf
      obtain ⟨s20, x21, hc, hf⟩ := bI_some hf
      refine cV1 g [vR 5 l0, vI l4] [] s20 (vI x21) cf_X0_isSoOf (t_X0_isSoOf g.2.2.2.2.2.2.1 hc) (RC_own g rfl z19) z19 (by decide) q_1141 (Nat.le_of_ble_eq_true rfl) dX5_surveyAlarms_60 ?_ rfl
      refine V_if_ne g 71 dX5_surveyAlarms_63 (by decide) (fun c22 => ?_) (fun c22 => ?_)
      · have hf := it_f hf c22
        refine V_iload_n g 2 dX5_surveyAlarms_71 rfl ?_
        refine V_if_eq g 84 dX5_surveyAlarms_72 (by decide) (fun c23 => ?_) (fun c23 => ?_)
        · have hf := it_t hf c23
          refine V_sub [(0, vR 5 l0), (1, vR 10 l1), (4, vI l4)] [0, 1, 4] rfl ?_
          exact t_X5_surveyAlarms_b84 g f ih hf
        · have hf := it_f hf c23
          refine V_aload_n g 0 dX5_surveyAlarms_75 rfl ?_
          refine V_iload g 4 dX5_surveyAlarms_76 rfl ?_
          obtain ⟨s24, x25, hc, hf⟩ := bI_some hf
          refine cV1 g [vI l4] [] s24 (vI x25) cf_X5_isBesideTheOneAhead (t_X5_isBesideTheOneAhead g.2.2.2.2.2.2.1 hc) (RC_own g rfl z16) z16 (by decide) q_1151 (Nat.le_of_ble_eq_true rfl) dX5_surveyAlarms_78 ?_ rfl
          refine V_if_ne g 94 dX5_surveyAlarms_81 (by decide) (fun c26 => ?_) (fun c26 => ?_)
          · have hf := it_f hf c26
            exact t_X5_surveyAlarms_b94 g f ih hf
          · have hf := it_t hf c26
            refine V_sub [(0, vR 5 l0), (1, vR 10 l1), (4, vI l4)] [0, 1, 4] rfl ?_
            exact t_X5_surveyAlarms_b84 g f ih hf
      · have hf := it_t hf c22
        refine V_iconst (v := 0) g dX5_surveyAlarms_66 (by decide) ?_
        refine V_istore_n g [(2, vI 0), (0, vR 5 l0), (1, vR 10 l1), (3, vI l3), (4, vI l4)] dX5_surveyAlarms_67 rfl (by decide) rfl ?_
        refine V_goto g 135 dX5_surveyAlarms_68 (by decide) ?_
        refine V_sub [(0, vR 5 l0), (1, vR 10 l1), (2, vI 0), (3, vI l3), (4, vI l4)] [1, 2, 0, 3, 4] rfl ?_
        exact t_X5_surveyAlarms_b135 g f ih hf
set_option maxRecDepth 20000 in
theorem t_X5_surveyAlarms {G : GT} {l : Launch} (hl : l.stackTraces = false) {fu : Nat} {s s' : St} {a0 : Nat} {a1 : Nat} (hf : f_X5_surveyAlarms fu s a0 a1 = some s') : MetG G l yX5_surveyAlarms (.code yX5_surveyAlarms cX5_surveyAlarms 5 none) 6 s [vR 5 a0, vR 10 a1] (s', .inl none) := by
  refine MetG_of hl (by decide +kernel) (Nat.le_of_ble_eq_true rfl) (fun E g f eG eL => ?_)
  subst eG; subst eL
  have g : GX E "ThinSeries$Series" cX5_surveyAlarms 5 6 := g
  have f : FX E "surveyAlarms" none [] := f
  show V E 5 (QE E (s', .inl none)) s 0 [(0, vR 5 a0), (1, vR 10 a1)] []
  unfold f_X5_surveyAlarms at hf
  refine V_aload_n g 1 dX5_surveyAlarms_0 rfl ?_
  refine V_iconst (v := 0) g dX5_surveyAlarms_1 (by decide) ?_
  refine V_iconst (v := 0) g dX5_surveyAlarms_2 (by decide) ?_
  obtain ⟨z1, hf⟩ := nz_some hf
  obtain ⟨h2, hf⟩ := ckf hf
  obtain ⟨s3, es3, hf⟩ := lt_some hf
  refine V_iast g es3 z1 h2 dX5_surveyAlarms_3 ?_
  refine V_aload_n g 1 dX5_surveyAlarms_4 rfl ?_
  refine V_iconst (v := 1) g dX5_surveyAlarms_5 (by decide) ?_
  refine V_sipush (v := (-20000)) g dX5_surveyAlarms_6 (by decide) ?_
  obtain ⟨h4, hf⟩ := ckf hf
  obtain ⟨s5, es5, hf⟩ := lt_some hf
  refine V_iast g es5 z1 h4 dX5_surveyAlarms_9 ?_
  refine V_aload_n g 1 dX5_surveyAlarms_10 rfl ?_
  refine V_iconst (v := 2) g dX5_surveyAlarms_11 (by decide) ?_
  refine V_iconst (v := 0) g dX5_surveyAlarms_12 (by decide) ?_
  obtain ⟨h6, hf⟩ := ckf hf
  obtain ⟨s7, es7, hf⟩ := lt_some hf
  refine V_iast g es7 z1 h6 dX5_surveyAlarms_13 ?_
  refine V_aload_n g 1 dX5_surveyAlarms_14 rfl ?_
  refine V_iconst (v := 3) g dX5_surveyAlarms_15 (by decide) ?_
  refine V_sipush (v := (-20000)) g dX5_surveyAlarms_16 (by decide) ?_
  obtain ⟨h8, hf⟩ := ckf hf
  obtain ⟨s9, es9, hf⟩ := lt_some hf
  refine V_iast g es9 z1 h8 dX5_surveyAlarms_19 ?_
  refine V_aload_n g 0 dX5_surveyAlarms_20 rfl ?_
  obtain ⟨z10, hf⟩ := nz_some hf
  refine V_getR g 5 a0 0 2 rfl (by decide) rfl rfl q_441 z10 dX5_surveyAlarms_21 ?_
  obtain ⟨z11, hf⟩ := nz_some hf
  refine V_getR g 2 (gR s9 5 a0 0) 2 0 rfl (by decide) rfl rfl q_294 z11 dX5_surveyAlarms_24 ?_
  obtain ⟨z12, hf⟩ := nz_some hf
  obtain ⟨s13, x14, hc, hf⟩ := bI_some hf
  refine cV1 g [] [] s13 (vI x14) cf_X0_isTold (t_X0_isTold g.2.2.2.2.2.2.1 hc) (RC_own g rfl z12) z12 (by decide) q_1140 (Nat.le_of_ble_eq_true rfl) dX5_surveyAlarms_27 ?_ rfl
  refine V_if_ne g 34 dX5_surveyAlarms_30 (by decide) (fun c15 => ?_) (fun c15 => ?_)
  · have hf := it_f hf c15
    refine V_iconst (v := 0) g dX5_surveyAlarms_34 (by decide) ?_
    refine V_istore_n g [(2, vI 0), (0, vR 5 a0), (1, vR 10 a1)] dX5_surveyAlarms_35 rfl (by decide) rfl ?_
    refine V_iconst (v := 0) g dX5_surveyAlarms_36 (by decide) ?_
    refine V_istore_n g [(3, vI 0), (2, vI 0), (0, vR 5 a0), (1, vR 10 a1)] dX5_surveyAlarms_37 rfl (by decide) rfl ?_
    refine V_iconst (v := 0) g dX5_surveyAlarms_38 (by decide) ?_
    refine V_istore g [(4, vI 0), (3, vI 0), (2, vI 0), (0, vR 5 a0), (1, vR 10 a1)] dX5_surveyAlarms_39 rfl (by decide) rfl ?_
    refine V_sub [(0, vR 5 a0), (1, vR 10 a1), (2, vI 0), (3, vI 0), (4, vI 0)] [3, 4, 2, 1, 0] rfl ?_
    exact t_X5_surveyAlarms_b41 g f _ s13 a0 a1 0 0 0 hf
  · have hf := it_t hf c15
    cases hf
    exact V_return g f dX5_surveyAlarms_33
set_option maxRecDepth 20000 in
theorem t_X8_alarms {G : GT} {l : Launch} (hl : l.stackTraces = false) {fu : Nat} {s s' : St} {a0 : Nat} {a1 : Int32} {a2 : Int32} {w' : Nat ⊕ Int32} (hf : f_X8_alarms fu s a0 a1 a2 = some (s', w')) : MetG G l yX8_alarms (.code yX8_alarms cX8_alarms 4 (some .int)) 7 s [vR 8 a0, vI a1, vI a2] (s', rI w') := by
  refine MetG_of hl (by decide +kernel) (Nat.le_of_ble_eq_true rfl) (fun E g f eG eL => ?_)
  subst eG; subst eL
  have g : GX E "ThinSeries" cX8_alarms 4 7 := g
  have f : FX E "alarms" (some .int) [] := f
  show V E 4 (QE E (s', rI w')) s 0 [(0, vR 8 a0), (1, vI a1), (2, vI a2)] []
  unfold f_X8_alarms at hf
  refine V_aload_n g 0 dX8_alarms_0 rfl ?_
  refine V_iload_n g 1 dX8_alarms_1 rfl ?_
  obtain ⟨z1, hf⟩ := nz_some hf
  rcases bX_some hf with ⟨s2, e3, hc, hf⟩ | ⟨s2, x4, hc, hf⟩
  · cases hf
    refine cVX g [vI a1] [] _ (exN e3) cf_X8_known (t_X8_known g.2.2.2.2.2.2.1 hc) (RC_own g rfl z1) z1 (by decide) q_1024 (Nat.le_of_ble_eq_true rfl) dX8_alarms_2 ?_ rfl
    exact VX_out g f
  · refine cV1 g [vI a1] [] s2 (vR 5 x4) cf_X8_known (t_X8_known g.2.2.2.2.2.2.1 hc) (RC_own g rfl z1) z1 (by decide) q_1024 (Nat.le_of_ble_eq_true rfl) dX8_alarms_2 ?_ rfl
    refine V_astore_n g [(3, vR 5 x4), (0, vR 8 a0), (1, vI a1), (2, vI a2)] dX8_alarms_5 rfl (by decide) rfl ?_
    refine V_iload_n g 3 dX8_alarms_6 rfl ?_
    refine V_iconst (v := 3) g dX8_alarms_7 (by decide) ?_
    rcases bX_some hf with ⟨s5, e6, hc, hf⟩ | ⟨s5, x7, hc, hf⟩
    · cases hf
      refine cSX g [vI a2, vI 3] [] _ (exN e6) cf_X8_needWhat (t_X8_needWhat g.2.2.2.2.2.2.1 hc) (by decide) q_967 (Nat.le_of_ble_eq_true rfl) dX8_alarms_8 ?_ rfl
      exact VX_out g f
    · refine cS0 g [vI a2, vI 3] [] s5 cf_X8_needWhat (t_X8_needWhat g.2.2.2.2.2.2.1 hc) (by decide) q_967 (Nat.le_of_ble_eq_true rfl) dX8_alarms_8 ?_ rfl
      refine V_aload_n g 0 dX8_alarms_11 rfl ?_
      refine V_aload_n g 1 dX8_alarms_12 rfl ?_
      refine V_getR g 8 a0 9 10 rfl (by decide) rfl rfl q_321 z1 dX8_alarms_13 ?_
      obtain ⟨z8, hf⟩ := nz_some hf
      obtain ⟨s9, hc, hf⟩ := bV_some hf
      refine cV0 g [vR 10 (gR s5 8 a0 9)] [] s9 cf_X5_surveyAlarms (t_X5_surveyAlarms g.2.2.2.2.2.2.1 hc) (RC_own g rfl z8) z8 (by decide) q_1136 (Nat.le_of_ble_eq_true rfl) dX8_alarms_16 ?_ rfl
      refine V_aload_n g 1 dX8_alarms_19 rfl ?_
      refine V_getR g 8 a0 9 10 rfl (by decide) rfl rfl q_321 z1 dX8_alarms_20 ?_
      refine V_iload_n g 3 dX8_alarms_23 rfl ?_
      obtain ⟨z10, hf⟩ := nz_some hf
      obtain ⟨h11, hf⟩ := ckf hf
      refine V_iald g z10 h11 dX8_alarms_24 ?_
      cases hf
      exact V_ireturn g f dX8_alarms_25
set_option maxRecDepth 20000 in
theorem t_X5_pointsFrom_b25 {E : ET} {fu : Nat} {s' : St} {w' : Int32} (g : GX E "ThinSeries$Series" cX5_pointsFrom 3 1) (f : FX E "pointsFrom" (some .int) []) {s : St} {t0 : Int32} (hf : f_X5_pointsFrom_b25 fu s t0 = some (s', w')) : V E 3 (QE E (s', .inl (some (vI w')))) s 25 [] [vI t0] := by
  unfold f_X5_pointsFrom_b25 at hf
  cases hf
  exact V_ireturn g f dX5_pointsFrom_25
set_option maxRecDepth 20000 in
theorem t_X5_pointsFrom {G : GT} {l : Launch} (hl : l.stackTraces = false) {fu : Nat} {s s' : St} {a0 : Nat} {a1 : Int32} {w' : Int32} (hf : f_X5_pointsFrom fu s a0 a1 = some (s', w')) : MetG G l yX5_pointsFrom (.code yX5_pointsFrom cX5_pointsFrom 3 (some .int)) 1 s [vR 5 a0, vI a1] (s', .inl (some (vI w'))) := by
  refine MetG_of hl (by decide +kernel) (Nat.le_of_ble_eq_true rfl) (fun E g f eG eL => ?_)
  subst eG; subst eL
  have g : GX E "ThinSeries$Series" cX5_pointsFrom 3 1 := g
  have f : FX E "pointsFrom" (some .int) [] := f
  show V E 3 (QE E (s', .inl (some (vI w')))) s 0 [(0, vR 5 a0), (1, vI a1)] []
  unfold f_X5_pointsFrom at hf
  refine V_aload_n g 0 dX5_pointsFrom_0 rfl ?_
  refine V_iload_n g 1 dX5_pointsFrom_1 rfl ?_
  obtain ⟨z1, hf⟩ := nz_some hf
  obtain ⟨s2, x3, hc, hf⟩ := bI_some hf
  refine cV1 g [vI a1] [] s2 (vI x3) cf_X5_firstFrom (t_X5_firstFrom g.2.2.2.2.2.2.1 hc) (RC_own g rfl z1) z1 (by decide) q_536 (Nat.le_of_ble_eq_true rfl) dX5_pointsFrom_2 ?_ rfl
  refine V_istore_n g [(2, vI x3), (0, vR 5 a0), (1, vI a1)] dX5_pointsFrom_5 rfl (by decide) rfl ?_
  refine V_aload_n g 1 dX5_pointsFrom_6 rfl ?_
  refine V_iload_n g 0 dX5_pointsFrom_7 rfl ?_
  refine V_iload_n g 2 dX5_pointsFrom_8 rfl ?_
  obtain ⟨s4, x5, hc, hf⟩ := bI_some hf
  refine cV1 g [vI x3, vI a1] [] s4 (vI x5) cf_X5_hasStart (t_X5_hasStart g.2.2.2.2.2.2.1 hc) (RC_own g rfl z1) z1 (by decide) q_540 (Nat.le_of_ble_eq_true rfl) dX5_pointsFrom_9 ?_ rfl
  refine V_if_eq g 24 dX5_pointsFrom_12 (by decide) (fun c6 => ?_) (fun c6 => ?_)
  · have hf := it_t hf c6
    refine V_iconst (v := 0) g dX5_pointsFrom_24 (by decide) ?_
    refine V_sub [] [] rfl ?_
    exact t_X5_pointsFrom_b25 g f hf
  · have hf := it_f hf c6
    refine V_aload_n g 1 dX5_pointsFrom_15 rfl ?_
    refine V_getR g 5 a0 4 10 rfl (by decide) rfl rfl q_448 z1 dX5_pointsFrom_16 ?_
    refine V_iload_n g 0 dX5_pointsFrom_19 rfl ?_
    obtain ⟨z7, hf⟩ := nz_some hf
    obtain ⟨h8, hf⟩ := ckf hf
    refine V_iald g z7 h8 dX5_pointsFrom_20 ?_
    refine V_goto g 25 dX5_pointsFrom_21 (by decide) ?_
    refine V_sub [] [] rfl ?_
    exact t_X5_pointsFrom_b25 g f hf
set_option maxRecDepth 20000 in
theorem t_X8_at_b64 {E : ET} {fu : Nat} {s' : St} {w' : Nat ⊕ Int32} (g : GX E "ThinSeries" cX8_at 7 7) (f : FX E "at" (some .int) []) {s : St} {t0 : Int32} (hf : f_X8_at_b64 fu s t0 = some (s', w')) : V E 7 (QE E (s', rI w')) s 64 [] [vI t0] := by
  unfold f_X8_at_b64 at hf
  cases hf
  exact V_ireturn g f dX8_at_64
set_option maxRecDepth 20000 in
theorem t_X8_at_b98 {E : ET} {fu : Nat} {s' : St} {w' : Nat ⊕ Int32} (g : GX E "ThinSeries" cX8_at 7 7) (f : FX E "at" (some .int) []) {s : St} {t0 : Int32} (hf : f_X8_at_b98 fu s t0 = some (s', w')) : V E 7 (QE E (s', rI w')) s 98 [] [vI t0] := by
  unfold f_X8_at_b98 at hf
  cases hf
  exact V_ireturn g f dX8_at_98
set_option maxRecDepth 20000 in
theorem t_X8_at {G : GT} {l : Launch} (hl : l.stackTraces = false) {fu : Nat} {s s' : St} {a0 : Nat} {a1 : Int32} {a2 : Int32} {a3 : Int32} {w' : Nat ⊕ Int32} (hf : f_X8_at fu s a0 a1 a2 a3 = some (s', w')) : MetG G l yX8_at (.code yX8_at cX8_at 7 (some .int)) 7 s [vR 8 a0, vI a1, vI a2, vI a3] (s', rI w') := by
  refine MetG_of hl (by decide +kernel) (Nat.le_of_ble_eq_true rfl) (fun E g f eG eL => ?_)
  subst eG; subst eL
  have g : GX E "ThinSeries" cX8_at 7 7 := g
  have f : FX E "at" (some .int) [] := f
  show V E 7 (QE E (s', rI w')) s 0 [(0, vR 8 a0), (1, vI a1), (2, vI a2), (3, vI a3)] []
  unfold f_X8_at at hf
  refine V_aload_n g 0 dX8_at_0 rfl ?_
  refine V_iload_n g 1 dX8_at_1 rfl ?_
  obtain ⟨z1, hf⟩ := nz_some hf
  rcases bX_some hf with ⟨s2, e3, hc, hf⟩ | ⟨s2, x4, hc, hf⟩
  · cases hf
    refine cVX g [vI a1] [] _ (exN e3) cf_X8_known (t_X8_known g.2.2.2.2.2.2.1 hc) (RC_own g rfl z1) z1 (by decide) q_1024 (Nat.le_of_ble_eq_true rfl) dX8_at_2 ?_ rfl
    exact VX_out g f
  · refine cV1 g [vI a1] [] s2 (vR 5 x4) cf_X8_known (t_X8_known g.2.2.2.2.2.2.1 hc) (RC_own g rfl z1) z1 (by decide) q_1024 (Nat.le_of_ble_eq_true rfl) dX8_at_2 ?_ rfl
    refine V_astore g [(4, vR 5 x4), (0, vR 8 a0), (1, vI a1), (2, vI a2), (3, vI a3)] dX8_at_5 rfl (by decide) rfl ?_
    refine V_iload_n g 4 dX8_at_7 rfl ?_
    refine V_iconst (v := 2) g dX8_at_8 (by decide) ?_
    rcases bX_some hf with ⟨s5, e6, hc, hf⟩ | ⟨s5, x7, hc, hf⟩
    · cases hf
      refine cSX g [vI a3, vI 2] [] _ (exN e6) cf_X8_needWhat (t_X8_needWhat g.2.2.2.2.2.2.1 hc) (by decide) q_967 (Nat.le_of_ble_eq_true rfl) dX8_at_9 ?_ rfl
      exact VX_out g f
    · refine cS0 g [vI a3, vI 2] [] s5 cf_X8_needWhat (t_X8_needWhat g.2.2.2.2.2.2.1 hc) (by decide) q_967 (Nat.le_of_ble_eq_true rfl) dX8_at_9 ?_ rfl
      refine V_iload_n g 3 dX8_at_12 rfl ?_
      refine V_i2l g dX8_at_13 ?_
      obtain ⟨s8, x9, hc, hf⟩ := bI_some hf
      refine cS1 g [vJ (Int32.toInt64 a2)] [] s8 (vI x9) cf_X8_isTime (t_X8_isTime g.2.2.2.2.2.2.1 hc) (by decide) q_389 (Nat.le_of_ble_eq_true rfl) dX8_at_14 ?_ rfl
      refine V_if_ne g 31 dX8_at_17 (by decide) (fun c10 => ?_) (fun c10 => ?_)
      · have hf := it_f hf c10
        refine V_aload g 0 dX8_at_31 rfl ?_
        refine V_iload_n g 3 dX8_at_33 rfl ?_
        obtain ⟨z11, hf⟩ := nz_some hf
        obtain ⟨s12, x13, hc, hf⟩ := bI_some hf
        refine cV1 g [vI a2] [] s12 (vI x13) cf_X5_tierOf (t_X5_tierOf g.2.2.2.2.2.2.1 hc) (RC_own g rfl z11) z11 (by decide) q_573 (Nat.le_of_ble_eq_true rfl) dX8_at_34 ?_ rfl
        refine V_istore g [(5, vI x13), (4, vR 5 x4), (0, vR 8 a0), (1, vI a1), (2, vI a2), (3, vI a3)] dX8_at_37 rfl (by decide) rfl ?_
        refine V_iload_n g 5 dX8_at_39 rfl ?_
        refine V_if_ne g 46 dX8_at_40 (by decide) (fun c14 => ?_) (fun c14 => ?_)
        · have hf := it_f hf c14
          refine V_iload g 0 dX8_at_46 rfl ?_
          refine V_iconst (v := (-1)) g dX8_at_48 (by decide) ?_
          refine V_icmp_ne g 65 dX8_at_49 (by decide) (fun c15 => ?_) (fun c15 => ?_)
          · have hf := it_f hf c15
            refine V_iload_n g 4 dX8_at_65 rfl ?_
            refine V_aload_n g 2 dX8_at_66 rfl ?_
            refine V_getR g 8 a0 12 2 rfl (by decide) rfl rfl q_324 z1 dX8_at_67 ?_
            obtain ⟨z16, hf⟩ := nz_some hf
            refine V_getR g 2 (gR s12 8 a0 12) 0 10 rfl (by decide) rfl rfl q_288 z16 dX8_at_70 ?_
            refine V_iload g 0 dX8_at_73 rfl ?_
            obtain ⟨z17, hf⟩ := nz_some hf
            obtain ⟨h18, hf⟩ := ckf hf
            refine V_iald g z17 h18 dX8_at_75 ?_
            obtain ⟨s19, x20, hc, hf⟩ := bI_some hf
            refine cS1 g [vI a2, vI (gI s12 10 (gR s12 2 (gR s12 8 a0 12) 0) (ix x13))] [] s19 (vI x20) cf_X8_multipleUpTo (t_X8_multipleUpTo g.2.2.2.2.2.2.1 hc) (by decide) q_1080 (Nat.le_of_ble_eq_true rfl) dX8_at_76 ?_ rfl
            refine V_istore g [(6, vI x20), (5, vI x13), (4, vR 5 x4), (0, vR 8 a0), (1, vI a1), (2, vI a2), (3, vI a3)] dX8_at_79 rfl (by decide) rfl ?_
            refine V_iload_n g 6 dX8_at_81 rfl ?_
            refine V_iconst (v := 1) g dX8_at_82 (by decide) ?_
            refine V_icmp_ne g 91 dX8_at_83 (by decide) (fun c21 => ?_) (fun c21 => ?_)
            · have hf := it_f hf c21
              refine V_aload g 2 dX8_at_91 rfl ?_
              refine V_iload g 0 dX8_at_93 rfl ?_
              obtain ⟨s22, x23, hc, hf⟩ := bI_some hf
              refine cV1 g [vI x20] [] s22 (vI x23) cf_X5_pointsFrom (t_X5_pointsFrom g.2.2.2.2.2.2.1 hc) (RC_own g rfl z11) z11 (by decide) q_1081 (Nat.le_of_ble_eq_true rfl) dX8_at_95 ?_ rfl
              refine V_sub [] [] rfl ?_
              exact t_X8_at_b98 g f hf
            · have hf := it_t hf c21
              refine V_iload g 0 dX8_at_86 rfl ?_
              refine V_goto g 98 dX8_at_88 (by decide) ?_
              refine V_sub [] [] rfl ?_
              exact t_X8_at_b98 g f hf
          · have hf := it_t hf c15
            refine V_iload_n g 5 dX8_at_52 rfl ?_
            refine V_iconst (v := 1) g dX8_at_53 (by decide) ?_
            refine V_icmp_ne g 63 dX8_at_54 (by decide) (fun c24 => ?_) (fun c24 => ?_)
            · have hf := it_f hf c24
              refine V_iconst (v := 0) g dX8_at_63 (by decide) ?_
              refine V_sub [] [] rfl ?_
              exact t_X8_at_b64 g f hf
            · have hf := it_t hf c24
              refine V_sipush (v := (-20000)) g dX8_at_57 (by decide) ?_
              refine V_goto g 64 dX8_at_60 (by decide) ?_
              refine V_sub [] [] rfl ?_
              exact t_X8_at_b64 g f hf
        · have hf := it_t hf c14
          refine V_iload g 0 dX8_at_43 rfl ?_
          cases hf
          exact V_ireturn g f dX8_at_45
      · have hf := it_t hf c10
        obtain ⟨h25, hf⟩ := ckf hf
        cases hf
        exact thN (j := 21) g f (rm_of h25) q_970 q_116 (by decide) rfl (by decide) (Nat.le_of_ble_eq_true rfl) ⟨⟨dX8_at_20, dX8_at_23⟩, Or.inr ⟨dX8_at_24, dX8_at_27, dX8_at_30⟩⟩
set_option maxRecDepth 20000 in
theorem t_X2_isBarWidth_b35 {E : ET} {fu : Nat} {s' : St} {w' : Int32} (g : GX E "ThinSeries$Plan" cX2_isBarWidth 2 2) (f : FX E "isBarWidth" (some .boolean) []) {s : St} {t0 : Int32} (hf : f_X2_isBarWidth_b35 fu s t0 = some (s', w')) : V E 2 (QE E (s', .inl (some (vI w')))) s 35 [] [vI t0] := by
  unfold f_X2_isBarWidth_b35 at hf
  obtain ⟨h9, hf⟩ := ckf hf
  cases hf
  exact V_zreturn g f (zb_n h9) dX2_isBarWidth_35
set_option maxRecDepth 20000 in
theorem t_X2_isBarWidth_b34 {E : ET} {fu : Nat} {s' : St} {w' : Int32} (g : GX E "ThinSeries$Plan" cX2_isBarWidth 2 2) (f : FX E "isBarWidth" (some .boolean) []) {s : St} (hf : f_X2_isBarWidth_b34 fu s = some (s', w')) : V E 2 (QE E (s', .inl (some (vI w')))) s 34 [] [] := by
  unfold f_X2_isBarWidth_b34 at hf
  refine V_iconst (v := 0) g dX2_isBarWidth_34 (by decide) ?_
  exact t_X2_isBarWidth_b35 g f hf
set_option maxRecDepth 20000 in
theorem t_X2_isBarWidth {G : GT} {l : Launch} (hl : l.stackTraces = false) {fu : Nat} {s s' : St} {a0 : Nat} {a1 : Int32} {w' : Int32} (hf : f_X2_isBarWidth fu s a0 a1 = some (s', w')) : MetG G l yX2_isBarWidth (.code yX2_isBarWidth cX2_isBarWidth 2 (some .boolean)) 2 s [vR 2 a0, vI a1] (s', .inl (some (vI w'))) := by
  refine MetG_of hl (by decide +kernel) (Nat.le_of_ble_eq_true rfl) (fun E g f eG eL => ?_)
  subst eG; subst eL
  have g : GX E "ThinSeries$Plan" cX2_isBarWidth 2 2 := g
  have f : FX E "isBarWidth" (some .boolean) [] := f
  show V E 2 (QE E (s', .inl (some (vI w')))) s 0 [(0, vR 2 a0), (1, vI a1)] []
  unfold f_X2_isBarWidth at hf
  refine V_iload_n g 1 dX2_isBarWidth_0 rfl ?_
  refine V_iconst (v := 1) g dX2_isBarWidth_1 (by decide) ?_
  refine V_icmp_lt g 34 dX2_isBarWidth_2 (by decide) (fun c1 => ?_) (fun c1 => ?_)
  · have hf := it_t hf c1
    refine V_sub [] [] rfl ?_
    exact t_X2_isBarWidth_b34 g f hf
  · have hf := it_f hf c1
    refine V_iload_n g 1 dX2_isBarWidth_5 rfl ?_
    refine V_ldc (v := 1000000) g q_1126 dX2_isBarWidth_6 ?_
    refine V_icmp_gt g 34 dX2_isBarWidth_8 (by decide) (fun c2 => ?_) (fun c2 => ?_)
    · have hf := it_t hf c2
      refine V_sub [] [] rfl ?_
      exact t_X2_isBarWidth_b34 g f hf
    · have hf := it_f hf c2
      refine V_iload_n g 1 dX2_isBarWidth_11 rfl ?_
      refine V_aload_n g 0 dX2_isBarWidth_12 rfl ?_
      obtain ⟨z3, hf⟩ := nz_some hf
      refine V_getR g 2 a0 0 10 rfl (by decide) rfl rfl q_286 z3 dX2_isBarWidth_13 ?_
      refine V_aload_n g 0 dX2_isBarWidth_16 rfl ?_
      refine V_getI g 2 a0 3 rfl (by decide) rfl q_295 z3 dX2_isBarWidth_17 ?_
      refine V_iconst (v := 1) g dX2_isBarWidth_20 (by decide) ?_
      refine V_isub g dX2_isBarWidth_21 ?_
      obtain ⟨z4, hf⟩ := nz_some hf
      obtain ⟨h5, hf⟩ := ckf hf
      refine V_iald g z4 h5 dX2_isBarWidth_22 ?_
      obtain ⟨s6, x7, hc, hf⟩ := bI_some hf
      refine cN1 g [vI a1, vI (gI s 10 (gR s 2 a0 0) (ix ((gI s 2 a0 3) - 1)))] [] s6 (vI x7) cf_X8_multipleUpTo (t_X8_multipleUpTo g.2.2.2.2.2.2.1 hc) (by decide) q_419 (Nat.le_of_ble_eq_true rfl) dX2_isBarWidth_23 ?_ rfl
      refine V_iload_n g 1 dX2_isBarWidth_26 rfl ?_
      refine V_icmp_ne g 34 dX2_isBarWidth_27 (by decide) (fun c8 => ?_) (fun c8 => ?_)
      · have hf := it_f hf c8
        refine V_sub [] [] rfl ?_
        exact t_X2_isBarWidth_b34 g f hf
      · have hf := it_t hf c8
        refine V_iconst (v := 1) g dX2_isBarWidth_30 (by decide) ?_
        refine V_goto g 35 dX2_isBarWidth_31 (by decide) ?_
        refine V_sub [] [] rfl ?_
        exact t_X2_isBarWidth_b35 g f hf
set_option maxRecDepth 20000 in
theorem t_X6_fact {G : GT} {l : Launch} (hl : l.stackTraces = false) {fu : Nat} {s s' : St} {a0 : Nat} {a1 : Int32} {w' : Int64} (hf : f_X6_fact fu s a0 a1 = some (s', w')) : MetG G l yX6_fact (.code yX6_fact cX6_fact 2 (some .long)) 0 s [vR 6 a0, vI a1] (s', .inl (some (vJ w'))) := by
  refine MetG_of hl (by decide +kernel) (Nat.le_of_ble_eq_true rfl) (fun E g f eG eL => ?_)
  subst eG; subst eL
  have g : GX E "ThinSeries$Tally" cX6_fact 2 0 := g
  have f : FX E "fact" (some .long) [] := f
  show V E 2 (QE E (s', .inl (some (vJ w')))) s 0 [(0, vR 6 a0), (1, vI a1)] []
  unfold f_X6_fact at hf
  refine V_iload_n g 1 dX6_fact_0 rfl ?_
  by_cases c1 : a1 = 0
  · subst c1
    have hf := it_t hf rfl
    refine V_tableIn g 28 dX6_fact_1 (by decide) (by decide) rfl (by decide) ?_
    refine V_aload_n g 0 dX6_fact_28 rfl ?_
    obtain ⟨z2, hf⟩ := nz_some hf
    refine V_getI g 6 a0 1 rfl (by decide) rfl q_237 z2 dX6_fact_29 ?_
    refine V_i2l g dX6_fact_32 ?_
    cases hf
    exact V_lreturn g f dX6_fact_33
  · have hf := it_f hf c1
    by_cases c3 : a1 = 1
    · subst c3
      have hf := it_t hf rfl
      refine V_tableIn g 34 dX6_fact_1 (by decide) (by decide) rfl (by decide) ?_
      refine V_aload_n g 0 dX6_fact_34 rfl ?_
      obtain ⟨z4, hf⟩ := nz_some hf
      refine V_getJ g 6 a0 2 rfl (by decide) rfl q_239 z4 dX6_fact_35 ?_
      cases hf
      exact V_lreturn g f dX6_fact_38
    · have hf := it_f hf c3
      by_cases c5 : a1 = 2
      · subst c5
        have hf := it_t hf rfl
        refine V_tableIn g 39 dX6_fact_1 (by decide) (by decide) rfl (by decide) ?_
        refine V_aload_n g 0 dX6_fact_39 rfl ?_
        obtain ⟨z6, hf⟩ := nz_some hf
        refine V_getI g 6 a0 3 rfl (by decide) rfl q_241 z6 dX6_fact_40 ?_
        refine V_i2l g dX6_fact_43 ?_
        cases hf
        exact V_lreturn g f dX6_fact_44
      · have hf := it_f hf c5
        refine V_tableOut g 45 dX6_fact_1 (sw_out (fun v h1 h2 => ?_)) (by decide) ?_
        · rcases (show v = 0 ∨ v = 1 ∨ v = 2 by omega) with rfl | rfl | rfl
          · exact c1
          · exact c3
          · exact c5
        · skip
          refine V_aload_n g 0 dX6_fact_45 rfl ?_
          obtain ⟨z7, hf⟩ := nz_some hf
          refine V_getI g 6 a0 4 rfl (by decide) rfl q_243 z7 dX6_fact_46 ?_
          refine V_i2l g dX6_fact_49 ?_
          cases hf
          exact V_lreturn g f dX6_fact_50
set_option maxRecDepth 20000 in
theorem t_X8_bar_b32 {E : ET} {fu : Nat} {s' : St} {w' : Nat ⊕ Int64} (g : GX E "ThinSeries" cX8_bar 8 7) (f : FX E "bar" (some .long) []) {s : St} (hf : f_X8_bar_b32 fu s = some (s', w')) : V E 8 (QE E (s', rJ w')) s 32 [] [] := by
  unfold f_X8_bar_b32 at hf
  obtain ⟨h22, hf⟩ := ckf hf
  cases hf
  exact thI (j := 24) g f (rm_of h22) q_616 q_106 (by decide) rfl (by decide) (Nat.le_of_ble_eq_true rfl) ⟨⟨dX8_bar_32, dX8_bar_35⟩, Or.inr ⟨dX8_bar_36, dX8_bar_39, dX8_bar_42⟩⟩
set_option maxRecDepth 20000 in
theorem t_X8_bar_b108 {E : ET} {fu : Nat} {s' : St} {w' : Nat ⊕ Int64} (g : GX E "ThinSeries" cX8_bar 8 7) (f : FX E "bar" (some .long) []) {s : St} {l0 : Nat} {l4 : Int32} (hf : f_X8_bar_b108 fu s l0 l4 = some (s', w')) : V E 8 (QE E (s', rJ w')) s 108 [(0, vR 8 l0), (4, vI l4)] [] := by
  unfold f_X8_bar_b108 at hf
  refine V_aload_n g 0 dX8_bar_108 rfl ?_
  obtain ⟨z32, hf⟩ := nz_some hf
  refine V_getR g 8 l0 7 6 rfl (by decide) rfl rfl q_319 z32 dX8_bar_109 ?_
  refine V_iload g 1 dX8_bar_112 rfl ?_
  obtain ⟨z33, hf⟩ := nz_some hf
  obtain ⟨s34, x35, hc, hf⟩ := bI_some hf
  refine cV1 g [vI l4] [] s34 (vJ x35) cf_X6_fact (t_X6_fact g.2.2.2.2.2.2.1 hc) (RC_own g rfl z33) z33 (by decide) q_1102 (Nat.le_of_ble_eq_true rfl) dX8_bar_114 ?_ rfl
  cases hf
  exact V_lreturn g f dX8_bar_117
set_option maxRecDepth 20000 in
theorem t_X8_bar_b66 {E : ET} {fu : Nat} {s' : St} {w' : Nat ⊕ Int64} (g : GX E "ThinSeries" cX8_bar 8 7) (f : FX E "bar" (some .long) []) : ∀ (n : Nat) (s : St) (l0 : Nat) (l2 : Int32) (l4 : Int32) (l5 : Nat) (l6 : Int32) (l7 : Int32), f_X8_bar_b66 fu n s l0 l2 l4 l5 l6 l7 = some (s', w') → V E 8 (QE E (s', rJ w')) s 66 [(0, vR 8 l0), (2, vI l2), (4, vI l4), (5, vR 5 l5), (6, vI l6), (7, vI l7)] [] := by
  intro n
  induction n with
  | zero =>
    intro s l0 l2 l4 l5 l6 l7 hf
    unfold f_X8_bar_b66 at hf
    exact nomatch hf
  | succ n ih =>
    intro s l0 l2 l4 l5 l6 l7 hf
    unfold f_X8_bar_b66 at hf
    refine V_iload g 5 dX8_bar_66 rfl ?_
    refine V_aload g 3 dX8_bar_68 rfl ?_
    obtain ⟨z23, hf⟩ := nz_some hf
    refine V_getI g 5 l5 8 rfl (by decide) rfl q_457 z23 dX8_bar_70 ?_
    refine V_icmp_ge g 108 dX8_bar_73 (by decide) (fun c24 => ?_) (fun c24 => ?_)
    · have hf := it_t hf c24
      refine V_sub [(0, vR 8 l0), (4, vI l4)] [0, 2] rfl ?_
      exact t_X8_bar_b108 g f hf
    · have hf := it_f hf c24
      refine V_aload g 3 dX8_bar_76 rfl ?_
      refine V_getR g 5 l5 3 10 rfl (by decide) rfl rfl q_447 z23 dX8_bar_78 ?_
      refine V_iload g 5 dX8_bar_81 rfl ?_
      obtain ⟨z25, hf⟩ := nz_some hf
      obtain ⟨h26, hf⟩ := ckf hf
      refine V_iald g z25 h26 dX8_bar_83 ?_
      refine V_iload g 4 dX8_bar_84 rfl ?_
      refine V_iload_n g 1 dX8_bar_86 rfl ?_
      refine V_iadd g dX8_bar_87 ?_
      refine V_icmp_ge g 108 dX8_bar_88 (by decide) (fun c27 => ?_) (fun c27 => ?_)
      · have hf := it_t hf c27
        refine V_sub [(0, vR 8 l0), (4, vI l4)] [0, 2] rfl ?_
        exact t_X8_bar_b108 g f hf
      · have hf := it_f hf c27
        refine V_aload_n g 0 dX8_bar_91 rfl ?_
        obtain ⟨z28, hf⟩ := nz_some hf
        refine V_getR g 8 l0 7 6 rfl (by decide) rfl rfl q_319 z28 dX8_bar_92 ?_
        refine V_aload g 3 dX8_bar_95 rfl ?_
        refine V_iload g 5 dX8_bar_97 rfl ?_
        obtain ⟨z29, hf⟩ := nz_some hf
        obtain ⟨s30, hc, hf⟩ := bV_some hf
        refine cV0 g [vR 5 l5, vI l7] [] s30 cf_X6_add (t_X6_add g.2.2.2.2.2.2.1 hc) (RC_own g rfl z29) z29 (by decide) q_590 (Nat.le_of_ble_eq_true rfl) dX8_bar_99 ?_ rfl
        obtain ⟨x31, ex31, hf⟩ := lt_some hf
        refine V_iinc g 5 [(7, vI x31), (0, vR 8 l0), (2, vI l2), (4, vI l4), (5, vR 5 l5), (6, vI l6)] dX8_bar_102 rfl (by rw [ex31]; rfl) (by decide) rfl ?_
        refine V_goto g 66 dX8_bar_105 (by decide) ?_
        refine V_sub [(0, vR 8 l0), (2, vI l2), (4, vI l4), (5, vR 5 l5), (6, vI l6), (7, vI x31)] [1, 2, 3, 4, 5, 0] rfl ?_
        exact ih s30 l0 l2 l4 l5 l6 x31 hf
set_option maxRecDepth 20000 in
theorem t_X8_bar {G : GT} {l : Launch} (hl : l.stackTraces = false) {fu : Nat} {s s' : St} {a0 : Nat} {a1 : Int32} {a2 : Int32} {a3 : Int32} {a4 : Int32} {w' : Nat ⊕ Int64} (hf : f_X8_bar fu s a0 a1 a2 a3 a4 = some (s', w')) : MetG G l yX8_bar (.code yX8_bar cX8_bar 8 (some .long)) 7 s [vR 8 a0, vI a1, vI a2, vI a3, vI a4] (s', rJ w') := by
  refine MetG_of hl (by decide +kernel) (Nat.le_of_ble_eq_true rfl) (fun E g f eG eL => ?_)
  subst eG; subst eL
  have g : GX E "ThinSeries" cX8_bar 8 7 := g
  have f : FX E "bar" (some .long) [] := f
  show V E 8 (QE E (s', rJ w')) s 0 [(0, vR 8 a0), (1, vI a1), (2, vI a2), (3, vI a3), (4, vI a4)] []
  unfold f_X8_bar at hf
  refine V_aload_n g 0 dX8_bar_0 rfl ?_
  refine V_iload_n g 1 dX8_bar_1 rfl ?_
  obtain ⟨z1, hf⟩ := nz_some hf
  rcases bX_some hf with ⟨s2, e3, hc, hf⟩ | ⟨s2, x4, hc, hf⟩
  · cases hf
    refine cVX g [vI a1] [] _ (exN e3) cf_X8_known (t_X8_known g.2.2.2.2.2.2.1 hc) (RC_own g rfl z1) z1 (by decide) q_1024 (Nat.le_of_ble_eq_true rfl) dX8_bar_2 ?_ rfl
    exact VX_out g f
  · refine cV1 g [vI a1] [] s2 (vR 5 x4) cf_X8_known (t_X8_known g.2.2.2.2.2.2.1 hc) (RC_own g rfl z1) z1 (by decide) q_1024 (Nat.le_of_ble_eq_true rfl) dX8_bar_2 ?_ rfl
    refine V_astore g [(5, vR 5 x4), (0, vR 8 a0), (1, vI a1), (2, vI a2), (3, vI a3), (4, vI a4)] dX8_bar_5 rfl (by decide) rfl ?_
    refine V_iload g 5 dX8_bar_7 rfl ?_
    refine V_iconst (v := 3) g dX8_bar_9 (by decide) ?_
    rcases bX_some hf with ⟨s5, e6, hc, hf⟩ | ⟨s5, x7, hc, hf⟩
    · cases hf
      refine cSX g [vI a4, vI 3] [] _ (exN e6) cf_X8_needWhat (t_X8_needWhat g.2.2.2.2.2.2.1 hc) (by decide) q_967 (Nat.le_of_ble_eq_true rfl) dX8_bar_10 ?_ rfl
      exact VX_out g f
    · refine cS0 g [vI a4, vI 3] [] s5 cf_X8_needWhat (t_X8_needWhat g.2.2.2.2.2.2.1 hc) (by decide) q_967 (Nat.le_of_ble_eq_true rfl) dX8_bar_10 ?_ rfl
      refine V_aload_n g 1 dX8_bar_13 rfl ?_
      refine V_getR g 8 a0 12 2 rfl (by decide) rfl rfl q_324 z1 dX8_bar_14 ?_
      refine V_iload_n g 3 dX8_bar_17 rfl ?_
      obtain ⟨z8, hf⟩ := nz_some hf
      obtain ⟨s9, x10, hc, hf⟩ := bI_some hf
      refine cV1 g [vI a2] [] s9 (vI x10) cf_X2_isBarWidth (t_X2_isBarWidth g.2.2.2.2.2.2.1 hc) (RC_own g rfl z8) z8 (by decide) q_1122 (Nat.le_of_ble_eq_true rfl) dX8_bar_18 ?_ rfl
      refine V_if_eq g 32 dX8_bar_21 (by decide) (fun c11 => ?_) (fun c11 => ?_)
      · have hf := it_t hf c11
        refine V_sub [] [] rfl ?_
        exact t_X8_bar_b32 g f hf
      · have hf := it_f hf c11
        refine V_iload_n g 4 dX8_bar_24 rfl ?_
        refine V_i2l g dX8_bar_25 ?_
        obtain ⟨s12, x13, hc, hf⟩ := bI_some hf
        refine cS1 g [vJ (Int32.toInt64 a3)] [] s12 (vI x13) cf_X8_isTime (t_X8_isTime g.2.2.2.2.2.2.1 hc) (by decide) q_389 (Nat.le_of_ble_eq_true rfl) dX8_bar_26 ?_ rfl
        refine V_if_ne g 43 dX8_bar_29 (by decide) (fun c14 => ?_) (fun c14 => ?_)
        · have hf := it_f hf c14
          refine V_iload_n g 4 dX8_bar_43 rfl ?_
          refine V_iload_n g 3 dX8_bar_44 rfl ?_
          obtain ⟨s15, x16, hc, hf⟩ := bI_some hf
          refine cS1 g [vI a3, vI a2] [] s15 (vI x16) cf_X8_multipleUpTo (t_X8_multipleUpTo g.2.2.2.2.2.2.1 hc) (by decide) q_1080 (Nat.le_of_ble_eq_true rfl) dX8_bar_45 ?_ rfl
          refine V_istore g [(6, vI x16), (5, vR 5 x4), (0, vR 8 a0), (1, vI a1), (2, vI a2), (3, vI a3), (4, vI a4)] dX8_bar_48 rfl (by decide) rfl ?_
          refine V_aload_n g 2 dX8_bar_50 rfl ?_
          refine V_getR g 8 a0 7 6 rfl (by decide) rfl rfl q_319 z1 dX8_bar_51 ?_
          obtain ⟨z17, hf⟩ := nz_some hf
          obtain ⟨s18, hc, hf⟩ := bV_some hf
          refine cV0 g [] [] s18 cf_X6_clear (t_X6_clear g.2.2.2.2.2.2.1 hc) (RC_own g rfl z17) z17 (by decide) q_586 (Nat.le_of_ble_eq_true rfl) dX8_bar_54 ?_ rfl
          refine V_aload g 1 dX8_bar_57 rfl ?_
          refine V_iload g 0 dX8_bar_59 rfl ?_
          obtain ⟨z19, hf⟩ := nz_some hf
          obtain ⟨s20, x21, hc, hf⟩ := bI_some hf
          refine cV1 g [vI x16] [] s20 (vI x21) cf_X5_firstFrom (t_X5_firstFrom g.2.2.2.2.2.2.1 hc) (RC_own g rfl z19) z19 (by decide) q_1128 (Nat.le_of_ble_eq_true rfl) dX8_bar_61 ?_ rfl
          refine V_istore g [(7, vI x21), (6, vI x16), (5, vR 5 x4), (0, vR 8 a0), (1, vI a1), (2, vI a2), (3, vI a3), (4, vI a4)] dX8_bar_64 rfl (by decide) rfl ?_
          refine V_sub [(0, vR 8 a0), (2, vI a2), (4, vI a4), (5, vR 5 x4), (6, vI x16), (7, vI x21)] [3, 5, 7, 2, 1, 0] rfl ?_
          exact t_X8_bar_b66 g f _ s20 a0 a2 a4 x4 x16 x21 hf
        · have hf := it_t hf c14
          refine V_sub [] [] rfl ?_
          exact t_X8_bar_b32 g f hf
set_option maxRecDepth 20000 in
theorem t_X4_copyFrom_b10 {E : ET} {fu : Nat} {s' : St} (g : GX E "ThinSeries$Roster" cX4_copyFrom 3 0) (f : FX E "copyFrom" none []) : ∀ (n : Nat) (s : St) (l0 : Nat) (l1 : Nat) (l2 : Int32), f_X4_copyFrom_b10 fu n s l0 l1 l2 = some s' → V E 3 (QE E (s', .inl none)) s 10 [(0, vR 4 l0), (1, vR 4 l1), (2, vI l2)] [] := by
  intro n
  induction n with
  | zero =>
    intro s l0 l1 l2 hf
    unfold f_X4_copyFrom_b10 at hf
    exact nomatch hf
  | succ n ih =>
    intro s l0 l1 l2 hf
    unfold f_X4_copyFrom_b10 at hf
    refine V_iload_n g 2 dX4_copyFrom_10 rfl ?_
    refine V_bipush (v := 10) g dX4_copyFrom_11 (by decide) ?_
    refine V_icmp_ge g 46 dX4_copyFrom_13 (by decide) (fun c4 => ?_) (fun c4 => ?_)
    · have hf := it_t hf c4
      cases hf
      exact V_return g f dX4_copyFrom_46
    · have hf := it_f hf c4
      refine V_aload_n g 0 dX4_copyFrom_16 rfl ?_
      obtain ⟨z5, hf⟩ := nz_some hf
      refine V_getR g 4 l0 0 10 rfl (by decide) rfl rfl q_214 z5 dX4_copyFrom_17 ?_
      refine V_iload_n g 2 dX4_copyFrom_20 rfl ?_
      refine V_aload_n g 1 dX4_copyFrom_21 rfl ?_
      obtain ⟨z6, hf⟩ := nz_some hf
      refine V_getR g 4 l1 0 10 rfl (by decide) rfl rfl q_214 z6 dX4_copyFrom_22 ?_
      refine V_iload_n g 2 dX4_copyFrom_25 rfl ?_
      obtain ⟨z7, hf⟩ := nz_some hf
      obtain ⟨h8, hf⟩ := ckf hf
      refine V_iald g z7 h8 dX4_copyFrom_26 ?_
      obtain ⟨z9, hf⟩ := nz_some hf
      obtain ⟨h10, hf⟩ := ckf hf
      obtain ⟨s11, es11, hf⟩ := lt_some hf
      refine V_iast g es11 z9 h10 dX4_copyFrom_27 ?_
      refine V_aload_n g 0 dX4_copyFrom_28 rfl ?_
      refine V_getR g 4 l0 1 10 rfl (by decide) rfl rfl q_216 z5 dX4_copyFrom_29 ?_
      refine V_iload_n g 2 dX4_copyFrom_32 rfl ?_
      refine V_aload_n g 1 dX4_copyFrom_33 rfl ?_
      refine V_getR g 4 l1 1 10 rfl (by decide) rfl rfl q_216 z6 dX4_copyFrom_34 ?_
      refine V_iload_n g 2 dX4_copyFrom_37 rfl ?_
      obtain ⟨z12, hf⟩ := nz_some hf
      obtain ⟨h13, hf⟩ := ckf hf
      refine V_iald g z12 h13 dX4_copyFrom_38 ?_
      obtain ⟨z14, hf⟩ := nz_some hf
      obtain ⟨h15, hf⟩ := ckf hf
      obtain ⟨s16, es16, hf⟩ := lt_some hf
      refine V_iast g es16 z14 h15 dX4_copyFrom_39 ?_
      obtain ⟨x17, ex17, hf⟩ := lt_some hf
      refine V_iinc g 2 [(2, vI x17), (0, vR 4 l0), (1, vR 4 l1)] dX4_copyFrom_40 rfl (by rw [ex17]; rfl) (by decide) rfl ?_
      refine V_goto g 10 dX4_copyFrom_43 (by decide) ?_
      refine V_sub [(0, vR 4 l0), (1, vR 4 l1), (2, vI x17)] [1, 2, 0] rfl ?_
      exact ih s16 l0 l1 x17 hf
set_option maxRecDepth 20000 in
theorem t_X4_copyFrom {G : GT} {l : Launch} (hl : l.stackTraces = false) {fu : Nat} {s s' : St} {a0 : Nat} {a1 : Nat} (hf : f_X4_copyFrom fu s a0 a1 = some s') : MetG G l yX4_copyFrom (.code yX4_copyFrom cX4_copyFrom 3 none) 0 s [vR 4 a0, vR 4 a1] (s', .inl none) := by
  refine MetG_of hl (by decide +kernel) (Nat.le_of_ble_eq_true rfl) (fun E g f eG eL => ?_)
  subst eG; subst eL
  have g : GX E "ThinSeries$Roster" cX4_copyFrom 3 0 := g
  have f : FX E "copyFrom" none [] := f
  show V E 3 (QE E (s', .inl none)) s 0 [(0, vR 4 a0), (1, vR 4 a1)] []
  unfold f_X4_copyFrom at hf
  refine V_aload_n g 0 dX4_copyFrom_0 rfl ?_
  refine V_aload_n g 1 dX4_copyFrom_1 rfl ?_
  obtain ⟨z1, hf⟩ := nz_some hf
  refine V_getI g 4 a1 2 rfl (by decide) rfl q_218 z1 dX4_copyFrom_2 ?_
  obtain ⟨z2, hf⟩ := nz_some hf
  obtain ⟨s3, es3, hf⟩ := lt_some hf
  refine V_putI g 4 a0 2 es3 rfl (by decide) rfl q_218 z2 (Or.inl rfl) pf_4_2 dX4_copyFrom_5 ?_
  refine V_iconst (v := 0) g dX4_copyFrom_8 (by decide) ?_
  refine V_istore_n g [(2, vI 0), (0, vR 4 a0), (1, vR 4 a1)] dX4_copyFrom_9 rfl (by decide) rfl ?_
  refine V_sub [(0, vR 4 a0), (1, vR 4 a1), (2, vI 0)] [1, 2, 0] rfl ?_
  exact t_X4_copyFrom_b10 g f _ s3 a0 a1 0 hf
