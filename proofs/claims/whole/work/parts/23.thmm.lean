set_option maxRecDepth 20000 in
theorem t_X9_which_b2 {E : ET} {fu : Nat} {s' : St} {w' : Int32} (g : GX E "ThinSeriesModel" cX9_which 3 5) (f : FX E "which" (some .int) []) : ∀ (n : Nat) (s : St) (l0 : Nat) (l1 : Nat) (l2 : Int32), f_X9_which_b2 fu n s l0 l1 l2 = some (s', w') → V E 3 (QE E (s', .inl (some (vI w')))) s 2 [(0, vR 9 l0), (1, vR 15 l1), (2, vI l2)] [] := by
  intro n
  induction n with
  | zero =>
    intro s l0 l1 l2 hf
    unfold f_X9_which_b2 at hf
    exact nomatch hf
  | succ n ih =>
    intro s l0 l1 l2 hf
    unfold f_X9_which_b2 at hf
    refine V_iload_n g 2 dX9_which_2 rfl ?_
    refine V_aload_n g 1 dX9_which_3 rfl ?_
    obtain ⟨z1, hf⟩ := nz_some hf
    refine V_alen15 g z1 dX9_which_4 ?_
    refine V_icmp_ge g 26 dX9_which_5 (by decide) (fun c2 => ?_) (fun c2 => ?_)
    · have hf := it_t hf c2
      refine V_iconst (v := (-1)) g dX9_which_26 (by decide) ?_
      cases hf
      exact V_ireturn g f dX9_which_27
    · have hf := it_f hf c2
      refine V_aload_n g 0 dX9_which_8 rfl ?_
      refine V_aload_n g 1 dX9_which_9 rfl ?_
      refine V_iload_n g 2 dX9_which_10 rfl ?_
      obtain ⟨h3, hf⟩ := ckf hf
      refine V_tald g z1 h3 dX9_which_11 ?_
      obtain ⟨z4, hf⟩ := nz_some hf
      obtain ⟨s5, x6, hc, hf⟩ := bI_some hf
      refine cV1 g [vR 16 (gR s 15 l1 (ix l2))] [] s5 (vI x6) cf_X9_is (t_X9_is g.2.2.2.2.2.2.1 hc) (RC_own g rfl z4) z4 (by decide) q_1489 (Nat.le_of_ble_eq_true rfl) dX9_which_12 ?_ rfl
      refine V_if_eq g 20 dX9_which_15 (by decide) (fun c7 => ?_) (fun c7 => ?_)
      · have hf := it_t hf c7
        obtain ⟨x8, ex8, hf⟩ := lt_some hf
        refine V_iinc g 2 [(2, vI x8), (0, vR 9 l0), (1, vR 15 l1)] dX9_which_20 rfl (by rw [ex8]; rfl) (by decide) rfl ?_
        refine V_goto g 2 dX9_which_23 (by decide) ?_
        refine V_sub [(0, vR 9 l0), (1, vR 15 l1), (2, vI x8)] [1, 2, 0] rfl ?_
        exact ih s5 l0 l1 x8 hf
      · have hf := it_f hf c7
        refine V_iload_n g 2 dX9_which_18 rfl ?_
        cases hf
        exact V_ireturn g f dX9_which_19
set_option maxRecDepth 20000 in
theorem t_X9_which {G : GT} {l : Launch} (hl : l.stackTraces = false) {fu : Nat} {s s' : St} {a0 : Nat} {a1 : Nat} {w' : Int32} (hf : f_X9_which fu s a0 a1 = some (s', w')) : MetG G l yX9_which (.code yX9_which cX9_which 3 (some .int)) 5 s [vR 9 a0, vR 15 a1] (s', .inl (some (vI w'))) := by
  refine MetG_of hl (by decide +kernel) (Nat.le_of_ble_eq_true rfl) (fun E g f eG eL => ?_)
  subst eG; subst eL
  have g : GX E "ThinSeriesModel" cX9_which 3 5 := g
  have f : FX E "which" (some .int) [] := f
  show V E 3 (QE E (s', .inl (some (vI w')))) s 0 [(0, vR 9 a0), (1, vR 15 a1)] []
  unfold f_X9_which at hf
  refine V_iconst (v := 0) g dX9_which_0 (by decide) ?_
  refine V_istore_n g [(2, vI 0), (0, vR 9 a0), (1, vR 15 a1)] dX9_which_1 rfl (by decide) rfl ?_
  refine V_sub [(0, vR 9 a0), (1, vR 15 a1), (2, vI 0)] [1, 2, 0] rfl ?_
  exact t_X9_which_b2 g f _ s a0 a1 0 hf
set_option maxRecDepth 20000 in
theorem t_X9_readLine_b69 {E : ET} {fu : Nat} {s' : St} (g : GX E "ThinSeriesModel" cX9_readLine 5 6) (f : FX E "readLine" none []) {s : St} {l0 : Nat} {l1 : Int32} {l2 : Int32} {l3 : Int32} {t0 : Int32} (hf : f_X9_readLine_b69 fu s l0 l1 l2 l3 t0 = some s') : V E 5 (QE E (s', .inl none)) s 69 [(0, vR 9 l0), (1, vI l1), (2, vI l2), (3, vI l3)] [vI t0] := by
  unfold f_X9_readLine_b69 at hf
  refine V_istore g [(4, vI t0), (0, vR 9 l0), (1, vI l1), (2, vI l2), (3, vI l3)] dX9_readLine_69 rfl (by decide) rfl ?_
  refine V_aload_n g 1 dX9_readLine_71 rfl ?_
  refine V_bipush (v := 59) g dX9_readLine_72 (by decide) ?_
  obtain ⟨z17, hf⟩ := nz_some hf
  obtain ⟨s18, hc, hf⟩ := bV_some hf
  refine cV0 g [vI 59] [] s18 cf_X9_mark (t_X9_mark g.2.2.2.2.2.2.1 hc) (RC_own g rfl z17) z17 (by decide) q_1540 (Nat.le_of_ble_eq_true rfl) dX9_readLine_74 ?_ rfl
  refine V_aload_n g 1 dX9_readLine_77 rfl ?_
  refine V_getI g 9 l0 31 rfl (by decide) rfl q_1264 z17 dX9_readLine_78 ?_
  refine V_if_eq g 85 dX9_readLine_81 (by decide) (fun c19 => ?_) (fun c19 => ?_)
  · have hf := it_t hf c19
    refine V_aload_n g 1 dX9_readLine_85 rfl ?_
    refine V_getR g 9 l0 44 10 rfl (by decide) rfl rfl q_1277 z17 dX9_readLine_86 ?_
    refine V_iconst (v := 4) g dX9_readLine_89 (by decide) ?_
    refine V_aload_n g 1 dX9_readLine_90 rfl ?_
    refine V_getI g 9 l0 45 rfl (by decide) rfl q_1278 z17 dX9_readLine_91 ?_
    refine V_imul g dX9_readLine_94 ?_
    refine V_iload_n g 2 dX9_readLine_95 rfl ?_
    obtain ⟨z20, hf⟩ := nz_some hf
    obtain ⟨h21, hf⟩ := ckf hf
    obtain ⟨s22, es22, hf⟩ := lt_some hf
    refine V_iast g es22 z20 h21 dX9_readLine_96 ?_
    refine V_aload_n g 1 dX9_readLine_97 rfl ?_
    refine V_getR g 9 l0 44 10 rfl (by decide) rfl rfl q_1277 z17 dX9_readLine_98 ?_
    refine V_iconst (v := 4) g dX9_readLine_101 (by decide) ?_
    refine V_aload_n g 1 dX9_readLine_102 rfl ?_
    refine V_getI g 9 l0 45 rfl (by decide) rfl q_1278 z17 dX9_readLine_103 ?_
    refine V_imul g dX9_readLine_106 ?_
    refine V_iconst (v := 1) g dX9_readLine_107 (by decide) ?_
    refine V_iadd g dX9_readLine_108 ?_
    refine V_iload_n g 3 dX9_readLine_109 rfl ?_
    obtain ⟨z23, hf⟩ := nz_some hf
    obtain ⟨h24, hf⟩ := ckf hf
    obtain ⟨s25, es25, hf⟩ := lt_some hf
    refine V_iast g es25 z23 h24 dX9_readLine_110 ?_
    refine V_aload_n g 1 dX9_readLine_111 rfl ?_
    refine V_getR g 9 l0 44 10 rfl (by decide) rfl rfl q_1277 z17 dX9_readLine_112 ?_
    refine V_iconst (v := 4) g dX9_readLine_115 (by decide) ?_
    refine V_aload_n g 1 dX9_readLine_116 rfl ?_
    refine V_getI g 9 l0 45 rfl (by decide) rfl q_1278 z17 dX9_readLine_117 ?_
    refine V_imul g dX9_readLine_120 ?_
    refine V_iconst (v := 2) g dX9_readLine_121 (by decide) ?_
    refine V_iadd g dX9_readLine_122 ?_
    refine V_iload_n g 4 dX9_readLine_123 rfl ?_
    obtain ⟨z26, hf⟩ := nz_some hf
    obtain ⟨h27, hf⟩ := ckf hf
    obtain ⟨s28, es28, hf⟩ := lt_some hf
    refine V_iast g es28 z26 h27 dX9_readLine_124 ?_
    refine V_aload_n g 1 dX9_readLine_125 rfl ?_
    refine V_getR g 9 l0 44 10 rfl (by decide) rfl rfl q_1277 z17 dX9_readLine_126 ?_
    refine V_iconst (v := 4) g dX9_readLine_129 (by decide) ?_
    refine V_aload_n g 1 dX9_readLine_130 rfl ?_
    refine V_getI g 9 l0 45 rfl (by decide) rfl q_1278 z17 dX9_readLine_131 ?_
    refine V_imul g dX9_readLine_134 ?_
    refine V_iconst (v := 3) g dX9_readLine_135 (by decide) ?_
    refine V_iadd g dX9_readLine_136 ?_
    refine V_iload g 0 dX9_readLine_137 rfl ?_
    obtain ⟨z29, hf⟩ := nz_some hf
    obtain ⟨h30, hf⟩ := ckf hf
    obtain ⟨s31, es31, hf⟩ := lt_some hf
    refine V_iast g es31 z29 h30 dX9_readLine_139 ?_
    refine V_aload_n g 1 dX9_readLine_140 rfl ?_
    refine V_dup g dX9_readLine_141 rfl ?_
    refine V_getI g 9 l0 45 rfl (by decide) rfl q_1278 z17 dX9_readLine_142 ?_
    refine V_iconst (v := 1) g dX9_readLine_145 (by decide) ?_
    refine V_iadd g dX9_readLine_146 ?_
    obtain ⟨s32, es32, hf⟩ := lt_some hf
    refine V_putI g 9 l0 45 es32 rfl (by decide) rfl q_1278 z17 (Or.inl rfl) pf_9_45 dX9_readLine_147 ?_
    cases hf
    exact V_return g f dX9_readLine_150
  · have hf := it_f hf c19
    cases hf
    exact V_return g f dX9_readLine_84
set_option maxRecDepth 20000 in
theorem t_X9_readLine_b50 {E : ET} {fu : Nat} {s' : St} (g : GX E "ThinSeriesModel" cX9_readLine 5 6) (f : FX E "readLine" none []) {s : St} {l0 : Nat} {l1 : Int32} {l2 : Int32} {t0 : Int32} (hf : f_X9_readLine_b50 fu s l0 l1 l2 t0 = some s') : V E 5 (QE E (s', .inl none)) s 50 [(0, vR 9 l0), (1, vI l1), (2, vI l2)] [vI t0] := by
  unfold f_X9_readLine_b50 at hf
  refine V_istore_n g [(3, vI t0), (0, vR 9 l0), (1, vI l1), (2, vI l2)] dX9_readLine_50 rfl (by decide) rfl ?_
  refine V_iload_n g 2 dX9_readLine_51 rfl ?_
  refine V_if_ne g 68 dX9_readLine_52 (by decide) (fun c13 => ?_) (fun c13 => ?_)
  · have hf := it_f hf c13
    refine V_iconst (v := 0) g dX9_readLine_68 (by decide) ?_
    refine V_sub [(0, vR 9 l0), (1, vI l1), (2, vI l2), (3, vI t0)] [1, 2, 3, 0] rfl ?_
    exact t_X9_readLine_b69 g f hf
  · have hf := it_t hf c13
    refine V_aload_n g 1 dX9_readLine_55 rfl ?_
    refine V_sipush (v := (-10000)) g dX9_readLine_56 (by decide) ?_
    refine V_sipush (v := 10000) g dX9_readLine_59 (by decide) ?_
    obtain ⟨z14, hf⟩ := nz_some hf
    obtain ⟨s15, x16, hc, hf⟩ := bI_some hf
    refine cV1 g [vI ((-10000)), vI 10000] [] s15 (vI x16) cf_X9_readSigned (t_X9_readSigned g.2.2.2.2.2.2.1 hc) (RC_own g rfl z14) z14 (by decide) q_1545 (Nat.le_of_ble_eq_true rfl) dX9_readLine_62 ?_ rfl
    refine V_goto g 69 dX9_readLine_65 (by decide) ?_
    refine V_sub [(0, vR 9 l0), (1, vI l1), (2, vI l2), (3, vI t0)] [1, 2, 3, 0] rfl ?_
    exact t_X9_readLine_b69 g f hf
set_option maxRecDepth 20000 in
theorem t_X9_readLine_b19 {E : ET} {fu : Nat} {s' : St} (g : GX E "ThinSeriesModel" cX9_readLine 5 6) (f : FX E "readLine" none []) {s : St} {l0 : Nat} {l1 : Int32} (hf : f_X9_readLine_b19 fu s l0 l1 = some s') : V E 5 (QE E (s', .inl none)) s 19 [(0, vR 9 l0), (1, vI l1)] [] := by
  unfold f_X9_readLine_b19 at hf
  refine V_aload_n g 0 dX9_readLine_19 rfl ?_
  obtain ⟨z6, hf⟩ := nz_some hf
  obtain ⟨s7, hc, hf⟩ := bV_some hf
  refine cV0 g [] [] s7 cf_X9_pass (t_X9_pass g.2.2.2.2.2.2.1 hc) (RC_own g rfl z6) z6 (by decide) q_1499 (Nat.le_of_ble_eq_true rfl) dX9_readLine_20 ?_ rfl
  refine V_aload_n g 0 dX9_readLine_23 rfl ?_
  refine V_iconst (v := 0) g dX9_readLine_24 (by decide) ?_
  refine V_bipush (v := 9) g dX9_readLine_25 (by decide) ?_
  obtain ⟨s8, x9, hc, hf⟩ := bI_some hf
  refine cV1 g [vI 0, vI 9] [] s8 (vI x9) cf_X9_readNumber (t_X9_readNumber g.2.2.2.2.2.2.1 hc) (RC_own g rfl z6) z6 (by decide) q_1515 (Nat.le_of_ble_eq_true rfl) dX9_readLine_27 ?_ rfl
  refine V_istore_n g [(2, vI x9), (0, vR 9 l0), (1, vI l1)] dX9_readLine_30 rfl (by decide) rfl ?_
  refine V_iload_n g 2 dX9_readLine_31 rfl ?_
  refine V_iconst (v := 2) g dX9_readLine_32 (by decide) ?_
  refine V_icmp_ge g 49 dX9_readLine_33 (by decide) (fun c10 => ?_) (fun c10 => ?_)
  · have hf := it_t hf c10
    refine V_iconst (v := 0) g dX9_readLine_49 (by decide) ?_
    refine V_sub [(0, vR 9 l0), (1, vI l1), (2, vI x9)] [1, 2, 0] rfl ?_
    exact t_X9_readLine_b50 g f hf
  · have hf := it_f hf c10
    refine V_aload_n g 1 dX9_readLine_36 rfl ?_
    refine V_ldcw (v := (-1000000)) g q_1690 dX9_readLine_37 ?_
    refine V_ldcw (v := 1000000) g q_1691 dX9_readLine_40 ?_
    obtain ⟨s11, x12, hc, hf⟩ := bI_some hf
    refine cV1 g [vI ((-1000000)), vI 1000000] [] s11 (vI x12) cf_X9_readSigned (t_X9_readSigned g.2.2.2.2.2.2.1 hc) (RC_own g rfl z6) z6 (by decide) q_1545 (Nat.le_of_ble_eq_true rfl) dX9_readLine_43 ?_ rfl
    refine V_goto g 50 dX9_readLine_46 (by decide) ?_
    refine V_sub [(0, vR 9 l0), (1, vI l1), (2, vI x9)] [1, 2, 0] rfl ?_
    exact t_X9_readLine_b50 g f hf
set_option maxRecDepth 20000 in
theorem t_X9_readLine {G : GT} {l : Launch} (hl : l.stackTraces = false) {fu : Nat} {s s' : St} {a0 : Nat} (hf : f_X9_readLine fu s a0 = some s') : MetG G l yX9_readLine (.code yX9_readLine cX9_readLine 5 none) 6 s [vR 9 a0] (s', .inl none) := by
  refine MetG_of hl (by decide +kernel) (Nat.le_of_ble_eq_true rfl) (fun E g f eG eL => ?_)
  subst eG; subst eL
  have g : GX E "ThinSeriesModel" cX9_readLine 5 6 := g
  have f : FX E "readLine" none [] := f
  show V E 5 (QE E (s', .inl none)) s 0 [(0, vR 9 a0)] []
  unfold f_X9_readLine at hf
  refine V_aload_n g 0 dX9_readLine_0 rfl ?_
  refine V_aload_n g 0 dX9_readLine_1 rfl ?_
  obtain ⟨z1, hf⟩ := nz_some hf
  refine V_getR g 9 a0 2 15 rfl (by decide) rfl rfl q_1235 z1 dX9_readLine_2 ?_
  obtain ⟨s2, x3, hc, hf⟩ := bI_some hf
  refine cV1 g [vR 15 (gR s 9 a0 2)] [] s2 (vI x3) cf_X9_which (t_X9_which g.2.2.2.2.2.2.1 hc) (RC_own g rfl z1) z1 (by decide) q_1485 (Nat.le_of_ble_eq_true rfl) dX9_readLine_5 ?_ rfl
  refine V_istore_n g [(1, vI x3), (0, vR 9 a0)] dX9_readLine_8 rfl (by decide) rfl ?_
  refine V_iload_n g 0 dX9_readLine_9 rfl ?_
  refine V_iconst (v := (-1)) g dX9_readLine_10 (by decide) ?_
  refine V_icmp_ne g 19 dX9_readLine_11 (by decide) (fun c4 => ?_) (fun c4 => ?_)
  · have hf := it_f hf c4
    refine V_sub [(0, vR 9 a0), (1, vI x3)] [1, 0] rfl ?_
    exact t_X9_readLine_b19 g f hf
  · have hf := it_t hf c4
    refine V_aload_n g 1 dX9_readLine_14 rfl ?_
    refine V_iconst (v := 1) g dX9_readLine_15 (by decide) ?_
    obtain ⟨s5, hc, hf⟩ := bV_some hf
    refine cV0 g [vI 1] [] s5 cf_X9_wrong (t_X9_wrong g.2.2.2.2.2.2.1 hc) (RC_own g rfl z1) z1 (by decide) q_1495 (Nat.le_of_ble_eq_true rfl) dX9_readLine_16 ?_ rfl
    refine V_sub [(0, vR 9 a0), (1, vI x3)] [1, 0] rfl ?_
    exact t_X9_readLine_b19 g f hf
set_option maxRecDepth 20000 in
theorem t_X9_refuse {G : GT} {l : Launch} (hl : l.stackTraces = false) {fu : Nat} {s s' : St} {a0 : Nat} {a1 : Int32} {w' : Int32} (hf : f_X9_refuse fu s a0 a1 = some (s', w')) : MetG G l yX9_refuse (.code yX9_refuse cX9_refuse 2 (some .int)) 0 s [vR 9 a0, vI a1] (s', .inl (some (vI w'))) := by
  refine MetG_of hl (by decide +kernel) (Nat.le_of_ble_eq_true rfl) (fun E g f eG eL => ?_)
  subst eG; subst eL
  have g : GX E "ThinSeriesModel" cX9_refuse 2 0 := g
  have f : FX E "refuse" (some .int) [] := f
  show V E 2 (QE E (s', .inl (some (vI w')))) s 0 [(0, vR 9 a0), (1, vI a1)] []
  unfold f_X9_refuse at hf
  refine V_aload_n g 0 dX9_refuse_0 rfl ?_
  refine V_iload_n g 1 dX9_refuse_1 rfl ?_
  obtain ⟨z1, hf⟩ := nz_some hf
  obtain ⟨s2, es2, hf⟩ := lt_some hf
  refine V_putI g 9 a0 40 es2 rfl (by decide) rfl q_1273 z1 (Or.inl rfl) pf_9_40 dX9_refuse_2 ?_
  refine V_iconst (v := (-1)) g dX9_refuse_5 (by decide) ?_
  cases hf
  exact V_ireturn g f dX9_refuse_6
set_option maxRecDepth 20000 in
theorem t_X9_takesBack_b91 {E : ET} {fu : Nat} {s' : St} (g : GX E "ThinSeriesModel" cX9_takesBack 2 1) (f : FX E "takesBack" none []) : ∀ (n : Nat) (s : St) (l0 : Nat) (l1 : Int32), f_X9_takesBack_b91 fu n s l0 l1 = some s' → V E 2 (QE E (s', .inl none)) s 91 [(0, vR 9 l0), (1, vI l1)] [] := by
  intro n
  induction n with
  | zero =>
    intro s l0 l1 hf
    unfold f_X9_takesBack_b91 at hf
    exact nomatch hf
  | succ n ih =>
    intro s l0 l1 hf
    unfold f_X9_takesBack_b91 at hf
    refine V_iload_n g 1 dX9_takesBack_91 rfl ?_
    refine V_bipush (v := 10) g dX9_takesBack_92 (by decide) ?_
    refine V_icmp_ge g 177 dX9_takesBack_94 (by decide) (fun c17 => ?_) (fun c17 => ?_)
    · have hf := it_t hf c17
      cases hf
      exact V_return g f dX9_takesBack_177
    · have hf := it_f hf c17
      refine V_aload_n g 0 dX9_takesBack_97 rfl ?_
      obtain ⟨z18, hf⟩ := nz_some hf
      refine V_getR g 9 l0 10 13 rfl (by decide) rfl rfl q_1243 z18 dX9_takesBack_98 ?_
      refine V_iload_n g 1 dX9_takesBack_101 rfl ?_
      refine V_aload_n g 0 dX9_takesBack_102 rfl ?_
      refine V_getR g 9 l0 49 13 rfl (by decide) rfl rfl q_1282 z18 dX9_takesBack_103 ?_
      refine V_iload_n g 1 dX9_takesBack_106 rfl ?_
      obtain ⟨z19, hf⟩ := nz_some hf
      obtain ⟨h20, hf⟩ := ckf hf
      refine V_zald g z19 h20 dX9_takesBack_107 ?_
      obtain ⟨z21, hf⟩ := nz_some hf
      obtain ⟨h22, hf⟩ := ckf hf
      obtain ⟨s23, es23, hf⟩ := lt_some hf
      refine V_zast g es23 z21 h22 dX9_takesBack_108 ?_
      refine V_aload_n g 0 dX9_takesBack_109 rfl ?_
      refine V_getR g 9 l0 11 10 rfl (by decide) rfl rfl q_1244 z18 dX9_takesBack_110 ?_
      refine V_iload_n g 1 dX9_takesBack_113 rfl ?_
      refine V_aload_n g 0 dX9_takesBack_114 rfl ?_
      refine V_getR g 9 l0 50 10 rfl (by decide) rfl rfl q_1283 z18 dX9_takesBack_115 ?_
      refine V_iconst (v := 4) g dX9_takesBack_118 (by decide) ?_
      refine V_iload_n g 1 dX9_takesBack_119 rfl ?_
      refine V_imul g dX9_takesBack_120 ?_
      obtain ⟨z24, hf⟩ := nz_some hf
      obtain ⟨h25, hf⟩ := ckf hf
      refine V_iald g z24 h25 dX9_takesBack_121 ?_
      obtain ⟨z26, hf⟩ := nz_some hf
      obtain ⟨h27, hf⟩ := ckf hf
      obtain ⟨s28, es28, hf⟩ := lt_some hf
      refine V_iast g es28 z26 h27 dX9_takesBack_122 ?_
      refine V_aload_n g 0 dX9_takesBack_123 rfl ?_
      refine V_getR g 9 l0 12 10 rfl (by decide) rfl rfl q_1245 z18 dX9_takesBack_124 ?_
      refine V_iload_n g 1 dX9_takesBack_127 rfl ?_
      refine V_aload_n g 0 dX9_takesBack_128 rfl ?_
      refine V_getR g 9 l0 50 10 rfl (by decide) rfl rfl q_1283 z18 dX9_takesBack_129 ?_
      refine V_iconst (v := 4) g dX9_takesBack_132 (by decide) ?_
      refine V_iload_n g 1 dX9_takesBack_133 rfl ?_
      refine V_imul g dX9_takesBack_134 ?_
      refine V_iconst (v := 1) g dX9_takesBack_135 (by decide) ?_
      refine V_iadd g dX9_takesBack_136 ?_
      obtain ⟨z29, hf⟩ := nz_some hf
      obtain ⟨h30, hf⟩ := ckf hf
      refine V_iald g z29 h30 dX9_takesBack_137 ?_
      obtain ⟨z31, hf⟩ := nz_some hf
      obtain ⟨h32, hf⟩ := ckf hf
      obtain ⟨s33, es33, hf⟩ := lt_some hf
      refine V_iast g es33 z31 h32 dX9_takesBack_138 ?_
      refine V_aload_n g 0 dX9_takesBack_139 rfl ?_
      refine V_getR g 9 l0 13 10 rfl (by decide) rfl rfl q_1246 z18 dX9_takesBack_140 ?_
      refine V_iload_n g 1 dX9_takesBack_143 rfl ?_
      refine V_aload_n g 0 dX9_takesBack_144 rfl ?_
      refine V_getR g 9 l0 50 10 rfl (by decide) rfl rfl q_1283 z18 dX9_takesBack_145 ?_
      refine V_iconst (v := 4) g dX9_takesBack_148 (by decide) ?_
      refine V_iload_n g 1 dX9_takesBack_149 rfl ?_
      refine V_imul g dX9_takesBack_150 ?_
      refine V_iconst (v := 2) g dX9_takesBack_151 (by decide) ?_
      refine V_iadd g dX9_takesBack_152 ?_
      obtain ⟨z34, hf⟩ := nz_some hf
      obtain ⟨h35, hf⟩ := ckf hf
      refine V_iald g z34 h35 dX9_takesBack_153 ?_
      obtain ⟨z36, hf⟩ := nz_some hf
      obtain ⟨h37, hf⟩ := ckf hf
      obtain ⟨s38, es38, hf⟩ := lt_some hf
      refine V_iast g es38 z36 h37 dX9_takesBack_154 ?_
      refine V_aload_n g 0 dX9_takesBack_155 rfl ?_
      refine V_getR g 9 l0 14 10 rfl (by decide) rfl rfl q_1247 z18 dX9_takesBack_156 ?_
      refine V_iload_n g 1 dX9_takesBack_159 rfl ?_
      refine V_aload_n g 0 dX9_takesBack_160 rfl ?_
      refine V_getR g 9 l0 50 10 rfl (by decide) rfl rfl q_1283 z18 dX9_takesBack_161 ?_
      refine V_iconst (v := 4) g dX9_takesBack_164 (by decide) ?_
      refine V_iload_n g 1 dX9_takesBack_165 rfl ?_
      refine V_imul g dX9_takesBack_166 ?_
      refine V_iconst (v := 3) g dX9_takesBack_167 (by decide) ?_
      refine V_iadd g dX9_takesBack_168 ?_
      obtain ⟨z39, hf⟩ := nz_some hf
      obtain ⟨h40, hf⟩ := ckf hf
      refine V_iald g z39 h40 dX9_takesBack_169 ?_
      obtain ⟨z41, hf⟩ := nz_some hf
      obtain ⟨h42, hf⟩ := ckf hf
      obtain ⟨s43, es43, hf⟩ := lt_some hf
      refine V_iast g es43 z41 h42 dX9_takesBack_170 ?_
      obtain ⟨x44, ex44, hf⟩ := lt_some hf
      refine V_iinc g 1 [(1, vI x44), (0, vR 9 l0)] dX9_takesBack_171 rfl (by rw [ex44]; rfl) (by decide) rfl ?_
      refine V_goto g 91 dX9_takesBack_174 (by decide) ?_
      refine V_sub [(0, vR 9 l0), (1, vI x44)] [1, 0] rfl ?_
      exact ih s43 l0 x44 hf
set_option maxRecDepth 20000 in
theorem t_X9_takesBack {G : GT} {l : Launch} (hl : l.stackTraces = false) {fu : Nat} {s s' : St} {a0 : Nat} (hf : f_X9_takesBack fu s a0 = some s') : MetG G l yX9_takesBack (.code yX9_takesBack cX9_takesBack 2 none) 1 s [vR 9 a0] (s', .inl none) := by
  refine MetG_of hl (by decide +kernel) (Nat.le_of_ble_eq_true rfl) (fun E g f eG eL => ?_)
  subst eG; subst eL
  have g : GX E "ThinSeriesModel" cX9_takesBack 2 1 := g
  have f : FX E "takesBack" none [] := f
  show V E 2 (QE E (s', .inl none)) s 0 [(0, vR 9 a0)] []
  unfold f_X9_takesBack at hf
  refine V_aload_n g 0 dX9_takesBack_0 rfl ?_
  refine V_aload_n g 0 dX9_takesBack_1 rfl ?_
  obtain ⟨z1, hf⟩ := nz_some hf
  refine V_getR g 9 a0 50 10 rfl (by decide) rfl rfl q_1283 z1 dX9_takesBack_2 ?_
  refine V_bipush (v := 40) g dX9_takesBack_5 (by decide) ?_
  obtain ⟨z2, hf⟩ := nz_some hf
  obtain ⟨h3, hf⟩ := ckf hf
  refine V_iald g z2 h3 dX9_takesBack_7 ?_
  obtain ⟨s4, es4, hf⟩ := lt_some hf
  refine V_putI g 9 a0 22 es4 rfl (by decide) rfl q_1255 z1 (Or.inl rfl) pf_9_22 dX9_takesBack_8 ?_
  refine V_aload_n g 0 dX9_takesBack_11 rfl ?_
  refine V_aload_n g 0 dX9_takesBack_12 rfl ?_
  refine V_getR g 9 a0 50 10 rfl (by decide) rfl rfl q_1283 z1 dX9_takesBack_13 ?_
  refine V_bipush (v := 41) g dX9_takesBack_16 (by decide) ?_
  obtain ⟨z5, hf⟩ := nz_some hf
  obtain ⟨h6, hf⟩ := ckf hf
  refine V_iald g z5 h6 dX9_takesBack_18 ?_
  obtain ⟨s7, es7, hf⟩ := lt_some hf
  refine V_putI g 9 a0 15 es7 rfl (by decide) rfl q_1248 z1 (Or.inl rfl) pf_9_15 dX9_takesBack_19 ?_
  refine V_aload_n g 0 dX9_takesBack_22 rfl ?_
  refine V_aload_n g 0 dX9_takesBack_23 rfl ?_
  refine V_getR g 9 a0 50 10 rfl (by decide) rfl rfl q_1283 z1 dX9_takesBack_24 ?_
  refine V_bipush (v := 42) g dX9_takesBack_27 (by decide) ?_
  obtain ⟨z8, hf⟩ := nz_some hf
  obtain ⟨h9, hf⟩ := ckf hf
  refine V_iald g z8 h9 dX9_takesBack_29 ?_
  obtain ⟨s10, es10, hf⟩ := lt_some hf
  refine V_putI g 9 a0 16 es10 rfl (by decide) rfl q_1249 z1 (Or.inl rfl) pf_9_16 dX9_takesBack_30 ?_
  refine V_aload_n g 0 dX9_takesBack_33 rfl ?_
  refine V_aload_n g 0 dX9_takesBack_34 rfl ?_
  refine V_getR g 9 a0 50 10 rfl (by decide) rfl rfl q_1283 z1 dX9_takesBack_35 ?_
  refine V_bipush (v := 43) g dX9_takesBack_38 (by decide) ?_
  obtain ⟨z11, hf⟩ := nz_some hf
  obtain ⟨h12, hf⟩ := ckf hf
  refine V_iald g z11 h12 dX9_takesBack_40 ?_
  obtain ⟨s13, es13, hf⟩ := lt_some hf
  refine V_putI g 9 a0 18 es13 rfl (by decide) rfl q_1251 z1 (Or.inl rfl) pf_9_18 dX9_takesBack_41 ?_
  refine V_aload_n g 0 dX9_takesBack_44 rfl ?_
  refine V_getR g 9 a0 19 10 rfl (by decide) rfl rfl q_1252 z1 dX9_takesBack_45 ?_
  refine V_aload_n g 0 dX9_takesBack_48 rfl ?_
  refine V_getR g 9 a0 46 10 rfl (by decide) rfl rfl q_1279 z1 dX9_takesBack_49 ?_
  refine V_aload_n g 0 dX9_takesBack_52 rfl ?_
  refine V_getI g 9 a0 22 rfl (by decide) rfl q_1255 z1 dX9_takesBack_53 ?_
  obtain ⟨s14, hc, hf⟩ := bV_some hf
  refine cS0 g [vR 10 (gR s13 9 a0 19), vR 10 (gR s13 9 a0 46), vI (gI s13 9 a0 22)] [] s14 cf_X9_copies (t_X9_copies g.2.2.2.2.2.2.1 hc) (by decide) q_1696 (Nat.le_of_ble_eq_true rfl) dX9_takesBack_56 ?_ rfl
  refine V_aload_n g 0 dX9_takesBack_59 rfl ?_
  refine V_getR g 9 a0 20 10 rfl (by decide) rfl rfl q_1253 z1 dX9_takesBack_60 ?_
  refine V_aload_n g 0 dX9_takesBack_63 rfl ?_
  refine V_getR g 9 a0 47 10 rfl (by decide) rfl rfl q_1280 z1 dX9_takesBack_64 ?_
  refine V_aload_n g 0 dX9_takesBack_67 rfl ?_
  refine V_getI g 9 a0 22 rfl (by decide) rfl q_1255 z1 dX9_takesBack_68 ?_
  obtain ⟨s15, hc, hf⟩ := bV_some hf
  refine cS0 g [vR 10 (gR s14 9 a0 20), vR 10 (gR s14 9 a0 47), vI (gI s14 9 a0 22)] [] s15 cf_X9_copies (t_X9_copies g.2.2.2.2.2.2.1 hc) (by decide) q_1696 (Nat.le_of_ble_eq_true rfl) dX9_takesBack_71 ?_ rfl
  refine V_aload_n g 0 dX9_takesBack_74 rfl ?_
  refine V_getR g 9 a0 21 10 rfl (by decide) rfl rfl q_1254 z1 dX9_takesBack_75 ?_
  refine V_aload_n g 0 dX9_takesBack_78 rfl ?_
  refine V_getR g 9 a0 48 10 rfl (by decide) rfl rfl q_1281 z1 dX9_takesBack_79 ?_
  refine V_aload_n g 0 dX9_takesBack_82 rfl ?_
  refine V_getI g 9 a0 22 rfl (by decide) rfl q_1255 z1 dX9_takesBack_83 ?_
  obtain ⟨s16, hc, hf⟩ := bV_some hf
  refine cS0 g [vR 10 (gR s15 9 a0 21), vR 10 (gR s15 9 a0 48), vI (gI s15 9 a0 22)] [] s16 cf_X9_copies (t_X9_copies g.2.2.2.2.2.2.1 hc) (by decide) q_1696 (Nat.le_of_ble_eq_true rfl) dX9_takesBack_86 ?_ rfl
  refine V_iconst (v := 0) g dX9_takesBack_89 (by decide) ?_
  refine V_istore_n g [(1, vI 0), (0, vR 9 a0)] dX9_takesBack_90 rfl (by decide) rfl ?_
  refine V_sub [(0, vR 9 a0), (1, vI 0)] [1, 0] rfl ?_
  exact t_X9_takesBack_b91 g f _ s16 a0 0 hf
set_option maxRecDepth 20000 in
theorem t_X9_batch_b17 {E : ET} {fu : Nat} {s' : St} {w' : Int32} (g : GX E "ThinSeriesModel" cX9_batch 3 7) (f : FX E "batch" (some .int) []) {s : St} {l0 : Nat} (hf : f_X9_batch_b17 fu s l0 = some (s', w')) : V E 3 (QE E (s', .inl (some (vI w')))) s 17 [(0, vR 9 l0)] [] := by
  unfold f_X9_batch_b17 at hf
  refine V_aload_n g 0 dX9_batch_17 rfl ?_
  refine V_iconst (v := 1) g dX9_batch_18 (by decide) ?_
  obtain ⟨z8, hf⟩ := nz_some hf
  obtain ⟨s9, x10, hc, hf⟩ := bI_some hf
  refine cV1 g [vI 1] [] s9 (vI x10) cf_X9_fail (t_X9_fail g.2.2.2.2.2.2.1 hc) (RC_own g rfl z8) z8 (by decide) q_1454 (Nat.le_of_ble_eq_true rfl) dX9_batch_19 ?_ rfl
  cases hf
  exact V_ireturn g f dX9_batch_22
set_option maxRecDepth 20000 in
theorem t_X9_batch_b84 {E : ET} {fu : Nat} {s' : St} {w' : Int32} (g : GX E "ThinSeriesModel" cX9_batch 3 7) (f : FX E "batch" (some .int) []) : ∀ (n : Nat) (s : St) (l0 : Nat) (l2 : Int32), f_X9_batch_b84 fu n s l0 l2 = some (s', w') → V E 3 (QE E (s', .inl (some (vI w')))) s 84 [(0, vR 9 l0), (2, vI l2)] [] := by
  intro n
  induction n with
  | zero =>
    intro s l0 l2 hf
    unfold f_X9_batch_b84 at hf
    exact nomatch hf
  | succ n ih =>
    intro s l0 l2 hf
    unfold f_X9_batch_b84 at hf
    refine V_iload_n g 1 dX9_batch_84 rfl ?_
    refine V_aload_n g 0 dX9_batch_85 rfl ?_
    obtain ⟨z22, hf⟩ := nz_some hf
    refine V_getI g 9 l0 45 rfl (by decide) rfl q_1278 z22 dX9_batch_86 ?_
    refine V_icmp_ge g 169 dX9_batch_89 (by decide) (fun c23 => ?_) (fun c23 => ?_)
    · have hf := it_t hf c23
      refine V_aload_n g 0 dX9_batch_169 rfl ?_
      refine V_getI g 9 l0 45 rfl (by decide) rfl q_1278 z22 dX9_batch_170 ?_
      cases hf
      exact V_ireturn g f dX9_batch_173
    · have hf := it_f hf c23
      refine V_aload_n g 0 dX9_batch_92 rfl ?_
      refine V_aload_n g 0 dX9_batch_93 rfl ?_
      refine V_aload_n g 0 dX9_batch_94 rfl ?_
      refine V_getR g 9 l0 44 10 rfl (by decide) rfl rfl q_1277 z22 dX9_batch_95 ?_
      refine V_iconst (v := 4) g dX9_batch_98 (by decide) ?_
      refine V_iload_n g 1 dX9_batch_99 rfl ?_
      refine V_imul g dX9_batch_100 ?_
      obtain ⟨z24, hf⟩ := nz_some hf
      obtain ⟨h25, hf⟩ := ckf hf
      refine V_iald g z24 h25 dX9_batch_101 ?_
      refine V_aload_n g 0 dX9_batch_102 rfl ?_
      refine V_getR g 9 l0 44 10 rfl (by decide) rfl rfl q_1277 z22 dX9_batch_103 ?_
      refine V_iconst (v := 4) g dX9_batch_106 (by decide) ?_
      refine V_iload_n g 1 dX9_batch_107 rfl ?_
      refine V_imul g dX9_batch_108 ?_
      refine V_iconst (v := 1) g dX9_batch_109 (by decide) ?_
      refine V_iadd g dX9_batch_110 ?_
      obtain ⟨h26, hf⟩ := ckf hf
      refine V_iald g z24 h26 dX9_batch_111 ?_
      refine V_aload_n g 0 dX9_batch_112 rfl ?_
      refine V_getR g 9 l0 44 10 rfl (by decide) rfl rfl q_1277 z22 dX9_batch_113 ?_
      refine V_iconst (v := 4) g dX9_batch_116 (by decide) ?_
      refine V_iload_n g 1 dX9_batch_117 rfl ?_
      refine V_imul g dX9_batch_118 ?_
      refine V_iconst (v := 2) g dX9_batch_119 (by decide) ?_
      refine V_iadd g dX9_batch_120 ?_
      obtain ⟨h27, hf⟩ := ckf hf
      refine V_iald g z24 h27 dX9_batch_121 ?_
      refine V_aload_n g 0 dX9_batch_122 rfl ?_
      refine V_getR g 9 l0 44 10 rfl (by decide) rfl rfl q_1277 z22 dX9_batch_123 ?_
      refine V_iconst (v := 4) g dX9_batch_126 (by decide) ?_
      refine V_iload_n g 1 dX9_batch_127 rfl ?_
      refine V_imul g dX9_batch_128 ?_
      refine V_iconst (v := 3) g dX9_batch_129 (by decide) ?_
      refine V_iadd g dX9_batch_130 ?_
      obtain ⟨h28, hf⟩ := ckf hf
      refine V_iald g z24 h28 dX9_batch_131 ?_
      obtain ⟨s29, x30, hc, hf⟩ := bI_some hf
      refine cV1 g [vI (gI s 10 (gR s 9 l0 44) (ix (4 * l2))), vI (gI s 10 (gR s 9 l0 44) (ix ((4 * l2) + 1))), vI (gI s 10 (gR s 9 l0 44) (ix ((4 * l2) + 2))), vI (gI s 10 (gR s 9 l0 44) (ix ((4 * l2) + 3)))] [vR 9 l0] s29 (vI x30) cf_X9_does (t_X9_does g.2.2.2.2.2.2.1 hc) (RC_own g rfl z22) z22 (by decide) q_1699 (Nat.le_of_ble_eq_true rfl) dX9_batch_132 ?_ rfl
      obtain ⟨s31, es31, hf⟩ := lt_some hf
      refine V_putI g 9 l0 41 es31 rfl (by decide) rfl q_1274 z22 (Or.inl rfl) pf_9_41 dX9_batch_135 ?_
      refine V_aload_n g 0 dX9_batch_138 rfl ?_
      refine V_getI g 9 l0 41 rfl (by decide) rfl q_1274 z22 dX9_batch_139 ?_
      refine V_if_ne g 148 dX9_batch_142 (by decide) (fun c32 => ?_) (fun c32 => ?_)
      · have hf := it_f hf c32
        refine V_aload_n g 0 dX9_batch_148 rfl ?_
        obtain ⟨s33, hc, hf⟩ := bV_some hf
        refine cV0 g [] [] s33 cf_X9_takesBack (t_X9_takesBack g.2.2.2.2.2.2.1 hc) (RC_own g rfl z22) z22 (by decide) q_1703 (Nat.le_of_ble_eq_true rfl) dX9_batch_149 ?_ rfl
        refine V_aload_n g 0 dX9_batch_152 rfl ?_
        refine V_iload_n g 1 dX9_batch_153 rfl ?_
        obtain ⟨s34, es34, hf⟩ := lt_some hf
        refine V_putI g 9 l0 43 es34 rfl (by decide) rfl q_1276 z22 (Or.inl rfl) pf_9_43 dX9_batch_154 ?_
        refine V_aload_n g 0 dX9_batch_157 rfl ?_
        refine V_iconst (v := 4) g dX9_batch_158 (by decide) ?_
        obtain ⟨s35, x36, hc, hf⟩ := bI_some hf
        refine cV1 g [vI 4] [] s35 (vI x36) cf_X9_refuse (t_X9_refuse g.2.2.2.2.2.2.1 hc) (RC_own g rfl z22) z22 (by decide) q_1581 (Nat.le_of_ble_eq_true rfl) dX9_batch_159 ?_ rfl
        cases hf
        exact V_ireturn g f dX9_batch_162
      · have hf := it_t hf c32
        refine V_goto g 163 dX9_batch_145 (by decide) ?_
        obtain ⟨x37, ex37, hf⟩ := lt_some hf
        refine V_iinc g 1 [(2, vI x37), (0, vR 9 l0)] dX9_batch_163 rfl (by rw [ex37]; rfl) (by decide) rfl ?_
        refine V_goto g 84 dX9_batch_166 (by decide) ?_
        refine V_sub [(0, vR 9 l0), (2, vI x37)] [1, 0] rfl ?_
        exact ih s31 l0 x37 hf
set_option maxRecDepth 20000 in
theorem t_X9_batch_b58 {E : ET} {fu : Nat} {s' : St} {w' : Int32} (g : GX E "ThinSeriesModel" cX9_batch 3 7) (f : FX E "batch" (some .int) []) {s : St} {l0 : Nat} (hf : f_X9_batch_b58 fu s l0 = some (s', w')) : V E 3 (QE E (s', .inl (some (vI w')))) s 58 [(0, vR 9 l0)] [] := by
  unfold f_X9_batch_b58 at hf
  refine V_aload_n g 0 dX9_batch_58 rfl ?_
  obtain ⟨z15, hf⟩ := nz_some hf
  obtain ⟨s16, x17, hc, hf⟩ := bI_some hf
  refine cV1 g [] [] s16 (vI x17) cf_X9_ended (t_X9_ended g.2.2.2.2.2.2.1 hc) (RC_own g rfl z15) z15 (by decide) q_1551 (Nat.le_of_ble_eq_true rfl) dX9_batch_59 ?_ rfl
  refine V_if_eq g 78 dX9_batch_62 (by decide) (fun c18 => ?_) (fun c18 => ?_)
  · have hf := it_t hf c18
    refine V_aload_n g 0 dX9_batch_78 rfl ?_
    obtain ⟨s19, hc, hf⟩ := bV_some hf
    refine cV0 g [] [] s19 cf_X9_laysAside (t_X9_laysAside g.2.2.2.2.2.2.1 hc) (RC_own g rfl z15) z15 (by decide) q_1692 (Nat.le_of_ble_eq_true rfl) dX9_batch_79 ?_ rfl
    refine V_iconst (v := 0) g dX9_batch_82 (by decide) ?_
    refine V_istore_n g [(2, vI 0), (0, vR 9 l0)] dX9_batch_83 rfl (by decide) rfl ?_
    refine V_sub [(0, vR 9 l0), (2, vI 0)] [1, 0] rfl ?_
    exact t_X9_batch_b84 g f _ s19 l0 0 hf
  · have hf := it_f hf c18
    refine V_aload_n g 0 dX9_batch_65 rfl ?_
    refine V_iconst (v := 1) g dX9_batch_66 (by decide) ?_
    obtain ⟨s20, x21, hc, hf⟩ := bI_some hf
    refine cV1 g [vI 1] [] s20 (vI x21) cf_X9_refuse (t_X9_refuse g.2.2.2.2.2.2.1 hc) (RC_own g rfl z15) z15 (by decide) q_1581 (Nat.le_of_ble_eq_true rfl) dX9_batch_67 ?_ rfl
    refine V_iconst (v := 1) g dX9_batch_70 (by decide) ?_
    refine V_isub g dX9_batch_71 ?_
    refine V_aload_n g 0 dX9_batch_72 rfl ?_
    refine V_getI g 9 l0 31 rfl (by decide) rfl q_1264 z15 dX9_batch_73 ?_
    refine V_isub g dX9_batch_76 ?_
    cases hf
    exact V_ireturn g f dX9_batch_77
set_option maxRecDepth 20000 in
theorem t_X9_batch_b37 {E : ET} {fu : Nat} {s' : St} {w' : Int32} (g : GX E "ThinSeriesModel" cX9_batch 3 7) (f : FX E "batch" (some .int) []) : ∀ (n : Nat) (s : St) (l0 : Nat), f_X9_batch_b37 fu n s l0 = some (s', w') → V E 3 (QE E (s', .inl (some (vI w')))) s 37 [(0, vR 9 l0)] [] := by
  intro n
  induction n with
  | zero =>
    intro s l0 hf
    unfold f_X9_batch_b37 at hf
    exact nomatch hf
  | succ n ih =>
    intro s l0 hf
    unfold f_X9_batch_b37 at hf
    refine V_aload_n g 0 dX9_batch_37 rfl ?_
    obtain ⟨z11, hf⟩ := nz_some hf
    refine V_getI g 9 l0 31 rfl (by decide) rfl q_1264 z11 dX9_batch_38 ?_
    refine V_if_ne g 58 dX9_batch_41 (by decide) (fun c12 => ?_) (fun c12 => ?_)
    · have hf := it_f hf c12
      exact t_X9_batch_b58 g f hf
    · have hf := it_t hf c12
      refine V_aload_n g 0 dX9_batch_44 rfl ?_
      refine V_getI g 9 l0 27 rfl (by decide) rfl q_1260 z11 dX9_batch_45 ?_
      refine V_if_eq g 58 dX9_batch_48 (by decide) (fun c13 => ?_) (fun c13 => ?_)
      · have hf := it_t hf c13
        exact t_X9_batch_b58 g f hf
      · have hf := it_f hf c13
        refine V_aload_n g 0 dX9_batch_51 rfl ?_
        obtain ⟨s14, hc, hf⟩ := bV_some hf
        refine cV0 g [] [] s14 cf_X9_readLine (t_X9_readLine g.2.2.2.2.2.2.1 hc) (RC_own g rfl z11) z11 (by decide) q_1686 (Nat.le_of_ble_eq_true rfl) dX9_batch_52 ?_ rfl
        refine V_goto g 37 dX9_batch_55 (by decide) ?_
        exact ih s14 l0 hf
set_option maxRecDepth 20000 in
theorem t_X9_batch {G : GT} {l : Launch} (hl : l.stackTraces = false) {fu : Nat} {s s' : St} {a0 : Nat} {a1 : Int32} {w' : Int32} (hf : f_X9_batch fu s a0 a1 = some (s', w')) : MetG G l yX9_batch (.code yX9_batch cX9_batch 3 (some .int)) 7 s [vR 9 a0, vI a1] (s', .inl (some (vI w'))) := by
  refine MetG_of hl (by decide +kernel) (Nat.le_of_ble_eq_true rfl) (fun E g f eG eL => ?_)
  subst eG; subst eL
  have g : GX E "ThinSeriesModel" cX9_batch 3 7 := g
  have f : FX E "batch" (some .int) [] := f
  show V E 3 (QE E (s', .inl (some (vI w')))) s 0 [(0, vR 9 a0), (1, vI a1)] []
  unfold f_X9_batch at hf
  refine V_aload_n g 0 dX9_batch_0 rfl ?_
  refine V_iconst (v := 0) g dX9_batch_1 (by decide) ?_
  obtain ⟨z1, hf⟩ := nz_some hf
  obtain ⟨s2, es2, hf⟩ := lt_some hf
  refine V_putI g 9 a0 3 es2 rfl (by decide) rfl q_1236 z1 (Or.inl rfl) pf_9_3 dX9_batch_2 ?_
  refine V_iload_n g 1 dX9_batch_5 rfl ?_
  refine V_if_lt g 17 dX9_batch_6 (by decide) (fun c3 => ?_) (fun c3 => ?_)
  · have hf := it_t hf c3
    refine V_sub [(0, vR 9 a0)] [0] rfl ?_
    exact t_X9_batch_b17 g f hf
  · have hf := it_f hf c3
    refine V_iload_n g 1 dX9_batch_9 rfl ?_
    refine V_aload_n g 0 dX9_batch_10 rfl ?_
    refine V_getI g 9 a0 24 rfl (by decide) rfl q_1257 z1 dX9_batch_11 ?_
    refine V_icmp_le g 23 dX9_batch_14 (by decide) (fun c4 => ?_) (fun c4 => ?_)
    · have hf := it_t hf c4
      refine V_aload_n g 0 dX9_batch_23 rfl ?_
      obtain ⟨s5, hc, hf⟩ := bV_some hf
      refine cV0 g [] [] s5 cf_X9_fine (t_X9_fine g.2.2.2.2.2.2.1 hc) (RC_own g rfl z1) z1 (by decide) q_1563 (Nat.le_of_ble_eq_true rfl) dX9_batch_24 ?_ rfl
      refine V_aload_n g 0 dX9_batch_27 rfl ?_
      refine V_iload_n g 1 dX9_batch_28 rfl ?_
      obtain ⟨s6, hc, hf⟩ := bV_some hf
      refine cV0 g [vI a1] [] s6 cf_X9_begin (t_X9_begin g.2.2.2.2.2.2.1 hc) (RC_own g rfl z1) z1 (by decide) q_1458 (Nat.le_of_ble_eq_true rfl) dX9_batch_29 ?_ rfl
      refine V_aload_n g 0 dX9_batch_32 rfl ?_
      refine V_iconst (v := 0) g dX9_batch_33 (by decide) ?_
      obtain ⟨s7, es7, hf⟩ := lt_some hf
      refine V_putI g 9 a0 45 es7 rfl (by decide) rfl q_1278 z1 (Or.inl rfl) pf_9_45 dX9_batch_34 ?_
      refine V_sub [(0, vR 9 a0)] [0] rfl ?_
      exact t_X9_batch_b37 g f _ s7 a0 hf
    · have hf := it_f hf c4
      refine V_sub [(0, vR 9 a0)] [0] rfl ?_
      exact t_X9_batch_b17 g f hf
set_option maxRecDepth 20000 in
theorem t_X9_meanOf_b66 {E : ET} {fu : Nat} {s' : St} {w' : Int32} (g : GX E "ThinSeriesModel" cX9_meanOf 5 5) (f : FX E "meanOf" (some .int) []) {s : St} (hf : f_X9_meanOf_b66 fu s = some (s', w')) : V E 5 (QE E (s', .inl (some (vI w')))) s 66 [] [] := by
  unfold f_X9_meanOf_b66 at hf
  refine V_sipush (v := (-20000)) g dX9_meanOf_66 (by decide) ?_
  cases hf
  exact V_ireturn g f dX9_meanOf_69
set_option maxRecDepth 20000 in
theorem t_X9_meanOf {G : GT} {l : Launch} (hl : l.stackTraces = false) {fu : Nat} {s s' : St} {a0 : Nat} {a1 : Int32} {a2 : Int32} {a3 : Int32} {w' : Int32} (hf : f_X9_meanOf fu s a0 a1 a2 a3 = some (s', w')) : MetG G l yX9_meanOf (.code yX9_meanOf cX9_meanOf 5 (some .int)) 5 s [vR 9 a0, vI a1, vI a2, vI a3] (s', .inl (some (vI w'))) := by
  refine MetG_of hl (by decide +kernel) (Nat.le_of_ble_eq_true rfl) (fun E g f eG eL => ?_)
  subst eG; subst eL
  have g : GX E "ThinSeriesModel" cX9_meanOf 5 5 := g
  have f : FX E "meanOf" (some .int) [] := f
  show V E 5 (QE E (s', .inl (some (vI w')))) s 0 [(0, vR 9 a0), (1, vI a1), (2, vI a2), (3, vI a3)] []
  unfold f_X9_meanOf at hf
  refine V_aload_n g 0 dX9_meanOf_0 rfl ?_
  refine V_iload_n g 1 dX9_meanOf_1 rfl ?_
  refine V_iload_n g 3 dX9_meanOf_2 rfl ?_
  refine V_i2l g dX9_meanOf_3 ?_
  obtain ⟨z1, hf⟩ := nz_some hf
  obtain ⟨s2, x3, hc, hf⟩ := bI_some hf
  refine cV1 g [vI a1, vJ (Int32.toInt64 a3)] [] s2 (vI x3) cf_X9_placeOf (t_X9_placeOf g.2.2.2.2.2.2.1 hc) (RC_own g rfl z1) z1 (by decide) q_1632 (Nat.le_of_ble_eq_true rfl) dX9_meanOf_4 ?_ rfl
  refine V_istore g [(4, vI x3), (0, vR 9 a0), (1, vI a1), (2, vI a2), (3, vI a3)] dX9_meanOf_7 rfl (by decide) rfl ?_
  refine V_iload g 0 dX9_meanOf_9 rfl ?_
  refine V_aload_n g 1 dX9_meanOf_11 rfl ?_
  refine V_getI g 9 a0 22 rfl (by decide) rfl q_1255 z1 dX9_meanOf_12 ?_
  refine V_icmp_eq g 66 dX9_meanOf_15 (by decide) (fun c4 => ?_) (fun c4 => ?_)
  · have hf := it_t hf c4
    refine V_sub [] [] rfl ?_
    exact t_X9_meanOf_b66 g f hf
  · have hf := it_f hf c4
    refine V_aload_n g 1 dX9_meanOf_18 rfl ?_
    refine V_getR g 9 a0 19 10 rfl (by decide) rfl rfl q_1252 z1 dX9_meanOf_19 ?_
    refine V_iload g 0 dX9_meanOf_22 rfl ?_
    obtain ⟨z5, hf⟩ := nz_some hf
    obtain ⟨h6, hf⟩ := ckf hf
    refine V_iald g z5 h6 dX9_meanOf_24 ?_
    refine V_iload_n g 2 dX9_meanOf_25 rfl ?_
    refine V_icmp_ne g 66 dX9_meanOf_26 (by decide) (fun c7 => ?_) (fun c7 => ?_)
    · have hf := it_f hf c7
      refine V_sub [] [] rfl ?_
      exact t_X9_meanOf_b66 g f hf
    · have hf := it_t hf c7
      refine V_aload_n g 1 dX9_meanOf_29 rfl ?_
      refine V_getR g 9 a0 20 10 rfl (by decide) rfl rfl q_1253 z1 dX9_meanOf_30 ?_
      refine V_iload g 0 dX9_meanOf_33 rfl ?_
      obtain ⟨z8, hf⟩ := nz_some hf
      obtain ⟨h9, hf⟩ := ckf hf
      refine V_iald g z8 h9 dX9_meanOf_35 ?_
      refine V_i2l g dX9_meanOf_36 ?_
      refine V_iload_n g 4 dX9_meanOf_37 rfl ?_
      refine V_i2l g dX9_meanOf_38 ?_
      refine V_aload_n g 1 dX9_meanOf_39 rfl ?_
      refine V_getR g 9 a0 4 10 rfl (by decide) rfl rfl q_1237 z1 dX9_meanOf_40 ?_
      refine V_iload_n g 3 dX9_meanOf_43 rfl ?_
      obtain ⟨z10, hf⟩ := nz_some hf
      obtain ⟨h11, hf⟩ := ckf hf
      refine V_iald g z10 h11 dX9_meanOf_44 ?_
      refine V_i2l g dX9_meanOf_45 ?_
      refine V_ladd g dX9_meanOf_46 ?_
      refine V_lcmp g dX9_meanOf_47 ?_
      refine V_if_ge g 66 dX9_meanOf_48 (by decide) (fun c12 => ?_) (fun c12 => ?_)
      · have hf := it_t hf c12
        refine V_sub [] [] rfl ?_
        exact t_X9_meanOf_b66 g f hf
      · have hf := it_f hf c12
        refine V_aload_n g 1 dX9_meanOf_51 rfl ?_
        refine V_aload_n g 1 dX9_meanOf_52 rfl ?_
        refine V_getR g 9 a0 11 10 rfl (by decide) rfl rfl q_1244 z1 dX9_meanOf_53 ?_
        refine V_iload_n g 2 dX9_meanOf_56 rfl ?_
        obtain ⟨z13, hf⟩ := nz_some hf
        obtain ⟨h14, hf⟩ := ckf hf
        refine V_iald g z13 h14 dX9_meanOf_57 ?_
        refine V_iload_n g 4 dX9_meanOf_58 rfl ?_
        obtain ⟨s15, x16, hc, hf⟩ := bI_some hf
        refine cV1 g [vI (gI s2 10 (gR s2 9 a0 11) (ix a1)), vI a3] [] s15 (vI x16) cf_X9_tierBy (t_X9_tierBy g.2.2.2.2.2.2.1 hc) (RC_own g rfl z1) z1 (by decide) q_1653 (Nat.le_of_ble_eq_true rfl) dX9_meanOf_59 ?_ rfl
        refine V_iload_n g 3 dX9_meanOf_62 rfl ?_
        refine V_icmp_eq g 70 dX9_meanOf_63 (by decide) (fun c17 => ?_) (fun c17 => ?_)
        · have hf := it_t hf c17
          refine V_aload_n g 1 dX9_meanOf_70 rfl ?_
          refine V_iload g 0 dX9_meanOf_71 rfl ?_
          obtain ⟨s18, x19, hc, hf⟩ := bI_some hf
          refine cV1 g [vI x3] [] s18 (vI x19) cf_X9_bucketFrom (t_X9_bucketFrom g.2.2.2.2.2.2.1 hc) (RC_own g rfl z1) z1 (by decide) q_1665 (Nat.le_of_ble_eq_true rfl) dX9_meanOf_73 ?_ rfl
          refine V_istore g [(4, vI x19), (0, vR 9 a0), (1, vI a1), (2, vI a2), (3, vI a3)] dX9_meanOf_76 rfl (by decide) rfl ?_
          refine V_aload_n g 1 dX9_meanOf_78 rfl ?_
          obtain ⟨s20, x21, hc, hf⟩ := bI_some hf
          refine cV1 g [] [] s20 (vI x21) cf_X9_meanNow (t_X9_meanNow g.2.2.2.2.2.2.1 hc) (RC_own g rfl z1) z1 (by decide) q_1766 (Nat.le_of_ble_eq_true rfl) dX9_meanOf_79 ?_ rfl
          cases hf
          exact V_ireturn g f dX9_meanOf_82
        · have hf := it_f hf c17
          refine V_sub [] [] rfl ?_
          exact t_X9_meanOf_b66 g f hf
set_option maxRecDepth 20000 in
theorem t_X9_both_b33 {E : ET} {fu : Nat} {s' : St} {w' : Int32} (g : GX E "ThinSeriesModel" cX9_both 11 6) (f : FX E "both" (some .int) []) {s : St} {l0 : Nat} (hf : f_X9_both_b33 fu s l0 = some (s', w')) : V E 11 (QE E (s', .inl (some (vI w')))) s 33 [(0, vR 9 l0)] [] := by
  unfold f_X9_both_b33 at hf
  refine V_aload_n g 0 dX9_both_33 rfl ?_
  refine V_iconst (v := 1) g dX9_both_34 (by decide) ?_
  obtain ⟨z16, hf⟩ := nz_some hf
  obtain ⟨s17, x18, hc, hf⟩ := bI_some hf
  refine cV1 g [vI 1] [] s17 (vI x18) cf_X9_fail (t_X9_fail g.2.2.2.2.2.2.1 hc) (RC_own g rfl z16) z16 (by decide) q_1454 (Nat.le_of_ble_eq_true rfl) dX9_both_35 ?_ rfl
  cases hf
  exact V_ireturn g f dX9_both_38
set_option maxRecDepth 20000 in
theorem t_X9_both_b128 {E : ET} {fu : Nat} {s' : St} {w' : Int32} (g : GX E "ThinSeriesModel" cX9_both 11 6) (f : FX E "both" (some .int) []) {k64 : St → Nat → Int32 → Int32 → Int32 → Int32 → Int32 → Int32 → Int32 → Option (St × Int32)} (hk64 : ∀ (s : St) (l0 : Nat) (l2 : Int32) (l3 : Int32) (l4 : Int32) (l5 : Int32) (l6 : Int32) (l7 : Int32) (l8 : Int32), k64 s l0 l2 l3 l4 l5 l6 l7 l8 = some (s', w') → V E 11 (QE E (s', .inl (some (vI w')))) s 64 [(0, vR 9 l0), (2, vI l2), (3, vI l3), (4, vI l4), (5, vI l5), (6, vI l6), (7, vI l7), (8, vI l8)] []) {s : St} {l0 : Nat} {l2 : Int32} {l3 : Int32} {l4 : Int32} {l6 : Int32} {l7 : Int32} {l8 : Int32} {l9 : Int32} {l10 : Int32} {t0 : Int32} {t1 : Int32} (hf : f_X9_both_b128 fu k64 s l0 l2 l3 l4 l6 l7 l8 l9 l10 t0 t1 = some (s', w')) : V E 11 (QE E (s', .inl (some (vI w')))) s 128 [(0, vR 9 l0), (2, vI l2), (3, vI l3), (4, vI l4), (6, vI l6), (7, vI l7), (8, vI l8), (9, vI l9), (10, vI l10)] [vI t0, vI t1] := by
  unfold f_X9_both_b128 at hf
  refine V_iadd g dX9_both_128 ?_
  obtain ⟨x32, ex32, hf⟩ := lt_some hf
  refine V_istore g [(5, vI x32), (0, vR 9 l0), (2, vI l2), (3, vI l3), (4, vI l4), (6, vI l6), (7, vI l7), (8, vI l8), (9, vI l9), (10, vI l10)] dX9_both_129 ex32 (by decide) rfl ?_
  refine V_iload g 5 dX9_both_131 rfl ?_
  refine V_iload g 8 dX9_both_133 rfl ?_
  refine V_iload g 9 dX9_both_135 rfl ?_
  refine V_isub g dX9_both_137 ?_
  obtain ⟨s33, x34, hc, hf⟩ := bI_some hf
  refine cS1 g [vI (l9 - l10)] [vI l6] s33 (vI x34) cf_J9_abs_0f7a4 (t_J9_abs_0f7a4 g.2.2.2.2.2.2.1 hc) (by decide) q_1846 (Nat.le_of_ble_eq_true rfl) dX9_both_138 ?_ rfl
  obtain ⟨s35, x36, hc, hf⟩ := bI_some hf
  refine cS1 g [vI l6, vI x34] [] s35 (vI x36) cf_J9_max_7cf53 (t_J9_max_7cf53 g.2.2.2.2.2.2.1 hc) (by decide) q_1645 (Nat.le_of_ble_eq_true rfl) dX9_both_141 ?_ rfl
  refine V_istore g [(6, vI x36), (5, vI x32), (0, vR 9 l0), (2, vI l2), (3, vI l3), (4, vI l4), (7, vI l7), (8, vI l8), (9, vI l9), (10, vI l10)] dX9_both_144 rfl (by decide) rfl ?_
  refine V_goto g 64 dX9_both_146 (by decide) ?_
  refine V_sub [(0, vR 9 l0), (2, vI l2), (3, vI l3), (4, vI l4), (5, vI x32), (6, vI x36), (7, vI l7), (8, vI l8)] [2, 3, 4, 5, 1, 0, 6, 7] rfl ?_
  exact hk64 s35 l0 l2 l3 l4 x32 x36 l7 l8 hf
set_option maxRecDepth 20000 in
theorem t_X9_both_b170 {E : ET} {fu : Nat} {s' : St} {w' : Int32} (g : GX E "ThinSeriesModel" cX9_both 11 6) (f : FX E "both" (some .int) []) {s : St} {t0 : Int32} (hf : f_X9_both_b170 fu s t0 = some (s', w')) : V E 11 (QE E (s', .inl (some (vI w')))) s 170 [] [vI t0] := by
  unfold f_X9_both_b170 at hf
  cases hf
  exact V_ireturn g f dX9_both_170
set_option maxRecDepth 20000 in
theorem t_X9_both_b64 {E : ET} {fu : Nat} {s' : St} {w' : Int32} (g : GX E "ThinSeriesModel" cX9_both 11 6) (f : FX E "both" (some .int) []) : ∀ (n : Nat) (s : St) (l0 : Nat) (l2 : Int32) (l3 : Int32) (l4 : Int32) (l5 : Int32) (l6 : Int32) (l7 : Int32) (l8 : Int32), f_X9_both_b64 fu n s l0 l2 l3 l4 l5 l6 l7 l8 = some (s', w') → V E 11 (QE E (s', .inl (some (vI w')))) s 64 [(0, vR 9 l0), (2, vI l2), (3, vI l3), (4, vI l4), (5, vI l5), (6, vI l6), (7, vI l7), (8, vI l8)] [] := by
  intro n
  induction n with
  | zero =>
    intro s l0 l2 l3 l4 l5 l6 l7 l8 hf
    unfold f_X9_both_b64 at hf
    exact nomatch hf
  | succ n ih =>
    intro s l0 l2 l3 l4 l5 l6 l7 l8 hf
    unfold f_X9_both_b64 at hf
    refine V_iload g 7 dX9_both_64 rfl ?_
    refine V_iload g 6 dX9_both_66 rfl ?_
    refine V_icmp_ge g 149 dX9_both_68 (by decide) (fun c19 => ?_) (fun c19 => ?_)
    · have hf := it_t hf c19
      refine V_iload_n g 2 dX9_both_149 rfl ?_
      refine V_if_ne g 158 dX9_both_150 (by decide) (fun c20 => ?_) (fun c20 => ?_)
      · have hf := it_f hf c20
        refine V_iload_n g 2 dX9_both_158 rfl ?_
        refine V_iconst (v := 1) g dX9_both_159 (by decide) ?_
        refine V_icmp_ne g 168 dX9_both_160 (by decide) (fun c21 => ?_) (fun c21 => ?_)
        · have hf := it_f hf c21
          refine V_iload g 5 dX9_both_168 rfl ?_
          refine V_sub [] [] rfl ?_
          exact t_X9_both_b170 g f hf
        · have hf := it_t hf c21
          refine V_iload g 4 dX9_both_163 rfl ?_
          refine V_goto g 170 dX9_both_165 (by decide) ?_
          refine V_sub [] [] rfl ?_
          exact t_X9_both_b170 g f hf
      · have hf := it_t hf c20
        refine V_iload g 3 dX9_both_153 rfl ?_
        refine V_goto g 170 dX9_both_155 (by decide) ?_
        refine V_sub [] [] rfl ?_
        exact t_X9_both_b170 g f hf
    · have hf := it_f hf c19
      refine V_aload_n g 0 dX9_both_71 rfl ?_
      refine V_iload g 7 dX9_both_72 rfl ?_
      obtain ⟨z22, hf⟩ := nz_some hf
      obtain ⟨s23, x24, hc, hf⟩ := bI_some hf
      refine cV1 g [vI l8] [] s23 (vI x24) cf_X9_bucketFrom (t_X9_bucketFrom g.2.2.2.2.2.2.1 hc) (RC_own g rfl z22) z22 (by decide) q_1665 (Nat.le_of_ble_eq_true rfl) dX9_both_74 ?_ rfl
      refine V_istore g [(8, vI x24), (0, vR 9 l0), (2, vI l2), (3, vI l3), (4, vI l4), (5, vI l5), (6, vI l6), (7, vI l7)] dX9_both_77 rfl (by decide) rfl ?_
      refine V_aload_n g 1 dX9_both_79 rfl ?_
      obtain ⟨s25, x26, hc, hf⟩ := bI_some hf
      refine cV1 g [] [] s25 (vI x26) cf_X9_meanNow (t_X9_meanNow g.2.2.2.2.2.2.1 hc) (RC_own g rfl z22) z22 (by decide) q_1766 (Nat.le_of_ble_eq_true rfl) dX9_both_80 ?_ rfl
      refine V_istore g [(9, vI x26), (8, vI x24), (0, vR 9 l0), (2, vI l2), (3, vI l3), (4, vI l4), (5, vI l5), (6, vI l6), (7, vI l7)] dX9_both_83 rfl (by decide) rfl ?_
      refine V_aload_n g 2 dX9_both_85 rfl ?_
      refine V_iload_n g 3 dX9_both_86 rfl ?_
      refine V_aload_n g 2 dX9_both_87 rfl ?_
      refine V_getI g 9 l0 51 rfl (by decide) rfl q_1284 z22 dX9_both_88 ?_
      refine V_aload_n g 2 dX9_both_91 rfl ?_
      refine V_getI g 9 l0 52 rfl (by decide) rfl q_1285 z22 dX9_both_92 ?_
      obtain ⟨s27, x28, hc, hf⟩ := bI_some hf
      refine cV1 g [vI l2, vI (gI s25 9 l0 51), vI (gI s25 9 l0 52)] [] s27 (vI x28) cf_X9_meanOf (t_X9_meanOf g.2.2.2.2.2.2.1 hc) (RC_own g rfl z22) z22 (by decide) q_1842 (Nat.le_of_ble_eq_true rfl) dX9_both_95 ?_ rfl
      refine V_istore g [(10, vI x28), (9, vI x26), (8, vI x24), (0, vR 9 l0), (2, vI l2), (3, vI l3), (4, vI l4), (5, vI l5), (6, vI l6), (7, vI l7)] dX9_both_98 rfl (by decide) rfl ?_
      refine V_iload g 0 dX9_both_100 rfl ?_
      refine V_sipush (v := (-20000)) g dX9_both_102 (by decide) ?_
      refine V_icmp_ne g 111 dX9_both_105 (by decide) (fun c29 => ?_) (fun c29 => ?_)
      · have hf := it_f hf c29
        obtain ⟨x30, ex30, hf⟩ := lt_some hf
        refine V_iinc g 6 [(4, vI x30), (10, vI x28), (9, vI x26), (8, vI x24), (0, vR 9 l0), (2, vI l2), (3, vI l3), (5, vI l5), (6, vI l6), (7, vI l7)] dX9_both_111 rfl (by rw [ex30]; rfl) (by decide) rfl ?_
        refine V_iload g 7 dX9_both_114 rfl ?_
        refine V_iload g 2 dX9_both_116 rfl ?_
        refine V_iload g 1 dX9_both_118 rfl ?_
        refine V_icmp_le g 127 dX9_both_120 (by decide) (fun c31 => ?_) (fun c31 => ?_)
        · have hf := it_t hf c31
          refine V_iconst (v := 0) g dX9_both_127 (by decide) ?_
          refine V_sub [(0, vR 9 l0), (2, vI l2), (3, vI l3), (4, vI x30), (6, vI l6), (7, vI l7), (8, vI x24), (9, vI x26), (10, vI x28)] [4, 5, 6, 0, 8, 9, 3, 2, 1] rfl ?_
          exact t_X9_both_b128 g f ih hf
        · have hf := it_f hf c31
          refine V_iconst (v := 1) g dX9_both_123 (by decide) ?_
          refine V_goto g 128 dX9_both_124 (by decide) ?_
          refine V_sub [(0, vR 9 l0), (2, vI l2), (3, vI l3), (4, vI x30), (6, vI l6), (7, vI l7), (8, vI x24), (9, vI x26), (10, vI x28)] [4, 5, 6, 0, 8, 9, 3, 2, 1] rfl ?_
          exact t_X9_both_b128 g f ih hf
      · have hf := it_t hf c29
        refine V_goto g 64 dX9_both_108 (by decide) ?_
        refine V_sub [(0, vR 9 l0), (2, vI l2), (3, vI l3), (4, vI l4), (5, vI l5), (6, vI l6), (7, vI l7), (8, vI x24)] [3, 4, 5, 6, 7, 8, 9, 2] rfl ?_
        exact ih s27 l0 l2 l3 l4 l5 l6 l7 x24 hf
set_option maxRecDepth 20000 in
theorem t_X9_both {G : GT} {l : Launch} (hl : l.stackTraces = false) {fu : Nat} {s s' : St} {a0 : Nat} {a1 : Int32} {a2 : Int32} {a3 : Int32} {w' : Int32} (hf : f_X9_both fu s a0 a1 a2 a3 = some (s', w')) : MetG G l yX9_both (.code yX9_both cX9_both 11 (some .int)) 6 s [vR 9 a0, vI a1, vI a2, vI a3] (s', .inl (some (vI w'))) := by
  refine MetG_of hl (by decide +kernel) (Nat.le_of_ble_eq_true rfl) (fun E g f eG eL => ?_)
  subst eG; subst eL
  have g : GX E "ThinSeriesModel" cX9_both 11 6 := g
  have f : FX E "both" (some .int) [] := f
  show V E 11 (QE E (s', .inl (some (vI w')))) s 0 [(0, vR 9 a0), (1, vI a1), (2, vI a2), (3, vI a3)] []
  unfold f_X9_both at hf
  refine V_aload_n g 0 dX9_both_0 rfl ?_
  refine V_iconst (v := 0) g dX9_both_1 (by decide) ?_
  obtain ⟨z1, hf⟩ := nz_some hf
  obtain ⟨s2, es2, hf⟩ := lt_some hf
  refine V_putI g 9 a0 3 es2 rfl (by decide) rfl q_1236 z1 (Or.inl rfl) pf_9_3 dX9_both_2 ?_
  refine V_aload_n g 0 dX9_both_5 rfl ?_
  refine V_iload_n g 1 dX9_both_6 rfl ?_
  obtain ⟨s3, x4, hc, hf⟩ := bI_some hf
  refine cV1 g [vI a1] [] s3 (vI x4) cf_X9_isSeries (t_X9_isSeries g.2.2.2.2.2.2.1 hc) (RC_own g rfl z1) z1 (by decide) q_1727 (Nat.le_of_ble_eq_true rfl) dX9_both_7 ?_ rfl
  refine V_if_eq g 33 dX9_both_10 (by decide) (fun c5 => ?_) (fun c5 => ?_)
  · have hf := it_t hf c5
    refine V_sub [(0, vR 9 a0)] [0] rfl ?_
    exact t_X9_both_b33 g f hf
  · have hf := it_f hf c5
    refine V_aload_n g 0 dX9_both_13 rfl ?_
    refine V_iload_n g 2 dX9_both_14 rfl ?_
    obtain ⟨s6, x7, hc, hf⟩ := bI_some hf
    refine cV1 g [vI a2] [] s6 (vI x7) cf_X9_isSeries (t_X9_isSeries g.2.2.2.2.2.2.1 hc) (RC_own g rfl z1) z1 (by decide) q_1727 (Nat.le_of_ble_eq_true rfl) dX9_both_15 ?_ rfl
    refine V_if_eq g 33 dX9_both_18 (by decide) (fun c8 => ?_) (fun c8 => ?_)
    · have hf := it_t hf c8
      refine V_sub [(0, vR 9 a0)] [0] rfl ?_
      exact t_X9_both_b33 g f hf
    · have hf := it_f hf c8
      refine V_iload_n g 3 dX9_both_21 rfl ?_
      refine V_i2l g dX9_both_22 ?_
      refine V_lconst (v := 0) g dX9_both_23 (by decide) ?_
      refine V_ldc2 (v := 2) g q_1774 dX9_both_24 ?_
      obtain ⟨s9, x10, hc, hf⟩ := bI_some hf
      refine cS1 g [vJ (Int32.toInt64 a3), vJ 0, vJ 2] [] s9 (vI x10) cf_X9_isIn (t_X9_isIn g.2.2.2.2.2.2.1 hc) (by decide) q_1512 (Nat.le_of_ble_eq_true rfl) dX9_both_27 ?_ rfl
      refine V_if_ne g 39 dX9_both_30 (by decide) (fun c11 => ?_) (fun c11 => ?_)
      · have hf := it_f hf c11
        refine V_iconst (v := 0) g dX9_both_39 (by decide) ?_
        refine V_istore g [(4, vI 0), (0, vR 9 a0), (1, vI a1), (2, vI a2), (3, vI a3)] dX9_both_40 rfl (by decide) rfl ?_
        refine V_iconst (v := 0) g dX9_both_42 (by decide) ?_
        refine V_istore g [(5, vI 0), (4, vI 0), (0, vR 9 a0), (1, vI a1), (2, vI a2), (3, vI a3)] dX9_both_43 rfl (by decide) rfl ?_
        refine V_sipush (v := (-20000)) g dX9_both_45 (by decide) ?_
        refine V_istore g [(6, vI ((-20000))), (5, vI 0), (4, vI 0), (0, vR 9 a0), (1, vI a1), (2, vI a2), (3, vI a3)] dX9_both_48 rfl (by decide) rfl ?_
        refine V_aload_n g 3 dX9_both_50 rfl ?_
        refine V_iload_n g 4 dX9_both_51 rfl ?_
        obtain ⟨s12, x13, hc, hf⟩ := bI_some hf
        refine cV1 g [vI a1] [] s12 (vI x13) cf_X9_behindOf (t_X9_behindOf g.2.2.2.2.2.2.1 hc) (RC_own g rfl z1) z1 (by decide) q_1636 (Nat.le_of_ble_eq_true rfl) dX9_both_52 ?_ rfl
        refine V_istore g [(7, vI x13), (6, vI ((-20000))), (5, vI 0), (4, vI 0), (0, vR 9 a0), (1, vI a1), (2, vI a2), (3, vI a3)] dX9_both_55 rfl (by decide) rfl ?_
        refine V_aload_n g 4 dX9_both_57 rfl ?_
        refine V_iload_n g 5 dX9_both_58 rfl ?_
        obtain ⟨s14, x15, hc, hf⟩ := bI_some hf
        refine cV1 g [vI a1] [] s14 (vI x15) cf_X9_firstOf (t_X9_firstOf g.2.2.2.2.2.2.1 hc) (RC_own g rfl z1) z1 (by decide) q_1627 (Nat.le_of_ble_eq_true rfl) dX9_both_59 ?_ rfl
        refine V_istore g [(8, vI x15), (7, vI x13), (6, vI ((-20000))), (5, vI 0), (4, vI 0), (0, vR 9 a0), (1, vI a1), (2, vI a2), (3, vI a3)] dX9_both_62 rfl (by decide) rfl ?_
        refine V_sub [(0, vR 9 a0), (2, vI a2), (3, vI a3), (4, vI 0), (5, vI 0), (6, vI ((-20000))), (7, vI x13), (8, vI x15)] [5, 7, 8, 4, 3, 2, 1, 0] rfl ?_
        exact t_X9_both_b64 g f _ s14 a0 a2 a3 0 0 ((-20000)) x13 x15 hf
      · have hf := it_t hf c11
        refine V_sub [(0, vR 9 a0)] [0] rfl ?_
        exact t_X9_both_b33 g f hf
set_option maxRecDepth 20000 in
theorem t_X9_bucketsIn_b18 {E : ET} {fu : Nat} {s' : St} {w' : Int32} (g : GX E "ThinSeriesModel" cX9_bucketsIn 6 5) (f : FX E "bucketsIn" (some .int) []) : ∀ (n : Nat) (s : St) (l0 : Nat) (l3 : Int32) (l4 : Int32) (l5 : Int32), f_X9_bucketsIn_b18 fu n s l0 l3 l4 l5 = some (s', w') → V E 6 (QE E (s', .inl (some (vI w')))) s 18 [(0, vR 9 l0), (3, vI l3), (4, vI l4), (5, vI l5)] [] := by
  intro n
  induction n with
  | zero =>
    intro s l0 l3 l4 l5 hf
    unfold f_X9_bucketsIn_b18 at hf
    exact nomatch hf
  | succ n ih =>
    intro s l0 l3 l4 l5 hf
    unfold f_X9_bucketsIn_b18 at hf
    refine V_iload g 3 dX9_bucketsIn_18 rfl ?_
    refine V_iload g 2 dX9_bucketsIn_20 rfl ?_
    refine V_icmp_ge g 39 dX9_bucketsIn_22 (by decide) (fun c6 => ?_) (fun c6 => ?_)
    · have hf := it_t hf c6
      refine V_iload_n g 1 dX9_bucketsIn_39 rfl ?_
      cases hf
      exact V_ireturn g f dX9_bucketsIn_40
    · have hf := it_f hf c6
      obtain ⟨x7, ex7, hf⟩ := lt_some hf
      refine V_iinc g 1 [(3, vI x7), (0, vR 9 l0), (4, vI l4), (5, vI l5)] dX9_bucketsIn_25 rfl (by rw [ex7]; rfl) (by decide) rfl ?_
      refine V_aload_n g 1 dX9_bucketsIn_28 rfl ?_
      refine V_iload g 3 dX9_bucketsIn_29 rfl ?_
      obtain ⟨z8, hf⟩ := nz_some hf
      obtain ⟨s9, x10, hc, hf⟩ := bI_some hf
      refine cV1 g [vI l5] [] s9 (vI x10) cf_X9_bucketFrom (t_X9_bucketFrom g.2.2.2.2.2.2.1 hc) (RC_own g rfl z8) z8 (by decide) q_1665 (Nat.le_of_ble_eq_true rfl) dX9_bucketsIn_31 ?_ rfl
      refine V_istore g [(5, vI x10), (3, vI x7), (0, vR 9 l0), (4, vI l4)] dX9_bucketsIn_34 rfl (by decide) rfl ?_
      refine V_goto g 18 dX9_bucketsIn_36 (by decide) ?_
      refine V_sub [(0, vR 9 l0), (3, vI x7), (4, vI l4), (5, vI x10)] [2, 1, 3, 0] rfl ?_
      exact ih s9 l0 x7 l4 x10 hf
set_option maxRecDepth 20000 in
theorem t_X9_bucketsIn {G : GT} {l : Launch} (hl : l.stackTraces = false) {fu : Nat} {s s' : St} {a0 : Nat} {a1 : Int32} {a2 : Int32} {w' : Int32} (hf : f_X9_bucketsIn fu s a0 a1 a2 = some (s', w')) : MetG G l yX9_bucketsIn (.code yX9_bucketsIn cX9_bucketsIn 6 (some .int)) 5 s [vR 9 a0, vI a1, vI a2] (s', .inl (some (vI w'))) := by
  refine MetG_of hl (by decide +kernel) (Nat.le_of_ble_eq_true rfl) (fun E g f eG eL => ?_)
  subst eG; subst eL
  have g : GX E "ThinSeriesModel" cX9_bucketsIn 6 5 := g
  have f : FX E "bucketsIn" (some .int) [] := f
  show V E 6 (QE E (s', .inl (some (vI w')))) s 0 [(0, vR 9 a0), (1, vI a1), (2, vI a2)] []
  unfold f_X9_bucketsIn at hf
  refine V_iconst (v := 0) g dX9_bucketsIn_0 (by decide) ?_
  refine V_istore_n g [(3, vI 0), (0, vR 9 a0), (1, vI a1), (2, vI a2)] dX9_bucketsIn_1 rfl (by decide) rfl ?_
  refine V_aload_n g 1 dX9_bucketsIn_2 rfl ?_
  refine V_iload_n g 2 dX9_bucketsIn_3 rfl ?_
  refine V_iload_n g 3 dX9_bucketsIn_4 rfl ?_
  obtain ⟨z1, hf⟩ := nz_some hf
  obtain ⟨s2, x3, hc, hf⟩ := bI_some hf
  refine cV1 g [vI a1, vI a2] [] s2 (vI x3) cf_X9_tierTo (t_X9_tierTo g.2.2.2.2.2.2.1 hc) (RC_own g rfl z1) z1 (by decide) q_1754 (Nat.le_of_ble_eq_true rfl) dX9_bucketsIn_5 ?_ rfl
  refine V_istore g [(4, vI x3), (3, vI 0), (0, vR 9 a0), (1, vI a1), (2, vI a2)] dX9_bucketsIn_8 rfl (by decide) rfl ?_
  refine V_aload_n g 2 dX9_bucketsIn_10 rfl ?_
  refine V_iload_n g 3 dX9_bucketsIn_11 rfl ?_
  refine V_iload_n g 4 dX9_bucketsIn_12 rfl ?_
  obtain ⟨s4, x5, hc, hf⟩ := bI_some hf
  refine cV1 g [vI a1, vI a2] [] s4 (vI x5) cf_X9_tierFrom (t_X9_tierFrom g.2.2.2.2.2.2.1 hc) (RC_own g rfl z1) z1 (by decide) q_1758 (Nat.le_of_ble_eq_true rfl) dX9_bucketsIn_13 ?_ rfl
  refine V_istore g [(5, vI x5), (4, vI x3), (3, vI 0), (0, vR 9 a0), (1, vI a1), (2, vI a2)] dX9_bucketsIn_16 rfl (by decide) rfl ?_
  refine V_sub [(0, vR 9 a0), (3, vI 0), (4, vI x3), (5, vI x5)] [3, 2, 1, 0] rfl ?_
  exact t_X9_bucketsIn_b18 g f _ s4 a0 0 x3 x5 hf
set_option maxRecDepth 20000 in
theorem t_X9_isTier {G : GT} {l : Launch} (hl : l.stackTraces = false) {fu : Nat} {s s' : St} {a0 : Nat} {a1 : Int32} {w' : Int32} (hf : f_X9_isTier fu s a0 a1 = some (s', w')) : MetG G l yX9_isTier (.code yX9_isTier cX9_isTier 2 (some .boolean)) 1 s [vR 9 a0, vI a1] (s', .inl (some (vI w'))) := by
  refine MetG_of hl (by decide +kernel) (Nat.le_of_ble_eq_true rfl) (fun E g f eG eL => ?_)
  subst eG; subst eL
  have g : GX E "ThinSeriesModel" cX9_isTier 2 1 := g
  have f : FX E "isTier" (some .boolean) [] := f
  show V E 2 (QE E (s', .inl (some (vI w')))) s 0 [(0, vR 9 a0), (1, vI a1)] []
  unfold f_X9_isTier at hf
  refine V_iload_n g 1 dX9_isTier_0 rfl ?_
  refine V_i2l g dX9_isTier_1 ?_
  refine V_lconst (v := 0) g dX9_isTier_2 (by decide) ?_
  refine V_aload_n g 0 dX9_isTier_3 rfl ?_
  obtain ⟨z1, hf⟩ := nz_some hf
  refine V_getI g 9 a0 7 rfl (by decide) rfl q_1240 z1 dX9_isTier_4 ?_
  refine V_iconst (v := 1) g dX9_isTier_7 (by decide) ?_
  refine V_isub g dX9_isTier_8 ?_
  refine V_i2l g dX9_isTier_9 ?_
  obtain ⟨s2, x3, hc, hf⟩ := bI_some hf
  refine cS1 g [vJ (Int32.toInt64 a1), vJ 0, vJ (Int32.toInt64 ((gI s 9 a0 7) - 1))] [] s2 (vI x3) cf_X9_isIn (t_X9_isIn g.2.2.2.2.2.2.1 hc) (by decide) q_1512 (Nat.le_of_ble_eq_true rfl) dX9_isTier_10 ?_ rfl
  obtain ⟨h4, hf⟩ := ckf hf
  cases hf
  exact V_zreturn g f (zb_n h4) dX9_isTier_13
set_option maxRecDepth 20000 in
theorem t_X9_bucket_b39 {E : ET} {fu : Nat} {s' : St} {w' : Int64} (g : GX E "ThinSeriesModel" cX9_bucket 7 6) (f : FX E "bucket" (some .long) []) {s : St} {l0 : Nat} (hf : f_X9_bucket_b39 fu s l0 = some (s', w')) : V E 7 (QE E (s', .inl (some (vJ w')))) s 39 [(0, vR 9 l0)] [] := by
  unfold f_X9_bucket_b39 at hf
  refine V_aload_n g 0 dX9_bucket_39 rfl ?_
  refine V_iconst (v := 1) g dX9_bucket_40 (by decide) ?_
  obtain ⟨z16, hf⟩ := nz_some hf
  obtain ⟨s17, x18, hc, hf⟩ := bI_some hf
  refine cV1 g [vI 1] [] s17 (vI x18) cf_X9_fail (t_X9_fail g.2.2.2.2.2.2.1 hc) (RC_own g rfl z16) z16 (by decide) q_1454 (Nat.le_of_ble_eq_true rfl) dX9_bucket_41 ?_ rfl
  refine V_i2l g dX9_bucket_44 ?_
  cases hf
  exact V_lreturn g f dX9_bucket_45
set_option maxRecDepth 20000 in
theorem t_X9_bucket_b57 {E : ET} {fu : Nat} {s' : St} {w' : Int64} (g : GX E "ThinSeriesModel" cX9_bucket 7 6) (f : FX E "bucket" (some .long) []) : ∀ (n : Nat) (s : St) (l0 : Nat) (l3 : Int32) (l4 : Int32) (l5 : Int32) (l6 : Int32), f_X9_bucket_b57 fu n s l0 l3 l4 l5 l6 = some (s', w') → V E 7 (QE E (s', .inl (some (vJ w')))) s 57 [(0, vR 9 l0), (3, vI l3), (4, vI l4), (5, vI l5), (6, vI l6)] [] := by
  intro n
  induction n with
  | zero =>
    intro s l0 l3 l4 l5 l6 hf
    unfold f_X9_bucket_b57 at hf
    exact nomatch hf
  | succ n ih =>
    intro s l0 l3 l4 l5 l6 hf
    unfold f_X9_bucket_b57 at hf
    refine V_iload g 4 dX9_bucket_57 rfl ?_
    refine V_iload_n g 1 dX9_bucket_59 rfl ?_
    refine V_icmp_gt g 77 dX9_bucket_60 (by decide) (fun c19 => ?_) (fun c19 => ?_)
    · have hf := it_t hf c19
      refine V_iload g 2 dX9_bucket_77 rfl ?_
      by_cases c20 : l4 = 0
      · subst c20
        have hf := it_t hf rfl
        refine V_tableIn g 116 dX9_bucket_79 (by decide) (by decide) rfl (by decide) ?_
        refine V_aload_n g 0 dX9_bucket_116 rfl ?_
        obtain ⟨z21, hf⟩ := nz_some hf
        refine V_getI g 9 l0 52 rfl (by decide) rfl q_1285 z21 dX9_bucket_117 ?_
        refine V_i2l g dX9_bucket_120 ?_
        cases hf
        exact V_lreturn g f dX9_bucket_121
      · have hf := it_f hf c20
        by_cases c22 : l4 = 1
        · subst c22
          have hf := it_t hf rfl
          refine V_tableIn g 122 dX9_bucket_79 (by decide) (by decide) rfl (by decide) ?_
          refine V_aload_n g 0 dX9_bucket_122 rfl ?_
          obtain ⟨z23, hf⟩ := nz_some hf
          refine V_getI g 9 l0 53 rfl (by decide) rfl q_1286 z23 dX9_bucket_123 ?_
          refine V_i2l g dX9_bucket_126 ?_
          cases hf
          exact V_lreturn g f dX9_bucket_127
        · have hf := it_f hf c22
          by_cases c24 : l4 = 2
          · subst c24
            have hf := it_t hf rfl
            refine V_tableIn g 128 dX9_bucket_79 (by decide) (by decide) rfl (by decide) ?_
            refine V_aload_n g 0 dX9_bucket_128 rfl ?_
            obtain ⟨z25, hf⟩ := nz_some hf
            refine V_getJ g 9 l0 56 rfl (by decide) rfl q_1289 z25 dX9_bucket_129 ?_
            cases hf
            exact V_lreturn g f dX9_bucket_132
          · have hf := it_f hf c24
            by_cases c26 : l4 = 3
            · subst c26
              have hf := it_t hf rfl
              refine V_tableIn g 133 dX9_bucket_79 (by decide) (by decide) rfl (by decide) ?_
              refine V_aload_n g 0 dX9_bucket_133 rfl ?_
              obtain ⟨z27, hf⟩ := nz_some hf
              refine V_getI g 9 l0 54 rfl (by decide) rfl q_1287 z27 dX9_bucket_134 ?_
              refine V_i2l g dX9_bucket_137 ?_
              cases hf
              exact V_lreturn g f dX9_bucket_138
            · have hf := it_f hf c26
              by_cases c28 : l4 = 4
              · subst c28
                have hf := it_t hf rfl
                refine V_tableIn g 139 dX9_bucket_79 (by decide) (by decide) rfl (by decide) ?_
                refine V_aload_n g 0 dX9_bucket_139 rfl ?_
                obtain ⟨z29, hf⟩ := nz_some hf
                refine V_getI g 9 l0 55 rfl (by decide) rfl q_1288 z29 dX9_bucket_140 ?_
                refine V_i2l g dX9_bucket_143 ?_
                cases hf
                exact V_lreturn g f dX9_bucket_144
              · have hf := it_f hf c28
                by_cases c30 : l4 = 5
                · subst c30
                  have hf := it_t hf rfl
                  refine V_tableIn g 145 dX9_bucket_79 (by decide) (by decide) rfl (by decide) ?_
                  refine V_aload_n g 0 dX9_bucket_145 rfl ?_
                  obtain ⟨z31, hf⟩ := nz_some hf
                  obtain ⟨s32, x33, hc, hf⟩ := bI_some hf
                  refine cV1 g [] [] s32 (vI x33) cf_X9_meanNow (t_X9_meanNow g.2.2.2.2.2.2.1 hc) (RC_own g rfl z31) z31 (by decide) q_1766 (Nat.le_of_ble_eq_true rfl) dX9_bucket_146 ?_ rfl
                  refine V_i2l g dX9_bucket_149 ?_
                  cases hf
                  exact V_lreturn g f dX9_bucket_150
                · have hf := it_f hf c30
                  refine V_tableOut g 151 dX9_bucket_79 (sw_out (fun v h1 h2 => ?_)) (by decide) ?_
                  · rcases (show v = 0 ∨ v = 1 ∨ v = 2 ∨ v = 3 ∨ v = 4 ∨ v = 5 by omega) with rfl | rfl | rfl | rfl | rfl | rfl
                    · exact c20
                    · exact c22
                    · exact c24
                    · exact c26
                    · exact c28
                    · exact c30
                  · skip
                    refine V_aload_n g 0 dX9_bucket_151 rfl ?_
                    refine V_iconst (v := 1) g dX9_bucket_152 (by decide) ?_
                    obtain ⟨z34, hf⟩ := nz_some hf
                    obtain ⟨s35, x36, hc, hf⟩ := bI_some hf
                    refine cV1 g [vI 1] [] s35 (vI x36) cf_X9_fail (t_X9_fail g.2.2.2.2.2.2.1 hc) (RC_own g rfl z34) z34 (by decide) q_1454 (Nat.le_of_ble_eq_true rfl) dX9_bucket_153 ?_ rfl
                    refine V_i2l g dX9_bucket_156 ?_
                    cases hf
                    exact V_lreturn g f dX9_bucket_157
    · have hf := it_f hf c19
      refine V_aload_n g 0 dX9_bucket_63 rfl ?_
      refine V_iload g 3 dX9_bucket_64 rfl ?_
      obtain ⟨z37, hf⟩ := nz_some hf
      obtain ⟨s38, x39, hc, hf⟩ := bI_some hf
      refine cV1 g [vI l5] [] s38 (vI x39) cf_X9_bucketFrom (t_X9_bucketFrom g.2.2.2.2.2.2.1 hc) (RC_own g rfl z37) z37 (by decide) q_1665 (Nat.le_of_ble_eq_true rfl) dX9_bucket_66 ?_ rfl
      refine V_istore g [(5, vI x39), (0, vR 9 l0), (3, vI l3), (4, vI l4), (6, vI l6)] dX9_bucket_69 rfl (by decide) rfl ?_
      obtain ⟨x40, ex40, hf⟩ := lt_some hf
      refine V_iinc g 4 [(6, vI x40), (5, vI x39), (0, vR 9 l0), (3, vI l3), (4, vI l4)] dX9_bucket_71 rfl (by rw [ex40]; rfl) (by decide) rfl ?_
      refine V_goto g 57 dX9_bucket_74 (by decide) ?_
      refine V_sub [(0, vR 9 l0), (3, vI l3), (4, vI l4), (5, vI x39), (6, vI x40)] [2, 3, 4, 1, 0] rfl ?_
      exact ih s38 l0 l3 l4 x39 x40 hf
set_option maxRecDepth 20000 in
theorem t_X9_bucket {G : GT} {l : Launch} (hl : l.stackTraces = false) {fu : Nat} {s s' : St} {a0 : Nat} {a1 : Int32} {a2 : Int32} {a3 : Int32} {a4 : Int32} {w' : Int64} (hf : f_X9_bucket fu s a0 a1 a2 a3 a4 = some (s', w')) : MetG G l yX9_bucket (.code yX9_bucket cX9_bucket 7 (some .long)) 6 s [vR 9 a0, vI a1, vI a2, vI a3, vI a4] (s', .inl (some (vJ w'))) := by
  refine MetG_of hl (by decide +kernel) (Nat.le_of_ble_eq_true rfl) (fun E g f eG eL => ?_)
  subst eG; subst eL
  have g : GX E "ThinSeriesModel" cX9_bucket 7 6 := g
  have f : FX E "bucket" (some .long) [] := f
  show V E 7 (QE E (s', .inl (some (vJ w')))) s 0 [(0, vR 9 a0), (1, vI a1), (2, vI a2), (3, vI a3), (4, vI a4)] []
  unfold f_X9_bucket at hf
  refine V_aload_n g 0 dX9_bucket_0 rfl ?_
  refine V_iconst (v := 0) g dX9_bucket_1 (by decide) ?_
  obtain ⟨z1, hf⟩ := nz_some hf
  obtain ⟨s2, es2, hf⟩ := lt_some hf
  refine V_putI g 9 a0 3 es2 rfl (by decide) rfl q_1236 z1 (Or.inl rfl) pf_9_3 dX9_bucket_2 ?_
  refine V_aload_n g 0 dX9_bucket_5 rfl ?_
  refine V_iload_n g 1 dX9_bucket_6 rfl ?_
  obtain ⟨s3, x4, hc, hf⟩ := bI_some hf
  refine cV1 g [vI a1] [] s3 (vI x4) cf_X9_isSeries (t_X9_isSeries g.2.2.2.2.2.2.1 hc) (RC_own g rfl z1) z1 (by decide) q_1727 (Nat.le_of_ble_eq_true rfl) dX9_bucket_7 ?_ rfl
  refine V_if_eq g 39 dX9_bucket_10 (by decide) (fun c5 => ?_) (fun c5 => ?_)
  · have hf := it_t hf c5
    refine V_sub [(0, vR 9 a0)] [0] rfl ?_
    exact t_X9_bucket_b39 g f hf
  · have hf := it_f hf c5
    refine V_aload_n g 0 dX9_bucket_13 rfl ?_
    refine V_iload_n g 2 dX9_bucket_14 rfl ?_
    obtain ⟨s6, x7, hc, hf⟩ := bI_some hf
    refine cV1 g [vI a2] [] s6 (vI x7) cf_X9_isTier (t_X9_isTier g.2.2.2.2.2.2.1 hc) (RC_own g rfl z1) z1 (by decide) q_1715 (Nat.le_of_ble_eq_true rfl) dX9_bucket_15 ?_ rfl
    refine V_if_eq g 39 dX9_bucket_18 (by decide) (fun c8 => ?_) (fun c8 => ?_)
    · have hf := it_t hf c8
      refine V_sub [(0, vR 9 a0)] [0] rfl ?_
      exact t_X9_bucket_b39 g f hf
    · have hf := it_f hf c8
      refine V_iload_n g 3 dX9_bucket_21 rfl ?_
      refine V_i2l g dX9_bucket_22 ?_
      refine V_lconst (v := 0) g dX9_bucket_23 (by decide) ?_
      refine V_aload_n g 0 dX9_bucket_24 rfl ?_
      refine V_iload_n g 1 dX9_bucket_25 rfl ?_
      refine V_iload_n g 2 dX9_bucket_26 rfl ?_
      obtain ⟨s9, x10, hc, hf⟩ := bI_some hf
      refine cV1 g [vI a1, vI a2] [vJ 0, vJ (Int32.toInt64 a3)] s9 (vI x10) cf_X9_bucketsIn (t_X9_bucketsIn g.2.2.2.2.2.2.1 hc) (RC_own g rfl z1) z1 (by decide) q_1750 (Nat.le_of_ble_eq_true rfl) dX9_bucket_27 ?_ rfl
      refine V_iconst (v := 1) g dX9_bucket_30 (by decide) ?_
      refine V_isub g dX9_bucket_31 ?_
      refine V_i2l g dX9_bucket_32 ?_
      obtain ⟨s11, x12, hc, hf⟩ := bI_some hf
      refine cS1 g [vJ (Int32.toInt64 a3), vJ 0, vJ (Int32.toInt64 (x10 - 1))] [] s11 (vI x12) cf_X9_isIn (t_X9_isIn g.2.2.2.2.2.2.1 hc) (by decide) q_1512 (Nat.le_of_ble_eq_true rfl) dX9_bucket_33 ?_ rfl
      refine V_if_ne g 46 dX9_bucket_36 (by decide) (fun c13 => ?_) (fun c13 => ?_)
      · have hf := it_f hf c13
        refine V_aload_n g 0 dX9_bucket_46 rfl ?_
        refine V_iload_n g 1 dX9_bucket_47 rfl ?_
        refine V_iload_n g 2 dX9_bucket_48 rfl ?_
        obtain ⟨s14, x15, hc, hf⟩ := bI_some hf
        refine cV1 g [vI a1, vI a2] [] s14 (vI x15) cf_X9_tierFrom (t_X9_tierFrom g.2.2.2.2.2.2.1 hc) (RC_own g rfl z1) z1 (by decide) q_1758 (Nat.le_of_ble_eq_true rfl) dX9_bucket_49 ?_ rfl
        refine V_istore g [(5, vI x15), (0, vR 9 a0), (1, vI a1), (2, vI a2), (3, vI a3), (4, vI a4)] dX9_bucket_52 rfl (by decide) rfl ?_
        refine V_iconst (v := 0) g dX9_bucket_54 (by decide) ?_
        refine V_istore g [(6, vI 0), (5, vI x15), (0, vR 9 a0), (1, vI a1), (2, vI a2), (3, vI a3), (4, vI a4)] dX9_bucket_55 rfl (by decide) rfl ?_
        refine V_sub [(0, vR 9 a0), (3, vI a3), (4, vI a4), (5, vI x15), (6, vI 0)] [2, 5, 6, 1, 0] rfl ?_
        exact t_X9_bucket_b57 g f _ s14 a0 a3 a4 x15 0 hf
      · have hf := it_t hf c13
        refine V_sub [(0, vR 9 a0)] [0] rfl ?_
        exact t_X9_bucket_b39 g f hf
set_option maxRecDepth 20000 in
theorem t_X9_buckets_b35 {E : ET} {fu : Nat} {s' : St} {w' : Int32} (g : GX E "ThinSeriesModel" cX9_buckets 3 6) (f : FX E "buckets" (some .int) []) {s : St} {t0 : Int32} (hf : f_X9_buckets_b35 fu s t0 = some (s', w')) : V E 3 (QE E (s', .inl (some (vI w')))) s 35 [] [vI t0] := by
  unfold f_X9_buckets_b35 at hf
  cases hf
  exact V_ireturn g f dX9_buckets_35
set_option maxRecDepth 20000 in
theorem t_X9_buckets_b30 {E : ET} {fu : Nat} {s' : St} {w' : Int32} (g : GX E "ThinSeriesModel" cX9_buckets 3 6) (f : FX E "buckets" (some .int) []) {s : St} {l0 : Nat} (hf : f_X9_buckets_b30 fu s l0 = some (s', w')) : V E 3 (QE E (s', .inl (some (vI w')))) s 30 [(0, vR 9 l0)] [] := by
  unfold f_X9_buckets_b30 at hf
  refine V_aload_n g 0 dX9_buckets_30 rfl ?_
  refine V_iconst (v := 1) g dX9_buckets_31 (by decide) ?_
  obtain ⟨z11, hf⟩ := nz_some hf
  obtain ⟨s12, x13, hc, hf⟩ := bI_some hf
  refine cV1 g [vI 1] [] s12 (vI x13) cf_X9_fail (t_X9_fail g.2.2.2.2.2.2.1 hc) (RC_own g rfl z11) z11 (by decide) q_1454 (Nat.le_of_ble_eq_true rfl) dX9_buckets_32 ?_ rfl
  refine V_sub [] [] rfl ?_
  exact t_X9_buckets_b35 g f hf
set_option maxRecDepth 20000 in
theorem t_X9_buckets {G : GT} {l : Launch} (hl : l.stackTraces = false) {fu : Nat} {s s' : St} {a0 : Nat} {a1 : Int32} {a2 : Int32} {w' : Int32} (hf : f_X9_buckets fu s a0 a1 a2 = some (s', w')) : MetG G l yX9_buckets (.code yX9_buckets cX9_buckets 3 (some .int)) 6 s [vR 9 a0, vI a1, vI a2] (s', .inl (some (vI w'))) := by
  refine MetG_of hl (by decide +kernel) (Nat.le_of_ble_eq_true rfl) (fun E g f eG eL => ?_)
  subst eG; subst eL
  have g : GX E "ThinSeriesModel" cX9_buckets 3 6 := g
  have f : FX E "buckets" (some .int) [] := f
  show V E 3 (QE E (s', .inl (some (vI w')))) s 0 [(0, vR 9 a0), (1, vI a1), (2, vI a2)] []
  unfold f_X9_buckets at hf
  refine V_aload_n g 0 dX9_buckets_0 rfl ?_
  refine V_iconst (v := 0) g dX9_buckets_1 (by decide) ?_
  obtain ⟨z1, hf⟩ := nz_some hf
  obtain ⟨s2, es2, hf⟩ := lt_some hf
  refine V_putI g 9 a0 3 es2 rfl (by decide) rfl q_1236 z1 (Or.inl rfl) pf_9_3 dX9_buckets_2 ?_
  refine V_aload_n g 0 dX9_buckets_5 rfl ?_
  refine V_iload_n g 1 dX9_buckets_6 rfl ?_
  obtain ⟨s3, x4, hc, hf⟩ := bI_some hf
  refine cV1 g [vI a1] [] s3 (vI x4) cf_X9_isSeries (t_X9_isSeries g.2.2.2.2.2.2.1 hc) (RC_own g rfl z1) z1 (by decide) q_1727 (Nat.le_of_ble_eq_true rfl) dX9_buckets_7 ?_ rfl
  refine V_if_eq g 30 dX9_buckets_10 (by decide) (fun c5 => ?_) (fun c5 => ?_)
  · have hf := it_t hf c5
    refine V_sub [(0, vR 9 a0)] [0] rfl ?_
    exact t_X9_buckets_b30 g f hf
  · have hf := it_f hf c5
    refine V_aload_n g 0 dX9_buckets_13 rfl ?_
    refine V_iload_n g 2 dX9_buckets_14 rfl ?_
    obtain ⟨s6, x7, hc, hf⟩ := bI_some hf
    refine cV1 g [vI a2] [] s6 (vI x7) cf_X9_isTier (t_X9_isTier g.2.2.2.2.2.2.1 hc) (RC_own g rfl z1) z1 (by decide) q_1715 (Nat.le_of_ble_eq_true rfl) dX9_buckets_15 ?_ rfl
    refine V_if_eq g 30 dX9_buckets_18 (by decide) (fun c8 => ?_) (fun c8 => ?_)
    · have hf := it_t hf c8
      refine V_sub [(0, vR 9 a0)] [0] rfl ?_
      exact t_X9_buckets_b30 g f hf
    · have hf := it_f hf c8
      refine V_aload_n g 0 dX9_buckets_21 rfl ?_
      refine V_iload_n g 1 dX9_buckets_22 rfl ?_
      refine V_iload_n g 2 dX9_buckets_23 rfl ?_
      obtain ⟨s9, x10, hc, hf⟩ := bI_some hf
      refine cV1 g [vI a1, vI a2] [] s9 (vI x10) cf_X9_bucketsIn (t_X9_bucketsIn g.2.2.2.2.2.2.1 hc) (RC_own g rfl z1) z1 (by decide) q_1750 (Nat.le_of_ble_eq_true rfl) dX9_buckets_24 ?_ rfl
      refine V_goto g 35 dX9_buckets_27 (by decide) ?_
      refine V_sub [] [] rfl ?_
      exact t_X9_buckets_b35 g f hf
set_option maxRecDepth 20000 in
theorem t_X9_count_b74 {E : ET} {fu : Nat} {s' : St} {w' : Int32} (g : GX E "ThinSeriesModel" cX9_count 2 1) (f : FX E "count" (some .int) []) {s : St} {t0 : Int32} (hf : f_X9_count_b74 fu s t0 = some (s', w')) : V E 2 (QE E (s', .inl (some (vI w')))) s 74 [] [vI t0] := by
  unfold f_X9_count_b74 at hf
  cases hf
  exact V_ireturn g f dX9_count_74
set_option maxRecDepth 20000 in
theorem t_X9_count {G : GT} {l : Launch} (hl : l.stackTraces = false) {fu : Nat} {s s' : St} {a0 : Nat} {a1 : Int32} {w' : Int32} (hf : f_X9_count fu s a0 a1 = some (s', w')) : MetG G l yX9_count (.code yX9_count cX9_count 2 (some .int)) 1 s [vR 9 a0, vI a1] (s', .inl (some (vI w'))) := by
  refine MetG_of hl (by decide +kernel) (Nat.le_of_ble_eq_true rfl) (fun E g f eG eL => ?_)
  subst eG; subst eL
  have g : GX E "ThinSeriesModel" cX9_count 2 1 := g
  have f : FX E "count" (some .int) [] := f
  show V E 2 (QE E (s', .inl (some (vI w')))) s 0 [(0, vR 9 a0), (1, vI a1)] []
  unfold f_X9_count at hf
  refine V_aload_n g 0 dX9_count_0 rfl ?_
  refine V_iconst (v := 0) g dX9_count_1 (by decide) ?_
  obtain ⟨z1, hf⟩ := nz_some hf
  obtain ⟨s2, es2, hf⟩ := lt_some hf
  refine V_putI g 9 a0 3 es2 rfl (by decide) rfl q_1236 z1 (Or.inl rfl) pf_9_3 dX9_count_2 ?_
  refine V_iload_n g 1 dX9_count_5 rfl ?_
  by_cases c3 : a1 = 0
  · subst c3
    have hf := it_t hf rfl
    refine V_tableIn g 52 dX9_count_6 (by decide) (by decide) rfl (by decide) ?_
    refine V_aload_n g 0 dX9_count_52 rfl ?_
    refine V_getI g 9 a0 7 rfl (by decide) rfl q_1240 z1 dX9_count_53 ?_
    cases hf
    exact V_ireturn g f dX9_count_56
  · have hf := it_f hf c3
    by_cases c4 : a1 = 1
    · subst c4
      have hf := it_t hf rfl
      refine V_tableIn g 57 dX9_count_6 (by decide) (by decide) rfl (by decide) ?_
      refine V_aload_n g 0 dX9_count_57 rfl ?_
      refine V_getI g 9 a0 8 rfl (by decide) rfl q_1241 z1 dX9_count_58 ?_
      cases hf
      exact V_ireturn g f dX9_count_61
    · have hf := it_f hf c4
      by_cases c5 : a1 = 2
      · subst c5
        have hf := it_t hf rfl
        refine V_tableIn g 62 dX9_count_6 (by decide) (by decide) rfl (by decide) ?_
        refine V_aload_n g 0 dX9_count_62 rfl ?_
        refine V_getI g 9 a0 9 rfl (by decide) rfl q_1242 z1 dX9_count_63 ?_
        refine V_if_le g 73 dX9_count_66 (by decide) (fun c6 => ?_) (fun c6 => ?_)
        · have hf := it_t hf c6
          refine V_iconst (v := 0) g dX9_count_73 (by decide) ?_
          refine V_sub [] [] rfl ?_
          exact t_X9_count_b74 g f hf
        · have hf := it_f hf c6
          refine V_iconst (v := 1) g dX9_count_69 (by decide) ?_
          refine V_goto g 74 dX9_count_70 (by decide) ?_
          refine V_sub [] [] rfl ?_
          exact t_X9_count_b74 g f hf
      · have hf := it_f hf c5
        by_cases c7 : a1 = 3
        · subst c7
          have hf := it_t hf rfl
          refine V_tableIn g 75 dX9_count_6 (by decide) (by decide) rfl (by decide) ?_
          refine V_aload_n g 0 dX9_count_75 rfl ?_
          obtain ⟨s8, x9, hc, hf⟩ := bI_some hf
          refine cV1 g [] [] s8 (vI x9) cf_X9_series (t_X9_series g.2.2.2.2.2.2.1 hc) (RC_own g rfl z1) z1 (by decide) q_1615 (Nat.le_of_ble_eq_true rfl) dX9_count_76 ?_ rfl
          cases hf
          exact V_ireturn g f dX9_count_79
        · have hf := it_f hf c7
          by_cases c10 : a1 = 4
          · subst c10
            have hf := it_t hf rfl
            refine V_tableIn g 80 dX9_count_6 (by decide) (by decide) rfl (by decide) ?_
            refine V_aload_n g 0 dX9_count_80 rfl ?_
            refine V_getI g 9 a0 24 rfl (by decide) rfl q_1257 z1 dX9_count_81 ?_
            cases hf
            exact V_ireturn g f dX9_count_84
          · have hf := it_f hf c10
            by_cases c11 : a1 = 5
            · subst c11
              have hf := it_t hf rfl
              refine V_tableIn g 85 dX9_count_6 (by decide) (by decide) rfl (by decide) ?_
              refine V_aload_n g 0 dX9_count_85 rfl ?_
              refine V_getI g 9 a0 16 rfl (by decide) rfl q_1249 z1 dX9_count_86 ?_
              cases hf
              exact V_ireturn g f dX9_count_89
            · have hf := it_f hf c11
              by_cases c12 : a1 = 6
              · subst c12
                have hf := it_t hf rfl
                refine V_tableIn g 90 dX9_count_6 (by decide) (by decide) rfl (by decide) ?_
                refine V_aload_n g 0 dX9_count_90 rfl ?_
                refine V_getI g 9 a0 17 rfl (by decide) rfl q_1250 z1 dX9_count_91 ?_
                cases hf
                exact V_ireturn g f dX9_count_94
              · have hf := it_f hf c12
                by_cases c13 : a1 = 7
                · subst c13
                  have hf := it_t hf rfl
                  refine V_tableIn g 95 dX9_count_6 (by decide) (by decide) rfl (by decide) ?_
                  refine V_aload_n g 0 dX9_count_95 rfl ?_
                  refine V_getI g 9 a0 18 rfl (by decide) rfl q_1251 z1 dX9_count_96 ?_
                  cases hf
                  exact V_ireturn g f dX9_count_99
                · have hf := it_f hf c13
                  refine V_tableOut g 100 dX9_count_6 (sw_out (fun v h1 h2 => ?_)) (by decide) ?_
                  · rcases (show v = 0 ∨ v = 1 ∨ v = 2 ∨ v = 3 ∨ v = 4 ∨ v = 5 ∨ v = 6 ∨ v = 7 by omega) with rfl | rfl | rfl | rfl | rfl | rfl | rfl | rfl
                    · exact c3
                    · exact c4
                    · exact c5
                    · exact c7
                    · exact c10
                    · exact c11
                    · exact c12
                    · exact c13
                  · skip
                    refine V_aload_n g 0 dX9_count_100 rfl ?_
                    refine V_iconst (v := 1) g dX9_count_101 (by decide) ?_
                    obtain ⟨s14, x15, hc, hf⟩ := bI_some hf
                    refine cV1 g [vI 1] [] s14 (vI x15) cf_X9_fail (t_X9_fail g.2.2.2.2.2.2.1 hc) (RC_own g rfl z1) z1 (by decide) q_1454 (Nat.le_of_ble_eq_true rfl) dX9_count_102 ?_ rfl
                    cases hf
                    exact V_ireturn g f dX9_count_105
set_option maxRecDepth 20000 in
theorem t_X9_drop_b44 {E : ET} {fu : Nat} {s' : St} {w' : Int32} (g : GX E "ThinSeriesModel" cX9_drop 2 3) (f : FX E "drop" (some .int) []) {s : St} {t0 : Int32} (hf : f_X9_drop_b44 fu s t0 = some (s', w')) : V E 2 (QE E (s', .inl (some (vI w')))) s 44 [] [vI t0] := by
  unfold f_X9_drop_b44 at hf
  cases hf
  exact V_ireturn g f dX9_drop_44
set_option maxRecDepth 20000 in
theorem t_X9_drop {G : GT} {l : Launch} (hl : l.stackTraces = false) {fu : Nat} {s s' : St} {a0 : Nat} {a1 : Int32} {w' : Int32} (hf : f_X9_drop fu s a0 a1 = some (s', w')) : MetG G l yX9_drop (.code yX9_drop cX9_drop 2 (some .int)) 3 s [vR 9 a0, vI a1] (s', .inl (some (vI w'))) := by
  refine MetG_of hl (by decide +kernel) (Nat.le_of_ble_eq_true rfl) (fun E g f eG eL => ?_)
  subst eG; subst eL
  have g : GX E "ThinSeriesModel" cX9_drop 2 3 := g
  have f : FX E "drop" (some .int) [] := f
  show V E 2 (QE E (s', .inl (some (vI w')))) s 0 [(0, vR 9 a0), (1, vI a1)] []
  unfold f_X9_drop at hf
  refine V_aload_n g 0 dX9_drop_0 rfl ?_
  refine V_iconst (v := 0) g dX9_drop_1 (by decide) ?_
  obtain ⟨z1, hf⟩ := nz_some hf
  obtain ⟨s2, es2, hf⟩ := lt_some hf
  refine V_putI g 9 a0 3 es2 rfl (by decide) rfl q_1236 z1 (Or.inl rfl) pf_9_3 dX9_drop_2 ?_
  refine V_aload_n g 0 dX9_drop_5 rfl ?_
  obtain ⟨s3, hc, hf⟩ := bV_some hf
  refine cV0 g [] [] s3 cf_X9_fine (t_X9_fine g.2.2.2.2.2.2.1 hc) (RC_own g rfl z1) z1 (by decide) q_1563 (Nat.le_of_ble_eq_true rfl) dX9_drop_6 ?_ rfl
  refine V_iload_n g 1 dX9_drop_9 rfl ?_
  obtain ⟨s4, x5, hc, hf⟩ := bI_some hf
  refine cS1 g [vI a1] [] s4 (vI x5) cf_X9_isId (t_X9_isId g.2.2.2.2.2.2.1 hc) (by decide) q_1567 (Nat.le_of_ble_eq_true rfl) dX9_drop_10 ?_ rfl
  refine V_if_ne g 22 dX9_drop_13 (by decide) (fun c6 => ?_) (fun c6 => ?_)
  · have hf := it_f hf c6
    refine V_aload_n g 0 dX9_drop_22 rfl ?_
    refine V_getR g 9 a0 10 13 rfl (by decide) rfl rfl q_1243 z1 dX9_drop_23 ?_
    refine V_iload_n g 1 dX9_drop_26 rfl ?_
    obtain ⟨z7, hf⟩ := nz_some hf
    obtain ⟨h8, hf⟩ := ckf hf
    refine V_zald g z7 h8 dX9_drop_27 ?_
    refine V_if_eq g 39 dX9_drop_28 (by decide) (fun c9 => ?_) (fun c9 => ?_)
    · have hf := it_t hf c9
      refine V_aload_n g 0 dX9_drop_39 rfl ?_
      refine V_iconst (v := 3) g dX9_drop_40 (by decide) ?_
      obtain ⟨s10, x11, hc, hf⟩ := bI_some hf
      refine cV1 g [vI 3] [] s10 (vI x11) cf_X9_refuse (t_X9_refuse g.2.2.2.2.2.2.1 hc) (RC_own g rfl z1) z1 (by decide) q_1581 (Nat.le_of_ble_eq_true rfl) dX9_drop_41 ?_ rfl
      refine V_sub [] [] rfl ?_
      exact t_X9_drop_b44 g f hf
    · have hf := it_f hf c9
      refine V_aload_n g 0 dX9_drop_31 rfl ?_
      refine V_iload_n g 1 dX9_drop_32 rfl ?_
      obtain ⟨s12, x13, hc, hf⟩ := bI_some hf
      refine cV1 g [vI a1] [] s12 (vI x13) cf_X9_leaves (t_X9_leaves g.2.2.2.2.2.2.1 hc) (RC_own g rfl z1) z1 (by decide) q_1623 (Nat.le_of_ble_eq_true rfl) dX9_drop_33 ?_ rfl
      refine V_goto g 44 dX9_drop_36 (by decide) ?_
      refine V_sub [] [] rfl ?_
      exact t_X9_drop_b44 g f hf
  · have hf := it_t hf c6
    refine V_aload_n g 0 dX9_drop_16 rfl ?_
    refine V_iconst (v := 1) g dX9_drop_17 (by decide) ?_
    obtain ⟨s14, x15, hc, hf⟩ := bI_some hf
    refine cV1 g [vI 1] [] s14 (vI x15) cf_X9_refuse (t_X9_refuse g.2.2.2.2.2.2.1 hc) (RC_own g rfl z1) z1 (by decide) q_1581 (Nat.le_of_ble_eq_true rfl) dX9_drop_18 ?_ rfl
    cases hf
    exact V_ireturn g f dX9_drop_21
set_option maxRecDepth 20000 in
theorem t_X9_fault {G : GT} {l : Launch} (hl : l.stackTraces = false) {fu : Nat} {s s' : St} {a0 : Nat} {w' : Int32} (hf : f_X9_fault fu s a0 = some (s', w')) : MetG G l yX9_fault (.code yX9_fault cX9_fault 1 (some .int)) 0 s [vR 9 a0] (s', .inl (some (vI w'))) := by
  refine MetG_of hl (by decide +kernel) (Nat.le_of_ble_eq_true rfl) (fun E g f eG eL => ?_)
  subst eG; subst eL
  have g : GX E "ThinSeriesModel" cX9_fault 1 0 := g
  have f : FX E "fault" (some .int) [] := f
  show V E 1 (QE E (s', .inl (some (vI w')))) s 0 [(0, vR 9 a0)] []
  unfold f_X9_fault at hf
  refine V_aload_n g 0 dX9_fault_0 rfl ?_
  refine V_iconst (v := 0) g dX9_fault_1 (by decide) ?_
  obtain ⟨z1, hf⟩ := nz_some hf
  obtain ⟨s2, es2, hf⟩ := lt_some hf
  refine V_putI g 9 a0 3 es2 rfl (by decide) rfl q_1236 z1 (Or.inl rfl) pf_9_3 dX9_fault_2 ?_
  refine V_aload_n g 0 dX9_fault_5 rfl ?_
  refine V_getI g 9 a0 33 rfl (by decide) rfl q_1266 z1 dX9_fault_6 ?_
  cases hf
  exact V_ireturn g f dX9_fault_9
set_option maxRecDepth 20000 in
theorem t_X9_feed_b76 {E : ET} {fu : Nat} {s' : St} {w' : Int32} (g : GX E "ThinSeriesModel" cX9_feed 8 0) (f : FX E "feed" (some .int) []) {k23 : St → Nat → Int32 → Int32 → Int32 → Int32 → Int32 → Int32 → Option (St × Int32)} (hk23 : ∀ (s : St) (l0 : Nat) (l1 : Int32) (l2 : Int32) (l3 : Int32) (l4 : Int32) (l5 : Int32) (l6 : Int32), k23 s l0 l1 l2 l3 l4 l5 l6 = some (s', w') → V E 8 (QE E (s', .inl (some (vI w')))) s 23 [(0, vR 9 l0), (1, vI l1), (2, vI l2), (3, vI l3), (4, vI l4), (5, vI l5), (6, vI l6)] []) {s : St} {l0 : Nat} {l1 : Int32} {l2 : Int32} {l3 : Int32} {l4 : Int32} {l5 : Int32} {l6 : Int32} {t0 : Int32} (hf : f_X9_feed_b76 fu k23 s l0 l1 l2 l3 l4 l5 l6 t0 = some (s', w')) : V E 8 (QE E (s', .inl (some (vI w')))) s 76 [(0, vR 9 l0), (1, vI l1), (2, vI l2), (3, vI l3), (4, vI l4), (5, vI l5), (6, vI l6)] [vI t0] := by
  unfold f_X9_feed_b76 at hf
  refine V_istore g [(7, vI t0), (0, vR 9 l0), (1, vI l1), (2, vI l2), (3, vI l3), (4, vI l4), (5, vI l5), (6, vI l6)] dX9_feed_76 rfl (by decide) rfl ?_
  refine V_aload_n g 1 dX9_feed_78 rfl ?_
  obtain ⟨z10, hf⟩ := nz_some hf
  refine V_getR g 9 l0 23 10 rfl (by decide) rfl rfl q_1256 z10 dX9_feed_79 ?_
  refine V_aload_n g 1 dX9_feed_82 rfl ?_
  refine V_getI g 9 l0 24 rfl (by decide) rfl q_1257 z10 dX9_feed_83 ?_
  refine V_iload g 0 dX9_feed_86 rfl ?_
  refine V_bipush (v := 24) g dX9_feed_88 (by decide) ?_
  refine V_bipush (v := 8) g dX9_feed_90 (by decide) ?_
  refine V_iload g 7 dX9_feed_92 rfl ?_
  refine V_iconst (v := 4) g dX9_feed_94 (by decide) ?_
  refine V_irem g dX9_feed_95 (by decide) ?_
  refine V_imul g dX9_feed_96 ?_
  refine V_isub g dX9_feed_97 ?_
  refine V_ishr g dX9_feed_98 ?_
  refine V_sipush (v := 255) g dX9_feed_99 (by decide) ?_
  refine V_iand g dX9_feed_102 ?_
  obtain ⟨z12, hf⟩ := nz_some hf
  obtain ⟨h13, hf⟩ := ckf hf
  obtain ⟨s14, es14, hf⟩ := lt_some hf
  refine V_iast g es14 z12 h13 dX9_feed_103 ?_
  refine V_aload_n g 1 dX9_feed_104 rfl ?_
  refine V_dup g dX9_feed_105 rfl ?_
  refine V_getI g 9 l0 24 rfl (by decide) rfl q_1257 z10 dX9_feed_106 ?_
  refine V_iconst (v := 1) g dX9_feed_109 (by decide) ?_
  refine V_iadd g dX9_feed_110 ?_
  obtain ⟨s15, es15, hf⟩ := lt_some hf
  refine V_putI g 9 l0 24 es15 rfl (by decide) rfl q_1257 z10 (Or.inl rfl) pf_9_24 dX9_feed_111 ?_
  obtain ⟨x16, ex16, hf⟩ := lt_some hf
  refine V_iinc g 7 [(6, vI x16), (7, vI t0), (0, vR 9 l0), (1, vI l1), (2, vI l2), (3, vI l3), (4, vI l4), (5, vI l5)] dX9_feed_114 rfl (by rw [ex16]; rfl) (by decide) rfl ?_
  refine V_goto g 23 dX9_feed_117 (by decide) ?_
  refine V_sub [(0, vR 9 l0), (1, vI l1), (2, vI l2), (3, vI l3), (4, vI l4), (5, vI l5), (6, vI x16)] [2, 3, 4, 5, 6, 7, 0] rfl ?_
  exact hk23 s15 l0 l1 l2 l3 l4 l5 x16 hf
set_option maxRecDepth 20000 in
theorem t_X9_feed_b23 {E : ET} {fu : Nat} {s' : St} {w' : Int32} (g : GX E "ThinSeriesModel" cX9_feed 8 0) (f : FX E "feed" (some .int) []) : ∀ (n : Nat) (s : St) (l0 : Nat) (l1 : Int32) (l2 : Int32) (l3 : Int32) (l4 : Int32) (l5 : Int32) (l6 : Int32), f_X9_feed_b23 fu n s l0 l1 l2 l3 l4 l5 l6 = some (s', w') → V E 8 (QE E (s', .inl (some (vI w')))) s 23 [(0, vR 9 l0), (1, vI l1), (2, vI l2), (3, vI l3), (4, vI l4), (5, vI l5), (6, vI l6)] [] := by
  intro n
  induction n with
  | zero =>
    intro s l0 l1 l2 l3 l4 l5 l6 hf
    unfold f_X9_feed_b23 at hf
    exact nomatch hf
  | succ n ih =>
    intro s l0 l1 l2 l3 l4 l5 l6 hf
    unfold f_X9_feed_b23 at hf
    refine V_iload g 6 dX9_feed_23 rfl ?_
    refine V_bipush (v := 20) g dX9_feed_25 (by decide) ?_
    refine V_icmp_ge g 120 dX9_feed_27 (by decide) (fun c4 => ?_) (fun c4 => ?_)
    · have hf := it_t hf c4
      refine V_aload_n g 0 dX9_feed_120 rfl ?_
      obtain ⟨z5, hf⟩ := nz_some hf
      refine V_getI g 9 l0 24 rfl (by decide) rfl q_1257 z5 dX9_feed_121 ?_
      cases hf
      exact V_ireturn g f dX9_feed_124
    · have hf := it_f hf c4
      refine V_iload g 6 dX9_feed_30 rfl ?_
      refine V_iconst (v := 4) g dX9_feed_32 (by decide) ?_
      refine V_icmp_ge g 40 dX9_feed_33 (by decide) (fun c6 => ?_) (fun c6 => ?_)
      · have hf := it_t hf c6
        refine V_iload g 6 dX9_feed_40 rfl ?_
        refine V_bipush (v := 8) g dX9_feed_42 (by decide) ?_
        refine V_icmp_ge g 51 dX9_feed_44 (by decide) (fun c7 => ?_) (fun c7 => ?_)
        · have hf := it_t hf c7
          refine V_iload g 6 dX9_feed_51 rfl ?_
          refine V_bipush (v := 12) g dX9_feed_53 (by decide) ?_
          refine V_icmp_ge g 62 dX9_feed_55 (by decide) (fun c8 => ?_) (fun c8 => ?_)
          · have hf := it_t hf c8
            refine V_iload g 6 dX9_feed_62 rfl ?_
            refine V_bipush (v := 16) g dX9_feed_64 (by decide) ?_
            refine V_icmp_ge g 74 dX9_feed_66 (by decide) (fun c9 => ?_) (fun c9 => ?_)
            · have hf := it_t hf c9
              refine V_iload g 5 dX9_feed_74 rfl ?_
              exact t_X9_feed_b76 g f ih hf
            · have hf := it_f hf c9
              refine V_iload g 4 dX9_feed_69 rfl ?_
              refine V_goto g 76 dX9_feed_71 (by decide) ?_
              exact t_X9_feed_b76 g f ih hf
          · have hf := it_f hf c8
            refine V_iload_n g 3 dX9_feed_58 rfl ?_
            refine V_goto g 76 dX9_feed_59 (by decide) ?_
            exact t_X9_feed_b76 g f ih hf
        · have hf := it_f hf c7
          refine V_iload_n g 2 dX9_feed_47 rfl ?_
          refine V_goto g 76 dX9_feed_48 (by decide) ?_
          exact t_X9_feed_b76 g f ih hf
      · have hf := it_f hf c6
        refine V_iload_n g 1 dX9_feed_36 rfl ?_
        refine V_goto g 76 dX9_feed_37 (by decide) ?_
        exact t_X9_feed_b76 g f ih hf
set_option maxRecDepth 20000 in
theorem t_X9_feed {G : GT} {l : Launch} (hl : l.stackTraces = false) {fu : Nat} {s s' : St} {a0 : Nat} {a1 : Int32} {a2 : Int32} {a3 : Int32} {a4 : Int32} {a5 : Int32} {w' : Int32} (hf : f_X9_feed fu s a0 a1 a2 a3 a4 a5 = some (s', w')) : MetG G l yX9_feed (.code yX9_feed cX9_feed 8 (some .int)) 0 s [vR 9 a0, vI a1, vI a2, vI a3, vI a4, vI a5] (s', .inl (some (vI w'))) := by
  refine MetG_of hl (by decide +kernel) (Nat.le_of_ble_eq_true rfl) (fun E g f eG eL => ?_)
  subst eG; subst eL
  have g : GX E "ThinSeriesModel" cX9_feed 8 0 := g
  have f : FX E "feed" (some .int) [] := f
  show V E 8 (QE E (s', .inl (some (vI w')))) s 0 [(0, vR 9 a0), (1, vI a1), (2, vI a2), (3, vI a3), (4, vI a4), (5, vI a5)] []
  unfold f_X9_feed at hf
  refine V_aload_n g 0 dX9_feed_0 rfl ?_
  refine V_iconst (v := 0) g dX9_feed_1 (by decide) ?_
  obtain ⟨z1, hf⟩ := nz_some hf
  obtain ⟨s2, es2, hf⟩ := lt_some hf
  refine V_putI g 9 a0 3 es2 rfl (by decide) rfl q_1236 z1 (Or.inl rfl) pf_9_3 dX9_feed_2 ?_
  refine V_aload_n g 0 dX9_feed_5 rfl ?_
  refine V_getI g 9 a0 24 rfl (by decide) rfl q_1257 z1 dX9_feed_6 ?_
  refine V_bipush (v := 20) g dX9_feed_9 (by decide) ?_
  refine V_iadd g dX9_feed_11 ?_
  refine V_sipush (v := 600) g dX9_feed_12 (by decide) ?_
  refine V_icmp_le g 20 dX9_feed_15 (by decide) (fun c3 => ?_) (fun c3 => ?_)
  · have hf := it_t hf c3
    refine V_iconst (v := 0) g dX9_feed_20 (by decide) ?_
    refine V_istore g [(6, vI 0), (0, vR 9 a0), (1, vI a1), (2, vI a2), (3, vI a3), (4, vI a4), (5, vI a5)] dX9_feed_21 rfl (by decide) rfl ?_
    refine V_sub [(0, vR 9 a0), (1, vI a1), (2, vI a2), (3, vI a3), (4, vI a4), (5, vI a5), (6, vI 0)] [1, 2, 3, 4, 5, 6, 0] rfl ?_
    exact t_X9_feed_b23 g f _ s2 a0 a1 a2 a3 a4 a5 0 hf
  · have hf := it_f hf c3
    refine V_iconst (v := (-1)) g dX9_feed_18 (by decide) ?_
    cases hf
    exact V_ireturn g f dX9_feed_19
set_option maxRecDepth 20000 in
theorem t_X9_gap_b21 {E : ET} {fu : Nat} {s' : St} {w' : Int32} (g : GX E "ThinSeriesModel" cX9_gap 10 5) (f : FX E "gap" (some .int) []) {s : St} {l0 : Nat} (hf : f_X9_gap_b21 fu s l0 = some (s', w')) : V E 10 (QE E (s', .inl (some (vI w')))) s 21 [(0, vR 9 l0)] [] := by
  unfold f_X9_gap_b21 at hf
  refine V_aload_n g 0 dX9_gap_21 rfl ?_
  refine V_iconst (v := 1) g dX9_gap_22 (by decide) ?_
  obtain ⟨z13, hf⟩ := nz_some hf
  obtain ⟨s14, x15, hc, hf⟩ := bI_some hf
  refine cV1 g [vI 1] [] s14 (vI x15) cf_X9_fail (t_X9_fail g.2.2.2.2.2.2.1 hc) (RC_own g rfl z13) z13 (by decide) q_1454 (Nat.le_of_ble_eq_true rfl) dX9_gap_23 ?_ rfl
  cases hf
  exact V_ireturn g f dX9_gap_26
set_option maxRecDepth 20000 in
theorem t_X9_gap_b113 {E : ET} {fu : Nat} {s' : St} {w' : Int32} (g : GX E "ThinSeriesModel" cX9_gap 10 5) (f : FX E "gap" (some .int) []) {s : St} {t0 : Int32} (hf : f_X9_gap_b113 fu s t0 = some (s', w')) : V E 10 (QE E (s', .inl (some (vI w')))) s 113 [] [vI t0] := by
  unfold f_X9_gap_b113 at hf
  cases hf
  exact V_ireturn g f dX9_gap_113
set_option maxRecDepth 20000 in
theorem t_X9_gap_b117 {E : ET} {fu : Nat} {s' : St} {w' : Int32} (g : GX E "ThinSeriesModel" cX9_gap 10 5) (f : FX E "gap" (some .int) []) {k54 : St → Nat → Int32 → Int32 → Int32 → Int32 → Int32 → Int32 → Int32 → Int32 → Option (St × Int32)} (hk54 : ∀ (s : St) (l0 : Nat) (l2 : Int32) (l3 : Int32) (l4 : Int32) (l5 : Int32) (l6 : Int32) (l7 : Int32) (l8 : Int32) (l9 : Int32), k54 s l0 l2 l3 l4 l5 l6 l7 l8 l9 = some (s', w') → V E 10 (QE E (s', .inl (some (vI w')))) s 54 [(0, vR 9 l0), (2, vI l2), (3, vI l3), (4, vI l4), (5, vI l5), (6, vI l6), (7, vI l7), (8, vI l8), (9, vI l9)] []) {s : St} {l0 : Nat} {l2 : Int32} {l3 : Int32} {l4 : Int32} {l5 : Int32} {l7 : Int32} {l9 : Int32} (hf : f_X9_gap_b117 fu k54 s l0 l2 l3 l4 l5 l7 l9 = some (s', w')) : V E 10 (QE E (s', .inl (some (vI w')))) s 117 [(0, vR 9 l0), (2, vI l2), (3, vI l3), (4, vI l4), (5, vI l5), (7, vI l7), (9, vI l9)] [] := by
  unfold f_X9_gap_b117 at hf
  refine V_aload_n g 0 dX9_gap_117 rfl ?_
  obtain ⟨z32, hf⟩ := nz_some hf
  refine V_getI g 9 l0 52 rfl (by decide) rfl q_1285 z32 dX9_gap_118 ?_
  refine V_aload_n g 0 dX9_gap_121 rfl ?_
  refine V_getR g 9 l0 4 10 rfl (by decide) rfl rfl q_1237 z32 dX9_gap_122 ?_
  refine V_iload_n g 1 dX9_gap_125 rfl ?_
  obtain ⟨z33, hf⟩ := nz_some hf
  obtain ⟨h34, hf⟩ := ckf hf
  refine V_iald g z33 h34 dX9_gap_126 ?_
  refine V_iadd g dX9_gap_127 ?_
  obtain ⟨x35, ex35, hf⟩ := lt_some hf
  refine V_istore g [(6, vI x35), (0, vR 9 l0), (2, vI l2), (3, vI l3), (4, vI l4), (5, vI l5), (7, vI l7), (9, vI l9)] dX9_gap_128 ex35 (by decide) rfl ?_
  refine V_iconst (v := 1) g dX9_gap_130 (by decide) ?_
  refine V_istore g [(8, vI 1), (6, vI x35), (0, vR 9 l0), (2, vI l2), (3, vI l3), (4, vI l4), (5, vI l5), (7, vI l7), (9, vI l9)] dX9_gap_131 rfl (by decide) rfl ?_
  refine V_goto g 54 dX9_gap_133 (by decide) ?_
  refine V_sub [(0, vR 9 l0), (2, vI l2), (3, vI l3), (4, vI l4), (5, vI l5), (6, vI x35), (7, vI l7), (8, vI 1), (9, vI l9)] [2, 3, 4, 5, 6, 1, 7, 0, 8] rfl ?_
  exact hk54 s l0 l2 l3 l4 l5 x35 l7 1 l9 hf
set_option maxRecDepth 20000 in
theorem t_X9_gap_b151 {E : ET} {fu : Nat} {s' : St} {w' : Int32} (g : GX E "ThinSeriesModel" cX9_gap 10 5) (f : FX E "gap" (some .int) []) {s : St} {t0 : Int32} (hf : f_X9_gap_b151 fu s t0 = some (s', w')) : V E 10 (QE E (s', .inl (some (vI w')))) s 151 [] [vI t0] := by
  unfold f_X9_gap_b151 at hf
  cases hf
  exact V_ireturn g f dX9_gap_151
set_option maxRecDepth 20000 in
theorem t_X9_gap_b54 {E : ET} {fu : Nat} {s' : St} {w' : Int32} (g : GX E "ThinSeriesModel" cX9_gap 10 5) (f : FX E "gap" (some .int) []) : ∀ (n : Nat) (s : St) (l0 : Nat) (l2 : Int32) (l3 : Int32) (l4 : Int32) (l5 : Int32) (l6 : Int32) (l7 : Int32) (l8 : Int32) (l9 : Int32), f_X9_gap_b54 fu n s l0 l2 l3 l4 l5 l6 l7 l8 l9 = some (s', w') → V E 10 (QE E (s', .inl (some (vI w')))) s 54 [(0, vR 9 l0), (2, vI l2), (3, vI l3), (4, vI l4), (5, vI l5), (6, vI l6), (7, vI l7), (8, vI l8), (9, vI l9)] [] := by
  intro n
  induction n with
  | zero =>
    intro s l0 l2 l3 l4 l5 l6 l7 l8 l9 hf
    unfold f_X9_gap_b54 at hf
    exact nomatch hf
  | succ n ih =>
    intro s l0 l2 l3 l4 l5 l6 l7 l8 l9 hf
    unfold f_X9_gap_b54 at hf
    refine V_iload g 8 dX9_gap_54 rfl ?_
    refine V_iload g 4 dX9_gap_56 rfl ?_
    refine V_icmp_ge g 136 dX9_gap_58 (by decide) (fun c16 => ?_) (fun c16 => ?_)
    · have hf := it_t hf c16
      refine V_iload_n g 2 dX9_gap_136 rfl ?_
      refine V_iconst (v := (-1)) g dX9_gap_137 (by decide) ?_
      refine V_icmp_ne g 146 dX9_gap_138 (by decide) (fun c17 => ?_) (fun c17 => ?_)
      · have hf := it_f hf c17
        refine V_aload_n g 0 dX9_gap_146 rfl ?_
        refine V_iconst (v := 1) g dX9_gap_147 (by decide) ?_
        obtain ⟨z18, hf⟩ := nz_some hf
        obtain ⟨s19, x20, hc, hf⟩ := bI_some hf
        refine cV1 g [vI 1] [] s19 (vI x20) cf_X9_fail (t_X9_fail g.2.2.2.2.2.2.1 hc) (RC_own g rfl z18) z18 (by decide) q_1454 (Nat.le_of_ble_eq_true rfl) dX9_gap_148 ?_ rfl
        refine V_sub [] [] rfl ?_
        exact t_X9_gap_b151 g f hf
      · have hf := it_t hf c17
        refine V_iload g 6 dX9_gap_141 rfl ?_
        refine V_goto g 151 dX9_gap_143 (by decide) ?_
        refine V_sub [] [] rfl ?_
        exact t_X9_gap_b151 g f hf
    · have hf := it_f hf c16
      refine V_aload_n g 0 dX9_gap_61 rfl ?_
      refine V_iload g 8 dX9_gap_62 rfl ?_
      obtain ⟨z21, hf⟩ := nz_some hf
      obtain ⟨s22, x23, hc, hf⟩ := bI_some hf
      refine cV1 g [vI l9] [] s22 (vI x23) cf_X9_bucketFrom (t_X9_bucketFrom g.2.2.2.2.2.2.1 hc) (RC_own g rfl z21) z21 (by decide) q_1665 (Nat.le_of_ble_eq_true rfl) dX9_gap_64 ?_ rfl
      refine V_istore g [(9, vI x23), (0, vR 9 l0), (2, vI l2), (3, vI l3), (4, vI l4), (5, vI l5), (6, vI l6), (7, vI l7), (8, vI l8)] dX9_gap_67 rfl (by decide) rfl ?_
      refine V_iload g 8 dX9_gap_69 rfl ?_
      refine V_if_eq g 117 dX9_gap_71 (by decide) (fun c24 => ?_) (fun c24 => ?_)
      · have hf := it_t hf c24
        refine V_sub [(0, vR 9 l0), (2, vI l2), (3, vI l3), (4, vI l4), (5, vI l5), (7, vI l7), (9, vI x23)] [1, 2, 3, 4, 5, 7, 0] rfl ?_
        exact t_X9_gap_b117 g f ih hf
      · have hf := it_f hf c24
        refine V_aload_n g 1 dX9_gap_74 rfl ?_
        refine V_getI g 9 l0 52 rfl (by decide) rfl q_1285 z21 dX9_gap_75 ?_
        refine V_iload g 6 dX9_gap_78 rfl ?_
        refine V_icmp_le g 117 dX9_gap_80 (by decide) (fun c25 => ?_) (fun c25 => ?_)
        · have hf := it_t hf c25
          refine V_sub [(0, vR 9 l0), (2, vI l2), (3, vI l3), (4, vI l4), (5, vI l5), (7, vI l7), (9, vI x23)] [1, 2, 3, 4, 5, 7, 0] rfl ?_
          exact t_X9_gap_b117 g f ih hf
        · have hf := it_f hf c25
          refine V_iload g 7 dX9_gap_83 rfl ?_
          refine V_iload_n g 3 dX9_gap_85 rfl ?_
          refine V_icmp_ne g 114 dX9_gap_86 (by decide) (fun c26 => ?_) (fun c26 => ?_)
          · have hf := it_f hf c26
            obtain ⟨x27, ex27, hf⟩ := lt_some hf
            refine V_iinc g 7 [(7, vI x27), (9, vI x23), (0, vR 9 l0), (2, vI l2), (3, vI l3), (4, vI l4), (5, vI l5), (6, vI l6), (8, vI l8)] dX9_gap_114 rfl (by rw [ex27]; rfl) (by decide) rfl ?_
            refine V_sub [(0, vR 9 l0), (2, vI l2), (3, vI l3), (4, vI l4), (5, vI l5), (7, vI x27), (9, vI x23)] [2, 3, 4, 5, 6, 0, 1] rfl ?_
            exact t_X9_gap_b117 g f ih hf
          · have hf := it_t hf c26
            refine V_iload g 4 dX9_gap_89 rfl ?_
            refine V_if_eq g 111 dX9_gap_91 (by decide) (fun c28 => ?_) (fun c28 => ?_)
            · have hf := it_t hf c28
              refine V_iload g 6 dX9_gap_111 rfl ?_
              refine V_sub [] [] rfl ?_
              exact t_X9_gap_b113 g f hf
            · have hf := it_f hf c28
              refine V_aload_n g 1 dX9_gap_94 rfl ?_
              refine V_getI g 9 l0 52 rfl (by decide) rfl q_1285 z21 dX9_gap_95 ?_
              refine V_iload g 6 dX9_gap_98 rfl ?_
              refine V_isub g dX9_gap_100 ?_
              refine V_aload_n g 1 dX9_gap_101 rfl ?_
              refine V_getR g 9 l0 4 10 rfl (by decide) rfl rfl q_1237 z21 dX9_gap_102 ?_
              refine V_iload_n g 2 dX9_gap_105 rfl ?_
              obtain ⟨z29, hf⟩ := nz_some hf
              obtain ⟨h30, hf⟩ := ckf hf
              refine V_iald g z29 h30 dX9_gap_106 ?_
              obtain ⟨h31, hf⟩ := d0_some hf
              refine V_idiv g dX9_gap_107 h31 ?_
              refine V_goto g 113 dX9_gap_108 (by decide) ?_
              refine V_sub [] [] rfl ?_
              exact t_X9_gap_b113 g f hf
set_option maxRecDepth 20000 in
theorem t_X9_gap {G : GT} {l : Launch} (hl : l.stackTraces = false) {fu : Nat} {s s' : St} {a0 : Nat} {a1 : Int32} {a2 : Int32} {a3 : Int32} {a4 : Int32} {w' : Int32} (hf : f_X9_gap fu s a0 a1 a2 a3 a4 = some (s', w')) : MetG G l yX9_gap (.code yX9_gap cX9_gap 10 (some .int)) 5 s [vR 9 a0, vI a1, vI a2, vI a3, vI a4] (s', .inl (some (vI w'))) := by
  refine MetG_of hl (by decide +kernel) (Nat.le_of_ble_eq_true rfl) (fun E g f eG eL => ?_)
  subst eG; subst eL
  have g : GX E "ThinSeriesModel" cX9_gap 10 5 := g
  have f : FX E "gap" (some .int) [] := f
  show V E 10 (QE E (s', .inl (some (vI w')))) s 0 [(0, vR 9 a0), (1, vI a1), (2, vI a2), (3, vI a3), (4, vI a4)] []
  unfold f_X9_gap at hf
  refine V_aload_n g 0 dX9_gap_0 rfl ?_
  refine V_iconst (v := 0) g dX9_gap_1 (by decide) ?_
  obtain ⟨z1, hf⟩ := nz_some hf
  obtain ⟨s2, es2, hf⟩ := lt_some hf
  refine V_putI g 9 a0 3 es2 rfl (by decide) rfl q_1236 z1 (Or.inl rfl) pf_9_3 dX9_gap_2 ?_
  refine V_aload_n g 0 dX9_gap_5 rfl ?_
  refine V_iload_n g 1 dX9_gap_6 rfl ?_
  obtain ⟨s3, x4, hc, hf⟩ := bI_some hf
  refine cV1 g [vI a1] [] s3 (vI x4) cf_X9_isSeries (t_X9_isSeries g.2.2.2.2.2.2.1 hc) (RC_own g rfl z1) z1 (by decide) q_1727 (Nat.le_of_ble_eq_true rfl) dX9_gap_7 ?_ rfl
  refine V_if_eq g 21 dX9_gap_10 (by decide) (fun c5 => ?_) (fun c5 => ?_)
  · have hf := it_t hf c5
    refine V_sub [(0, vR 9 a0)] [0] rfl ?_
    exact t_X9_gap_b21 g f hf
  · have hf := it_f hf c5
    refine V_aload_n g 0 dX9_gap_13 rfl ?_
    refine V_iload_n g 2 dX9_gap_14 rfl ?_
    obtain ⟨s6, x7, hc, hf⟩ := bI_some hf
    refine cV1 g [vI a2] [] s6 (vI x7) cf_X9_isTier (t_X9_isTier g.2.2.2.2.2.2.1 hc) (RC_own g rfl z1) z1 (by decide) q_1715 (Nat.le_of_ble_eq_true rfl) dX9_gap_15 ?_ rfl
    refine V_if_ne g 27 dX9_gap_18 (by decide) (fun c8 => ?_) (fun c8 => ?_)
    · have hf := it_f hf c8
      refine V_aload_n g 0 dX9_gap_27 rfl ?_
      refine V_iload_n g 1 dX9_gap_28 rfl ?_
      refine V_iload_n g 2 dX9_gap_29 rfl ?_
      obtain ⟨s9, x10, hc, hf⟩ := bI_some hf
      refine cV1 g [vI a1, vI a2] [] s9 (vI x10) cf_X9_tierTo (t_X9_tierTo g.2.2.2.2.2.2.1 hc) (RC_own g rfl z1) z1 (by decide) q_1754 (Nat.le_of_ble_eq_true rfl) dX9_gap_30 ?_ rfl
      refine V_istore g [(5, vI x10), (0, vR 9 a0), (1, vI a1), (2, vI a2), (3, vI a3), (4, vI a4)] dX9_gap_33 rfl (by decide) rfl ?_
      refine V_sipush (v := (-20000)) g dX9_gap_35 (by decide) ?_
      refine V_istore g [(6, vI ((-20000))), (5, vI x10), (0, vR 9 a0), (1, vI a1), (2, vI a2), (3, vI a3), (4, vI a4)] dX9_gap_38 rfl (by decide) rfl ?_
      refine V_iconst (v := 0) g dX9_gap_40 (by decide) ?_
      refine V_istore g [(7, vI 0), (6, vI ((-20000))), (5, vI x10), (0, vR 9 a0), (1, vI a1), (2, vI a2), (3, vI a3), (4, vI a4)] dX9_gap_41 rfl (by decide) rfl ?_
      refine V_iconst (v := 0) g dX9_gap_43 (by decide) ?_
      refine V_istore g [(8, vI 0), (7, vI 0), (6, vI ((-20000))), (5, vI x10), (0, vR 9 a0), (1, vI a1), (2, vI a2), (3, vI a3), (4, vI a4)] dX9_gap_44 rfl (by decide) rfl ?_
      refine V_aload_n g 4 dX9_gap_46 rfl ?_
      refine V_iload_n g 5 dX9_gap_47 rfl ?_
      refine V_iload_n g 6 dX9_gap_48 rfl ?_
      obtain ⟨s11, x12, hc, hf⟩ := bI_some hf
      refine cV1 g [vI a1, vI a2] [] s11 (vI x12) cf_X9_tierFrom (t_X9_tierFrom g.2.2.2.2.2.2.1 hc) (RC_own g rfl z1) z1 (by decide) q_1758 (Nat.le_of_ble_eq_true rfl) dX9_gap_49 ?_ rfl
      refine V_istore g [(9, vI x12), (8, vI 0), (7, vI 0), (6, vI ((-20000))), (5, vI x10), (0, vR 9 a0), (1, vI a1), (2, vI a2), (3, vI a3), (4, vI a4)] dX9_gap_52 rfl (by decide) rfl ?_
      refine V_sub [(0, vR 9 a0), (2, vI a2), (3, vI a3), (4, vI a4), (5, vI x10), (6, vI ((-20000))), (7, vI 0), (8, vI 0), (9, vI x12)] [5, 7, 8, 9, 4, 3, 2, 1, 0] rfl ?_
      exact t_X9_gap_b54 g f _ s11 a0 a2 a3 a4 x10 ((-20000)) 0 0 x12 hf
    · have hf := it_t hf c8
      refine V_sub [(0, vR 9 a0)] [0] rfl ?_
      exact t_X9_gap_b21 g f hf
set_option maxRecDepth 20000 in
theorem t_X9_allBuckets_b15 {E : ET} {fu : Nat} {s' : St} {w' : Int32} (g : GX E "ThinSeriesModel" cX9_allBuckets 5 5) (f : FX E "allBuckets" (some .int) []) : ∀ (n : Nat) (s : St) (l0 : Nat) (l2 : Int32) (l3 : Int32) (l4 : Int32), f_X9_allBuckets_b15 fu n s l0 l2 l3 l4 = some (s', w') → V E 5 (QE E (s', .inl (some (vI w')))) s 15 [(0, vR 9 l0), (2, vI l2), (3, vI l3), (4, vI l4)] [] := by
  intro n
  induction n with
  | zero =>
    intro s l0 l2 l3 l4 hf
    unfold f_X9_allBuckets_b15 at hf
    exact nomatch hf
  | succ n ih =>
    intro s l0 l2 l3 l4 hf
    unfold f_X9_allBuckets_b15 at hf
    refine V_iload g 3 dX9_allBuckets_15 rfl ?_
    refine V_iload_n g 2 dX9_allBuckets_17 rfl ?_
    refine V_icmp_ge g 35 dX9_allBuckets_18 (by decide) (fun c6 => ?_) (fun c6 => ?_)
    · have hf := it_t hf c6
      refine V_iload_n g 1 dX9_allBuckets_35 rfl ?_
      cases hf
      exact V_ireturn g f dX9_allBuckets_36
    · have hf := it_f hf c6
      obtain ⟨x7, ex7, hf⟩ := lt_some hf
      refine V_iinc g 1 [(2, vI x7), (0, vR 9 l0), (3, vI l3), (4, vI l4)] dX9_allBuckets_21 rfl (by rw [ex7]; rfl) (by decide) rfl ?_
      refine V_aload_n g 1 dX9_allBuckets_24 rfl ?_
      refine V_iload g 3 dX9_allBuckets_25 rfl ?_
      obtain ⟨z8, hf⟩ := nz_some hf
      obtain ⟨s9, x10, hc, hf⟩ := bI_some hf
      refine cV1 g [vI l4] [] s9 (vI x10) cf_X9_bucketFrom (t_X9_bucketFrom g.2.2.2.2.2.2.1 hc) (RC_own g rfl z8) z8 (by decide) q_1665 (Nat.le_of_ble_eq_true rfl) dX9_allBuckets_27 ?_ rfl
      refine V_istore g [(4, vI x10), (2, vI x7), (0, vR 9 l0), (3, vI l3)] dX9_allBuckets_30 rfl (by decide) rfl ?_
      refine V_goto g 15 dX9_allBuckets_32 (by decide) ?_
      refine V_sub [(0, vR 9 l0), (2, vI x7), (3, vI l3), (4, vI x10)] [2, 1, 3, 0] rfl ?_
      exact ih s9 l0 x7 l3 x10 hf
set_option maxRecDepth 20000 in
theorem t_X9_allBuckets {G : GT} {l : Launch} (hl : l.stackTraces = false) {fu : Nat} {s s' : St} {a0 : Nat} {a1 : Int32} {w' : Int32} (hf : f_X9_allBuckets fu s a0 a1 = some (s', w')) : MetG G l yX9_allBuckets (.code yX9_allBuckets cX9_allBuckets 5 (some .int)) 5 s [vR 9 a0, vI a1] (s', .inl (some (vI w'))) := by
  refine MetG_of hl (by decide +kernel) (Nat.le_of_ble_eq_true rfl) (fun E g f eG eL => ?_)
  subst eG; subst eL
  have g : GX E "ThinSeriesModel" cX9_allBuckets 5 5 := g
  have f : FX E "allBuckets" (some .int) [] := f
  show V E 5 (QE E (s', .inl (some (vI w')))) s 0 [(0, vR 9 a0), (1, vI a1)] []
  unfold f_X9_allBuckets at hf
  refine V_iconst (v := 0) g dX9_allBuckets_0 (by decide) ?_
  refine V_istore_n g [(2, vI 0), (0, vR 9 a0), (1, vI a1)] dX9_allBuckets_1 rfl (by decide) rfl ?_
  refine V_aload_n g 1 dX9_allBuckets_2 rfl ?_
  refine V_iload_n g 2 dX9_allBuckets_3 rfl ?_
  obtain ⟨z1, hf⟩ := nz_some hf
  obtain ⟨s2, x3, hc, hf⟩ := bI_some hf
  refine cV1 g [vI a1] [] s2 (vI x3) cf_X9_behindOf (t_X9_behindOf g.2.2.2.2.2.2.1 hc) (RC_own g rfl z1) z1 (by decide) q_1636 (Nat.le_of_ble_eq_true rfl) dX9_allBuckets_4 ?_ rfl
  refine V_istore_n g [(3, vI x3), (2, vI 0), (0, vR 9 a0), (1, vI a1)] dX9_allBuckets_7 rfl (by decide) rfl ?_
  refine V_aload_n g 2 dX9_allBuckets_8 rfl ?_
  refine V_iload_n g 3 dX9_allBuckets_9 rfl ?_
  obtain ⟨s4, x5, hc, hf⟩ := bI_some hf
  refine cV1 g [vI a1] [] s4 (vI x5) cf_X9_firstOf (t_X9_firstOf g.2.2.2.2.2.2.1 hc) (RC_own g rfl z1) z1 (by decide) q_1627 (Nat.le_of_ble_eq_true rfl) dX9_allBuckets_10 ?_ rfl
  refine V_istore g [(4, vI x5), (3, vI x3), (2, vI 0), (0, vR 9 a0), (1, vI a1)] dX9_allBuckets_13 rfl (by decide) rfl ?_
  refine V_sub [(0, vR 9 a0), (2, vI 0), (3, vI x3), (4, vI x5)] [3, 2, 1, 0] rfl ?_
  exact t_X9_allBuckets_b15 g f _ s4 a0 0 x3 x5 hf
set_option maxRecDepth 20000 in
theorem t_X9_allBy_b112 {E : ET} {fu : Nat} {s' : St} {w' : Int64} (g : GX E "ThinSeriesModel" cX9_allBy 7 2) (f : FX E "allBy" (some .long) []) {k28 : St → Nat → Int32 → Int32 → Int64 → Int32 → Option (St × Int64)} (hk28 : ∀ (s : St) (l0 : Nat) (l2 : Int32) (l3 : Int32) (l4 : Int64) (l6 : Int32), k28 s l0 l2 l3 l4 l6 = some (s', w') → V E 7 (QE E (s', .inl (some (vJ w')))) s 28 [(0, vR 9 l0), (2, vI l2), (3, vI l3), (4, vJ l4), (6, vI l6)] []) {s : St} {l0 : Nat} {l2 : Int32} {l3 : Int32} {l4 : Int64} {l6 : Int32} (hf : f_X9_allBy_b112 fu k28 s l0 l2 l3 l4 l6 = some (s', w')) : V E 7 (QE E (s', .inl (some (vJ w')))) s 112 [(0, vR 9 l0), (2, vI l2), (3, vI l3), (4, vJ l4), (6, vI l6)] [] := by
  unfold f_X9_allBy_b112 at hf
  obtain ⟨x29, ex29, hf⟩ := lt_some hf
  refine V_iinc g 4 [(6, vI x29), (0, vR 9 l0), (2, vI l2), (3, vI l3), (4, vJ l4)] dX9_allBy_112 rfl (by rw [ex29]; rfl) (by decide) rfl ?_
  refine V_goto g 28 dX9_allBy_115 (by decide) ?_
  refine V_sub [(0, vR 9 l0), (2, vI l2), (3, vI l3), (4, vJ l4), (6, vI x29)] [1, 2, 3, 4, 0] rfl ?_
  exact hk28 s l0 l2 l3 l4 x29 hf
set_option maxRecDepth 20000 in
theorem t_X9_allBy_b110 {E : ET} {fu : Nat} {s' : St} {w' : Int64} (g : GX E "ThinSeriesModel" cX9_allBy 7 2) (f : FX E "allBy" (some .long) []) {k28 : St → Nat → Int32 → Int32 → Int64 → Int32 → Option (St × Int64)} (hk28 : ∀ (s : St) (l0 : Nat) (l2 : Int32) (l3 : Int32) (l4 : Int64) (l6 : Int32), k28 s l0 l2 l3 l4 l6 = some (s', w') → V E 7 (QE E (s', .inl (some (vJ w')))) s 28 [(0, vR 9 l0), (2, vI l2), (3, vI l3), (4, vJ l4), (6, vI l6)] []) {s : St} {l0 : Nat} {l2 : Int32} {l3 : Int32} {l6 : Int32} {t0 : Int64} (hf : f_X9_allBy_b110 fu k28 s l0 l2 l3 l6 t0 = some (s', w')) : V E 7 (QE E (s', .inl (some (vJ w')))) s 110 [(0, vR 9 l0), (2, vI l2), (3, vI l3), (6, vI l6)] [vJ t0] := by
  unfold f_X9_allBy_b110 at hf
  refine V_lstore g [(4, vJ t0), (0, vR 9 l0), (2, vI l2), (3, vI l3), (6, vI l6)] dX9_allBy_110 rfl (by decide) rfl ?_
  refine V_sub [(0, vR 9 l0), (2, vI l2), (3, vI l3), (4, vJ t0), (6, vI l6)] [1, 2, 3, 0, 4] rfl ?_
  exact t_X9_allBy_b112 g f hk28 hf
set_option maxRecDepth 20000 in
theorem t_X9_allBy_b28 {E : ET} {fu : Nat} {s' : St} {w' : Int64} (g : GX E "ThinSeriesModel" cX9_allBy 7 2) (f : FX E "allBy" (some .long) []) : ∀ (n : Nat) (s : St) (l0 : Nat) (l2 : Int32) (l3 : Int32) (l4 : Int64) (l6 : Int32), f_X9_allBy_b28 fu n s l0 l2 l3 l4 l6 = some (s', w') → V E 7 (QE E (s', .inl (some (vJ w')))) s 28 [(0, vR 9 l0), (2, vI l2), (3, vI l3), (4, vJ l4), (6, vI l6)] [] := by
  intro n
  induction n with
  | zero =>
    intro s l0 l2 l3 l4 l6 hf
    unfold f_X9_allBy_b28 at hf
    exact nomatch hf
  | succ n ih =>
    intro s l0 l2 l3 l4 l6 hf
    unfold f_X9_allBy_b28 at hf
    refine V_iload g 4 dX9_allBy_28 rfl ?_
    refine V_iload_n g 2 dX9_allBy_30 rfl ?_
    refine V_icmp_ge g 118 dX9_allBy_31 (by decide) (fun c8 => ?_) (fun c8 => ?_)
    · have hf := it_t hf c8
      refine V_lload g 3 dX9_allBy_118 rfl ?_
      cases hf
      exact V_lreturn g f dX9_allBy_120
    · have hf := it_f hf c8
      refine V_iload_n g 1 dX9_allBy_34 rfl ?_
      refine V_bipush (v := 7) g dX9_allBy_35 (by decide) ?_
      refine V_icmp_ne g 56 dX9_allBy_37 (by decide) (fun c9 => ?_) (fun c9 => ?_)
      · have hf := it_f hf c9
        refine V_lload g 3 dX9_allBy_56 rfl ?_
        refine V_ldc2 (v := (-20000)) g q_1735 dX9_allBy_58 ?_
        refine V_lcmp g dX9_allBy_61 ?_
        refine V_if_ne g 76 dX9_allBy_62 (by decide) (fun c10 => ?_) (fun c10 => ?_)
        · have hf := it_f hf c10
          refine V_iload_n g 1 dX9_allBy_76 rfl ?_
          refine V_iconst (v := 5) g dX9_allBy_77 (by decide) ?_
          refine V_icmp_ne g 97 dX9_allBy_78 (by decide) (fun c11 => ?_) (fun c11 => ?_)
          · have hf := it_f hf c11
            refine V_lload g 3 dX9_allBy_97 rfl ?_
            refine V_aload_n g 0 dX9_allBy_99 rfl ?_
            obtain ⟨z12, hf⟩ := nz_some hf
            refine V_getR g 9 l0 21 10 rfl (by decide) rfl rfl q_1254 z12 dX9_allBy_100 ?_
            refine V_iload g 4 dX9_allBy_103 rfl ?_
            obtain ⟨z13, hf⟩ := nz_some hf
            obtain ⟨h14, hf⟩ := ckf hf
            refine V_iald g z13 h14 dX9_allBy_105 ?_
            refine V_i2l g dX9_allBy_106 ?_
            obtain ⟨s15, x16, hc, hf⟩ := bI_some hf
            refine cS1 g [vJ l4, vJ (Int32.toInt64 (gI s 10 (gR s 9 l0 21) (ix l6)))] [] s15 (vJ x16) cf_J9_max_f86c9 (t_J9_max_f86c9 g.2.2.2.2.2.2.1 hc) (by decide) q_1739 (Nat.le_of_ble_eq_true rfl) dX9_allBy_107 ?_ rfl
            refine V_sub [(0, vR 9 l0), (2, vI l2), (3, vI l3), (6, vI l6)] [0, 1, 2, 4] rfl ?_
            exact t_X9_allBy_b110 g f ih hf
          · have hf := it_t hf c11
            refine V_lload g 3 dX9_allBy_81 rfl ?_
            refine V_aload_n g 0 dX9_allBy_83 rfl ?_
            obtain ⟨z17, hf⟩ := nz_some hf
            refine V_getR g 9 l0 21 10 rfl (by decide) rfl rfl q_1254 z17 dX9_allBy_84 ?_
            refine V_iload g 4 dX9_allBy_87 rfl ?_
            obtain ⟨z18, hf⟩ := nz_some hf
            obtain ⟨h19, hf⟩ := ckf hf
            refine V_iald g z18 h19 dX9_allBy_89 ?_
            refine V_i2l g dX9_allBy_90 ?_
            obtain ⟨s20, x21, hc, hf⟩ := bI_some hf
            refine cS1 g [vJ l4, vJ (Int32.toInt64 (gI s 10 (gR s 9 l0 21) (ix l6)))] [] s20 (vJ x21) cf_J9_min_f86c9 (t_J9_min_f86c9 g.2.2.2.2.2.2.1 hc) (by decide) q_1736 (Nat.le_of_ble_eq_true rfl) dX9_allBy_91 ?_ rfl
            refine V_goto g 110 dX9_allBy_94 (by decide) ?_
            refine V_sub [(0, vR 9 l0), (2, vI l2), (3, vI l3), (6, vI l6)] [0, 1, 2, 4] rfl ?_
            exact t_X9_allBy_b110 g f ih hf
        · have hf := it_t hf c10
          refine V_aload_n g 0 dX9_allBy_65 rfl ?_
          obtain ⟨z22, hf⟩ := nz_some hf
          refine V_getR g 9 l0 21 10 rfl (by decide) rfl rfl q_1254 z22 dX9_allBy_66 ?_
          refine V_iload g 4 dX9_allBy_69 rfl ?_
          obtain ⟨z23, hf⟩ := nz_some hf
          obtain ⟨h24, hf⟩ := ckf hf
          refine V_iald g z23 h24 dX9_allBy_71 ?_
          refine V_i2l g dX9_allBy_72 ?_
          refine V_goto g 110 dX9_allBy_73 (by decide) ?_
          refine V_sub [(0, vR 9 l0), (2, vI l2), (3, vI l3), (6, vI l6)] [0, 1, 2, 4] rfl ?_
          exact t_X9_allBy_b110 g f ih hf
      · have hf := it_t hf c9
        refine V_lload g 3 dX9_allBy_40 rfl ?_
        refine V_aload_n g 0 dX9_allBy_42 rfl ?_
        obtain ⟨z25, hf⟩ := nz_some hf
        refine V_getR g 9 l0 21 10 rfl (by decide) rfl rfl q_1254 z25 dX9_allBy_43 ?_
        refine V_iload g 4 dX9_allBy_46 rfl ?_
        obtain ⟨z26, hf⟩ := nz_some hf
        obtain ⟨h27, hf⟩ := ckf hf
        refine V_iald g z26 h27 dX9_allBy_48 ?_
        refine V_i2l g dX9_allBy_49 ?_
        refine V_ladd g dX9_allBy_50 ?_
        obtain ⟨x28, ex28, hf⟩ := lt_some hf
        refine V_lstore g [(4, vJ x28), (0, vR 9 l0), (2, vI l2), (3, vI l3), (6, vI l6)] dX9_allBy_51 ex28 (by decide) rfl ?_
        refine V_goto g 112 dX9_allBy_53 (by decide) ?_
        refine V_sub [(0, vR 9 l0), (2, vI l2), (3, vI l3), (4, vJ x28), (6, vI l6)] [1, 2, 3, 0, 4] rfl ?_
        exact t_X9_allBy_b112 g f ih hf
set_option maxRecDepth 20000 in
theorem t_X9_allBy_b19 {E : ET} {fu : Nat} {s' : St} {w' : Int64} (g : GX E "ThinSeriesModel" cX9_allBy 7 2) (f : FX E "allBy" (some .long) []) {s : St} {l0 : Nat} {l1 : Int32} {l2 : Int32} {l3 : Int32} {t0 : Int64} (hf : f_X9_allBy_b19 fu s l0 l1 l2 l3 t0 = some (s', w')) : V E 7 (QE E (s', .inl (some (vJ w')))) s 19 [(0, vR 9 l0), (1, vI l1), (2, vI l2), (3, vI l3)] [vJ t0] := by
  unfold f_X9_allBy_b19 at hf
  refine V_lstore g [(4, vJ t0), (0, vR 9 l0), (1, vI l1), (2, vI l2), (3, vI l3)] dX9_allBy_19 rfl (by decide) rfl ?_
  refine V_aload_n g 1 dX9_allBy_21 rfl ?_
  refine V_iload_n g 2 dX9_allBy_22 rfl ?_
  obtain ⟨z5, hf⟩ := nz_some hf
  obtain ⟨s6, x7, hc, hf⟩ := bI_some hf
  refine cV1 g [vI l1] [] s6 (vI x7) cf_X9_firstOf (t_X9_firstOf g.2.2.2.2.2.2.1 hc) (RC_own g rfl z5) z5 (by decide) q_1627 (Nat.le_of_ble_eq_true rfl) dX9_allBy_23 ?_ rfl
  refine V_istore g [(6, vI x7), (4, vJ t0), (0, vR 9 l0), (1, vI l1), (2, vI l2), (3, vI l3)] dX9_allBy_26 rfl (by decide) rfl ?_
  refine V_sub [(0, vR 9 l0), (2, vI l2), (3, vI l3), (4, vJ t0), (6, vI x7)] [2, 4, 5, 1, 0] rfl ?_
  exact t_X9_allBy_b28 g f _ s6 l0 l2 l3 t0 x7 hf
set_option maxRecDepth 20000 in
theorem t_X9_allBy {G : GT} {l : Launch} (hl : l.stackTraces = false) {fu : Nat} {s s' : St} {a0 : Nat} {a1 : Int32} {a2 : Int32} {w' : Int64} (hf : f_X9_allBy fu s a0 a1 a2 = some (s', w')) : MetG G l yX9_allBy (.code yX9_allBy cX9_allBy 7 (some .long)) 2 s [vR 9 a0, vI a1, vI a2] (s', .inl (some (vJ w'))) := by
  refine MetG_of hl (by decide +kernel) (Nat.le_of_ble_eq_true rfl) (fun E g f eG eL => ?_)
  subst eG; subst eL
  have g : GX E "ThinSeriesModel" cX9_allBy 7 2 := g
  have f : FX E "allBy" (some .long) [] := f
  show V E 7 (QE E (s', .inl (some (vJ w')))) s 0 [(0, vR 9 a0), (1, vI a1), (2, vI a2)] []
  unfold f_X9_allBy at hf
  refine V_aload_n g 0 dX9_allBy_0 rfl ?_
  refine V_iload_n g 1 dX9_allBy_1 rfl ?_
  obtain ⟨z1, hf⟩ := nz_some hf
  obtain ⟨s2, x3, hc, hf⟩ := bI_some hf
  refine cV1 g [vI a1] [] s2 (vI x3) cf_X9_behindOf (t_X9_behindOf g.2.2.2.2.2.2.1 hc) (RC_own g rfl z1) z1 (by decide) q_1636 (Nat.le_of_ble_eq_true rfl) dX9_allBy_2 ?_ rfl
  refine V_istore_n g [(3, vI x3), (0, vR 9 a0), (1, vI a1), (2, vI a2)] dX9_allBy_5 rfl (by decide) rfl ?_
  refine V_iload_n g 3 dX9_allBy_6 rfl ?_
  refine V_bipush (v := 7) g dX9_allBy_7 (by decide) ?_
  refine V_icmp_ne g 16 dX9_allBy_9 (by decide) (fun c4 => ?_) (fun c4 => ?_)
  · have hf := it_f hf c4
    refine V_ldc2 (v := (-20000)) g q_1735 dX9_allBy_16 ?_
    refine V_sub [(0, vR 9 a0), (1, vI a1), (2, vI a2), (3, vI x3)] [1, 2, 3, 0] rfl ?_
    exact t_X9_allBy_b19 g f hf
  · have hf := it_t hf c4
    refine V_lconst (v := 0) g dX9_allBy_12 (by decide) ?_
    refine V_goto g 19 dX9_allBy_13 (by decide) ?_
    refine V_sub [(0, vR 9 a0), (1, vI a1), (2, vI a2), (3, vI x3)] [1, 2, 3, 0] rfl ?_
    exact t_X9_allBy_b19 g f hf
set_option maxRecDepth 20000 in
theorem t_X9_of_b112 {E : ET} {fu : Nat} {s' : St} {w' : Int64} (g : GX E "ThinSeriesModel" cX9_of 3 6) (f : FX E "of" (some .long) []) {s : St} {l0 : Nat} {l1 : Int32} {l2 : Int32} (hf : f_X9_of_b112 fu s l0 l1 l2 = some (s', w')) : V E 3 (QE E (s', .inl (some (vJ w')))) s 112 [(0, vR 9 l0), (1, vI l1), (2, vI l2)] [] := by
  unfold f_X9_of_b112 at hf
  refine V_aload_n g 0 dX9_of_112 rfl ?_
  refine V_iload_n g 1 dX9_of_113 rfl ?_
  refine V_iload_n g 2 dX9_of_114 rfl ?_
  obtain ⟨z30, hf⟩ := nz_some hf
  obtain ⟨s31, x32, hc, hf⟩ := bI_some hf
  refine cV1 g [vI l1, vI l2] [] s31 (vJ x32) cf_X9_allBy (t_X9_allBy g.2.2.2.2.2.2.1 hc) (RC_own g rfl z30) z30 (by decide) q_1731 (Nat.le_of_ble_eq_true rfl) dX9_of_115 ?_ rfl
  cases hf
  exact V_lreturn g f dX9_of_118
set_option maxRecDepth 20000 in
theorem t_X9_of {G : GT} {l : Launch} (hl : l.stackTraces = false) {fu : Nat} {s s' : St} {a0 : Nat} {a1 : Int32} {a2 : Int32} {w' : Int64} (hf : f_X9_of fu s a0 a1 a2 = some (s', w')) : MetG G l yX9_of (.code yX9_of cX9_of 3 (some .long)) 6 s [vR 9 a0, vI a1, vI a2] (s', .inl (some (vJ w'))) := by
  refine MetG_of hl (by decide +kernel) (Nat.le_of_ble_eq_true rfl) (fun E g f eG eL => ?_)
  subst eG; subst eL
  have g : GX E "ThinSeriesModel" cX9_of 3 6 := g
  have f : FX E "of" (some .long) [] := f
  show V E 3 (QE E (s', .inl (some (vJ w')))) s 0 [(0, vR 9 a0), (1, vI a1), (2, vI a2)] []
  unfold f_X9_of at hf
  refine V_aload_n g 0 dX9_of_0 rfl ?_
  refine V_iconst (v := 0) g dX9_of_1 (by decide) ?_
  obtain ⟨z1, hf⟩ := nz_some hf
  obtain ⟨s2, es2, hf⟩ := lt_some hf
  refine V_putI g 9 a0 3 es2 rfl (by decide) rfl q_1236 z1 (Or.inl rfl) pf_9_3 dX9_of_2 ?_
  refine V_aload_n g 0 dX9_of_5 rfl ?_
  refine V_iload_n g 1 dX9_of_6 rfl ?_
  obtain ⟨s3, x4, hc, hf⟩ := bI_some hf
  refine cV1 g [vI a1] [] s3 (vI x4) cf_X9_isSeries (t_X9_isSeries g.2.2.2.2.2.2.1 hc) (RC_own g rfl z1) z1 (by decide) q_1727 (Nat.le_of_ble_eq_true rfl) dX9_of_7 ?_ rfl
  refine V_if_ne g 20 dX9_of_10 (by decide) (fun c5 => ?_) (fun c5 => ?_)
  · have hf := it_f hf c5
    refine V_iload_n g 2 dX9_of_20 rfl ?_
    by_cases c6 : a2 = 0
    · subst c6
      have hf := it_t hf rfl
      refine V_tableIn g 68 dX9_of_21 (by decide) (by decide) rfl (by decide) ?_
      refine V_aload_n g 0 dX9_of_68 rfl ?_
      refine V_getR g 9 a0 11 10 rfl (by decide) rfl rfl q_1244 z1 dX9_of_69 ?_
      refine V_iload_n g 1 dX9_of_72 rfl ?_
      obtain ⟨z7, hf⟩ := nz_some hf
      obtain ⟨h8, hf⟩ := ckf hf
      refine V_iald g z7 h8 dX9_of_73 ?_
      refine V_i2l g dX9_of_74 ?_
      cases hf
      exact V_lreturn g f dX9_of_75
    · have hf := it_f hf c6
      by_cases c9 : a2 = 1
      · subst c9
        have hf := it_t hf rfl
        refine V_tableIn g 76 dX9_of_21 (by decide) (by decide) rfl (by decide) ?_
        refine V_aload_n g 0 dX9_of_76 rfl ?_
        refine V_iload_n g 1 dX9_of_77 rfl ?_
        obtain ⟨s10, x11, hc, hf⟩ := bI_some hf
        refine cV1 g [vI a1] [] s10 (vI x11) cf_X9_allBuckets (t_X9_allBuckets g.2.2.2.2.2.2.1 hc) (RC_own g rfl z1) z1 (by decide) q_1661 (Nat.le_of_ble_eq_true rfl) dX9_of_78 ?_ rfl
        refine V_i2l g dX9_of_81 ?_
        cases hf
        exact V_lreturn g f dX9_of_82
      · have hf := it_f hf c9
        by_cases c12 : a2 = 2
        · subst c12
          have hf := it_t hf rfl
          refine V_tableIn g 83 dX9_of_21 (by decide) (by decide) rfl (by decide) ?_
          refine V_aload_n g 0 dX9_of_83 rfl ?_
          refine V_iload_n g 1 dX9_of_84 rfl ?_
          obtain ⟨s13, x14, hc, hf⟩ := bI_some hf
          refine cV1 g [vI a1] [] s13 (vI x14) cf_X9_behindOf (t_X9_behindOf g.2.2.2.2.2.2.1 hc) (RC_own g rfl z1) z1 (by decide) q_1636 (Nat.le_of_ble_eq_true rfl) dX9_of_85 ?_ rfl
          refine V_aload_n g 0 dX9_of_88 rfl ?_
          refine V_iload_n g 1 dX9_of_89 rfl ?_
          obtain ⟨s15, x16, hc, hf⟩ := bI_some hf
          refine cV1 g [vI a1] [vI x14] s15 (vI x16) cf_X9_firstOf (t_X9_firstOf g.2.2.2.2.2.2.1 hc) (RC_own g rfl z1) z1 (by decide) q_1627 (Nat.le_of_ble_eq_true rfl) dX9_of_90 ?_ rfl
          refine V_isub g dX9_of_93 ?_
          refine V_i2l g dX9_of_94 ?_
          cases hf
          exact V_lreturn g f dX9_of_95
        · have hf := it_f hf c12
          by_cases c17 : a2 = 3
          · subst c17
            have hf := it_t hf rfl
            refine V_tableIn g 96 dX9_of_21 (by decide) (by decide) rfl (by decide) ?_
            refine V_aload_n g 0 dX9_of_96 rfl ?_
            refine V_getR g 9 a0 12 10 rfl (by decide) rfl rfl q_1245 z1 dX9_of_97 ?_
            refine V_iload_n g 1 dX9_of_100 rfl ?_
            obtain ⟨z18, hf⟩ := nz_some hf
            obtain ⟨h19, hf⟩ := ckf hf
            refine V_iald g z18 h19 dX9_of_101 ?_
            refine V_i2l g dX9_of_102 ?_
            cases hf
            exact V_lreturn g f dX9_of_103
          · have hf := it_f hf c17
            by_cases c20 : a2 = 4
            · subst c20
              have hf := it_t hf rfl
              refine V_tableIn g 104 dX9_of_21 (by decide) (by decide) rfl (by decide) ?_
              refine V_aload_n g 0 dX9_of_104 rfl ?_
              refine V_getR g 9 a0 13 10 rfl (by decide) rfl rfl q_1246 z1 dX9_of_105 ?_
              refine V_iload_n g 1 dX9_of_108 rfl ?_
              obtain ⟨z21, hf⟩ := nz_some hf
              obtain ⟨h22, hf⟩ := ckf hf
              refine V_iald g z21 h22 dX9_of_109 ?_
              refine V_i2l g dX9_of_110 ?_
              cases hf
              exact V_lreturn g f dX9_of_111
            · have hf := it_f hf c20
              by_cases c23 : a2 = 5
              · subst c23
                have hf := it_t hf rfl
                refine V_tableIn g 112 dX9_of_21 (by decide) (by decide) rfl (by decide) ?_
                exact t_X9_of_b112 g f hf
              · have hf := it_f hf c23
                by_cases c24 : a2 = 6
                · subst c24
                  have hf := it_t hf rfl
                  refine V_tableIn g 112 dX9_of_21 (by decide) (by decide) rfl (by decide) ?_
                  exact t_X9_of_b112 g f hf
                · have hf := it_f hf c24
                  by_cases c25 : a2 = 7
                  · subst c25
                    have hf := it_t hf rfl
                    refine V_tableIn g 112 dX9_of_21 (by decide) (by decide) rfl (by decide) ?_
                    exact t_X9_of_b112 g f hf
                  · have hf := it_f hf c25
                    refine V_tableOut g 119 dX9_of_21 (sw_out (fun v h1 h2 => ?_)) (by decide) ?_
                    · rcases (show v = 0 ∨ v = 1 ∨ v = 2 ∨ v = 3 ∨ v = 4 ∨ v = 5 ∨ v = 6 ∨ v = 7 by omega) with rfl | rfl | rfl | rfl | rfl | rfl | rfl | rfl
                      · exact c6
                      · exact c9
                      · exact c12
                      · exact c17
                      · exact c20
                      · exact c23
                      · exact c24
                      · exact c25
                    · skip
                      refine V_aload_n g 0 dX9_of_119 rfl ?_
                      refine V_iconst (v := 1) g dX9_of_120 (by decide) ?_
                      obtain ⟨s26, x27, hc, hf⟩ := bI_some hf
                      refine cV1 g [vI 1] [] s26 (vI x27) cf_X9_fail (t_X9_fail g.2.2.2.2.2.2.1 hc) (RC_own g rfl z1) z1 (by decide) q_1454 (Nat.le_of_ble_eq_true rfl) dX9_of_121 ?_ rfl
                      refine V_i2l g dX9_of_124 ?_
                      cases hf
                      exact V_lreturn g f dX9_of_125
  · have hf := it_t hf c5
    refine V_aload_n g 0 dX9_of_13 rfl ?_
    refine V_iconst (v := 1) g dX9_of_14 (by decide) ?_
    obtain ⟨s28, x29, hc, hf⟩ := bI_some hf
    refine cV1 g [vI 1] [] s28 (vI x29) cf_X9_fail (t_X9_fail g.2.2.2.2.2.2.1 hc) (RC_own g rfl z1) z1 (by decide) q_1454 (Nat.le_of_ble_eq_true rfl) dX9_of_15 ?_ rfl
    refine V_i2l g dX9_of_18 ?_
    cases hf
    exact V_lreturn g f dX9_of_19
set_option maxRecDepth 20000 in
theorem t_X9_isValue {G : GT} {l : Launch} (hl : l.stackTraces = false) {fu : Nat} {s s' : St} {a0 : Int64} {w' : Int32} (hf : f_X9_isValue fu s a0 = some (s', w')) : MetG G l yX9_isValue (.code yX9_isValue cX9_isValue 2 (some .boolean)) 1 s [vJ a0] (s', .inl (some (vI w'))) := by
  refine MetG_of hl (by decide +kernel) (Nat.le_of_ble_eq_true rfl) (fun E g f eG eL => ?_)
  subst eG; subst eL
  have g : GX E "ThinSeriesModel" cX9_isValue 2 1 := g
  have f : FX E "isValue" (some .boolean) [] := f
  show V E 2 (QE E (s', .inl (some (vI w')))) s 0 [(0, vJ a0)] []
  unfold f_X9_isValue at hf
  refine V_lload_n g 0 dX9_isValue_0 rfl ?_
  refine V_ldc2 (v := (-10000)) g q_1579 dX9_isValue_1 ?_
  refine V_ldc2 (v := 10000) g q_1580 dX9_isValue_4 ?_
  obtain ⟨s1, x2, hc, hf⟩ := bI_some hf
  refine cS1 g [vJ a0, vJ ((-10000)), vJ 10000] [] s1 (vI x2) cf_X9_isIn (t_X9_isIn g.2.2.2.2.2.2.1 hc) (by decide) q_1512 (Nat.le_of_ble_eq_true rfl) dX9_isValue_7 ?_ rfl
  obtain ⟨h3, hf⟩ := ckf hf
  cases hf
  exact V_zreturn g f (zb_n h3) dX9_isValue_10
set_option maxRecDepth 20000 in
theorem t_X9_put_b32 {E : ET} {fu : Nat} {s' : St} {w' : Int32} (g : GX E "ThinSeriesModel" cX9_put 4 6) (f : FX E "put" (some .int) []) {s : St} {l0 : Nat} (hf : f_X9_put_b32 fu s l0 = some (s', w')) : V E 4 (QE E (s', .inl (some (vI w')))) s 32 [(0, vR 9 l0)] [] := by
  unfold f_X9_put_b32 at hf
  refine V_aload_n g 0 dX9_put_32 rfl ?_
  refine V_iconst (v := 1) g dX9_put_33 (by decide) ?_
  obtain ⟨z29, hf⟩ := nz_some hf
  obtain ⟨s30, x31, hc, hf⟩ := bI_some hf
  refine cV1 g [vI 1] [] s30 (vI x31) cf_X9_refuse (t_X9_refuse g.2.2.2.2.2.2.1 hc) (RC_own g rfl z29) z29 (by decide) q_1581 (Nat.le_of_ble_eq_true rfl) dX9_put_34 ?_ rfl
  cases hf
  exact V_ireturn g f dX9_put_37
set_option maxRecDepth 20000 in
theorem t_X9_put {G : GT} {l : Launch} (hl : l.stackTraces = false) {fu : Nat} {s s' : St} {a0 : Nat} {a1 : Int32} {a2 : Int32} {a3 : Int32} {w' : Int32} (hf : f_X9_put fu s a0 a1 a2 a3 = some (s', w')) : MetG G l yX9_put (.code yX9_put cX9_put 4 (some .int)) 6 s [vR 9 a0, vI a1, vI a2, vI a3] (s', .inl (some (vI w'))) := by
  refine MetG_of hl (by decide +kernel) (Nat.le_of_ble_eq_true rfl) (fun E g f eG eL => ?_)
  subst eG; subst eL
  have g : GX E "ThinSeriesModel" cX9_put 4 6 := g
  have f : FX E "put" (some .int) [] := f
  show V E 4 (QE E (s', .inl (some (vI w')))) s 0 [(0, vR 9 a0), (1, vI a1), (2, vI a2), (3, vI a3)] []
  unfold f_X9_put at hf
  refine V_aload_n g 0 dX9_put_0 rfl ?_
  refine V_iconst (v := 0) g dX9_put_1 (by decide) ?_
  obtain ⟨z1, hf⟩ := nz_some hf
  obtain ⟨s2, es2, hf⟩ := lt_some hf
  refine V_putI g 9 a0 3 es2 rfl (by decide) rfl q_1236 z1 (Or.inl rfl) pf_9_3 dX9_put_2 ?_
  refine V_aload_n g 0 dX9_put_5 rfl ?_
  obtain ⟨s3, hc, hf⟩ := bV_some hf
  refine cV0 g [] [] s3 cf_X9_fine (t_X9_fine g.2.2.2.2.2.2.1 hc) (RC_own g rfl z1) z1 (by decide) q_1563 (Nat.le_of_ble_eq_true rfl) dX9_put_6 ?_ rfl
  refine V_iload_n g 1 dX9_put_9 rfl ?_
  obtain ⟨s4, x5, hc, hf⟩ := bI_some hf
  refine cS1 g [vI a1] [] s4 (vI x5) cf_X9_isId (t_X9_isId g.2.2.2.2.2.2.1 hc) (by decide) q_1567 (Nat.le_of_ble_eq_true rfl) dX9_put_10 ?_ rfl
  refine V_if_eq g 32 dX9_put_13 (by decide) (fun c6 => ?_) (fun c6 => ?_)
  · have hf := it_t hf c6
    refine V_sub [(0, vR 9 a0)] [0] rfl ?_
    exact t_X9_put_b32 g f hf
  · have hf := it_f hf c6
    refine V_iload_n g 2 dX9_put_16 rfl ?_
    refine V_i2l g dX9_put_17 ?_
    obtain ⟨s7, x8, hc, hf⟩ := bI_some hf
    refine cS1 g [vJ (Int32.toInt64 a2)] [] s7 (vI x8) cf_X9_isTime (t_X9_isTime g.2.2.2.2.2.2.1 hc) (by decide) q_1571 (Nat.le_of_ble_eq_true rfl) dX9_put_18 ?_ rfl
    refine V_if_eq g 32 dX9_put_21 (by decide) (fun c9 => ?_) (fun c9 => ?_)
    · have hf := it_t hf c9
      refine V_sub [(0, vR 9 a0)] [0] rfl ?_
      exact t_X9_put_b32 g f hf
    · have hf := it_f hf c9
      refine V_iload_n g 3 dX9_put_24 rfl ?_
      refine V_i2l g dX9_put_25 ?_
      obtain ⟨s10, x11, hc, hf⟩ := bI_some hf
      refine cS1 g [vJ (Int32.toInt64 a3)] [] s10 (vI x11) cf_X9_isValue (t_X9_isValue g.2.2.2.2.2.2.1 hc) (by decide) q_1576 (Nat.le_of_ble_eq_true rfl) dX9_put_26 ?_ rfl
      refine V_if_ne g 38 dX9_put_29 (by decide) (fun c12 => ?_) (fun c12 => ?_)
      · have hf := it_f hf c12
        refine V_aload_n g 0 dX9_put_38 rfl ?_
        refine V_iload_n g 1 dX9_put_39 rfl ?_
        refine V_iload_n g 2 dX9_put_40 rfl ?_
        obtain ⟨s13, x14, hc, hf⟩ := bI_some hf
        refine cV1 g [vI a1, vI a2] [] s13 (vI x14) cf_X9_isLate (t_X9_isLate g.2.2.2.2.2.2.1 hc) (RC_own g rfl z1) z1 (by decide) q_1585 (Nat.le_of_ble_eq_true rfl) dX9_put_41 ?_ rfl
        refine V_if_eq g 79 dX9_put_44 (by decide) (fun c15 => ?_) (fun c15 => ?_)
        · have hf := it_t hf c15
          refine V_aload_n g 0 dX9_put_79 rfl ?_
          refine V_iload_n g 1 dX9_put_80 rfl ?_
          refine V_iload_n g 2 dX9_put_81 rfl ?_
          refine V_iload_n g 3 dX9_put_82 rfl ?_
          obtain ⟨s16, hc, hf⟩ := bV_some hf
          refine cV0 g [vI a1, vI a2, vI a3] [] s16 cf_X9_puts (t_X9_puts g.2.2.2.2.2.2.1 hc) (RC_own g rfl z1) z1 (by decide) q_1607 (Nat.le_of_ble_eq_true rfl) dX9_put_83 ?_ rfl
          refine V_aload_n g 0 dX9_put_86 rfl ?_
          refine V_aload_n g 0 dX9_put_87 rfl ?_
          refine V_getR g 9 a0 11 10 rfl (by decide) rfl rfl q_1244 z1 dX9_put_88 ?_
          refine V_iload_n g 1 dX9_put_91 rfl ?_
          obtain ⟨z17, hf⟩ := nz_some hf
          obtain ⟨h18, hf⟩ := ckf hf
          refine V_iald g z17 h18 dX9_put_92 ?_
          refine V_iload_n g 2 dX9_put_93 rfl ?_
          obtain ⟨s19, x20, hc, hf⟩ := bI_some hf
          refine cV1 g [vI (gI s16 10 (gR s16 9 a0 11) (ix a1)), vI a2] [] s19 (vI x20) cf_X9_tierBy (t_X9_tierBy g.2.2.2.2.2.2.1 hc) (RC_own g rfl z1) z1 (by decide) q_1653 (Nat.le_of_ble_eq_true rfl) dX9_put_94 ?_ rfl
          cases hf
          exact V_ireturn g f dX9_put_97
        · have hf := it_f hf c15
          refine V_aload_n g 0 dX9_put_47 rfl ?_
          refine V_getR g 9 a0 12 10 rfl (by decide) rfl rfl q_1245 z1 dX9_put_48 ?_
          refine V_iload_n g 1 dX9_put_51 rfl ?_
          refine V_dup2 g dX9_put_52 rfl rfl ?_
          obtain ⟨z21, hf⟩ := nz_some hf
          obtain ⟨h22, hf⟩ := ckf hf
          refine V_iald g z21 h22 dX9_put_53 ?_
          refine V_iconst (v := 1) g dX9_put_54 (by decide) ?_
          refine V_iadd g dX9_put_55 ?_
          obtain ⟨h23, hf⟩ := ckf hf
          obtain ⟨s24, es24, hf⟩ := lt_some hf
          refine V_iast g es24 z21 h23 dX9_put_56 ?_
          refine V_aload_n g 0 dX9_put_57 rfl ?_
          refine V_dup g dX9_put_58 rfl ?_
          refine V_getI g 9 a0 17 rfl (by decide) rfl q_1250 z1 dX9_put_59 ?_
          refine V_iconst (v := 1) g dX9_put_62 (by decide) ?_
          refine V_iadd g dX9_put_63 ?_
          obtain ⟨s25, es25, hf⟩ := lt_some hf
          refine V_putI g 9 a0 17 es25 rfl (by decide) rfl q_1250 z1 (Or.inl rfl) pf_9_17 dX9_put_64 ?_
          refine V_aload_n g 0 dX9_put_67 rfl ?_
          refine V_iload_n g 1 dX9_put_68 rfl ?_
          refine V_iload_n g 2 dX9_put_69 rfl ?_
          obtain ⟨s26, hc, hf⟩ := bV_some hf
          refine cV0 g [vI a1, vI a2] [] s26 cf_X9_isLateBy (t_X9_isLateBy g.2.2.2.2.2.2.1 hc) (RC_own g rfl z1) z1 (by decide) q_1603 (Nat.le_of_ble_eq_true rfl) dX9_put_70 ?_ rfl
          refine V_aload_n g 0 dX9_put_73 rfl ?_
          refine V_iconst (v := 2) g dX9_put_74 (by decide) ?_
          obtain ⟨s27, x28, hc, hf⟩ := bI_some hf
          refine cV1 g [vI 2] [] s27 (vI x28) cf_X9_refuse (t_X9_refuse g.2.2.2.2.2.2.1 hc) (RC_own g rfl z1) z1 (by decide) q_1581 (Nat.le_of_ble_eq_true rfl) dX9_put_75 ?_ rfl
          cases hf
          exact V_ireturn g f dX9_put_78
      · have hf := it_t hf c12
        refine V_sub [(0, vR 9 a0)] [0] rfl ?_
        exact t_X9_put_b32 g f hf
set_option maxRecDepth 20000 in
theorem t_X9_seam_b40 {E : ET} {fu : Nat} {s' : St} {w' : Int32} (g : GX E "ThinSeriesModel" cX9_seam 3 3) (f : FX E "seam" (some .int) []) {s : St} {t0 : Int32} (hf : f_X9_seam_b40 fu s t0 = some (s', w')) : V E 3 (QE E (s', .inl (some (vI w')))) s 40 [] [vI t0] := by
  unfold f_X9_seam_b40 at hf
  cases hf
  exact V_ireturn g f dX9_seam_40
set_option maxRecDepth 20000 in
theorem t_X9_seam_b35 {E : ET} {fu : Nat} {s' : St} {w' : Int32} (g : GX E "ThinSeriesModel" cX9_seam 3 3) (f : FX E "seam" (some .int) []) {s : St} {l0 : Nat} (hf : f_X9_seam_b35 fu s l0 = some (s', w')) : V E 3 (QE E (s', .inl (some (vI w')))) s 35 [(0, vR 9 l0)] [] := by
  unfold f_X9_seam_b35 at hf
  refine V_aload_n g 0 dX9_seam_35 rfl ?_
  refine V_iconst (v := 1) g dX9_seam_36 (by decide) ?_
  obtain ⟨z13, hf⟩ := nz_some hf
  obtain ⟨s14, x15, hc, hf⟩ := bI_some hf
  refine cV1 g [vI 1] [] s14 (vI x15) cf_X9_fail (t_X9_fail g.2.2.2.2.2.2.1 hc) (RC_own g rfl z13) z13 (by decide) q_1454 (Nat.le_of_ble_eq_true rfl) dX9_seam_37 ?_ rfl
  refine V_sub [] [] rfl ?_
  exact t_X9_seam_b40 g f hf
set_option maxRecDepth 20000 in
theorem t_X9_seam {G : GT} {l : Launch} (hl : l.stackTraces = false) {fu : Nat} {s s' : St} {a0 : Nat} {a1 : Int32} {a2 : Int32} {w' : Int32} (hf : f_X9_seam fu s a0 a1 a2 = some (s', w')) : MetG G l yX9_seam (.code yX9_seam cX9_seam 3 (some .int)) 3 s [vR 9 a0, vI a1, vI a2] (s', .inl (some (vI w'))) := by
  refine MetG_of hl (by decide +kernel) (Nat.le_of_ble_eq_true rfl) (fun E g f eG eL => ?_)
  subst eG; subst eL
  have g : GX E "ThinSeriesModel" cX9_seam 3 3 := g
  have f : FX E "seam" (some .int) [] := f
  show V E 3 (QE E (s', .inl (some (vI w')))) s 0 [(0, vR 9 a0), (1, vI a1), (2, vI a2)] []
  unfold f_X9_seam at hf
  refine V_aload_n g 0 dX9_seam_0 rfl ?_
  refine V_iconst (v := 0) g dX9_seam_1 (by decide) ?_
  obtain ⟨z1, hf⟩ := nz_some hf
  obtain ⟨s2, es2, hf⟩ := lt_some hf
  refine V_putI g 9 a0 3 es2 rfl (by decide) rfl q_1236 z1 (Or.inl rfl) pf_9_3 dX9_seam_2 ?_
  refine V_aload_n g 0 dX9_seam_5 rfl ?_
  refine V_iload_n g 1 dX9_seam_6 rfl ?_
  obtain ⟨s3, x4, hc, hf⟩ := bI_some hf
  refine cV1 g [vI a1] [] s3 (vI x4) cf_X9_isSeries (t_X9_isSeries g.2.2.2.2.2.2.1 hc) (RC_own g rfl z1) z1 (by decide) q_1727 (Nat.le_of_ble_eq_true rfl) dX9_seam_7 ?_ rfl
  refine V_if_eq g 35 dX9_seam_10 (by decide) (fun c5 => ?_) (fun c5 => ?_)
  · have hf := it_t hf c5
    refine V_sub [(0, vR 9 a0)] [0] rfl ?_
    exact t_X9_seam_b35 g f hf
  · have hf := it_f hf c5
    refine V_aload_n g 0 dX9_seam_13 rfl ?_
    refine V_iload_n g 2 dX9_seam_14 rfl ?_
    obtain ⟨s6, x7, hc, hf⟩ := bI_some hf
    refine cV1 g [vI a2] [] s6 (vI x7) cf_X9_isTier (t_X9_isTier g.2.2.2.2.2.2.1 hc) (RC_own g rfl z1) z1 (by decide) q_1715 (Nat.le_of_ble_eq_true rfl) dX9_seam_15 ?_ rfl
    refine V_if_eq g 35 dX9_seam_18 (by decide) (fun c8 => ?_) (fun c8 => ?_)
    · have hf := it_t hf c8
      refine V_sub [(0, vR 9 a0)] [0] rfl ?_
      exact t_X9_seam_b35 g f hf
    · have hf := it_f hf c8
      refine V_aload_n g 0 dX9_seam_21 rfl ?_
      refine V_aload_n g 0 dX9_seam_22 rfl ?_
      refine V_getR g 9 a0 11 10 rfl (by decide) rfl rfl q_1244 z1 dX9_seam_23 ?_
      refine V_iload_n g 1 dX9_seam_26 rfl ?_
      obtain ⟨z9, hf⟩ := nz_some hf
      obtain ⟨h10, hf⟩ := ckf hf
      refine V_iald g z9 h10 dX9_seam_27 ?_
      refine V_iload_n g 2 dX9_seam_28 rfl ?_
      obtain ⟨s11, x12, hc, hf⟩ := bI_some hf
      refine cV1 g [vI (gI s6 10 (gR s6 9 a0 11) (ix a1)), vI a2] [] s11 (vI x12) cf_X9_seamBy (t_X9_seamBy g.2.2.2.2.2.2.1 hc) (RC_own g rfl z1) z1 (by decide) q_1593 (Nat.le_of_ble_eq_true rfl) dX9_seam_29 ?_ rfl
      refine V_goto g 40 dX9_seam_32 (by decide) ?_
      refine V_sub [] [] rfl ?_
      exact t_X9_seam_b40 g f hf
