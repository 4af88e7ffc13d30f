set_option maxRecDepth 20000 in
theorem t_X9_sheet_b28 {E : ET} {fu : Nat} {s' : St} {w' : Int32} (g : GX E "ThinSeriesModel" cX9_sheet 13 6) (f : FX E "sheet" (some .int) []) {s : St} {l0 : Nat} (hf : f_X9_sheet_b28 fu s l0 = some (s', w')) : V E 13 (QE E (s', .inl (some (vI w')))) s 28 [(0, vR 9 l0)] [] := by
  unfold f_X9_sheet_b28 at hf
  refine V_aload_n g 0 dX9_sheet_28 rfl ?_
  refine V_iconst (v := 1) g dX9_sheet_29 (by decide) ?_
  obtain ⟨z10, hf⟩ := nz_some hf
  obtain ⟨s11, x12, hc, hf⟩ := bI_some hf
  refine cV1 g [vI 1] [] s11 (vI x12) cf_X9_refuse (t_X9_refuse g.2.2.2.2.2.2.1 hc) (RC_own g rfl z10) z10 (by decide) q_1581 (Nat.le_of_ble_eq_true rfl) dX9_sheet_30 ?_ rfl
  cases hf
  exact V_ireturn g f dX9_sheet_33
set_option maxRecDepth 20000 in
theorem t_X9_sheet_b138 {E : ET} {fu : Nat} {s' : St} {w' : Int32} (g : GX E "ThinSeriesModel" cX9_sheet 13 6) (f : FX E "sheet" (some .int) []) {k40 : St → Nat → Int32 → Int32 → Int32 → Int32 → Int32 → Int32 → Int32 → Int32 → Option (St × Int32)} (hk40 : ∀ (s : St) (l0 : Nat) (l1 : Int32) (l2 : Int32) (l3 : Int32) (l4 : Int32) (l5 : Int32) (l6 : Int32) (l7 : Int32) (l8 : Int32), k40 s l0 l1 l2 l3 l4 l5 l6 l7 l8 = some (s', w') → V E 13 (QE E (s', .inl (some (vI w')))) s 40 [(0, vR 9 l0), (1, vI l1), (2, vI l2), (3, vI l3), (4, vI l4), (5, vI l5), (6, vI l6), (7, vI l7), (8, vI l8)] []) {s : St} {l0 : Nat} {l1 : Int32} {l2 : Int32} {l3 : Int32} {l4 : Int32} {l5 : Int32} {l6 : Int32} {l7 : Int32} {l8 : Int32} (hf : f_X9_sheet_b138 fu k40 s l0 l1 l2 l3 l4 l5 l6 l7 l8 = some (s', w')) : V E 13 (QE E (s', .inl (some (vI w')))) s 138 [(0, vR 9 l0), (1, vI l1), (2, vI l2), (3, vI l3), (4, vI l4), (5, vI l5), (6, vI l6), (7, vI l7), (8, vI l8)] [] := by
  unfold f_X9_sheet_b138 at hf
  obtain ⟨x33, ex33, hf⟩ := lt_some hf
  refine V_iinc g 8 [(8, vI x33), (0, vR 9 l0), (1, vI l1), (2, vI l2), (3, vI l3), (4, vI l4), (5, vI l5), (6, vI l6), (7, vI l7)] dX9_sheet_138 rfl (by rw [ex33]; rfl) (by decide) rfl ?_
  refine V_goto g 40 dX9_sheet_141 (by decide) ?_
  refine V_sub [(0, vR 9 l0), (1, vI l1), (2, vI l2), (3, vI l3), (4, vI l4), (5, vI l5), (6, vI l6), (7, vI l7), (8, vI x33)] [1, 2, 3, 4, 5, 6, 7, 8, 0] rfl ?_
  exact hk40 s l0 l1 l2 l3 l4 l5 l6 l7 x33 hf
set_option maxRecDepth 20000 in
theorem t_X9_sheet_b40 {E : ET} {fu : Nat} {s' : St} {w' : Int32} (g : GX E "ThinSeriesModel" cX9_sheet 13 6) (f : FX E "sheet" (some .int) []) : ∀ (n : Nat) (s : St) (l0 : Nat) (l1 : Int32) (l2 : Int32) (l3 : Int32) (l4 : Int32) (l5 : Int32) (l6 : Int32) (l7 : Int32) (l8 : Int32), f_X9_sheet_b40 fu n s l0 l1 l2 l3 l4 l5 l6 l7 l8 = some (s', w') → V E 13 (QE E (s', .inl (some (vI w')))) s 40 [(0, vR 9 l0), (1, vI l1), (2, vI l2), (3, vI l3), (4, vI l4), (5, vI l5), (6, vI l6), (7, vI l7), (8, vI l8)] [] := by
  intro n
  induction n with
  | zero =>
    intro s l0 l1 l2 l3 l4 l5 l6 l7 l8 hf
    unfold f_X9_sheet_b40 at hf
    exact nomatch hf
  | succ n ih =>
    intro s l0 l1 l2 l3 l4 l5 l6 l7 l8 hf
    unfold f_X9_sheet_b40 at hf
    refine V_iload g 8 dX9_sheet_40 rfl ?_
    refine V_iload_n g 2 dX9_sheet_42 rfl ?_
    refine V_icmp_ge g 144 dX9_sheet_43 (by decide) (fun c13 => ?_) (fun c13 => ?_)
    · have hf := it_t hf c13
      refine V_iload g 7 dX9_sheet_144 rfl ?_
      cases hf
      exact V_ireturn g f dX9_sheet_146
    · have hf := it_f hf c13
      refine V_iload g 4 dX9_sheet_46 rfl ?_
      refine V_i2l g dX9_sheet_48 ?_
      refine V_iload g 8 dX9_sheet_49 rfl ?_
      refine V_i2l g dX9_sheet_51 ?_
      refine V_lmul g dX9_sheet_52 ?_
      refine V_iload_n g 3 dX9_sheet_53 rfl ?_
      refine V_i2l g dX9_sheet_54 ?_
      refine V_ladd g dX9_sheet_55 ?_
      obtain ⟨x14, ex14, hf⟩ := lt_some hf
      refine V_lstore g [(9, vJ x14), (0, vR 9 l0), (1, vI l1), (2, vI l2), (3, vI l3), (4, vI l4), (5, vI l5), (6, vI l6), (7, vI l7), (8, vI l8)] dX9_sheet_56 ex14 (by decide) rfl ?_
      refine V_iload g 7 dX9_sheet_58 rfl ?_
      refine V_i2l g dX9_sheet_60 ?_
      refine V_iload g 9 dX9_sheet_61 rfl ?_
      refine V_i2l g dX9_sheet_63 ?_
      refine V_lmul g dX9_sheet_64 ?_
      refine V_iload g 6 dX9_sheet_65 rfl ?_
      refine V_i2l g dX9_sheet_67 ?_
      refine V_ladd g dX9_sheet_68 ?_
      obtain ⟨x15, ex15, hf⟩ := lt_some hf
      refine V_lstore g [(11, vJ x15), (9, vJ x14), (0, vR 9 l0), (1, vI l1), (2, vI l2), (3, vI l3), (4, vI l4), (5, vI l5), (6, vI l6), (7, vI l7), (8, vI l8)] dX9_sheet_69 ex15 (by decide) rfl ?_
      refine V_lload g 1 dX9_sheet_71 rfl ?_
      obtain ⟨s16, x17, hc, hf⟩ := bI_some hf
      refine cS1 g [vJ x14] [] s16 (vI x17) cf_X9_isTime (t_X9_isTime g.2.2.2.2.2.2.1 hc) (by decide) q_1571 (Nat.le_of_ble_eq_true rfl) dX9_sheet_73 ?_ rfl
      refine V_if_eq g 138 dX9_sheet_76 (by decide) (fun c18 => ?_) (fun c18 => ?_)
      · have hf := it_t hf c18
        refine V_sub [(0, vR 9 l0), (1, vI l1), (2, vI l2), (3, vI l3), (4, vI l4), (5, vI l5), (6, vI l6), (7, vI l7), (8, vI l8)] [2, 3, 4, 5, 6, 7, 8, 9, 10] rfl ?_
        exact t_X9_sheet_b138 g f ih hf
      · have hf := it_f hf c18
        refine V_lload g 0 dX9_sheet_79 rfl ?_
        obtain ⟨s19, x20, hc, hf⟩ := bI_some hf
        refine cS1 g [vJ x15] [] s19 (vI x20) cf_X9_isValue (t_X9_isValue g.2.2.2.2.2.2.1 hc) (by decide) q_1576 (Nat.le_of_ble_eq_true rfl) dX9_sheet_81 ?_ rfl
        refine V_if_ne g 90 dX9_sheet_84 (by decide) (fun c21 => ?_) (fun c21 => ?_)
        · have hf := it_f hf c21
          refine V_aload_n g 2 dX9_sheet_90 rfl ?_
          refine V_iload_n g 3 dX9_sheet_91 rfl ?_
          refine V_lload g 1 dX9_sheet_92 rfl ?_
          refine V_l2i g dX9_sheet_94 ?_
          obtain ⟨z22, hf⟩ := nz_some hf
          obtain ⟨s23, x24, hc, hf⟩ := bI_some hf
          refine cV1 g [vI l1, vI (Int64.toInt32 x14)] [] s23 (vI x24) cf_X9_isLate (t_X9_isLate g.2.2.2.2.2.2.1 hc) (RC_own g rfl z22) z22 (by decide) q_1585 (Nat.le_of_ble_eq_true rfl) dX9_sheet_95 ?_ rfl
          refine V_if_eq g 124 dX9_sheet_98 (by decide) (fun c25 => ?_) (fun c25 => ?_)
          · have hf := it_t hf c25
            refine V_aload_n g 2 dX9_sheet_124 rfl ?_
            refine V_iload_n g 3 dX9_sheet_125 rfl ?_
            refine V_lload g 1 dX9_sheet_126 rfl ?_
            refine V_l2i g dX9_sheet_128 ?_
            refine V_lload g 0 dX9_sheet_129 rfl ?_
            refine V_l2i g dX9_sheet_131 ?_
            obtain ⟨s26, hc, hf⟩ := bV_some hf
            refine cV0 g [vI l1, vI (Int64.toInt32 x14), vI (Int64.toInt32 x15)] [] s26 cf_X9_puts (t_X9_puts g.2.2.2.2.2.2.1 hc) (RC_own g rfl z22) z22 (by decide) q_1607 (Nat.le_of_ble_eq_true rfl) dX9_sheet_132 ?_ rfl
            obtain ⟨x27, ex27, hf⟩ := lt_some hf
            refine V_iinc g 9 [(7, vI x27), (11, vJ x15), (9, vJ x14), (0, vR 9 l0), (1, vI l1), (2, vI l2), (3, vI l3), (4, vI l4), (5, vI l5), (6, vI l6), (8, vI l8)] dX9_sheet_135 rfl (by rw [ex27]; rfl) (by decide) rfl ?_
            refine V_sub [(0, vR 9 l0), (1, vI l1), (2, vI l2), (3, vI l3), (4, vI l4), (5, vI l5), (6, vI l6), (7, vI x27), (8, vI l8)] [3, 4, 5, 6, 7, 8, 9, 0, 10] rfl ?_
            exact t_X9_sheet_b138 g f ih hf
          · have hf := it_f hf c25
            refine V_aload_n g 2 dX9_sheet_101 rfl ?_
            refine V_getR g 9 l0 12 10 rfl (by decide) rfl rfl q_1245 z22 dX9_sheet_102 ?_
            refine V_iload_n g 3 dX9_sheet_105 rfl ?_
            refine V_dup2 g dX9_sheet_106 rfl rfl ?_
            obtain ⟨z28, hf⟩ := nz_some hf
            obtain ⟨h29, hf⟩ := ckf hf
            refine V_iald g z28 h29 dX9_sheet_107 ?_
            refine V_iconst (v := 1) g dX9_sheet_108 (by decide) ?_
            refine V_iadd g dX9_sheet_109 ?_
            obtain ⟨h30, hf⟩ := ckf hf
            obtain ⟨s31, es31, hf⟩ := lt_some hf
            refine V_iast g es31 z28 h30 dX9_sheet_110 ?_
            refine V_aload_n g 2 dX9_sheet_111 rfl ?_
            refine V_dup g dX9_sheet_112 rfl ?_
            refine V_getI g 9 l0 17 rfl (by decide) rfl q_1250 z22 dX9_sheet_113 ?_
            refine V_iconst (v := 1) g dX9_sheet_116 (by decide) ?_
            refine V_iadd g dX9_sheet_117 ?_
            obtain ⟨s32, es32, hf⟩ := lt_some hf
            refine V_putI g 9 l0 17 es32 rfl (by decide) rfl q_1250 z22 (Or.inl rfl) pf_9_17 dX9_sheet_118 ?_
            refine V_goto g 138 dX9_sheet_121 (by decide) ?_
            refine V_sub [(0, vR 9 l0), (1, vI l1), (2, vI l2), (3, vI l3), (4, vI l4), (5, vI l5), (6, vI l6), (7, vI l7), (8, vI l8)] [2, 3, 4, 5, 6, 7, 8, 9, 10] rfl ?_
            exact t_X9_sheet_b138 g f ih hf
        · have hf := it_t hf c21
          refine V_goto g 138 dX9_sheet_87 (by decide) ?_
          refine V_sub [(0, vR 9 l0), (1, vI l1), (2, vI l2), (3, vI l3), (4, vI l4), (5, vI l5), (6, vI l6), (7, vI l7), (8, vI l8)] [2, 3, 4, 5, 6, 7, 8, 9, 10] rfl ?_
          exact t_X9_sheet_b138 g f ih hf
set_option maxRecDepth 20000 in
theorem t_X9_sheet {G : GT} {l : Launch} (hl : l.stackTraces = false) {fu : Nat} {s s' : St} {a0 : Nat} {a1 : Int32} {a2 : Int32} {a3 : Int32} {a4 : Int32} {a5 : Int32} {a6 : Int32} {w' : Int32} (hf : f_X9_sheet fu s a0 a1 a2 a3 a4 a5 a6 = some (s', w')) : MetG G l yX9_sheet (.code yX9_sheet cX9_sheet 13 (some .int)) 6 s [vR 9 a0, vI a1, vI a2, vI a3, vI a4, vI a5, vI a6] (s', .inl (some (vI w'))) := by
  refine MetG_of hl (by decide +kernel) (Nat.le_of_ble_eq_true rfl) (fun E g f eG eL => ?_)
  subst eG; subst eL
  have g : GX E "ThinSeriesModel" cX9_sheet 13 6 := g
  have f : FX E "sheet" (some .int) [] := f
  show V E 13 (QE E (s', .inl (some (vI w')))) s 0 [(0, vR 9 a0), (1, vI a1), (2, vI a2), (3, vI a3), (4, vI a4), (5, vI a5), (6, vI a6)] []
  unfold f_X9_sheet at hf
  refine V_aload_n g 0 dX9_sheet_0 rfl ?_
  refine V_iconst (v := 0) g dX9_sheet_1 (by decide) ?_
  obtain ⟨z1, hf⟩ := nz_some hf
  obtain ⟨s2, es2, hf⟩ := lt_some hf
  refine V_putI g 9 a0 3 es2 rfl (by decide) rfl q_1236 z1 (Or.inl rfl) pf_9_3 dX9_sheet_2 ?_
  refine V_aload_n g 0 dX9_sheet_5 rfl ?_
  obtain ⟨s3, hc, hf⟩ := bV_some hf
  refine cV0 g [] [] s3 cf_X9_fine (t_X9_fine g.2.2.2.2.2.2.1 hc) (RC_own g rfl z1) z1 (by decide) q_1563 (Nat.le_of_ble_eq_true rfl) dX9_sheet_6 ?_ rfl
  refine V_iload_n g 1 dX9_sheet_9 rfl ?_
  obtain ⟨s4, x5, hc, hf⟩ := bI_some hf
  refine cS1 g [vI a1] [] s4 (vI x5) cf_X9_isId (t_X9_isId g.2.2.2.2.2.2.1 hc) (by decide) q_1567 (Nat.le_of_ble_eq_true rfl) dX9_sheet_10 ?_ rfl
  refine V_if_eq g 28 dX9_sheet_13 (by decide) (fun c6 => ?_) (fun c6 => ?_)
  · have hf := it_t hf c6
    refine V_sub [(0, vR 9 a0)] [0] rfl ?_
    exact t_X9_sheet_b28 g f hf
  · have hf := it_f hf c6
    refine V_iload_n g 2 dX9_sheet_16 rfl ?_
    refine V_i2l g dX9_sheet_17 ?_
    refine V_lconst (v := 0) g dX9_sheet_18 (by decide) ?_
    refine V_ldc2 (v := 60) g q_1677 dX9_sheet_19 ?_
    obtain ⟨s7, x8, hc, hf⟩ := bI_some hf
    refine cS1 g [vJ (Int32.toInt64 a2), vJ 0, vJ 60] [] s7 (vI x8) cf_X9_isIn (t_X9_isIn g.2.2.2.2.2.2.1 hc) (by decide) q_1512 (Nat.le_of_ble_eq_true rfl) dX9_sheet_22 ?_ rfl
    refine V_if_ne g 34 dX9_sheet_25 (by decide) (fun c9 => ?_) (fun c9 => ?_)
    · have hf := it_f hf c9
      refine V_iconst (v := 0) g dX9_sheet_34 (by decide) ?_
      refine V_istore g [(7, vI 0), (0, vR 9 a0), (1, vI a1), (2, vI a2), (3, vI a3), (4, vI a4), (5, vI a5), (6, vI a6)] dX9_sheet_35 rfl (by decide) rfl ?_
      refine V_iconst (v := 0) g dX9_sheet_37 (by decide) ?_
      refine V_istore g [(8, vI 0), (7, vI 0), (0, vR 9 a0), (1, vI a1), (2, vI a2), (3, vI a3), (4, vI a4), (5, vI a5), (6, vI a6)] dX9_sheet_38 rfl (by decide) rfl ?_
      refine V_sub [(0, vR 9 a0), (1, vI a1), (2, vI a2), (3, vI a3), (4, vI a4), (5, vI a5), (6, vI a6), (7, vI 0), (8, vI 0)] [2, 3, 4, 5, 6, 7, 8, 1, 0] rfl ?_
      exact t_X9_sheet_b40 g f _ s7 a0 a1 a2 a3 a4 a5 a6 0 0 hf
    · have hf := it_t hf c9
      refine V_sub [(0, vR 9 a0)] [0] rfl ?_
      exact t_X9_sheet_b28 g f hf
set_option maxRecDepth 20000 in
theorem t_X9_lay {G : GT} {l : Launch} (hl : l.stackTraces = false) {fu : Nat} {s s' : St} {a0 : Nat} {a1 : Int32} (hf : f_X9_lay fu s a0 a1 = some s') : MetG G l yX9_lay (.code yX9_lay cX9_lay 2 none) 0 s [vR 9 a0, vI a1] (s', .inl none) := by
  refine MetG_of hl (by decide +kernel) (Nat.le_of_ble_eq_true rfl) (fun E g f eG eL => ?_)
  subst eG; subst eL
  have g : GX E "ThinSeriesModel" cX9_lay 2 0 := g
  have f : FX E "lay" none [] := f
  show V E 2 (QE E (s', .inl none)) s 0 [(0, vR 9 a0), (1, vI a1)] []
  unfold f_X9_lay at hf
  refine V_aload_n g 0 dX9_lay_0 rfl ?_
  obtain ⟨z1, hf⟩ := nz_some hf
  refine V_getI g 9 a0 31 rfl (by decide) rfl q_1264 z1 dX9_lay_1 ?_
  refine V_if_eq g 8 dX9_lay_4 (by decide) (fun c2 => ?_) (fun c2 => ?_)
  · have hf := it_t hf c2
    refine V_aload_n g 0 dX9_lay_8 rfl ?_
    refine V_getR g 9 a0 36 10 rfl (by decide) rfl rfl q_1269 z1 dX9_lay_9 ?_
    refine V_aload_n g 0 dX9_lay_12 rfl ?_
    refine V_getI g 9 a0 39 rfl (by decide) rfl q_1272 z1 dX9_lay_13 ?_
    refine V_iload_n g 1 dX9_lay_16 rfl ?_
    obtain ⟨z3, hf⟩ := nz_some hf
    obtain ⟨h4, hf⟩ := ckf hf
    obtain ⟨s5, es5, hf⟩ := lt_some hf
    refine V_iast g es5 z3 h4 dX9_lay_17 ?_
    refine V_aload_n g 0 dX9_lay_18 rfl ?_
    refine V_dup g dX9_lay_19 rfl ?_
    refine V_getI g 9 a0 39 rfl (by decide) rfl q_1272 z1 dX9_lay_20 ?_
    refine V_iconst (v := 1) g dX9_lay_23 (by decide) ?_
    refine V_iadd g dX9_lay_24 ?_
    obtain ⟨s6, es6, hf⟩ := lt_some hf
    refine V_putI g 9 a0 39 es6 rfl (by decide) rfl q_1272 z1 (Or.inl rfl) pf_9_39 dX9_lay_25 ?_
    cases hf
    exact V_return g f dX9_lay_28
  · have hf := it_f hf c2
    cases hf
    exact V_return g f dX9_lay_7
set_option maxRecDepth 20000 in
theorem t_X9_readAll_b5 {E : ET} {fu : Nat} {s' : St} {dR : Nat} {c_X9_readUnit : St → Nat → Int32 → Option (St)} (g : GX E "ThinSeriesModel" cX9_readAll 2 (dR + 1)) (f : FX E "readAll" none []) (hc_X9_readUnit : ∀ {s : St} {b0 : Nat} {b1 : Int32} {s' : St}, c_X9_readUnit s b0 b1 = some s' → MetG E.G E.l yX9_readUnit (.code yX9_readUnit cX9_readUnit 6 none) dR s [vR 9 b0, vI b1] (s', .inl none)) (hdR : 5 ≤ dR) : ∀ (n : Nat) (s : St) (l0 : Nat) (l1 : Int32), f_X9_readAll_b5 fu c_X9_readUnit n s l0 l1 = some s' → V E 2 (QE E (s', .inl none)) s 5 [(0, vR 9 l0), (1, vI l1)] [] := by
  intro n
  induction n with
  | zero =>
    intro s l0 l1 hf
    unfold f_X9_readAll_b5 at hf
    exact nomatch hf
  | succ n ih =>
    intro s l0 l1 hf
    unfold f_X9_readAll_b5 at hf
    refine V_aload_n g 0 dX9_readAll_5 rfl ?_
    refine V_ldcS g 37 (by decide) rfl dX9_readAll_6 ?_
    obtain ⟨z3, hf⟩ := nz_some hf
    obtain ⟨s4, x5, hc, hf⟩ := bI_some hf
    refine cV1 g [vR 16 37] [] s4 (vI x5) cf_X9_is (t_X9_is g.2.2.2.2.2.2.1 hc) (RC_own g rfl z3) z3 (by omega) q_1489 (Nat.le_of_ble_eq_true rfl) dX9_readAll_8 ?_ rfl
    refine V_if_eq g 32 dX9_readAll_11 (by decide) (fun c6 => ?_) (fun c6 => ?_)
    · have hf := it_t hf c6
      cases hf
      exact V_return g f dX9_readAll_32
    · have hf := it_f hf c6
      refine V_aload_n g 0 dX9_readAll_14 rfl ?_
      obtain ⟨s7, hc, hf⟩ := bV_some hf
      refine cV0 g [] [] s7 cf_X9_stepOn (t_X9_stepOn g.2.2.2.2.2.2.1 hc) (RC_own g rfl z3) z3 (by omega) q_1462 (Nat.le_of_ble_eq_true rfl) dX9_readAll_15 ?_ rfl
      refine V_aload_n g 0 dX9_readAll_18 rfl ?_
      refine V_iload_n g 1 dX9_readAll_19 rfl ?_
      obtain ⟨s8, hc, hf⟩ := bV_some hf
      refine cV0 g [vI l1] [] s8 cf_X9_readUnit (hc_X9_readUnit hc) (RC_own g rfl z3) z3 (by omega) q_1527 (Nat.le_of_ble_eq_true rfl) dX9_readAll_20 ?_ rfl
      refine V_aload_n g 0 dX9_readAll_23 rfl ?_
      refine V_bipush (v := 21) g dX9_readAll_24 (by decide) ?_
      obtain ⟨s9, hc, hf⟩ := bV_some hf
      refine cV0 g [vI 21] [] s9 cf_X9_lay (t_X9_lay g.2.2.2.2.2.2.1 hc) (RC_own g rfl z3) z3 (by omega) q_1536 (Nat.le_of_ble_eq_true rfl) dX9_readAll_26 ?_ rfl
      refine V_goto g 5 dX9_readAll_29 (by decide) ?_
      exact ih s9 l0 l1 hf
set_option maxRecDepth 20000 in
theorem o_X9_readAll {G : GT} {l : Launch} (hl : l.stackTraces = false) {fu : Nat} {dR : Nat} {c_X9_readUnit : St → Nat → Int32 → Option (St)} (hc_X9_readUnit : ∀ {s : St} {b0 : Nat} {b1 : Int32} {s' : St}, c_X9_readUnit s b0 b1 = some s' → MetG G l yX9_readUnit (.code yX9_readUnit cX9_readUnit 6 none) dR s [vR 9 b0, vI b1] (s', .inl none)) (hdR : 5 ≤ dR) {s s' : St} {a0 : Nat} {a1 : Int32} (hf : f_X9_readAll fu c_X9_readUnit s a0 a1 = some s') : MetG G l yX9_readAll (.code yX9_readAll cX9_readAll 2 none) (dR + 1) s [vR 9 a0, vI a1] (s', .inl none) := by
  refine MetG_of hl (by decide +kernel) (Nat.le_of_ble_eq_true rfl) (fun E g f eG eL => ?_)
  subst eG; subst eL
  have g : GX E "ThinSeriesModel" cX9_readAll 2 (dR + 1) := g
  have f : FX E "readAll" none [] := f
  show V E 2 (QE E (s', .inl none)) s 0 [(0, vR 9 a0), (1, vI a1)] []
  unfold f_X9_readAll at hf
  refine V_aload_n g 0 dX9_readAll_0 rfl ?_
  refine V_iload_n g 1 dX9_readAll_1 rfl ?_
  obtain ⟨z1, hf⟩ := nz_some hf
  obtain ⟨s2, hc, hf⟩ := bV_some hf
  refine cV0 g [vI a1] [] s2 cf_X9_readUnit (hc_X9_readUnit hc) (RC_own g rfl z1) z1 (by omega) q_1527 (Nat.le_of_ble_eq_true rfl) dX9_readAll_2 ?_ rfl
  exact t_X9_readAll_b5 g f hc_X9_readUnit hdR _ s2 a0 a1 hf
set_option maxRecDepth 20000 in
theorem t_X9_readTest_b13 {E : ET} {fu : Nat} {s' : St} {dR : Nat} {c_X9_readAll : St → Nat → Int32 → Option (St)} (g : GX E "ThinSeriesModel" cX9_readTest 2 (dR + 1)) (f : FX E "readTest" none []) (hc_X9_readAll : ∀ {s : St} {b0 : Nat} {b1 : Int32} {s' : St}, c_X9_readAll s b0 b1 = some s' → MetG E.G E.l yX9_readAll (.code yX9_readAll cX9_readAll 2 none) dR s [vR 9 b0, vI b1] (s', .inl none)) (hdR : 5 ≤ dR) : ∀ (n : Nat) (s : St) (l0 : Nat) (l1 : Int32), f_X9_readTest_b13 fu c_X9_readAll n s l0 l1 = some s' → V E 2 (QE E (s', .inl none)) s 13 [(0, vR 9 l0), (1, vI l1)] [] := by
  intro n
  induction n with
  | zero =>
    intro s l0 l1 hf
    unfold f_X9_readTest_b13 at hf
    exact nomatch hf
  | succ n ih =>
    intro s l0 l1 hf
    unfold f_X9_readTest_b13 at hf
    refine V_aload_n g 0 dX9_readTest_13 rfl ?_
    refine V_ldcS g 38 (by decide) rfl dX9_readTest_14 ?_
    obtain ⟨z4, hf⟩ := nz_some hf
    obtain ⟨s5, x6, hc, hf⟩ := bI_some hf
    refine cV1 g [vR 16 38] [] s5 (vI x6) cf_X9_is (t_X9_is g.2.2.2.2.2.2.1 hc) (RC_own g rfl z4) z4 (by omega) q_1489 (Nat.le_of_ble_eq_true rfl) dX9_readTest_16 ?_ rfl
    refine V_if_eq g 40 dX9_readTest_19 (by decide) (fun c7 => ?_) (fun c7 => ?_)
    · have hf := it_t hf c7
      cases hf
      exact V_return g f dX9_readTest_40
    · have hf := it_f hf c7
      refine V_aload_n g 0 dX9_readTest_22 rfl ?_
      obtain ⟨s8, hc, hf⟩ := bV_some hf
      refine cV0 g [] [] s8 cf_X9_stepOn (t_X9_stepOn g.2.2.2.2.2.2.1 hc) (RC_own g rfl z4) z4 (by omega) q_1462 (Nat.le_of_ble_eq_true rfl) dX9_readTest_23 ?_ rfl
      refine V_aload_n g 0 dX9_readTest_26 rfl ?_
      refine V_iload_n g 1 dX9_readTest_27 rfl ?_
      obtain ⟨s9, hc, hf⟩ := bV_some hf
      refine cV0 g [vI l1] [] s9 cf_X9_readAll (hc_X9_readAll hc) (RC_own g rfl z4) z4 (by omega) q_1523 (Nat.le_of_ble_eq_true rfl) dX9_readTest_28 ?_ rfl
      refine V_aload_n g 0 dX9_readTest_31 rfl ?_
      refine V_bipush (v := 22) g dX9_readTest_32 (by decide) ?_
      obtain ⟨s10, hc, hf⟩ := bV_some hf
      refine cV0 g [vI 22] [] s10 cf_X9_lay (t_X9_lay g.2.2.2.2.2.2.1 hc) (RC_own g rfl z4) z4 (by omega) q_1536 (Nat.le_of_ble_eq_true rfl) dX9_readTest_34 ?_ rfl
      refine V_goto g 13 dX9_readTest_37 (by decide) ?_
      exact ih s10 l0 l1 hf
set_option maxRecDepth 20000 in
theorem o_X9_readTest {G : GT} {l : Launch} (hl : l.stackTraces = false) {fu : Nat} {dR : Nat} {c_X9_readAll : St → Nat → Int32 → Option (St)} (hc_X9_readAll : ∀ {s : St} {b0 : Nat} {b1 : Int32} {s' : St}, c_X9_readAll s b0 b1 = some s' → MetG G l yX9_readAll (.code yX9_readAll cX9_readAll 2 none) dR s [vR 9 b0, vI b1] (s', .inl none)) (hdR : 5 ≤ dR) {s s' : St} {a0 : Nat} {a1 : Int32} (hf : f_X9_readTest fu c_X9_readAll s a0 a1 = some s') : MetG G l yX9_readTest (.code yX9_readTest cX9_readTest 2 none) (dR + 1) s [vR 9 a0, vI a1] (s', .inl none) := by
  refine MetG_of hl (by decide +kernel) (Nat.le_of_ble_eq_true rfl) (fun E g f eG eL => ?_)
  subst eG; subst eL
  have g : GX E "ThinSeriesModel" cX9_readTest 2 (dR + 1) := g
  have f : FX E "readTest" none [] := f
  show V E 2 (QE E (s', .inl none)) s 0 [(0, vR 9 a0), (1, vI a1)] []
  unfold f_X9_readTest at hf
  refine V_aload_n g 0 dX9_readTest_0 rfl ?_
  obtain ⟨z1, hf⟩ := nz_some hf
  refine V_getI g 9 a0 31 rfl (by decide) rfl q_1264 z1 dX9_readTest_1 ?_
  refine V_if_eq g 8 dX9_readTest_4 (by decide) (fun c2 => ?_) (fun c2 => ?_)
  · have hf := it_t hf c2
    refine V_aload_n g 0 dX9_readTest_8 rfl ?_
    refine V_iload_n g 1 dX9_readTest_9 rfl ?_
    obtain ⟨s3, hc, hf⟩ := bV_some hf
    refine cV0 g [vI a1] [] s3 cf_X9_readAll (hc_X9_readAll hc) (RC_own g rfl z1) z1 (by omega) q_1523 (Nat.le_of_ble_eq_true rfl) dX9_readTest_10 ?_ rfl
    exact t_X9_readTest_b13 g f hc_X9_readAll hdR _ s3 a0 a1 hf
  · have hf := it_f hf c2
    cases hf
    exact V_return g f dX9_readTest_7
set_option maxRecDepth 20000 in
theorem t_X9_readUnit_b75 {E : ET} {fu : Nat} {s' : St} {dR : Nat} {c_X9_readTest : St → Nat → Int32 → Option (St)} {c_X9_readUnit : St → Nat → Int32 → Option (St)} (g : GX E "ThinSeriesModel" cX9_readUnit 6 (dR + 1)) (f : FX E "readUnit" none []) (hc_X9_readTest : ∀ {s : St} {b0 : Nat} {b1 : Int32} {s' : St}, c_X9_readTest s b0 b1 = some s' → MetG E.G E.l yX9_readTest (.code yX9_readTest cX9_readTest 2 none) dR s [vR 9 b0, vI b1] (s', .inl none)) (hc_X9_readUnit : ∀ {s : St} {b0 : Nat} {b1 : Int32} {s' : St}, c_X9_readUnit s b0 b1 = some s' → MetG E.G E.l yX9_readUnit (.code yX9_readUnit cX9_readUnit 6 none) dR s [vR 9 b0, vI b1] (s', .inl none)) (hdR : 6 ≤ dR) {s : St} (hf : f_X9_readUnit_b75 fu c_X9_readTest c_X9_readUnit s = some s') : V E 6 (QE E (s', .inl none)) s 75 [] [] := by
  unfold f_X9_readUnit_b75 at hf
  cases hf
  exact V_return g f dX9_readUnit_75
set_option maxRecDepth 20000 in
theorem t_X9_readUnit_b56 {E : ET} {fu : Nat} {s' : St} {dR : Nat} {c_X9_readTest : St → Nat → Int32 → Option (St)} {c_X9_readUnit : St → Nat → Int32 → Option (St)} (g : GX E "ThinSeriesModel" cX9_readUnit 6 (dR + 1)) (f : FX E "readUnit" none []) (hc_X9_readTest : ∀ {s : St} {b0 : Nat} {b1 : Int32} {s' : St}, c_X9_readTest s b0 b1 = some s' → MetG E.G E.l yX9_readTest (.code yX9_readTest cX9_readTest 2 none) dR s [vR 9 b0, vI b1] (s', .inl none)) (hc_X9_readUnit : ∀ {s : St} {b0 : Nat} {b1 : Int32} {s' : St}, c_X9_readUnit s b0 b1 = some s' → MetG E.G E.l yX9_readUnit (.code yX9_readUnit cX9_readUnit 6 none) dR s [vR 9 b0, vI b1] (s', .inl none)) (hdR : 6 ≤ dR) {s : St} {l0 : Nat} {l2 : Int32} (hf : f_X9_readUnit_b56 fu c_X9_readTest c_X9_readUnit s l0 l2 = some s') : V E 6 (QE E (s', .inl none)) s 56 [(0, vR 9 l0), (2, vI l2)] [] := by
  unfold f_X9_readUnit_b56 at hf
  refine V_iload_n g 1 dX9_readUnit_56 rfl ?_
  refine V_if_eq g 69 dX9_readUnit_57 (by decide) (fun c20 => ?_) (fun c20 => ?_)
  · have hf := it_t hf c20
    refine V_aload_n g 0 dX9_readUnit_69 rfl ?_
    refine V_bipush (v := 41) g dX9_readUnit_70 (by decide) ?_
    obtain ⟨z21, hf⟩ := nz_some hf
    obtain ⟨s22, hc, hf⟩ := bV_some hf
    refine cV0 g [vI 41] [] s22 cf_X9_mark (t_X9_mark g.2.2.2.2.2.2.1 hc) (RC_own g rfl z21) z21 (by omega) q_1540 (Nat.le_of_ble_eq_true rfl) dX9_readUnit_72 ?_ rfl
    refine V_sub [] [] rfl ?_
    exact t_X9_readUnit_b75 g f hc_X9_readTest hc_X9_readUnit hdR hf
  · have hf := it_f hf c20
    refine V_aload_n g 0 dX9_readUnit_60 rfl ?_
    refine V_bipush (v := 20) g dX9_readUnit_61 (by decide) ?_
    obtain ⟨z23, hf⟩ := nz_some hf
    obtain ⟨s24, hc, hf⟩ := bV_some hf
    refine cV0 g [vI 20] [] s24 cf_X9_lay (t_X9_lay g.2.2.2.2.2.2.1 hc) (RC_own g rfl z23) z23 (by omega) q_1536 (Nat.le_of_ble_eq_true rfl) dX9_readUnit_63 ?_ rfl
    refine V_goto g 75 dX9_readUnit_66 (by decide) ?_
    refine V_sub [] [] rfl ?_
    exact t_X9_readUnit_b75 g f hc_X9_readTest hc_X9_readUnit hdR hf
set_option maxRecDepth 20000 in
theorem t_X9_readUnit_b31 {E : ET} {fu : Nat} {s' : St} {dR : Nat} {c_X9_readTest : St → Nat → Int32 → Option (St)} {c_X9_readUnit : St → Nat → Int32 → Option (St)} (g : GX E "ThinSeriesModel" cX9_readUnit 6 (dR + 1)) (f : FX E "readUnit" none []) (hc_X9_readTest : ∀ {s : St} {b0 : Nat} {b1 : Int32} {s' : St}, c_X9_readTest s b0 b1 = some s' → MetG E.G E.l yX9_readTest (.code yX9_readTest cX9_readTest 2 none) dR s [vR 9 b0, vI b1] (s', .inl none)) (hc_X9_readUnit : ∀ {s : St} {b0 : Nat} {b1 : Int32} {s' : St}, c_X9_readUnit s b0 b1 = some s' → MetG E.G E.l yX9_readUnit (.code yX9_readUnit cX9_readUnit 6 none) dR s [vR 9 b0, vI b1] (s', .inl none)) (hdR : 6 ≤ dR) {s : St} {l0 : Nat} {l1 : Int32} {l2 : Int32} (hf : f_X9_readUnit_b31 fu c_X9_readTest c_X9_readUnit s l0 l1 l2 = some s') : V E 6 (QE E (s', .inl none)) s 31 [(0, vR 9 l0), (1, vI l1), (2, vI l2)] [] := by
  unfold f_X9_readUnit_b31 at hf
  refine V_aload_n g 0 dX9_readUnit_31 rfl ?_
  obtain ⟨z15, hf⟩ := nz_some hf
  obtain ⟨s16, hc, hf⟩ := bV_some hf
  refine cV0 g [] [] s16 cf_X9_pass (t_X9_pass g.2.2.2.2.2.2.1 hc) (RC_own g rfl z15) z15 (by omega) q_1499 (Nat.le_of_ble_eq_true rfl) dX9_readUnit_32 ?_ rfl
  refine V_iload_n g 2 dX9_readUnit_35 rfl ?_
  refine V_if_eq g 49 dX9_readUnit_36 (by decide) (fun c17 => ?_) (fun c17 => ?_)
  · have hf := it_t hf c17
    refine V_aload_n g 0 dX9_readUnit_49 rfl ?_
    refine V_iload_n g 1 dX9_readUnit_50 rfl ?_
    refine V_iconst (v := 1) g dX9_readUnit_51 (by decide) ?_
    refine V_iadd g dX9_readUnit_52 ?_
    obtain ⟨s18, hc, hf⟩ := bV_some hf
    refine cV0 g [vI (l1 + 1)] [] s18 cf_X9_readTest (hc_X9_readTest hc) (RC_own g rfl z15) z15 (by omega) q_1519 (Nat.le_of_ble_eq_true rfl) dX9_readUnit_53 ?_ rfl
    refine V_sub [(0, vR 9 l0), (2, vI l2)] [0, 2] rfl ?_
    exact t_X9_readUnit_b56 g f hc_X9_readTest hc_X9_readUnit hdR hf
  · have hf := it_f hf c17
    refine V_aload_n g 0 dX9_readUnit_39 rfl ?_
    refine V_iload_n g 1 dX9_readUnit_40 rfl ?_
    refine V_iconst (v := 1) g dX9_readUnit_41 (by decide) ?_
    refine V_iadd g dX9_readUnit_42 ?_
    obtain ⟨s19, hc, hf⟩ := bV_some hf
    refine cV0 g [vI (l1 + 1)] [] s19 cf_X9_readUnit (hc_X9_readUnit hc) (RC_own g rfl z15) z15 (by omega) q_1527 (Nat.le_of_ble_eq_true rfl) dX9_readUnit_43 ?_ rfl
    refine V_goto g 56 dX9_readUnit_46 (by decide) ?_
    refine V_sub [(0, vR 9 l0), (2, vI l2)] [0, 2] rfl ?_
    exact t_X9_readUnit_b56 g f hc_X9_readTest hc_X9_readUnit hdR hf
set_option maxRecDepth 20000 in
theorem t_X9_readUnit_b20 {E : ET} {fu : Nat} {s' : St} {dR : Nat} {c_X9_readTest : St → Nat → Int32 → Option (St)} {c_X9_readUnit : St → Nat → Int32 → Option (St)} (g : GX E "ThinSeriesModel" cX9_readUnit 6 (dR + 1)) (f : FX E "readUnit" none []) (hc_X9_readTest : ∀ {s : St} {b0 : Nat} {b1 : Int32} {s' : St}, c_X9_readTest s b0 b1 = some s' → MetG E.G E.l yX9_readTest (.code yX9_readTest cX9_readTest 2 none) dR s [vR 9 b0, vI b1] (s', .inl none)) (hc_X9_readUnit : ∀ {s : St} {b0 : Nat} {b1 : Int32} {s' : St}, c_X9_readUnit s b0 b1 = some s' → MetG E.G E.l yX9_readUnit (.code yX9_readUnit cX9_readUnit 6 none) dR s [vR 9 b0, vI b1] (s', .inl none)) (hdR : 6 ≤ dR) {s : St} {l0 : Nat} {l1 : Int32} {l2 : Int32} (hf : f_X9_readUnit_b20 fu c_X9_readTest c_X9_readUnit s l0 l1 l2 = some s') : V E 6 (QE E (s', .inl none)) s 20 [(0, vR 9 l0), (1, vI l1), (2, vI l2)] [] := by
  unfold f_X9_readUnit_b20 at hf
  refine V_iload_n g 1 dX9_readUnit_20 rfl ?_
  refine V_bipush (v := 6) g dX9_readUnit_21 (by decide) ?_
  refine V_icmp_ne g 31 dX9_readUnit_23 (by decide) (fun c12 => ?_) (fun c12 => ?_)
  · have hf := it_f hf c12
    exact t_X9_readUnit_b31 g f hc_X9_readTest hc_X9_readUnit hdR hf
  · have hf := it_t hf c12
    refine V_aload_n g 0 dX9_readUnit_26 rfl ?_
    refine V_iconst (v := 2) g dX9_readUnit_27 (by decide) ?_
    obtain ⟨z13, hf⟩ := nz_some hf
    obtain ⟨s14, hc, hf⟩ := bV_some hf
    refine cV0 g [vI 2] [] s14 cf_X9_wrong (t_X9_wrong g.2.2.2.2.2.2.1 hc) (RC_own g rfl z13) z13 (by omega) q_1495 (Nat.le_of_ble_eq_true rfl) dX9_readUnit_28 ?_ rfl
    exact t_X9_readUnit_b31 g f hc_X9_readTest hc_X9_readUnit hdR hf
set_option maxRecDepth 20000 in
theorem t_X9_readUnit_b152 {E : ET} {fu : Nat} {s' : St} {dR : Nat} {c_X9_readTest : St → Nat → Int32 → Option (St)} {c_X9_readUnit : St → Nat → Int32 → Option (St)} (g : GX E "ThinSeriesModel" cX9_readUnit 6 (dR + 1)) (f : FX E "readUnit" none []) (hc_X9_readTest : ∀ {s : St} {b0 : Nat} {b1 : Int32} {s' : St}, c_X9_readTest s b0 b1 = some s' → MetG E.G E.l yX9_readTest (.code yX9_readTest cX9_readTest 2 none) dR s [vR 9 b0, vI b1] (s', .inl none)) (hc_X9_readUnit : ∀ {s : St} {b0 : Nat} {b1 : Int32} {s' : St}, c_X9_readUnit s b0 b1 = some s' → MetG E.G E.l yX9_readUnit (.code yX9_readUnit cX9_readUnit 6 none) dR s [vR 9 b0, vI b1] (s', .inl none)) (hdR : 6 ≤ dR) {s : St} {l0 : Nat} {l3 : Int32} {l4 : Int32} (hf : f_X9_readUnit_b152 fu c_X9_readTest c_X9_readUnit s l0 l3 l4 = some s') : V E 6 (QE E (s', .inl none)) s 152 [(0, vR 9 l0), (3, vI l3), (4, vI l4)] [] := by
  unfold f_X9_readUnit_b152 at hf
  refine V_aload_n g 0 dX9_readUnit_152 rfl ?_
  obtain ⟨z39, hf⟩ := nz_some hf
  obtain ⟨s40, hc, hf⟩ := bV_some hf
  refine cV0 g [] [] s40 cf_X9_pass (t_X9_pass g.2.2.2.2.2.2.1 hc) (RC_own g rfl z39) z39 (by omega) q_1499 (Nat.le_of_ble_eq_true rfl) dX9_readUnit_153 ?_ rfl
  refine V_aload_n g 0 dX9_readUnit_156 rfl ?_
  refine V_ldc (v := (-100000000)) g q_1544 dX9_readUnit_157 ?_
  refine V_ldc (v := 100000000) g q_1476 dX9_readUnit_159 ?_
  obtain ⟨s41, x42, hc, hf⟩ := bI_some hf
  refine cV1 g [vI ((-100000000)), vI 100000000] [] s41 (vI x42) cf_X9_readSigned (t_X9_readSigned g.2.2.2.2.2.2.1 hc) (RC_own g rfl z39) z39 (by omega) q_1545 (Nat.le_of_ble_eq_true rfl) dX9_readUnit_161 ?_ rfl
  refine V_istore g [(5, vI x42), (0, vR 9 l0), (3, vI l3), (4, vI l4)] dX9_readUnit_164 rfl (by decide) rfl ?_
  refine V_aload_n g 1 dX9_readUnit_166 rfl ?_
  refine V_iload g 3 dX9_readUnit_167 rfl ?_
  obtain ⟨s43, hc, hf⟩ := bV_some hf
  refine cV0 g [vI l4] [] s43 cf_X9_lay (t_X9_lay g.2.2.2.2.2.2.1 hc) (RC_own g rfl z39) z39 (by omega) q_1536 (Nat.le_of_ble_eq_true rfl) dX9_readUnit_169 ?_ rfl
  refine V_aload_n g 1 dX9_readUnit_172 rfl ?_
  refine V_iload_n g 2 dX9_readUnit_173 rfl ?_
  obtain ⟨s44, hc, hf⟩ := bV_some hf
  refine cV0 g [vI l3] [] s44 cf_X9_lay (t_X9_lay g.2.2.2.2.2.2.1 hc) (RC_own g rfl z39) z39 (by omega) q_1536 (Nat.le_of_ble_eq_true rfl) dX9_readUnit_174 ?_ rfl
  refine V_aload_n g 1 dX9_readUnit_177 rfl ?_
  refine V_iload g 0 dX9_readUnit_178 rfl ?_
  obtain ⟨s45, hc, hf⟩ := bV_some hf
  refine cV0 g [vI x42] [] s45 cf_X9_lay (t_X9_lay g.2.2.2.2.2.2.1 hc) (RC_own g rfl z39) z39 (by omega) q_1536 (Nat.le_of_ble_eq_true rfl) dX9_readUnit_180 ?_ rfl
  cases hf
  exact V_return g f dX9_readUnit_183
set_option maxRecDepth 20000 in
theorem t_X9_readUnit_b129 {E : ET} {fu : Nat} {s' : St} {dR : Nat} {c_X9_readTest : St → Nat → Int32 → Option (St)} {c_X9_readUnit : St → Nat → Int32 → Option (St)} (g : GX E "ThinSeriesModel" cX9_readUnit 6 (dR + 1)) (f : FX E "readUnit" none []) (hc_X9_readTest : ∀ {s : St} {b0 : Nat} {b1 : Int32} {s' : St}, c_X9_readTest s b0 b1 = some s' → MetG E.G E.l yX9_readTest (.code yX9_readTest cX9_readTest 2 none) dR s [vR 9 b0, vI b1] (s', .inl none)) (hc_X9_readUnit : ∀ {s : St} {b0 : Nat} {b1 : Int32} {s' : St}, c_X9_readUnit s b0 b1 = some s' → MetG E.G E.l yX9_readUnit (.code yX9_readUnit cX9_readUnit 6 none) dR s [vR 9 b0, vI b1] (s', .inl none)) (hdR : 6 ≤ dR) {s : St} {l0 : Nat} {l3 : Int32} {t0 : Int32} (hf : f_X9_readUnit_b129 fu c_X9_readTest c_X9_readUnit s l0 l3 t0 = some s') : V E 6 (QE E (s', .inl none)) s 129 [(0, vR 9 l0), (3, vI l3)] [vI t0] := by
  unfold f_X9_readUnit_b129 at hf
  refine V_istore g [(4, vI t0), (0, vR 9 l0), (3, vI l3)] dX9_readUnit_129 rfl (by decide) rfl ?_
  refine V_iload g 0 dX9_readUnit_131 rfl ?_
  refine V_bipush (v := 12) g dX9_readUnit_133 (by decide) ?_
  refine V_icmp_ne g 152 dX9_readUnit_135 (by decide) (fun c33 => ?_) (fun c33 => ?_)
  · have hf := it_f hf c33
    refine V_sub [(0, vR 9 l0), (3, vI l3), (4, vI t0)] [1, 2, 0] rfl ?_
    exact t_X9_readUnit_b152 g f hc_X9_readTest hc_X9_readUnit hdR hf
  · have hf := it_t hf c33
    refine V_aload_n g 1 dX9_readUnit_138 rfl ?_
    refine V_bipush (v := 62) g dX9_readUnit_139 (by decide) ?_
    obtain ⟨z34, hf⟩ := nz_some hf
    obtain ⟨s35, x36, hc, hf⟩ := bI_some hf
    refine cV1 g [vI 62] [] s35 (vI x36) cf_X9_isMarked (t_X9_isMarked g.2.2.2.2.2.2.1 hc) (RC_own g rfl z34) z34 (by omega) q_1532 (Nat.le_of_ble_eq_true rfl) dX9_readUnit_141 ?_ rfl
    refine V_if_ne g 152 dX9_readUnit_144 (by decide) (fun c37 => ?_) (fun c37 => ?_)
    · have hf := it_f hf c37
      refine V_sub [(0, vR 9 l0), (3, vI l3), (4, vI t0)] [1, 2, 0] rfl ?_
      exact t_X9_readUnit_b152 g f hc_X9_readTest hc_X9_readUnit hdR hf
    · have hf := it_t hf c37
      refine V_aload_n g 1 dX9_readUnit_147 rfl ?_
      refine V_iconst (v := 1) g dX9_readUnit_148 (by decide) ?_
      obtain ⟨s38, hc, hf⟩ := bV_some hf
      refine cV0 g [vI 1] [] s38 cf_X9_wrong (t_X9_wrong g.2.2.2.2.2.2.1 hc) (RC_own g rfl z34) z34 (by omega) q_1495 (Nat.le_of_ble_eq_true rfl) dX9_readUnit_149 ?_ rfl
      refine V_sub [(0, vR 9 l0), (3, vI l3), (4, vI t0)] [1, 2, 0] rfl ?_
      exact t_X9_readUnit_b152 g f hc_X9_readTest hc_X9_readUnit hdR hf
set_option maxRecDepth 20000 in
theorem t_X9_readUnit_b95 {E : ET} {fu : Nat} {s' : St} {dR : Nat} {c_X9_readTest : St → Nat → Int32 → Option (St)} {c_X9_readUnit : St → Nat → Int32 → Option (St)} (g : GX E "ThinSeriesModel" cX9_readUnit 6 (dR + 1)) (f : FX E "readUnit" none []) (hc_X9_readTest : ∀ {s : St} {b0 : Nat} {b1 : Int32} {s' : St}, c_X9_readTest s b0 b1 = some s' → MetG E.G E.l yX9_readTest (.code yX9_readTest cX9_readTest 2 none) dR s [vR 9 b0, vI b1] (s', .inl none)) (hc_X9_readUnit : ∀ {s : St} {b0 : Nat} {b1 : Int32} {s' : St}, c_X9_readUnit s b0 b1 = some s' → MetG E.G E.l yX9_readUnit (.code yX9_readUnit cX9_readUnit 6 none) dR s [vR 9 b0, vI b1] (s', .inl none)) (hdR : 6 ≤ dR) {s : St} {l0 : Nat} {l3 : Int32} (hf : f_X9_readUnit_b95 fu c_X9_readTest c_X9_readUnit s l0 l3 = some s') : V E 6 (QE E (s', .inl none)) s 95 [(0, vR 9 l0), (3, vI l3)] [] := by
  unfold f_X9_readUnit_b95 at hf
  refine V_aload_n g 0 dX9_readUnit_95 rfl ?_
  obtain ⟨z25, hf⟩ := nz_some hf
  obtain ⟨s26, hc, hf⟩ := bV_some hf
  refine cV0 g [] [] s26 cf_X9_pass (t_X9_pass g.2.2.2.2.2.2.1 hc) (RC_own g rfl z25) z25 (by omega) q_1499 (Nat.le_of_ble_eq_true rfl) dX9_readUnit_96 ?_ rfl
  refine V_aload_n g 0 dX9_readUnit_99 rfl ?_
  refine V_bipush (v := 60) g dX9_readUnit_100 (by decide) ?_
  obtain ⟨s27, x28, hc, hf⟩ := bI_some hf
  refine cV1 g [vI 60] [] s27 (vI x28) cf_X9_isMarked (t_X9_isMarked g.2.2.2.2.2.2.1 hc) (RC_own g rfl z25) z25 (by omega) q_1532 (Nat.le_of_ble_eq_true rfl) dX9_readUnit_102 ?_ rfl
  refine V_if_eq g 113 dX9_readUnit_105 (by decide) (fun c29 => ?_) (fun c29 => ?_)
  · have hf := it_t hf c29
    refine V_aload_n g 0 dX9_readUnit_113 rfl ?_
    refine V_bipush (v := 61) g dX9_readUnit_114 (by decide) ?_
    obtain ⟨s30, x31, hc, hf⟩ := bI_some hf
    refine cV1 g [vI 61] [] s30 (vI x31) cf_X9_isMarked (t_X9_isMarked g.2.2.2.2.2.2.1 hc) (RC_own g rfl z25) z25 (by omega) q_1532 (Nat.le_of_ble_eq_true rfl) dX9_readUnit_116 ?_ rfl
    refine V_if_eq g 127 dX9_readUnit_119 (by decide) (fun c32 => ?_) (fun c32 => ?_)
    · have hf := it_t hf c32
      refine V_bipush (v := 12) g dX9_readUnit_127 (by decide) ?_
      exact t_X9_readUnit_b129 g f hc_X9_readTest hc_X9_readUnit hdR hf
    · have hf := it_f hf c32
      refine V_bipush (v := 11) g dX9_readUnit_122 (by decide) ?_
      refine V_goto g 129 dX9_readUnit_124 (by decide) ?_
      exact t_X9_readUnit_b129 g f hc_X9_readTest hc_X9_readUnit hdR hf
  · have hf := it_f hf c29
    refine V_bipush (v := 10) g dX9_readUnit_108 (by decide) ?_
    refine V_goto g 129 dX9_readUnit_110 (by decide) ?_
    exact t_X9_readUnit_b129 g f hc_X9_readTest hc_X9_readUnit hdR hf
set_option maxRecDepth 20000 in
theorem o_X9_readUnit {G : GT} {l : Launch} (hl : l.stackTraces = false) {fu : Nat} {dR : Nat} {c_X9_readTest : St → Nat → Int32 → Option (St)} {c_X9_readUnit : St → Nat → Int32 → Option (St)} (hc_X9_readTest : ∀ {s : St} {b0 : Nat} {b1 : Int32} {s' : St}, c_X9_readTest s b0 b1 = some s' → MetG G l yX9_readTest (.code yX9_readTest cX9_readTest 2 none) dR s [vR 9 b0, vI b1] (s', .inl none)) (hc_X9_readUnit : ∀ {s : St} {b0 : Nat} {b1 : Int32} {s' : St}, c_X9_readUnit s b0 b1 = some s' → MetG G l yX9_readUnit (.code yX9_readUnit cX9_readUnit 6 none) dR s [vR 9 b0, vI b1] (s', .inl none)) (hdR : 6 ≤ dR) {s s' : St} {a0 : Nat} {a1 : Int32} (hf : f_X9_readUnit fu c_X9_readTest c_X9_readUnit s a0 a1 = some s') : MetG G l yX9_readUnit (.code yX9_readUnit cX9_readUnit 6 none) (dR + 1) s [vR 9 a0, vI a1] (s', .inl none) := by
  refine MetG_of hl (by decide +kernel) (Nat.le_of_ble_eq_true rfl) (fun E g f eG eL => ?_)
  subst eG; subst eL
  have g : GX E "ThinSeriesModel" cX9_readUnit 6 (dR + 1) := g
  have f : FX E "readUnit" none [] := f
  show V E 6 (QE E (s', .inl none)) s 0 [(0, vR 9 a0), (1, vI a1)] []
  unfold f_X9_readUnit at hf
  refine V_aload_n g 0 dX9_readUnit_0 rfl ?_
  refine V_ldcS g 36 (by decide) rfl dX9_readUnit_1 ?_
  obtain ⟨z1, hf⟩ := nz_some hf
  obtain ⟨s2, x3, hc, hf⟩ := bI_some hf
  refine cV1 g [vR 16 36] [] s2 (vI x3) cf_X9_is (t_X9_is g.2.2.2.2.2.2.1 hc) (RC_own g rfl z1) z1 (by omega) q_1489 (Nat.le_of_ble_eq_true rfl) dX9_readUnit_3 ?_ rfl
  refine V_istore_n g [(2, vI x3), (0, vR 9 a0), (1, vI a1)] dX9_readUnit_6 rfl (by decide) rfl ?_
  refine V_iload_n g 0 dX9_readUnit_7 rfl ?_
  refine V_if_ne g 20 dX9_readUnit_8 (by decide) (fun c4 => ?_) (fun c4 => ?_)
  · have hf := it_f hf c4
    refine V_sub [(0, vR 9 a0), (1, vI a1), (2, vI x3)] [1, 2, 0] rfl ?_
    exact t_X9_readUnit_b20 g f hc_X9_readTest hc_X9_readUnit hdR hf
  · have hf := it_t hf c4
    refine V_aload_n g 1 dX9_readUnit_11 rfl ?_
    refine V_bipush (v := 40) g dX9_readUnit_12 (by decide) ?_
    obtain ⟨s5, x6, hc, hf⟩ := bI_some hf
    refine cV1 g [vI 40] [] s5 (vI x6) cf_X9_isMarked (t_X9_isMarked g.2.2.2.2.2.2.1 hc) (RC_own g rfl z1) z1 (by omega) q_1532 (Nat.le_of_ble_eq_true rfl) dX9_readUnit_14 ?_ rfl
    refine V_if_eq g 76 dX9_readUnit_17 (by decide) (fun c7 => ?_) (fun c7 => ?_)
    · have hf := it_t hf c7
      refine V_aload_n g 1 dX9_readUnit_76 rfl ?_
      refine V_aload_n g 1 dX9_readUnit_77 rfl ?_
      refine V_getR g 9 a0 0 15 rfl (by decide) rfl rfl q_1233 z1 dX9_readUnit_78 ?_
      obtain ⟨s8, x9, hc, hf⟩ := bI_some hf
      refine cV1 g [vR 15 (gR s5 9 a0 0)] [] s8 (vI x9) cf_X9_which (t_X9_which g.2.2.2.2.2.2.1 hc) (RC_own g rfl z1) z1 (by omega) q_1485 (Nat.le_of_ble_eq_true rfl) dX9_readUnit_81 ?_ rfl
      refine V_istore_n g [(3, vI x9), (2, vI x3), (0, vR 9 a0), (1, vI a1)] dX9_readUnit_84 rfl (by decide) rfl ?_
      refine V_iload_n g 0 dX9_readUnit_85 rfl ?_
      refine V_iconst (v := (-1)) g dX9_readUnit_86 (by decide) ?_
      refine V_icmp_ne g 95 dX9_readUnit_87 (by decide) (fun c10 => ?_) (fun c10 => ?_)
      · have hf := it_f hf c10
        refine V_sub [(0, vR 9 a0), (3, vI x9)] [2, 0] rfl ?_
        exact t_X9_readUnit_b95 g f hc_X9_readTest hc_X9_readUnit hdR hf
      · have hf := it_t hf c10
        refine V_aload_n g 2 dX9_readUnit_90 rfl ?_
        refine V_iconst (v := 1) g dX9_readUnit_91 (by decide) ?_
        obtain ⟨s11, hc, hf⟩ := bV_some hf
        refine cV0 g [vI 1] [] s11 cf_X9_wrong (t_X9_wrong g.2.2.2.2.2.2.1 hc) (RC_own g rfl z1) z1 (by omega) q_1495 (Nat.le_of_ble_eq_true rfl) dX9_readUnit_92 ?_ rfl
        refine V_sub [(0, vR 9 a0), (3, vI x9)] [2, 0] rfl ?_
        exact t_X9_readUnit_b95 g f hc_X9_readTest hc_X9_readUnit hdR hf
    · have hf := it_f hf c7
      refine V_sub [(0, vR 9 a0), (1, vI a1), (2, vI x3)] [1, 2, 0] rfl ?_
      exact t_X9_readUnit_b20 g f hc_X9_readTest hc_X9_readUnit hdR hf
theorem t_fr_X9 {G : GT} {l : Launch} (hl : l.stackTraces = false) {fu : Nat} : ∀ n : Nat, (∀ {s : St} {a0 : Nat} {a1 : Int32} {s' : St}, (fr_X9 fu n).1 s a0 a1 = some s' → MetG G l yX9_readAll (.code yX9_readAll cX9_readAll 2 none) (6 + n) s [vR 9 a0, vI a1] (s', .inl none)) ∧ (∀ {s : St} {a0 : Nat} {a1 : Int32} {s' : St}, (fr_X9 fu n).2.1 s a0 a1 = some s' → MetG G l yX9_readTest (.code yX9_readTest cX9_readTest 2 none) (6 + n) s [vR 9 a0, vI a1] (s', .inl none)) ∧ (∀ {s : St} {a0 : Nat} {a1 : Int32} {s' : St}, (fr_X9 fu n).2.2 s a0 a1 = some s' → MetG G l yX9_readUnit (.code yX9_readUnit cX9_readUnit 6 none) (6 + n) s [vR 9 a0, vI a1] (s', .inl none)) := by
  intro n
  induction n with
  | zero => exact ⟨(fun hf => nomatch hf), (fun hf => nomatch hf), (fun hf => nomatch hf)⟩
  | succ n ih => exact ⟨(fun {s} {a0} {a1} {s'} hf => o_X9_readAll hl ih.2.2 (by omega) hf), (fun {s} {a0} {a1} {s'} hf => o_X9_readTest hl ih.1 (by omega) hf), (fun {s} {a0} {a1} {s'} hf => o_X9_readUnit hl ih.2.1 ih.2.2 (by omega) hf)⟩
theorem t_X9_readAll {G : GT} {l : Launch} (hl : l.stackTraces = false) {fu : Nat} {s s' : St} {a0 : Nat} {a1 : Int32} (hf : r_X9_readAll fu s a0 a1 = some s') : MetG G l yX9_readAll (.code yX9_readAll cX9_readAll 2 none) 46 s [vR 9 a0, vI a1] (s', .inl none) := (t_fr_X9 hl 40).1 hf
theorem t_X9_readTest {G : GT} {l : Launch} (hl : l.stackTraces = false) {fu : Nat} {s s' : St} {a0 : Nat} {a1 : Int32} (hf : r_X9_readTest fu s a0 a1 = some s') : MetG G l yX9_readTest (.code yX9_readTest cX9_readTest 2 none) 46 s [vR 9 a0, vI a1] (s', .inl none) := (t_fr_X9 hl 40).2.1 hf
theorem t_X9_readUnit {G : GT} {l : Launch} (hl : l.stackTraces = false) {fu : Nat} {s s' : St} {a0 : Nat} {a1 : Int32} (hf : r_X9_readUnit fu s a0 a1 = some s') : MetG G l yX9_readUnit (.code yX9_readUnit cX9_readUnit 6 none) 46 s [vR 9 a0, vI a1] (s', .inl none) := (t_fr_X9 hl 40).2.2 hf
set_option maxRecDepth 20000 in
theorem t_X9_readTier_b61 {E : ET} {fu : Nat} {s' : St} (g : GX E "ThinSeriesModel" cX9_readTier 4 4) (f : FX E "readTier" none []) {s : St} {l0 : Nat} {l1 : Int32} (hf : f_X9_readTier_b61 fu s l0 l1 = some s') : V E 4 (QE E (s', .inl none)) s 61 [(0, vR 9 l0), (1, vI l1)] [] := by
  unfold f_X9_readTier_b61 at hf
  refine V_aload_n g 0 dX9_readTier_61 rfl ?_
  obtain ⟨z15, hf⟩ := nz_some hf
  obtain ⟨s16, hc, hf⟩ := bV_some hf
  refine cV0 g [] [] s16 cf_X9_pass (t_X9_pass g.2.2.2.2.2.2.1 hc) (RC_own g rfl z15) z15 (by decide) q_1499 (Nat.le_of_ble_eq_true rfl) dX9_readTier_62 ?_ rfl
  refine V_aload_n g 0 dX9_readTier_65 rfl ?_
  refine V_iconst (v := 1) g dX9_readTier_66 (by decide) ?_
  refine V_bipush (v := 20) g dX9_readTier_67 (by decide) ?_
  obtain ⟨s17, x18, hc, hf⟩ := bI_some hf
  refine cV1 g [vI 1, vI 20] [] s17 (vI x18) cf_X9_readNumber (t_X9_readNumber g.2.2.2.2.2.2.1 hc) (RC_own g rfl z15) z15 (by decide) q_1515 (Nat.le_of_ble_eq_true rfl) dX9_readTier_69 ?_ rfl
  refine V_istore_n g [(3, vI x18), (0, vR 9 l0), (1, vI l1)] dX9_readTier_72 rfl (by decide) rfl ?_
  refine V_aload_n g 1 dX9_readTier_73 rfl ?_
  refine V_getI g 9 l0 31 rfl (by decide) rfl q_1264 z15 dX9_readTier_74 ?_
  refine V_if_eq g 81 dX9_readTier_77 (by decide) (fun c19 => ?_) (fun c19 => ?_)
  · have hf := it_t hf c19
    refine V_aload_n g 1 dX9_readTier_81 rfl ?_
    refine V_getR g 9 l0 34 10 rfl (by decide) rfl rfl q_1267 z15 dX9_readTier_82 ?_
    refine V_aload_n g 1 dX9_readTier_85 rfl ?_
    refine V_getI g 9 l0 37 rfl (by decide) rfl q_1270 z15 dX9_readTier_86 ?_
    refine V_iload_n g 2 dX9_readTier_89 rfl ?_
    obtain ⟨z20, hf⟩ := nz_some hf
    obtain ⟨h21, hf⟩ := ckf hf
    obtain ⟨s22, es22, hf⟩ := lt_some hf
    refine V_iast g es22 z20 h21 dX9_readTier_90 ?_
    refine V_aload_n g 1 dX9_readTier_91 rfl ?_
    refine V_getR g 9 l0 35 10 rfl (by decide) rfl rfl q_1268 z15 dX9_readTier_92 ?_
    refine V_aload_n g 1 dX9_readTier_95 rfl ?_
    refine V_getI g 9 l0 37 rfl (by decide) rfl q_1270 z15 dX9_readTier_96 ?_
    refine V_iload_n g 0 dX9_readTier_99 rfl ?_
    obtain ⟨z23, hf⟩ := nz_some hf
    obtain ⟨h24, hf⟩ := ckf hf
    obtain ⟨s25, es25, hf⟩ := lt_some hf
    refine V_iast g es25 z23 h24 dX9_readTier_100 ?_
    refine V_aload_n g 1 dX9_readTier_101 rfl ?_
    refine V_dup g dX9_readTier_102 rfl ?_
    refine V_getI g 9 l0 37 rfl (by decide) rfl q_1270 z15 dX9_readTier_103 ?_
    refine V_iconst (v := 1) g dX9_readTier_106 (by decide) ?_
    refine V_iadd g dX9_readTier_107 ?_
    obtain ⟨s26, es26, hf⟩ := lt_some hf
    refine V_putI g 9 l0 37 es26 rfl (by decide) rfl q_1270 z15 (Or.inl rfl) pf_9_37 dX9_readTier_108 ?_
    cases hf
    exact V_return g f dX9_readTier_111
  · have hf := it_f hf c19
    cases hf
    exact V_return g f dX9_readTier_80
set_option maxRecDepth 20000 in
theorem t_X9_readTier_b56 {E : ET} {fu : Nat} {s' : St} (g : GX E "ThinSeriesModel" cX9_readTier 4 4) (f : FX E "readTier" none []) {s : St} {l0 : Nat} {l1 : Int32} (hf : f_X9_readTier_b56 fu s l0 l1 = some s') : V E 4 (QE E (s', .inl none)) s 56 [(0, vR 9 l0), (1, vI l1)] [] := by
  unfold f_X9_readTier_b56 at hf
  refine V_aload_n g 0 dX9_readTier_56 rfl ?_
  refine V_iconst (v := 3) g dX9_readTier_57 (by decide) ?_
  obtain ⟨z13, hf⟩ := nz_some hf
  obtain ⟨s14, hc, hf⟩ := bV_some hf
  refine cV0 g [vI 3] [] s14 cf_X9_wrong (t_X9_wrong g.2.2.2.2.2.2.1 hc) (RC_own g rfl z13) z13 (by decide) q_1495 (Nat.le_of_ble_eq_true rfl) dX9_readTier_58 ?_ rfl
  exact t_X9_readTier_b61 g f hf
set_option maxRecDepth 20000 in
theorem t_X9_readTier_b31 {E : ET} {fu : Nat} {s' : St} (g : GX E "ThinSeriesModel" cX9_readTier 4 4) (f : FX E "readTier" none []) {s : St} {l0 : Nat} {l1 : Int32} {t0 : Int32} (hf : f_X9_readTier_b31 fu s l0 l1 t0 = some s') : V E 4 (QE E (s', .inl none)) s 31 [(0, vR 9 l0), (1, vI l1)] [vI t0] := by
  unfold f_X9_readTier_b31 at hf
  refine V_istore_n g [(2, vI t0), (0, vR 9 l0), (1, vI l1)] dX9_readTier_31 rfl (by decide) rfl ?_
  refine V_aload_n g 1 dX9_readTier_32 rfl ?_
  obtain ⟨z7, hf⟩ := nz_some hf
  refine V_getI g 9 l0 31 rfl (by decide) rfl q_1264 z7 dX9_readTier_33 ?_
  refine V_if_ne g 61 dX9_readTier_36 (by decide) (fun c8 => ?_) (fun c8 => ?_)
  · have hf := it_f hf c8
    refine V_sub [(0, vR 9 l0), (1, vI l1)] [1, 2] rfl ?_
    exact t_X9_readTier_b61 g f hf
  · have hf := it_t hf c8
    refine V_iload_n g 0 dX9_readTier_39 rfl ?_
    refine V_if_le g 61 dX9_readTier_40 (by decide) (fun c9 => ?_) (fun c9 => ?_)
    · have hf := it_t hf c9
      refine V_sub [(0, vR 9 l0), (1, vI l1)] [1, 2] rfl ?_
      exact t_X9_readTier_b61 g f hf
    · have hf := it_f hf c9
      refine V_iload_n g 2 dX9_readTier_43 rfl ?_
      refine V_iload_n g 0 dX9_readTier_44 rfl ?_
      obtain ⟨h10, hf⟩ := d0_some hf
      refine V_irem g dX9_readTier_45 h10 ?_
      refine V_if_ne g 56 dX9_readTier_46 (by decide) (fun c11 => ?_) (fun c11 => ?_)
      · have hf := it_f hf c11
        refine V_sub [(0, vR 9 l0), (1, vI l1)] [1, 2] rfl ?_
        exact t_X9_readTier_b56 g f hf
      · have hf := it_t hf c11
        refine V_iload_n g 2 dX9_readTier_49 rfl ?_
        refine V_iconst (v := 2) g dX9_readTier_50 (by decide) ?_
        refine V_iload_n g 0 dX9_readTier_51 rfl ?_
        refine V_imul g dX9_readTier_52 ?_
        refine V_icmp_ge g 61 dX9_readTier_53 (by decide) (fun c12 => ?_) (fun c12 => ?_)
        · have hf := it_t hf c12
          refine V_sub [(0, vR 9 l0), (1, vI l1)] [1, 2] rfl ?_
          exact t_X9_readTier_b61 g f hf
        · have hf := it_f hf c12
          refine V_sub [(0, vR 9 l0), (1, vI l1)] [1, 2] rfl ?_
          exact t_X9_readTier_b56 g f hf
set_option maxRecDepth 20000 in
theorem t_X9_readTier {G : GT} {l : Launch} (hl : l.stackTraces = false) {fu : Nat} {s s' : St} {a0 : Nat} (hf : f_X9_readTier fu s a0 = some s') : MetG G l yX9_readTier (.code yX9_readTier cX9_readTier 4 none) 4 s [vR 9 a0] (s', .inl none) := by
  refine MetG_of hl (by decide +kernel) (Nat.le_of_ble_eq_true rfl) (fun E g f eG eL => ?_)
  subst eG; subst eL
  have g : GX E "ThinSeriesModel" cX9_readTier 4 4 := g
  have f : FX E "readTier" none [] := f
  show V E 4 (QE E (s', .inl none)) s 0 [(0, vR 9 a0)] []
  unfold f_X9_readTier at hf
  refine V_aload_n g 0 dX9_readTier_0 rfl ?_
  refine V_iconst (v := 1) g dX9_readTier_1 (by decide) ?_
  refine V_iconst (v := 1) g dX9_readTier_2 (by decide) ?_
  refine V_ldc (v := 100000) g q_1507 dX9_readTier_3 ?_
  obtain ⟨z1, hf⟩ := nz_some hf
  obtain ⟨s2, x3, hc, hf⟩ := bI_some hf
  refine cV1 g [vI 1, vI 1, vI 100000] [] s2 (vI x3) cf_X9_numberNow (t_X9_numberNow g.2.2.2.2.2.2.1 hc) (RC_own g rfl z1) z1 (by decide) q_1508 (Nat.le_of_ble_eq_true rfl) dX9_readTier_5 ?_ rfl
  refine V_istore_n g [(1, vI x3), (0, vR 9 a0)] dX9_readTier_8 rfl (by decide) rfl ?_
  refine V_aload_n g 1 dX9_readTier_9 rfl ?_
  refine V_getI g 9 a0 37 rfl (by decide) rfl q_1270 z1 dX9_readTier_10 ?_
  refine V_if_ne g 20 dX9_readTier_13 (by decide) (fun c4 => ?_) (fun c4 => ?_)
  · have hf := it_f hf c4
    refine V_aload_n g 1 dX9_readTier_20 rfl ?_
    refine V_getR g 9 a0 34 10 rfl (by decide) rfl rfl q_1267 z1 dX9_readTier_21 ?_
    refine V_aload_n g 1 dX9_readTier_24 rfl ?_
    refine V_getI g 9 a0 37 rfl (by decide) rfl q_1270 z1 dX9_readTier_25 ?_
    refine V_iconst (v := 1) g dX9_readTier_28 (by decide) ?_
    refine V_isub g dX9_readTier_29 ?_
    obtain ⟨z5, hf⟩ := nz_some hf
    obtain ⟨h6, hf⟩ := ckf hf
    refine V_iald g z5 h6 dX9_readTier_30 ?_
    refine V_sub [(0, vR 9 a0), (1, vI x3)] [1, 0] rfl ?_
    exact t_X9_readTier_b31 g f hf
  · have hf := it_t hf c4
    refine V_iconst (v := 0) g dX9_readTier_16 (by decide) ?_
    refine V_goto g 31 dX9_readTier_17 (by decide) ?_
    refine V_sub [(0, vR 9 a0), (1, vI x3)] [1, 0] rfl ?_
    exact t_X9_readTier_b31 g f hf
set_option maxRecDepth 20000 in
theorem t_X9_readClause_b88 {E : ET} {fu : Nat} {s' : St} (g : GX E "ThinSeriesModel" cX9_readClause 2 47) (f : FX E "readClause" none []) {s : St} {l0 : Nat} (hf : f_X9_readClause_b88 fu s l0 = some s') : V E 2 (QE E (s', .inl none)) s 88 [(0, vR 9 l0)] [] := by
  unfold f_X9_readClause_b88 at hf
  refine V_aload_n g 0 dX9_readClause_88 rfl ?_
  refine V_bipush (v := 59) g dX9_readClause_89 (by decide) ?_
  obtain ⟨z21, hf⟩ := nz_some hf
  obtain ⟨s22, hc, hf⟩ := bV_some hf
  refine cV0 g [vI 59] [] s22 cf_X9_mark (t_X9_mark g.2.2.2.2.2.2.1 hc) (RC_own g rfl z21) z21 (by decide) q_1540 (Nat.le_of_ble_eq_true rfl) dX9_readClause_91 ?_ rfl
  cases hf
  exact V_return g f dX9_readClause_94
set_option maxRecDepth 20000 in
theorem t_X9_readClause_b36 {E : ET} {fu : Nat} {s' : St} (g : GX E "ThinSeriesModel" cX9_readClause 2 47) (f : FX E "readClause" none []) {s : St} {l0 : Nat} {l1 : Int32} (hf : f_X9_readClause_b36 fu s l0 l1 = some s') : V E 2 (QE E (s', .inl none)) s 36 [(0, vR 9 l0), (1, vI l1)] [] := by
  unfold f_X9_readClause_b36 at hf
  refine V_aload_n g 0 dX9_readClause_36 rfl ?_
  obtain ⟨z10, hf⟩ := nz_some hf
  obtain ⟨s11, hc, hf⟩ := bV_some hf
  refine cV0 g [] [] s11 cf_X9_pass (t_X9_pass g.2.2.2.2.2.2.1 hc) (RC_own g rfl z10) z10 (by decide) q_1499 (Nat.le_of_ble_eq_true rfl) dX9_readClause_37 ?_ rfl
  refine V_aload_n g 0 dX9_readClause_40 rfl ?_
  refine V_getI g 9 l0 31 rfl (by decide) rfl q_1264 z10 dX9_readClause_41 ?_
  refine V_if_eq g 48 dX9_readClause_44 (by decide) (fun c12 => ?_) (fun c12 => ?_)
  · have hf := it_t hf c12
    refine V_iload_n g 1 dX9_readClause_48 rfl ?_
    refine V_if_ne g 59 dX9_readClause_49 (by decide) (fun c13 => ?_) (fun c13 => ?_)
    · have hf := it_f hf c13
      refine V_iload_n g 1 dX9_readClause_59 rfl ?_
      refine V_iconst (v := 1) g dX9_readClause_60 (by decide) ?_
      refine V_icmp_ne g 78 dX9_readClause_61 (by decide) (fun c14 => ?_) (fun c14 => ?_)
      · have hf := it_f hf c14
        refine V_aload_n g 0 dX9_readClause_78 rfl ?_
        refine V_iconst (v := 0) g dX9_readClause_79 (by decide) ?_
        obtain ⟨s15, es15, hf⟩ := lt_some hf
        refine V_putI g 9 l0 39 es15 rfl (by decide) rfl q_1272 z10 (Or.inl rfl) pf_9_39 dX9_readClause_80 ?_
        refine V_aload_n g 0 dX9_readClause_83 rfl ?_
        refine V_iconst (v := 0) g dX9_readClause_84 (by decide) ?_
        obtain ⟨s16, hc, hf⟩ := bV_some hf
        refine cV0 g [vI 0] [] s16 cf_X9_readTest (t_X9_readTest g.2.2.2.2.2.2.1 hc) (RC_own g rfl z10) z10 (by decide) q_1519 (Nat.le_of_ble_eq_true rfl) dX9_readClause_85 ?_ rfl
        refine V_sub [(0, vR 9 l0)] [0] rfl ?_
        exact t_X9_readClause_b88 g f hf
      · have hf := it_t hf c14
        refine V_aload_n g 0 dX9_readClause_64 rfl ?_
        refine V_aload_n g 0 dX9_readClause_65 rfl ?_
        refine V_iconst (v := 1) g dX9_readClause_66 (by decide) ?_
        refine V_bipush (v := 6) g dX9_readClause_67 (by decide) ?_
        obtain ⟨s17, x18, hc, hf⟩ := bI_some hf
        refine cV1 g [vI 1, vI 6] [vR 9 l0] s17 (vI x18) cf_X9_readNumber (t_X9_readNumber g.2.2.2.2.2.2.1 hc) (RC_own g rfl z10) z10 (by decide) q_1515 (Nat.le_of_ble_eq_true rfl) dX9_readClause_69 ?_ rfl
        obtain ⟨s19, es19, hf⟩ := lt_some hf
        refine V_putI g 9 l0 38 es19 rfl (by decide) rfl q_1271 z10 (Or.inl rfl) pf_9_38 dX9_readClause_72 ?_
        refine V_goto g 88 dX9_readClause_75 (by decide) ?_
        refine V_sub [(0, vR 9 l0)] [0] rfl ?_
        exact t_X9_readClause_b88 g f hf
    · have hf := it_t hf c13
      refine V_aload_n g 0 dX9_readClause_52 rfl ?_
      obtain ⟨s20, hc, hf⟩ := bV_some hf
      refine cV0 g [] [] s20 cf_X9_readTier (t_X9_readTier g.2.2.2.2.2.2.1 hc) (RC_own g rfl z10) z10 (by decide) q_1503 (Nat.le_of_ble_eq_true rfl) dX9_readClause_53 ?_ rfl
      refine V_goto g 88 dX9_readClause_56 (by decide) ?_
      refine V_sub [(0, vR 9 l0)] [0] rfl ?_
      exact t_X9_readClause_b88 g f hf
  · have hf := it_f hf c12
    cases hf
    exact V_return g f dX9_readClause_47
set_option maxRecDepth 20000 in
theorem t_X9_readClause_b19 {E : ET} {fu : Nat} {s' : St} (g : GX E "ThinSeriesModel" cX9_readClause 2 47) (f : FX E "readClause" none []) {s : St} {l0 : Nat} {l1 : Int32} (hf : f_X9_readClause_b19 fu s l0 l1 = some s') : V E 2 (QE E (s', .inl none)) s 19 [(0, vR 9 l0), (1, vI l1)] [] := by
  unfold f_X9_readClause_b19 at hf
  refine V_iload_n g 1 dX9_readClause_19 rfl ?_
  refine V_if_ne g 36 dX9_readClause_20 (by decide) (fun c6 => ?_) (fun c6 => ?_)
  · have hf := it_f hf c6
    exact t_X9_readClause_b36 g f hf
  · have hf := it_t hf c6
    refine V_aload_n g 0 dX9_readClause_23 rfl ?_
    obtain ⟨z7, hf⟩ := nz_some hf
    refine V_getI g 9 l0 37 rfl (by decide) rfl q_1270 z7 dX9_readClause_24 ?_
    refine V_iconst (v := 4) g dX9_readClause_27 (by decide) ?_
    refine V_icmp_ne g 36 dX9_readClause_28 (by decide) (fun c8 => ?_) (fun c8 => ?_)
    · have hf := it_f hf c8
      exact t_X9_readClause_b36 g f hf
    · have hf := it_t hf c8
      refine V_aload_n g 0 dX9_readClause_31 rfl ?_
      refine V_iconst (v := 2) g dX9_readClause_32 (by decide) ?_
      obtain ⟨s9, hc, hf⟩ := bV_some hf
      refine cV0 g [vI 2] [] s9 cf_X9_wrong (t_X9_wrong g.2.2.2.2.2.2.1 hc) (RC_own g rfl z7) z7 (by decide) q_1495 (Nat.le_of_ble_eq_true rfl) dX9_readClause_33 ?_ rfl
      exact t_X9_readClause_b36 g f hf
set_option maxRecDepth 20000 in
theorem t_X9_readClause {G : GT} {l : Launch} (hl : l.stackTraces = false) {fu : Nat} {s s' : St} {a0 : Nat} (hf : f_X9_readClause fu s a0 = some s') : MetG G l yX9_readClause (.code yX9_readClause cX9_readClause 2 none) 47 s [vR 9 a0] (s', .inl none) := by
  refine MetG_of hl (by decide +kernel) (Nat.le_of_ble_eq_true rfl) (fun E g f eG eL => ?_)
  subst eG; subst eL
  have g : GX E "ThinSeriesModel" cX9_readClause 2 47 := g
  have f : FX E "readClause" none [] := f
  show V E 2 (QE E (s', .inl none)) s 0 [(0, vR 9 a0)] []
  unfold f_X9_readClause at hf
  refine V_aload_n g 0 dX9_readClause_0 rfl ?_
  refine V_aload_n g 0 dX9_readClause_1 rfl ?_
  obtain ⟨z1, hf⟩ := nz_some hf
  refine V_getR g 9 a0 1 15 rfl (by decide) rfl rfl q_1234 z1 dX9_readClause_2 ?_
  obtain ⟨s2, x3, hc, hf⟩ := bI_some hf
  refine cV1 g [vR 15 (gR s 9 a0 1)] [] s2 (vI x3) cf_X9_which (t_X9_which g.2.2.2.2.2.2.1 hc) (RC_own g rfl z1) z1 (by decide) q_1485 (Nat.le_of_ble_eq_true rfl) dX9_readClause_5 ?_ rfl
  refine V_istore_n g [(1, vI x3), (0, vR 9 a0)] dX9_readClause_8 rfl (by decide) rfl ?_
  refine V_iload_n g 0 dX9_readClause_9 rfl ?_
  refine V_iconst (v := (-1)) g dX9_readClause_10 (by decide) ?_
  refine V_icmp_ne g 19 dX9_readClause_11 (by decide) (fun c4 => ?_) (fun c4 => ?_)
  · have hf := it_f hf c4
    refine V_sub [(0, vR 9 a0), (1, vI x3)] [1, 0] rfl ?_
    exact t_X9_readClause_b19 g f hf
  · have hf := it_t hf c4
    refine V_aload_n g 1 dX9_readClause_14 rfl ?_
    refine V_iconst (v := 1) g dX9_readClause_15 (by decide) ?_
    obtain ⟨s5, hc, hf⟩ := bV_some hf
    refine cV0 g [vI 1] [] s5 cf_X9_wrong (t_X9_wrong g.2.2.2.2.2.2.1 hc) (RC_own g rfl z1) z1 (by decide) q_1495 (Nat.le_of_ble_eq_true rfl) dX9_readClause_16 ?_ rfl
    refine V_sub [(0, vR 9 a0), (1, vI x3)] [1, 0] rfl ?_
    exact t_X9_readClause_b19 g f hf
set_option maxRecDepth 20000 in
theorem t_X9_tell_b17 {E : ET} {fu : Nat} {s' : St} {w' : Int32} (g : GX E "ThinSeriesModel" cX9_tell 3 48) (f : FX E "tell" (some .int) []) {s : St} {l0 : Nat} (hf : f_X9_tell_b17 fu s l0 = some (s', w')) : V E 3 (QE E (s', .inl (some (vI w')))) s 17 [(0, vR 9 l0)] [] := by
  unfold f_X9_tell_b17 at hf
  refine V_aload_n g 0 dX9_tell_17 rfl ?_
  refine V_iconst (v := 1) g dX9_tell_18 (by decide) ?_
  obtain ⟨z9, hf⟩ := nz_some hf
  obtain ⟨s10, x11, hc, hf⟩ := bI_some hf
  refine cV1 g [vI 1] [] s10 (vI x11) cf_X9_fail (t_X9_fail g.2.2.2.2.2.2.1 hc) (RC_own g rfl z9) z9 (by decide) q_1454 (Nat.le_of_ble_eq_true rfl) dX9_tell_19 ?_ rfl
  cases hf
  exact V_ireturn g f dX9_tell_22
set_option maxRecDepth 20000 in
theorem t_X9_tell_b201 {E : ET} {fu : Nat} {s' : St} {w' : Int32} (g : GX E "ThinSeriesModel" cX9_tell 3 48) (f : FX E "tell" (some .int) []) : ∀ (n : Nat) (s : St) (l0 : Nat) (l2 : Int32), f_X9_tell_b201 fu n s l0 l2 = some (s', w') → V E 3 (QE E (s', .inl (some (vI w')))) s 201 [(0, vR 9 l0), (2, vI l2)] [] := by
  intro n
  induction n with
  | zero =>
    intro s l0 l2 hf
    unfold f_X9_tell_b201 at hf
    exact nomatch hf
  | succ n ih =>
    intro s l0 l2 hf
    unfold f_X9_tell_b201 at hf
    refine V_iload_n g 1 dX9_tell_201 rfl ?_
    refine V_bipush (v := 10) g dX9_tell_202 (by decide) ?_
    refine V_icmp_ge g 220 dX9_tell_204 (by decide) (fun c51 => ?_) (fun c51 => ?_)
    · have hf := it_t hf c51
      refine V_iconst (v := 0) g dX9_tell_220 (by decide) ?_
      cases hf
      exact V_ireturn g f dX9_tell_221
    · have hf := it_f hf c51
      refine V_aload_n g 0 dX9_tell_207 rfl ?_
      obtain ⟨z52, hf⟩ := nz_some hf
      refine V_getR g 9 l0 10 13 rfl (by decide) rfl rfl q_1243 z52 dX9_tell_208 ?_
      refine V_iload_n g 1 dX9_tell_211 rfl ?_
      refine V_iconst (v := 0) g dX9_tell_212 (by decide) ?_
      obtain ⟨z53, hf⟩ := nz_some hf
      obtain ⟨h54, hf⟩ := ckf hf
      obtain ⟨s55, es55, hf⟩ := lt_some hf
      refine V_zast g es55 z53 h54 dX9_tell_213 ?_
      obtain ⟨x56, ex56, hf⟩ := lt_some hf
      refine V_iinc g 1 [(2, vI x56), (0, vR 9 l0)] dX9_tell_214 rfl (by rw [ex56]; rfl) (by decide) rfl ?_
      refine V_goto g 201 dX9_tell_217 (by decide) ?_
      refine V_sub [(0, vR 9 l0), (2, vI x56)] [1, 0] rfl ?_
      exact ih s55 l0 x56 hf
set_option maxRecDepth 20000 in
theorem t_X9_tell_b168 {E : ET} {fu : Nat} {s' : St} {w' : Int32} (g : GX E "ThinSeriesModel" cX9_tell 3 48) (f : FX E "tell" (some .int) []) : ∀ (n : Nat) (s : St) (l0 : Nat) (l2 : Int32), f_X9_tell_b168 fu n s l0 l2 = some (s', w') → V E 3 (QE E (s', .inl (some (vI w')))) s 168 [(0, vR 9 l0), (2, vI l2)] [] := by
  intro n
  induction n with
  | zero =>
    intro s l0 l2 hf
    unfold f_X9_tell_b168 at hf
    exact nomatch hf
  | succ n ih =>
    intro s l0 l2 hf
    unfold f_X9_tell_b168 at hf
    refine V_iload_n g 1 dX9_tell_168 rfl ?_
    refine V_aload_n g 0 dX9_tell_169 rfl ?_
    obtain ⟨z42, hf⟩ := nz_some hf
    refine V_getI g 9 l0 9 rfl (by decide) rfl q_1242 z42 dX9_tell_170 ?_
    refine V_icmp_ge g 194 dX9_tell_173 (by decide) (fun c43 => ?_) (fun c43 => ?_)
    · have hf := it_t hf c43
      refine V_aload_n g 0 dX9_tell_194 rfl ?_
      refine V_iconst (v := 0) g dX9_tell_195 (by decide) ?_
      obtain ⟨s44, es44, hf⟩ := lt_some hf
      refine V_putI g 9 l0 22 es44 rfl (by decide) rfl q_1255 z42 (Or.inl rfl) pf_9_22 dX9_tell_196 ?_
      refine V_iconst (v := 0) g dX9_tell_199 (by decide) ?_
      refine V_istore_n g [(2, vI 0), (0, vR 9 l0)] dX9_tell_200 rfl (by decide) rfl ?_
      refine V_sub [(0, vR 9 l0), (2, vI 0)] [1, 0] rfl ?_
      exact t_X9_tell_b201 g f _ s44 l0 0 hf
    · have hf := it_f hf c43
      refine V_aload_n g 0 dX9_tell_176 rfl ?_
      refine V_getR g 9 l0 6 10 rfl (by decide) rfl rfl q_1239 z42 dX9_tell_177 ?_
      refine V_iload_n g 1 dX9_tell_180 rfl ?_
      refine V_aload_n g 0 dX9_tell_181 rfl ?_
      refine V_getR g 9 l0 36 10 rfl (by decide) rfl rfl q_1269 z42 dX9_tell_182 ?_
      refine V_iload_n g 1 dX9_tell_185 rfl ?_
      obtain ⟨z45, hf⟩ := nz_some hf
      obtain ⟨h46, hf⟩ := ckf hf
      refine V_iald g z45 h46 dX9_tell_186 ?_
      obtain ⟨z47, hf⟩ := nz_some hf
      obtain ⟨h48, hf⟩ := ckf hf
      obtain ⟨s49, es49, hf⟩ := lt_some hf
      refine V_iast g es49 z47 h48 dX9_tell_187 ?_
      obtain ⟨x50, ex50, hf⟩ := lt_some hf
      refine V_iinc g 1 [(2, vI x50), (0, vR 9 l0)] dX9_tell_188 rfl (by rw [ex50]; rfl) (by decide) rfl ?_
      refine V_goto g 168 dX9_tell_191 (by decide) ?_
      refine V_sub [(0, vR 9 l0), (2, vI x50)] [1, 0] rfl ?_
      exact ih s49 l0 x50 hf
set_option maxRecDepth 20000 in
theorem t_X9_tell_b115 {E : ET} {fu : Nat} {s' : St} {w' : Int32} (g : GX E "ThinSeriesModel" cX9_tell 3 48) (f : FX E "tell" (some .int) []) : ∀ (n : Nat) (s : St) (l0 : Nat) (l2 : Int32), f_X9_tell_b115 fu n s l0 l2 = some (s', w') → V E 3 (QE E (s', .inl (some (vI w')))) s 115 [(0, vR 9 l0), (2, vI l2)] [] := by
  intro n
  induction n with
  | zero =>
    intro s l0 l2 hf
    unfold f_X9_tell_b115 at hf
    exact nomatch hf
  | succ n ih =>
    intro s l0 l2 hf
    unfold f_X9_tell_b115 at hf
    refine V_iload_n g 1 dX9_tell_115 rfl ?_
    refine V_iconst (v := 4) g dX9_tell_116 (by decide) ?_
    refine V_icmp_ge g 150 dX9_tell_117 (by decide) (fun c26 => ?_) (fun c26 => ?_)
    · have hf := it_t hf c26
      refine V_aload_n g 0 dX9_tell_150 rfl ?_
      refine V_aload_n g 0 dX9_tell_151 rfl ?_
      obtain ⟨z27, hf⟩ := nz_some hf
      refine V_getI g 9 l0 38 rfl (by decide) rfl q_1271 z27 dX9_tell_152 ?_
      obtain ⟨s28, es28, hf⟩ := lt_some hf
      refine V_putI g 9 l0 8 es28 rfl (by decide) rfl q_1241 z27 (Or.inl rfl) pf_9_8 dX9_tell_155 ?_
      refine V_aload_n g 0 dX9_tell_158 rfl ?_
      refine V_aload_n g 0 dX9_tell_159 rfl ?_
      refine V_getI g 9 l0 39 rfl (by decide) rfl q_1272 z27 dX9_tell_160 ?_
      obtain ⟨s29, es29, hf⟩ := lt_some hf
      refine V_putI g 9 l0 9 es29 rfl (by decide) rfl q_1242 z27 (Or.inl rfl) pf_9_9 dX9_tell_163 ?_
      refine V_iconst (v := 0) g dX9_tell_166 (by decide) ?_
      refine V_istore_n g [(2, vI 0), (0, vR 9 l0)] dX9_tell_167 rfl (by decide) rfl ?_
      refine V_sub [(0, vR 9 l0), (2, vI 0)] [1, 0] rfl ?_
      exact t_X9_tell_b168 g f _ s29 l0 0 hf
    · have hf := it_f hf c26
      refine V_aload_n g 0 dX9_tell_120 rfl ?_
      obtain ⟨z30, hf⟩ := nz_some hf
      refine V_getR g 9 l0 4 10 rfl (by decide) rfl rfl q_1237 z30 dX9_tell_121 ?_
      refine V_iload_n g 1 dX9_tell_124 rfl ?_
      refine V_aload_n g 0 dX9_tell_125 rfl ?_
      refine V_getR g 9 l0 34 10 rfl (by decide) rfl rfl q_1267 z30 dX9_tell_126 ?_
      refine V_iload_n g 1 dX9_tell_129 rfl ?_
      obtain ⟨z31, hf⟩ := nz_some hf
      obtain ⟨h32, hf⟩ := ckf hf
      refine V_iald g z31 h32 dX9_tell_130 ?_
      obtain ⟨z33, hf⟩ := nz_some hf
      obtain ⟨h34, hf⟩ := ckf hf
      obtain ⟨s35, es35, hf⟩ := lt_some hf
      refine V_iast g es35 z33 h34 dX9_tell_131 ?_
      refine V_aload_n g 0 dX9_tell_132 rfl ?_
      refine V_getR g 9 l0 5 10 rfl (by decide) rfl rfl q_1238 z30 dX9_tell_133 ?_
      refine V_iload_n g 1 dX9_tell_136 rfl ?_
      refine V_aload_n g 0 dX9_tell_137 rfl ?_
      refine V_getR g 9 l0 35 10 rfl (by decide) rfl rfl q_1268 z30 dX9_tell_138 ?_
      refine V_iload_n g 1 dX9_tell_141 rfl ?_
      obtain ⟨z36, hf⟩ := nz_some hf
      obtain ⟨h37, hf⟩ := ckf hf
      refine V_iald g z36 h37 dX9_tell_142 ?_
      obtain ⟨z38, hf⟩ := nz_some hf
      obtain ⟨h39, hf⟩ := ckf hf
      obtain ⟨s40, es40, hf⟩ := lt_some hf
      refine V_iast g es40 z38 h39 dX9_tell_143 ?_
      obtain ⟨x41, ex41, hf⟩ := lt_some hf
      refine V_iinc g 1 [(2, vI x41), (0, vR 9 l0)] dX9_tell_144 rfl (by rw [ex41]; rfl) (by decide) rfl ?_
      refine V_goto g 115 dX9_tell_147 (by decide) ?_
      refine V_sub [(0, vR 9 l0), (2, vI x41)] [1, 0] rfl ?_
      exact ih s40 l0 x41 hf
set_option maxRecDepth 20000 in
theorem t_X9_tell_b110 {E : ET} {fu : Nat} {s' : St} {w' : Int32} (g : GX E "ThinSeriesModel" cX9_tell 3 48) (f : FX E "tell" (some .int) []) {s : St} {l0 : Nat} {t0 : Int32} {t1 : Nat} (hf : f_X9_tell_b110 fu s l0 t0 t1 = some (s', w')) : V E 3 (QE E (s', .inl (some (vI w')))) s 110 [(0, vR 9 l0)] [vI t0, vR 9 t1] := by
  unfold f_X9_tell_b110 at hf
  obtain ⟨z24, hf⟩ := nz_some hf
  obtain ⟨s25, es25, hf⟩ := lt_some hf
  refine V_putI g 9 t1 7 es25 rfl (by decide) rfl q_1240 z24 (Or.inl rfl) pf_9_7 dX9_tell_110 ?_
  refine V_iconst (v := 0) g dX9_tell_113 (by decide) ?_
  refine V_istore_n g [(2, vI 0), (0, vR 9 l0)] dX9_tell_114 rfl (by decide) rfl ?_
  refine V_sub [(0, vR 9 l0), (2, vI 0)] [1, 0] rfl ?_
  exact t_X9_tell_b115 g f _ s25 l0 0 hf
set_option maxRecDepth 20000 in
theorem t_X9_tell_b94 {E : ET} {fu : Nat} {s' : St} {w' : Int32} (g : GX E "ThinSeriesModel" cX9_tell 3 48) (f : FX E "tell" (some .int) []) {s : St} {l0 : Nat} (hf : f_X9_tell_b94 fu s l0 = some (s', w')) : V E 3 (QE E (s', .inl (some (vI w')))) s 94 [(0, vR 9 l0)] [] := by
  unfold f_X9_tell_b94 at hf
  refine V_aload_n g 0 dX9_tell_94 rfl ?_
  refine V_aload_n g 0 dX9_tell_95 rfl ?_
  obtain ⟨z22, hf⟩ := nz_some hf
  refine V_getI g 9 l0 37 rfl (by decide) rfl q_1270 z22 dX9_tell_96 ?_
  refine V_if_ne g 106 dX9_tell_99 (by decide) (fun c23 => ?_) (fun c23 => ?_)
  · have hf := it_f hf c23
    refine V_aload_n g 0 dX9_tell_106 rfl ?_
    refine V_getI g 9 l0 37 rfl (by decide) rfl q_1270 z22 dX9_tell_107 ?_
    exact t_X9_tell_b110 g f hf
  · have hf := it_t hf c23
    refine V_iconst (v := 3) g dX9_tell_102 (by decide) ?_
    refine V_goto g 110 dX9_tell_103 (by decide) ?_
    exact t_X9_tell_b110 g f hf
set_option maxRecDepth 20000 in
theorem t_X9_tell_b64 {E : ET} {fu : Nat} {s' : St} {w' : Int32} (g : GX E "ThinSeriesModel" cX9_tell 3 48) (f : FX E "tell" (some .int) []) {s : St} {l0 : Nat} (hf : f_X9_tell_b64 fu s l0 = some (s', w')) : V E 3 (QE E (s', .inl (some (vI w')))) s 64 [(0, vR 9 l0)] [] := by
  unfold f_X9_tell_b64 at hf
  refine V_aload_n g 0 dX9_tell_64 rfl ?_
  obtain ⟨z16, hf⟩ := nz_some hf
  obtain ⟨s17, x18, hc, hf⟩ := bI_some hf
  refine cV1 g [] [] s17 (vI x18) cf_X9_ended (t_X9_ended g.2.2.2.2.2.2.1 hc) (RC_own g rfl z16) z16 (by decide) q_1551 (Nat.le_of_ble_eq_true rfl) dX9_tell_65 ?_ rfl
  refine V_if_eq g 76 dX9_tell_68 (by decide) (fun c19 => ?_) (fun c19 => ?_)
  · have hf := it_t hf c19
    refine V_aload_n g 0 dX9_tell_76 rfl ?_
    refine V_getI g 9 l0 37 rfl (by decide) rfl q_1270 z16 dX9_tell_77 ?_
    refine V_if_ne g 94 dX9_tell_80 (by decide) (fun c20 => ?_) (fun c20 => ?_)
    · have hf := it_f hf c20
      exact t_X9_tell_b94 g f hf
    · have hf := it_t hf c20
      refine V_aload_n g 0 dX9_tell_83 rfl ?_
      refine V_getR g 9 l0 34 10 rfl (by decide) rfl rfl q_1267 z16 dX9_tell_84 ?_
      refine V_aload_n g 0 dX9_tell_87 rfl ?_
      refine V_getR g 9 l0 35 10 rfl (by decide) rfl rfl q_1268 z16 dX9_tell_88 ?_
      obtain ⟨s21, hc, hf⟩ := bV_some hf
      refine cS0 g [vR 10 (gR s17 9 l0 34), vR 10 (gR s17 9 l0 35)] [] s21 cf_X9_usual (t_X9_usual g.2.2.2.2.2.2.1 hc) (by decide) q_1230 (Nat.le_of_ble_eq_true rfl) dX9_tell_91 ?_ rfl
      exact t_X9_tell_b94 g f hf
  · have hf := it_f hf c19
    refine V_aload_n g 0 dX9_tell_71 rfl ?_
    refine V_getI g 9 l0 31 rfl (by decide) rfl q_1264 z16 dX9_tell_72 ?_
    cases hf
    exact V_ireturn g f dX9_tell_75
set_option maxRecDepth 20000 in
theorem t_X9_tell_b43 {E : ET} {fu : Nat} {s' : St} {w' : Int32} (g : GX E "ThinSeriesModel" cX9_tell 3 48) (f : FX E "tell" (some .int) []) : ∀ (n : Nat) (s : St) (l0 : Nat), f_X9_tell_b43 fu n s l0 = some (s', w') → V E 3 (QE E (s', .inl (some (vI w')))) s 43 [(0, vR 9 l0)] [] := by
  intro n
  induction n with
  | zero =>
    intro s l0 hf
    unfold f_X9_tell_b43 at hf
    exact nomatch hf
  | succ n ih =>
    intro s l0 hf
    unfold f_X9_tell_b43 at hf
    refine V_aload_n g 0 dX9_tell_43 rfl ?_
    obtain ⟨z12, hf⟩ := nz_some hf
    refine V_getI g 9 l0 31 rfl (by decide) rfl q_1264 z12 dX9_tell_44 ?_
    refine V_if_ne g 64 dX9_tell_47 (by decide) (fun c13 => ?_) (fun c13 => ?_)
    · have hf := it_f hf c13
      exact t_X9_tell_b64 g f hf
    · have hf := it_t hf c13
      refine V_aload_n g 0 dX9_tell_50 rfl ?_
      refine V_getI g 9 l0 27 rfl (by decide) rfl q_1260 z12 dX9_tell_51 ?_
      refine V_if_eq g 64 dX9_tell_54 (by decide) (fun c14 => ?_) (fun c14 => ?_)
      · have hf := it_t hf c14
        exact t_X9_tell_b64 g f hf
      · have hf := it_f hf c14
        refine V_aload_n g 0 dX9_tell_57 rfl ?_
        obtain ⟨s15, hc, hf⟩ := bV_some hf
        refine cV0 g [] [] s15 cf_X9_readClause (t_X9_readClause g.2.2.2.2.2.2.1 hc) (RC_own g rfl z12) z12 (by decide) q_1481 (Nat.le_of_ble_eq_true rfl) dX9_tell_58 ?_ rfl
        refine V_goto g 43 dX9_tell_61 (by decide) ?_
        exact ih s15 l0 hf
set_option maxRecDepth 20000 in
theorem t_X9_tell {G : GT} {l : Launch} (hl : l.stackTraces = false) {fu : Nat} {s s' : St} {a0 : Nat} {a1 : Int32} {w' : Int32} (hf : f_X9_tell fu s a0 a1 = some (s', w')) : MetG G l yX9_tell (.code yX9_tell cX9_tell 3 (some .int)) 48 s [vR 9 a0, vI a1] (s', .inl (some (vI w'))) := by
  refine MetG_of hl (by decide +kernel) (Nat.le_of_ble_eq_true rfl) (fun E g f eG eL => ?_)
  subst eG; subst eL
  have g : GX E "ThinSeriesModel" cX9_tell 3 48 := g
  have f : FX E "tell" (some .int) [] := f
  show V E 3 (QE E (s', .inl (some (vI w')))) s 0 [(0, vR 9 a0), (1, vI a1)] []
  unfold f_X9_tell at hf
  refine V_aload_n g 0 dX9_tell_0 rfl ?_
  refine V_iconst (v := 0) g dX9_tell_1 (by decide) ?_
  obtain ⟨z1, hf⟩ := nz_some hf
  obtain ⟨s2, es2, hf⟩ := lt_some hf
  refine V_putI g 9 a0 3 es2 rfl (by decide) rfl q_1236 z1 (Or.inl rfl) pf_9_3 dX9_tell_2 ?_
  refine V_iload_n g 1 dX9_tell_5 rfl ?_
  refine V_if_lt g 17 dX9_tell_6 (by decide) (fun c3 => ?_) (fun c3 => ?_)
  · have hf := it_t hf c3
    refine V_sub [(0, vR 9 a0)] [0] rfl ?_
    exact t_X9_tell_b17 g f hf
  · have hf := it_f hf c3
    refine V_iload_n g 1 dX9_tell_9 rfl ?_
    refine V_aload_n g 0 dX9_tell_10 rfl ?_
    refine V_getI g 9 a0 24 rfl (by decide) rfl q_1257 z1 dX9_tell_11 ?_
    refine V_icmp_le g 23 dX9_tell_14 (by decide) (fun c4 => ?_) (fun c4 => ?_)
    · have hf := it_t hf c4
      refine V_aload_n g 0 dX9_tell_23 rfl ?_
      refine V_iload_n g 1 dX9_tell_24 rfl ?_
      obtain ⟨s5, hc, hf⟩ := bV_some hf
      refine cV0 g [vI a1] [] s5 cf_X9_begin (t_X9_begin g.2.2.2.2.2.2.1 hc) (RC_own g rfl z1) z1 (by decide) q_1458 (Nat.le_of_ble_eq_true rfl) dX9_tell_25 ?_ rfl
      refine V_aload_n g 0 dX9_tell_28 rfl ?_
      refine V_iconst (v := 0) g dX9_tell_29 (by decide) ?_
      obtain ⟨s6, es6, hf⟩ := lt_some hf
      refine V_putI g 9 a0 37 es6 rfl (by decide) rfl q_1270 z1 (Or.inl rfl) pf_9_37 dX9_tell_30 ?_
      refine V_aload_n g 0 dX9_tell_33 rfl ?_
      refine V_iconst (v := 4) g dX9_tell_34 (by decide) ?_
      obtain ⟨s7, es7, hf⟩ := lt_some hf
      refine V_putI g 9 a0 38 es7 rfl (by decide) rfl q_1271 z1 (Or.inl rfl) pf_9_38 dX9_tell_35 ?_
      refine V_aload_n g 0 dX9_tell_38 rfl ?_
      refine V_iconst (v := 0) g dX9_tell_39 (by decide) ?_
      obtain ⟨s8, es8, hf⟩ := lt_some hf
      refine V_putI g 9 a0 39 es8 rfl (by decide) rfl q_1272 z1 (Or.inl rfl) pf_9_39 dX9_tell_40 ?_
      refine V_sub [(0, vR 9 a0)] [0] rfl ?_
      exact t_X9_tell_b43 g f _ s8 a0 hf
    · have hf := it_f hf c4
      refine V_sub [(0, vR 9 a0)] [0] rfl ?_
      exact t_X9_tell_b17 g f hf
set_option maxRecDepth 20000 in
theorem t_X9_thrown {G : GT} {l : Launch} (hl : l.stackTraces = false) {fu : Nat} {s s' : St} {a0 : Nat} {w' : Int32} (hf : f_X9_thrown fu s a0 = some (s', w')) : MetG G l yX9_thrown (.code yX9_thrown cX9_thrown 1 (some .int)) 0 s [vR 9 a0] (s', .inl (some (vI w'))) := by
  refine MetG_of hl (by decide +kernel) (Nat.le_of_ble_eq_true rfl) (fun E g f eG eL => ?_)
  subst eG; subst eL
  have g : GX E "ThinSeriesModel" cX9_thrown 1 0 := g
  have f : FX E "thrown" (some .int) [] := f
  show V E 1 (QE E (s', .inl (some (vI w')))) s 0 [(0, vR 9 a0)] []
  unfold f_X9_thrown at hf
  refine V_aload_n g 0 dX9_thrown_0 rfl ?_
  obtain ⟨z1, hf⟩ := nz_some hf
  refine V_getI g 9 a0 3 rfl (by decide) rfl q_1236 z1 dX9_thrown_1 ?_
  cases hf
  exact V_ireturn g f dX9_thrown_4
set_option maxRecDepth 20000 in
theorem t_X9_tick_b24 {E : ET} {fu : Nat} {s' : St} {w' : Int32} (g : GX E "ThinSeriesModel" cX9_tick 3 6) (f : FX E "tick" (some .int) []) {s : St} {l0 : Nat} (hf : f_X9_tick_b24 fu s l0 = some (s', w')) : V E 3 (QE E (s', .inl (some (vI w')))) s 24 [(0, vR 9 l0)] [] := by
  unfold f_X9_tick_b24 at hf
  refine V_aload_n g 0 dX9_tick_24 rfl ?_
  refine V_iconst (v := 1) g dX9_tick_25 (by decide) ?_
  obtain ⟨z13, hf⟩ := nz_some hf
  obtain ⟨s14, x15, hc, hf⟩ := bI_some hf
  refine cV1 g [vI 1] [] s14 (vI x15) cf_X9_refuse (t_X9_refuse g.2.2.2.2.2.2.1 hc) (RC_own g rfl z13) z13 (by decide) q_1581 (Nat.le_of_ble_eq_true rfl) dX9_tick_26 ?_ rfl
  cases hf
  exact V_ireturn g f dX9_tick_29
set_option maxRecDepth 20000 in
theorem t_X9_tick {G : GT} {l : Launch} (hl : l.stackTraces = false) {fu : Nat} {s s' : St} {a0 : Nat} {a1 : Int32} {a2 : Int32} {w' : Int32} (hf : f_X9_tick fu s a0 a1 a2 = some (s', w')) : MetG G l yX9_tick (.code yX9_tick cX9_tick 3 (some .int)) 6 s [vR 9 a0, vI a1, vI a2] (s', .inl (some (vI w'))) := by
  refine MetG_of hl (by decide +kernel) (Nat.le_of_ble_eq_true rfl) (fun E g f eG eL => ?_)
  subst eG; subst eL
  have g : GX E "ThinSeriesModel" cX9_tick 3 6 := g
  have f : FX E "tick" (some .int) [] := f
  show V E 3 (QE E (s', .inl (some (vI w')))) s 0 [(0, vR 9 a0), (1, vI a1), (2, vI a2)] []
  unfold f_X9_tick at hf
  refine V_aload_n g 0 dX9_tick_0 rfl ?_
  refine V_iconst (v := 0) g dX9_tick_1 (by decide) ?_
  obtain ⟨z1, hf⟩ := nz_some hf
  obtain ⟨s2, es2, hf⟩ := lt_some hf
  refine V_putI g 9 a0 3 es2 rfl (by decide) rfl q_1236 z1 (Or.inl rfl) pf_9_3 dX9_tick_2 ?_
  refine V_aload_n g 0 dX9_tick_5 rfl ?_
  obtain ⟨s3, hc, hf⟩ := bV_some hf
  refine cV0 g [] [] s3 cf_X9_fine (t_X9_fine g.2.2.2.2.2.2.1 hc) (RC_own g rfl z1) z1 (by decide) q_1563 (Nat.le_of_ble_eq_true rfl) dX9_tick_6 ?_ rfl
  refine V_iload_n g 1 dX9_tick_9 rfl ?_
  obtain ⟨s4, x5, hc, hf⟩ := bI_some hf
  refine cS1 g [vI a1] [] s4 (vI x5) cf_X9_isId (t_X9_isId g.2.2.2.2.2.2.1 hc) (by decide) q_1567 (Nat.le_of_ble_eq_true rfl) dX9_tick_10 ?_ rfl
  refine V_if_eq g 24 dX9_tick_13 (by decide) (fun c6 => ?_) (fun c6 => ?_)
  · have hf := it_t hf c6
    refine V_sub [(0, vR 9 a0)] [0] rfl ?_
    exact t_X9_tick_b24 g f hf
  · have hf := it_f hf c6
    refine V_iload_n g 2 dX9_tick_16 rfl ?_
    refine V_i2l g dX9_tick_17 ?_
    obtain ⟨s7, x8, hc, hf⟩ := bI_some hf
    refine cS1 g [vJ (Int32.toInt64 a2)] [] s7 (vI x8) cf_X9_isTime (t_X9_isTime g.2.2.2.2.2.2.1 hc) (by decide) q_1571 (Nat.le_of_ble_eq_true rfl) dX9_tick_18 ?_ rfl
    refine V_if_ne g 30 dX9_tick_21 (by decide) (fun c9 => ?_) (fun c9 => ?_)
    · have hf := it_f hf c9
      refine V_aload_n g 0 dX9_tick_30 rfl ?_
      refine V_iload_n g 1 dX9_tick_31 rfl ?_
      refine V_iload_n g 2 dX9_tick_32 rfl ?_
      obtain ⟨s10, hc, hf⟩ := bV_some hf
      refine cV0 g [vI a1, vI a2] [] s10 cf_X9_rises (t_X9_rises g.2.2.2.2.2.2.1 hc) (RC_own g rfl z1) z1 (by decide) q_1611 (Nat.le_of_ble_eq_true rfl) dX9_tick_33 ?_ rfl
      refine V_aload_n g 0 dX9_tick_36 rfl ?_
      refine V_iload_n g 1 dX9_tick_37 rfl ?_
      obtain ⟨s11, x12, hc, hf⟩ := bI_some hf
      refine cV1 g [vI a1] [] s11 (vI x12) cf_X9_allBuckets (t_X9_allBuckets g.2.2.2.2.2.2.1 hc) (RC_own g rfl z1) z1 (by decide) q_1661 (Nat.le_of_ble_eq_true rfl) dX9_tick_38 ?_ rfl
      cases hf
      exact V_ireturn g f dX9_tick_41
    · have hf := it_t hf c9
      refine V_sub [(0, vR 9 a0)] [0] rfl ?_
      exact t_X9_tick_b24 g f hf
set_option maxRecDepth 20000 in
theorem t_X9_tier_b50 {E : ET} {fu : Nat} {s' : St} {w' : Int32} (g : GX E "ThinSeriesModel" cX9_tier 3 2) (f : FX E "tier" (some .int) []) {s : St} {t0 : Int32} (hf : f_X9_tier_b50 fu s t0 = some (s', w')) : V E 3 (QE E (s', .inl (some (vI w')))) s 50 [] [vI t0] := by
  unfold f_X9_tier_b50 at hf
  cases hf
  exact V_ireturn g f dX9_tier_50
set_option maxRecDepth 20000 in
theorem t_X9_tier_b45 {E : ET} {fu : Nat} {s' : St} {w' : Int32} (g : GX E "ThinSeriesModel" cX9_tier 3 2) (f : FX E "tier" (some .int) []) {s : St} {l0 : Nat} (hf : f_X9_tier_b45 fu s l0 = some (s', w')) : V E 3 (QE E (s', .inl (some (vI w')))) s 45 [(0, vR 9 l0)] [] := by
  unfold f_X9_tier_b45 at hf
  refine V_aload_n g 0 dX9_tier_45 rfl ?_
  refine V_iconst (v := 1) g dX9_tier_46 (by decide) ?_
  obtain ⟨z14, hf⟩ := nz_some hf
  obtain ⟨s15, x16, hc, hf⟩ := bI_some hf
  refine cV1 g [vI 1] [] s15 (vI x16) cf_X9_fail (t_X9_fail g.2.2.2.2.2.2.1 hc) (RC_own g rfl z14) z14 (by decide) q_1454 (Nat.le_of_ble_eq_true rfl) dX9_tier_47 ?_ rfl
  refine V_sub [] [] rfl ?_
  exact t_X9_tier_b50 g f hf
set_option maxRecDepth 20000 in
theorem t_X9_tier {G : GT} {l : Launch} (hl : l.stackTraces = false) {fu : Nat} {s s' : St} {a0 : Nat} {a1 : Int32} {a2 : Int32} {w' : Int32} (hf : f_X9_tier fu s a0 a1 a2 = some (s', w')) : MetG G l yX9_tier (.code yX9_tier cX9_tier 3 (some .int)) 2 s [vR 9 a0, vI a1, vI a2] (s', .inl (some (vI w'))) := by
  refine MetG_of hl (by decide +kernel) (Nat.le_of_ble_eq_true rfl) (fun E g f eG eL => ?_)
  subst eG; subst eL
  have g : GX E "ThinSeriesModel" cX9_tier 3 2 := g
  have f : FX E "tier" (some .int) [] := f
  show V E 3 (QE E (s', .inl (some (vI w')))) s 0 [(0, vR 9 a0), (1, vI a1), (2, vI a2)] []
  unfold f_X9_tier at hf
  refine V_aload_n g 0 dX9_tier_0 rfl ?_
  refine V_iconst (v := 0) g dX9_tier_1 (by decide) ?_
  obtain ⟨z1, hf⟩ := nz_some hf
  obtain ⟨s2, es2, hf⟩ := lt_some hf
  refine V_putI g 9 a0 3 es2 rfl (by decide) rfl q_1236 z1 (Or.inl rfl) pf_9_3 dX9_tier_2 ?_
  refine V_aload_n g 0 dX9_tier_5 rfl ?_
  refine V_iload_n g 1 dX9_tier_6 rfl ?_
  obtain ⟨s3, x4, hc, hf⟩ := bI_some hf
  refine cV1 g [vI a1] [] s3 (vI x4) cf_X9_isTier (t_X9_isTier g.2.2.2.2.2.2.1 hc) (RC_own g rfl z1) z1 (by decide) q_1715 (Nat.le_of_ble_eq_true rfl) dX9_tier_7 ?_ rfl
  refine V_if_eq g 45 dX9_tier_10 (by decide) (fun c5 => ?_) (fun c5 => ?_)
  · have hf := it_t hf c5
    refine V_sub [(0, vR 9 a0)] [0] rfl ?_
    exact t_X9_tier_b45 g f hf
  · have hf := it_f hf c5
    refine V_iload_n g 2 dX9_tier_13 rfl ?_
    refine V_i2l g dX9_tier_14 ?_
    refine V_lconst (v := 0) g dX9_tier_15 (by decide) ?_
    refine V_lconst (v := 1) g dX9_tier_16 (by decide) ?_
    obtain ⟨s6, x7, hc, hf⟩ := bI_some hf
    refine cS1 g [vJ (Int32.toInt64 a2), vJ 0, vJ 1] [] s6 (vI x7) cf_X9_isIn (t_X9_isIn g.2.2.2.2.2.2.1 hc) (by decide) q_1512 (Nat.le_of_ble_eq_true rfl) dX9_tier_17 ?_ rfl
    refine V_if_eq g 45 dX9_tier_20 (by decide) (fun c8 => ?_) (fun c8 => ?_)
    · have hf := it_t hf c8
      refine V_sub [(0, vR 9 a0)] [0] rfl ?_
      exact t_X9_tier_b45 g f hf
    · have hf := it_f hf c8
      refine V_iload_n g 2 dX9_tier_23 rfl ?_
      refine V_if_ne g 36 dX9_tier_24 (by decide) (fun c9 => ?_) (fun c9 => ?_)
      · have hf := it_f hf c9
        refine V_aload_n g 0 dX9_tier_36 rfl ?_
        refine V_getR g 9 a0 5 10 rfl (by decide) rfl rfl q_1238 z1 dX9_tier_37 ?_
        refine V_iload_n g 1 dX9_tier_40 rfl ?_
        obtain ⟨z10, hf⟩ := nz_some hf
        obtain ⟨h11, hf⟩ := ckf hf
        refine V_iald g z10 h11 dX9_tier_41 ?_
        refine V_goto g 50 dX9_tier_42 (by decide) ?_
        refine V_sub [] [] rfl ?_
        exact t_X9_tier_b50 g f hf
      · have hf := it_t hf c9
        refine V_aload_n g 0 dX9_tier_27 rfl ?_
        refine V_getR g 9 a0 4 10 rfl (by decide) rfl rfl q_1237 z1 dX9_tier_28 ?_
        refine V_iload_n g 1 dX9_tier_31 rfl ?_
        obtain ⟨z12, hf⟩ := nz_some hf
        obtain ⟨h13, hf⟩ := ckf hf
        refine V_iald g z12 h13 dX9_tier_32 ?_
        refine V_goto g 50 dX9_tier_33 (by decide) ?_
        refine V_sub [] [] rfl ?_
        exact t_X9_tier_b50 g f hf
set_option maxRecDepth 20000 in
theorem t_X9_totals_b76 {E : ET} {fu : Nat} {s' : St} (g : GX E "ThinSeriesModel" cX9_totals 6 5) (f : FX E "totals" none []) {k28 : St → Nat → Int32 → Int32 → Int32 → Int32 → Option (St)} (hk28 : ∀ (s : St) (l0 : Nat) (l2 : Int32) (l3 : Int32) (l4 : Int32) (l5 : Int32), k28 s l0 l2 l3 l4 l5 = some s' → V E 6 (QE E (s', .inl none)) s 28 [(0, vR 9 l0), (2, vI l2), (3, vI l3), (4, vI l4), (5, vI l5)] []) {s : St} {l0 : Nat} {l2 : Int32} {l3 : Int32} {l4 : Int32} {l5 : Int32} (hf : f_X9_totals_b76 fu k28 s l0 l2 l3 l4 l5 = some s') : V E 6 (QE E (s', .inl none)) s 76 [(0, vR 9 l0), (2, vI l2), (3, vI l3), (4, vI l4), (5, vI l5)] [] := by
  unfold f_X9_totals_b76 at hf
  refine V_iload_n g 1 dX9_totals_76 rfl ?_
  refine V_iload_n g 2 dX9_totals_77 rfl ?_
  refine V_icmp_ge g 28 dX9_totals_78 (by decide) (fun c18 => ?_) (fun c18 => ?_)
  · have hf := it_t hf c18
    exact hk28 s l0 l2 l3 l4 l5 hf
  · have hf := it_f hf c18
    refine V_aload_n g 0 dX9_totals_81 rfl ?_
    obtain ⟨z19, hf⟩ := nz_some hf
    refine V_getI g 9 l0 52 rfl (by decide) rfl q_1285 z19 dX9_totals_82 ?_
    refine V_iload_n g 2 dX9_totals_85 rfl ?_
    refine V_icmp_ge g 28 dX9_totals_86 (by decide) (fun c20 => ?_) (fun c20 => ?_)
    · have hf := it_t hf c20
      exact hk28 s l0 l2 l3 l4 l5 hf
    · have hf := it_f hf c20
      refine V_aload_n g 0 dX9_totals_89 rfl ?_
      refine V_getI g 9 l0 52 rfl (by decide) rfl q_1285 z19 dX9_totals_90 ?_
      refine V_aload_n g 0 dX9_totals_93 rfl ?_
      refine V_getR g 9 l0 4 10 rfl (by decide) rfl rfl q_1237 z19 dX9_totals_94 ?_
      refine V_aload_n g 0 dX9_totals_97 rfl ?_
      refine V_getI g 9 l0 51 rfl (by decide) rfl q_1284 z19 dX9_totals_98 ?_
      obtain ⟨z21, hf⟩ := nz_some hf
      obtain ⟨h22, hf⟩ := ckf hf
      refine V_iald g z21 h22 dX9_totals_101 ?_
      refine V_iadd g dX9_totals_102 ?_
      refine V_iload_n g 1 dX9_totals_103 rfl ?_
      refine V_icmp_le g 28 dX9_totals_104 (by decide) (fun c23 => ?_) (fun c23 => ?_)
      · have hf := it_t hf c23
        exact hk28 s l0 l2 l3 l4 l5 hf
      · have hf := it_f hf c23
        refine V_aload_n g 0 dX9_totals_107 rfl ?_
        refine V_dup g dX9_totals_108 rfl ?_
        refine V_getI g 9 l0 63 rfl (by decide) rfl q_1296 z19 dX9_totals_109 ?_
        refine V_iconst (v := 1) g dX9_totals_112 (by decide) ?_
        refine V_iadd g dX9_totals_113 ?_
        obtain ⟨s24, es24, hf⟩ := lt_some hf
        refine V_putI g 9 l0 63 es24 rfl (by decide) rfl q_1296 z19 (Or.inl rfl) pf_9_63 dX9_totals_114 ?_
        refine V_aload_n g 0 dX9_totals_117 rfl ?_
        refine V_dup g dX9_totals_118 rfl ?_
        refine V_getI g 9 l0 62 rfl (by decide) rfl q_1295 z19 dX9_totals_119 ?_
        refine V_aload_n g 0 dX9_totals_122 rfl ?_
        refine V_getI g 9 l0 53 rfl (by decide) rfl q_1286 z19 dX9_totals_123 ?_
        refine V_iadd g dX9_totals_126 ?_
        obtain ⟨s25, es25, hf⟩ := lt_some hf
        refine V_putI g 9 l0 62 es25 rfl (by decide) rfl q_1295 z19 (Or.inl rfl) pf_9_62 dX9_totals_127 ?_
        refine V_goto g 28 dX9_totals_130 (by decide) ?_
        exact hk28 s25 l0 l2 l3 l4 l5 hf
set_option maxRecDepth 20000 in
theorem t_X9_totals_b28 {E : ET} {fu : Nat} {s' : St} (g : GX E "ThinSeriesModel" cX9_totals 6 5) (f : FX E "totals" none []) : ∀ (n : Nat) (s : St) (l0 : Nat) (l2 : Int32) (l3 : Int32) (l4 : Int32) (l5 : Int32), f_X9_totals_b28 fu n s l0 l2 l3 l4 l5 = some s' → V E 6 (QE E (s', .inl none)) s 28 [(0, vR 9 l0), (2, vI l2), (3, vI l3), (4, vI l4), (5, vI l5)] [] := by
  intro n
  induction n with
  | zero =>
    intro s l0 l2 l3 l4 l5 hf
    unfold f_X9_totals_b28 at hf
    exact nomatch hf
  | succ n ih =>
    intro s l0 l2 l3 l4 l5 hf
    unfold f_X9_totals_b28 at hf
    refine V_iload g 4 dX9_totals_28 rfl ?_
    refine V_iload g 3 dX9_totals_30 rfl ?_
    refine V_icmp_ge g 133 dX9_totals_32 (by decide) (fun c9 => ?_) (fun c9 => ?_)
    · have hf := it_t hf c9
      cases hf
      exact V_return g f dX9_totals_133
    · have hf := it_f hf c9
      refine V_aload_n g 0 dX9_totals_35 rfl ?_
      refine V_iload g 4 dX9_totals_36 rfl ?_
      obtain ⟨z10, hf⟩ := nz_some hf
      obtain ⟨s11, x12, hc, hf⟩ := bI_some hf
      refine cV1 g [vI l5] [] s11 (vI x12) cf_X9_bucketFrom (t_X9_bucketFrom g.2.2.2.2.2.2.1 hc) (RC_own g rfl z10) z10 (by decide) q_1665 (Nat.le_of_ble_eq_true rfl) dX9_totals_38 ?_ rfl
      refine V_istore g [(5, vI x12), (0, vR 9 l0), (2, vI l2), (3, vI l3), (4, vI l4)] dX9_totals_41 rfl (by decide) rfl ?_
      refine V_aload_n g 1 dX9_totals_43 rfl ?_
      refine V_getI g 9 l0 52 rfl (by decide) rfl q_1285 z10 dX9_totals_44 ?_
      refine V_iload_n g 2 dX9_totals_47 rfl ?_
      refine V_icmp_lt g 76 dX9_totals_48 (by decide) (fun c13 => ?_) (fun c13 => ?_)
      · have hf := it_t hf c13
        refine V_sub [(0, vR 9 l0), (2, vI l2), (3, vI l3), (4, vI l4), (5, vI x12)] [1, 2, 3, 4, 0] rfl ?_
        exact t_X9_totals_b76 g f ih hf
      · have hf := it_f hf c13
        refine V_aload_n g 1 dX9_totals_51 rfl ?_
        refine V_getI g 9 l0 52 rfl (by decide) rfl q_1285 z10 dX9_totals_52 ?_
        refine V_aload_n g 1 dX9_totals_55 rfl ?_
        refine V_getR g 9 l0 4 10 rfl (by decide) rfl rfl q_1237 z10 dX9_totals_56 ?_
        refine V_aload_n g 1 dX9_totals_59 rfl ?_
        refine V_getI g 9 l0 51 rfl (by decide) rfl q_1284 z10 dX9_totals_60 ?_
        obtain ⟨z14, hf⟩ := nz_some hf
        obtain ⟨h15, hf⟩ := ckf hf
        refine V_iald g z14 h15 dX9_totals_63 ?_
        refine V_iadd g dX9_totals_64 ?_
        refine V_iload_n g 3 dX9_totals_65 rfl ?_
        refine V_icmp_gt g 76 dX9_totals_66 (by decide) (fun c16 => ?_) (fun c16 => ?_)
        · have hf := it_t hf c16
          refine V_sub [(0, vR 9 l0), (2, vI l2), (3, vI l3), (4, vI l4), (5, vI x12)] [1, 2, 3, 4, 0] rfl ?_
          exact t_X9_totals_b76 g f ih hf
        · have hf := it_f hf c16
          refine V_aload_n g 1 dX9_totals_69 rfl ?_
          obtain ⟨s17, hc, hf⟩ := bV_some hf
          refine cV0 g [] [] s17 cf_X9_adds (t_X9_adds g.2.2.2.2.2.2.1 hc) (RC_own g rfl z10) z10 (by decide) q_1788 (Nat.le_of_ble_eq_true rfl) dX9_totals_70 ?_ rfl
          refine V_goto g 28 dX9_totals_73 (by decide) ?_
          refine V_sub [(0, vR 9 l0), (2, vI l2), (3, vI l3), (4, vI l4), (5, vI x12)] [1, 2, 3, 4, 0] rfl ?_
          exact ih s17 l0 l2 l3 l4 x12 hf
set_option maxRecDepth 20000 in
theorem t_X9_totals {G : GT} {l : Launch} (hl : l.stackTraces = false) {fu : Nat} {s s' : St} {a0 : Nat} {a1 : Int32} {a2 : Int32} {a3 : Int32} (hf : f_X9_totals fu s a0 a1 a2 a3 = some s') : MetG G l yX9_totals (.code yX9_totals cX9_totals 6 none) 5 s [vR 9 a0, vI a1, vI a2, vI a3] (s', .inl none) := by
  refine MetG_of hl (by decide +kernel) (Nat.le_of_ble_eq_true rfl) (fun E g f eG eL => ?_)
  subst eG; subst eL
  have g : GX E "ThinSeriesModel" cX9_totals 6 5 := g
  have f : FX E "totals" none [] := f
  show V E 6 (QE E (s', .inl none)) s 0 [(0, vR 9 a0), (1, vI a1), (2, vI a2), (3, vI a3)] []
  unfold f_X9_totals at hf
  refine V_aload_n g 0 dX9_totals_0 rfl ?_
  obtain ⟨z1, hf⟩ := nz_some hf
  obtain ⟨s2, hc, hf⟩ := bV_some hf
  refine cV0 g [] [] s2 cf_X9_clears (t_X9_clears g.2.2.2.2.2.2.1 hc) (RC_own g rfl z1) z1 (by decide) q_1784 (Nat.le_of_ble_eq_true rfl) dX9_totals_1 ?_ rfl
  refine V_aload_n g 0 dX9_totals_4 rfl ?_
  refine V_iconst (v := 0) g dX9_totals_5 (by decide) ?_
  obtain ⟨s3, es3, hf⟩ := lt_some hf
  refine V_putI g 9 a0 62 es3 rfl (by decide) rfl q_1295 z1 (Or.inl rfl) pf_9_62 dX9_totals_6 ?_
  refine V_aload_n g 0 dX9_totals_9 rfl ?_
  refine V_iconst (v := 0) g dX9_totals_10 (by decide) ?_
  obtain ⟨s4, es4, hf⟩ := lt_some hf
  refine V_putI g 9 a0 63 es4 rfl (by decide) rfl q_1296 z1 (Or.inl rfl) pf_9_63 dX9_totals_11 ?_
  refine V_aload_n g 0 dX9_totals_14 rfl ?_
  refine V_iload_n g 1 dX9_totals_15 rfl ?_
  obtain ⟨s5, x6, hc, hf⟩ := bI_some hf
  refine cV1 g [vI a1] [] s5 (vI x6) cf_X9_behindOf (t_X9_behindOf g.2.2.2.2.2.2.1 hc) (RC_own g rfl z1) z1 (by decide) q_1636 (Nat.le_of_ble_eq_true rfl) dX9_totals_16 ?_ rfl
  refine V_istore g [(4, vI x6), (0, vR 9 a0), (1, vI a1), (2, vI a2), (3, vI a3)] dX9_totals_19 rfl (by decide) rfl ?_
  refine V_aload_n g 1 dX9_totals_21 rfl ?_
  refine V_iload_n g 2 dX9_totals_22 rfl ?_
  obtain ⟨s7, x8, hc, hf⟩ := bI_some hf
  refine cV1 g [vI a1] [] s7 (vI x8) cf_X9_firstOf (t_X9_firstOf g.2.2.2.2.2.2.1 hc) (RC_own g rfl z1) z1 (by decide) q_1627 (Nat.le_of_ble_eq_true rfl) dX9_totals_23 ?_ rfl
  refine V_istore g [(5, vI x8), (4, vI x6), (0, vR 9 a0), (1, vI a1), (2, vI a2), (3, vI a3)] dX9_totals_26 rfl (by decide) rfl ?_
  refine V_sub [(0, vR 9 a0), (2, vI a2), (3, vI a3), (4, vI x6), (5, vI x8)] [2, 4, 5, 1, 0] rfl ?_
  exact t_X9_totals_b28 g f _ s7 a0 a2 a3 x6 x8 hf
set_option maxRecDepth 20000 in
theorem t_X9_total_b26 {E : ET} {fu : Nat} {s' : St} {w' : Int64} (g : GX E "ThinSeriesModel" cX9_total 5 6) (f : FX E "total" (some .long) []) {s : St} {l0 : Nat} (hf : f_X9_total_b26 fu s l0 = some (s', w')) : V E 5 (QE E (s', .inl (some (vJ w')))) s 26 [(0, vR 9 l0)] [] := by
  unfold f_X9_total_b26 at hf
  refine V_aload_n g 0 dX9_total_26 rfl ?_
  refine V_iconst (v := 1) g dX9_total_27 (by decide) ?_
  obtain ⟨z23, hf⟩ := nz_some hf
  obtain ⟨s24, x25, hc, hf⟩ := bI_some hf
  refine cV1 g [vI 1] [] s24 (vI x25) cf_X9_fail (t_X9_fail g.2.2.2.2.2.2.1 hc) (RC_own g rfl z23) z23 (by decide) q_1454 (Nat.le_of_ble_eq_true rfl) dX9_total_28 ?_ rfl
  refine V_i2l g dX9_total_31 ?_
  cases hf
  exact V_lreturn g f dX9_total_32
set_option maxRecDepth 20000 in
theorem t_X9_total_b54 {E : ET} {fu : Nat} {s' : St} {w' : Int64} (g : GX E "ThinSeriesModel" cX9_total 5 6) (f : FX E "total" (some .long) []) {s : St} {l0 : Nat} (hf : f_X9_total_b54 fu s l0 = some (s', w')) : V E 5 (QE E (s', .inl (some (vJ w')))) s 54 [(0, vR 9 l0)] [] := by
  unfold f_X9_total_b54 at hf
  refine V_aload_n g 0 dX9_total_54 rfl ?_
  refine V_iconst (v := 2) g dX9_total_55 (by decide) ?_
  obtain ⟨z26, hf⟩ := nz_some hf
  obtain ⟨s27, x28, hc, hf⟩ := bI_some hf
  refine cV1 g [vI 2] [] s27 (vI x28) cf_X9_fail (t_X9_fail g.2.2.2.2.2.2.1 hc) (RC_own g rfl z26) z26 (by decide) q_1454 (Nat.le_of_ble_eq_true rfl) dX9_total_56 ?_ rfl
  refine V_i2l g dX9_total_59 ?_
  cases hf
  exact V_lreturn g f dX9_total_60
set_option maxRecDepth 20000 in
theorem t_X9_total {G : GT} {l : Launch} (hl : l.stackTraces = false) {fu : Nat} {s s' : St} {a0 : Nat} {a1 : Int32} {a2 : Int32} {a3 : Int32} {a4 : Int32} {w' : Int64} (hf : f_X9_total fu s a0 a1 a2 a3 a4 = some (s', w')) : MetG G l yX9_total (.code yX9_total cX9_total 5 (some .long)) 6 s [vR 9 a0, vI a1, vI a2, vI a3, vI a4] (s', .inl (some (vJ w'))) := by
  refine MetG_of hl (by decide +kernel) (Nat.le_of_ble_eq_true rfl) (fun E g f eG eL => ?_)
  subst eG; subst eL
  have g : GX E "ThinSeriesModel" cX9_total 5 6 := g
  have f : FX E "total" (some .long) [] := f
  show V E 5 (QE E (s', .inl (some (vJ w')))) s 0 [(0, vR 9 a0), (1, vI a1), (2, vI a2), (3, vI a3), (4, vI a4)] []
  unfold f_X9_total at hf
  refine V_aload_n g 0 dX9_total_0 rfl ?_
  refine V_iconst (v := 0) g dX9_total_1 (by decide) ?_
  obtain ⟨z1, hf⟩ := nz_some hf
  obtain ⟨s2, es2, hf⟩ := lt_some hf
  refine V_putI g 9 a0 3 es2 rfl (by decide) rfl q_1236 z1 (Or.inl rfl) pf_9_3 dX9_total_2 ?_
  refine V_aload_n g 0 dX9_total_5 rfl ?_
  refine V_iload_n g 1 dX9_total_6 rfl ?_
  obtain ⟨s3, x4, hc, hf⟩ := bI_some hf
  refine cV1 g [vI a1] [] s3 (vI x4) cf_X9_isSeries (t_X9_isSeries g.2.2.2.2.2.2.1 hc) (RC_own g rfl z1) z1 (by decide) q_1727 (Nat.le_of_ble_eq_true rfl) dX9_total_7 ?_ rfl
  refine V_if_eq g 26 dX9_total_10 (by decide) (fun c5 => ?_) (fun c5 => ?_)
  · have hf := it_t hf c5
    refine V_sub [(0, vR 9 a0)] [0] rfl ?_
    exact t_X9_total_b26 g f hf
  · have hf := it_f hf c5
    refine V_iload g 4 dX9_total_13 rfl ?_
    refine V_i2l g dX9_total_15 ?_
    refine V_lconst (v := 0) g dX9_total_16 (by decide) ?_
    refine V_ldc2 (v := 6) g q_1779 dX9_total_17 ?_
    obtain ⟨s6, x7, hc, hf⟩ := bI_some hf
    refine cS1 g [vJ (Int32.toInt64 a4), vJ 0, vJ 6] [] s6 (vI x7) cf_X9_isIn (t_X9_isIn g.2.2.2.2.2.2.1 hc) (by decide) q_1512 (Nat.le_of_ble_eq_true rfl) dX9_total_20 ?_ rfl
    refine V_if_ne g 33 dX9_total_23 (by decide) (fun c8 => ?_) (fun c8 => ?_)
    · have hf := it_f hf c8
      refine V_iload_n g 2 dX9_total_33 rfl ?_
      refine V_i2l g dX9_total_34 ?_
      obtain ⟨s9, x10, hc, hf⟩ := bI_some hf
      refine cS1 g [vJ (Int32.toInt64 a2)] [] s9 (vI x10) cf_X9_isTime (t_X9_isTime g.2.2.2.2.2.2.1 hc) (by decide) q_1571 (Nat.le_of_ble_eq_true rfl) dX9_total_35 ?_ rfl
      refine V_if_eq g 54 dX9_total_38 (by decide) (fun c11 => ?_) (fun c11 => ?_)
      · have hf := it_t hf c11
        refine V_sub [(0, vR 9 a0)] [0] rfl ?_
        exact t_X9_total_b54 g f hf
      · have hf := it_f hf c11
        refine V_iload_n g 3 dX9_total_41 rfl ?_
        refine V_i2l g dX9_total_42 ?_
        obtain ⟨s12, x13, hc, hf⟩ := bI_some hf
        refine cS1 g [vJ (Int32.toInt64 a3)] [] s12 (vI x13) cf_X9_isTime (t_X9_isTime g.2.2.2.2.2.2.1 hc) (by decide) q_1571 (Nat.le_of_ble_eq_true rfl) dX9_total_43 ?_ rfl
        refine V_if_eq g 54 dX9_total_46 (by decide) (fun c14 => ?_) (fun c14 => ?_)
        · have hf := it_t hf c14
          refine V_sub [(0, vR 9 a0)] [0] rfl ?_
          exact t_X9_total_b54 g f hf
        · have hf := it_f hf c14
          refine V_iload_n g 3 dX9_total_49 rfl ?_
          refine V_iload_n g 2 dX9_total_50 rfl ?_
          refine V_icmp_ge g 61 dX9_total_51 (by decide) (fun c15 => ?_) (fun c15 => ?_)
          · have hf := it_t hf c15
            refine V_aload_n g 0 dX9_total_61 rfl ?_
            refine V_iload_n g 1 dX9_total_62 rfl ?_
            refine V_iload_n g 2 dX9_total_63 rfl ?_
            refine V_iload_n g 3 dX9_total_64 rfl ?_
            obtain ⟨s16, hc, hf⟩ := bV_some hf
            refine cV0 g [vI a1, vI a2, vI a3] [] s16 cf_X9_totals (t_X9_totals g.2.2.2.2.2.2.1 hc) (RC_own g rfl z1) z1 (by decide) q_1780 (Nat.le_of_ble_eq_true rfl) dX9_total_65 ?_ rfl
            refine V_iload g 4 dX9_total_68 rfl ?_
            by_cases c17 : a4 = 0
            · subst c17
              have hf := it_t hf rfl
              refine V_tableIn g 108 dX9_total_70 (by decide) (by decide) rfl (by decide) ?_
              refine V_aload_n g 0 dX9_total_108 rfl ?_
              refine V_getI g 9 a0 58 rfl (by decide) rfl q_1291 z1 dX9_total_109 ?_
              refine V_i2l g dX9_total_112 ?_
              cases hf
              exact V_lreturn g f dX9_total_113
            · have hf := it_f hf c17
              by_cases c18 : a4 = 1
              · subst c18
                have hf := it_t hf rfl
                refine V_tableIn g 114 dX9_total_70 (by decide) (by decide) rfl (by decide) ?_
                refine V_aload_n g 0 dX9_total_114 rfl ?_
                refine V_getJ g 9 a0 57 rfl (by decide) rfl q_1290 z1 dX9_total_115 ?_
                cases hf
                exact V_lreturn g f dX9_total_118
              · have hf := it_f hf c18
                by_cases c19 : a4 = 2
                · subst c19
                  have hf := it_t hf rfl
                  refine V_tableIn g 119 dX9_total_70 (by decide) (by decide) rfl (by decide) ?_
                  refine V_aload_n g 0 dX9_total_119 rfl ?_
                  refine V_getI g 9 a0 59 rfl (by decide) rfl q_1292 z1 dX9_total_120 ?_
                  refine V_i2l g dX9_total_123 ?_
                  cases hf
                  exact V_lreturn g f dX9_total_124
                · have hf := it_f hf c19
                  by_cases c20 : a4 = 3
                  · subst c20
                    have hf := it_t hf rfl
                    refine V_tableIn g 125 dX9_total_70 (by decide) (by decide) rfl (by decide) ?_
                    refine V_aload_n g 0 dX9_total_125 rfl ?_
                    refine V_getI g 9 a0 60 rfl (by decide) rfl q_1293 z1 dX9_total_126 ?_
                    refine V_i2l g dX9_total_129 ?_
                    cases hf
                    exact V_lreturn g f dX9_total_130
                  · have hf := it_f hf c20
                    by_cases c21 : a4 = 4
                    · subst c21
                      have hf := it_t hf rfl
                      refine V_tableIn g 131 dX9_total_70 (by decide) (by decide) rfl (by decide) ?_
                      refine V_aload_n g 0 dX9_total_131 rfl ?_
                      refine V_getI g 9 a0 62 rfl (by decide) rfl q_1295 z1 dX9_total_132 ?_
                      refine V_i2l g dX9_total_135 ?_
                      cases hf
                      exact V_lreturn g f dX9_total_136
                    · have hf := it_f hf c21
                      by_cases c22 : a4 = 5
                      · subst c22
                        have hf := it_t hf rfl
                        refine V_tableIn g 137 dX9_total_70 (by decide) (by decide) rfl (by decide) ?_
                        refine V_aload_n g 0 dX9_total_137 rfl ?_
                        refine V_getI g 9 a0 61 rfl (by decide) rfl q_1294 z1 dX9_total_138 ?_
                        refine V_i2l g dX9_total_141 ?_
                        cases hf
                        exact V_lreturn g f dX9_total_142
                      · have hf := it_f hf c22
                        refine V_tableOut g 143 dX9_total_70 (sw_out (fun v h1 h2 => ?_)) (by decide) ?_
                        · rcases (show v = 0 ∨ v = 1 ∨ v = 2 ∨ v = 3 ∨ v = 4 ∨ v = 5 by omega) with rfl | rfl | rfl | rfl | rfl | rfl
                          · exact c17
                          · exact c18
                          · exact c19
                          · exact c20
                          · exact c21
                          · exact c22
                        · skip
                          refine V_aload_n g 0 dX9_total_143 rfl ?_
                          refine V_getI g 9 a0 63 rfl (by decide) rfl q_1296 z1 dX9_total_144 ?_
                          refine V_i2l g dX9_total_147 ?_
                          cases hf
                          exact V_lreturn g f dX9_total_148
          · have hf := it_f hf c15
            refine V_sub [(0, vR 9 a0)] [0] rfl ?_
            exact t_X9_total_b54 g f hf
    · have hf := it_t hf c8
      refine V_sub [(0, vR 9 a0)] [0] rfl ?_
      exact t_X9_total_b26 g f hf
set_option maxRecDepth 20000 in
theorem t_X9_trend_b33 {E : ET} {fu : Nat} {s' : St} {w' : Int64} (g : GX E "ThinSeriesModel" cX9_trend 12 5) (f : FX E "trend" (some .long) []) {s : St} {l0 : Nat} (hf : f_X9_trend_b33 fu s l0 = some (s', w')) : V E 12 (QE E (s', .inl (some (vJ w')))) s 33 [(0, vR 9 l0)] [] := by
  unfold f_X9_trend_b33 at hf
  refine V_aload_n g 0 dX9_trend_33 rfl ?_
  refine V_iconst (v := 1) g dX9_trend_34 (by decide) ?_
  obtain ⟨z16, hf⟩ := nz_some hf
  obtain ⟨s17, x18, hc, hf⟩ := bI_some hf
  refine cV1 g [vI 1] [] s17 (vI x18) cf_X9_fail (t_X9_fail g.2.2.2.2.2.2.1 hc) (RC_own g rfl z16) z16 (by decide) q_1454 (Nat.le_of_ble_eq_true rfl) dX9_trend_35 ?_ rfl
  refine V_i2l g dX9_trend_38 ?_
  cases hf
  exact V_lreturn g f dX9_trend_39
set_option maxRecDepth 20000 in
theorem t_X9_trend_b158 {E : ET} {fu : Nat} {s' : St} {w' : Int64} (g : GX E "ThinSeriesModel" cX9_trend 12 5) (f : FX E "trend" (some .long) []) {k75 : St → Nat → Int32 → Int32 → Int32 → Int32 → Int32 → Int32 → Int32 → Int32 → Option (St × Int64)} (hk75 : ∀ (s : St) (l0 : Nat) (l3 : Int32) (l4 : Int32) (l5 : Int32) (l6 : Int32) (l7 : Int32) (l8 : Int32) (l9 : Int32) (l10 : Int32), k75 s l0 l3 l4 l5 l6 l7 l8 l9 l10 = some (s', w') → V E 12 (QE E (s', .inl (some (vJ w')))) s 75 [(0, vR 9 l0), (3, vI l3), (4, vI l4), (5, vI l5), (6, vI l6), (7, vI l7), (8, vI l8), (9, vI l9), (10, vI l10)] []) {s : St} {l0 : Nat} {l3 : Int32} {l4 : Int32} {l5 : Int32} {l6 : Int32} {l7 : Int32} {l8 : Int32} {l9 : Int32} (hf : f_X9_trend_b158 fu k75 s l0 l3 l4 l5 l6 l7 l8 l9 = some (s', w')) : V E 12 (QE E (s', .inl (some (vJ w')))) s 158 [(0, vR 9 l0), (3, vI l3), (4, vI l4), (5, vI l5), (6, vI l6), (7, vI l7), (8, vI l8), (9, vI l9)] [] := by
  unfold f_X9_trend_b158 at hf
  refine V_aload_n g 0 dX9_trend_158 rfl ?_
  obtain ⟨z36, hf⟩ := nz_some hf
  obtain ⟨s37, x38, hc, hf⟩ := bI_some hf
  refine cV1 g [] [] s37 (vI x38) cf_X9_meanNow (t_X9_meanNow g.2.2.2.2.2.2.1 hc) (RC_own g rfl z36) z36 (by decide) q_1766 (Nat.le_of_ble_eq_true rfl) dX9_trend_159 ?_ rfl
  refine V_istore g [(10, vI x38), (0, vR 9 l0), (3, vI l3), (4, vI l4), (5, vI l5), (6, vI l6), (7, vI l7), (8, vI l8), (9, vI l9)] dX9_trend_162 rfl (by decide) rfl ?_
  refine V_goto g 75 dX9_trend_164 (by decide) ?_
  refine V_sub [(0, vR 9 l0), (3, vI l3), (4, vI l4), (5, vI l5), (6, vI l6), (7, vI l7), (8, vI l8), (9, vI l9), (10, vI x38)] [1, 2, 3, 4, 5, 6, 7, 8, 0] rfl ?_
  exact hk75 s37 l0 l3 l4 l5 l6 l7 l8 l9 x38 hf
set_option maxRecDepth 20000 in
theorem t_X9_trend_b138 {E : ET} {fu : Nat} {s' : St} {w' : Int64} (g : GX E "ThinSeriesModel" cX9_trend 12 5) (f : FX E "trend" (some .long) []) {k75 : St → Nat → Int32 → Int32 → Int32 → Int32 → Int32 → Int32 → Int32 → Int32 → Option (St × Int64)} (hk75 : ∀ (s : St) (l0 : Nat) (l3 : Int32) (l4 : Int32) (l5 : Int32) (l6 : Int32) (l7 : Int32) (l8 : Int32) (l9 : Int32) (l10 : Int32), k75 s l0 l3 l4 l5 l6 l7 l8 l9 l10 = some (s', w') → V E 12 (QE E (s', .inl (some (vJ w')))) s 75 [(0, vR 9 l0), (3, vI l3), (4, vI l4), (5, vI l5), (6, vI l6), (7, vI l7), (8, vI l8), (9, vI l9), (10, vI l10)] []) {s : St} {l0 : Nat} {l3 : Int32} {l4 : Int32} {l6 : Int32} {l7 : Int32} {l8 : Int32} {l9 : Int32} {l11 : Int32} {t0 : Int32} {t1 : Int32} (hf : f_X9_trend_b138 fu k75 s l0 l3 l4 l6 l7 l8 l9 l11 t0 t1 = some (s', w')) : V E 12 (QE E (s', .inl (some (vJ w')))) s 138 [(0, vR 9 l0), (3, vI l3), (4, vI l4), (6, vI l6), (7, vI l7), (8, vI l8), (9, vI l9), (11, vI l11)] [vI t0, vI t1] := by
  unfold f_X9_trend_b138 at hf
  refine V_iadd g dX9_trend_138 ?_
  obtain ⟨x32, ex32, hf⟩ := lt_some hf
  refine V_istore g [(5, vI x32), (0, vR 9 l0), (3, vI l3), (4, vI l4), (6, vI l6), (7, vI l7), (8, vI l8), (9, vI l9), (11, vI l11)] dX9_trend_139 ex32 (by decide) rfl ?_
  refine V_iload g 8 dX9_trend_141 rfl ?_
  refine V_iload g 4 dX9_trend_143 rfl ?_
  refine V_icmp_le g 158 dX9_trend_145 (by decide) (fun c33 => ?_) (fun c33 => ?_)
  · have hf := it_t hf c33
    refine V_sub [(0, vR 9 l0), (3, vI l3), (4, vI l4), (5, vI x32), (6, vI l6), (7, vI l7), (8, vI l8), (9, vI l9)] [1, 2, 3, 0, 4, 5, 6, 7] rfl ?_
    exact t_X9_trend_b158 g f hk75 hf
  · have hf := it_f hf c33
    refine V_iload g 8 dX9_trend_148 rfl ?_
    refine V_istore g [(6, vI l11), (5, vI x32), (0, vR 9 l0), (3, vI l3), (4, vI l4), (7, vI l7), (8, vI l8), (9, vI l9), (11, vI l11)] dX9_trend_150 rfl (by decide) rfl ?_
    refine V_aload_n g 2 dX9_trend_152 rfl ?_
    obtain ⟨z34, hf⟩ := nz_some hf
    refine V_getI g 9 l0 52 rfl (by decide) rfl q_1285 z34 dX9_trend_153 ?_
    obtain ⟨x35, ex35, hf⟩ := lt_some hf
    refine V_istore g [(7, vI x35), (6, vI l11), (5, vI x32), (0, vR 9 l0), (3, vI l3), (4, vI l4), (8, vI l8), (9, vI l9), (11, vI l11)] dX9_trend_156 ex35 (by decide) rfl ?_
    refine V_sub [(0, vR 9 l0), (3, vI l3), (4, vI l4), (5, vI x32), (6, vI l11), (7, vI x35), (8, vI l8), (9, vI l9)] [3, 4, 5, 2, 1, 0, 6, 7] rfl ?_
    exact t_X9_trend_b158 g f hk75 hf
set_option maxRecDepth 20000 in
theorem t_X9_trend_b123 {E : ET} {fu : Nat} {s' : St} {w' : Int64} (g : GX E "ThinSeriesModel" cX9_trend 12 5) (f : FX E "trend" (some .long) []) {k75 : St → Nat → Int32 → Int32 → Int32 → Int32 → Int32 → Int32 → Int32 → Int32 → Option (St × Int64)} (hk75 : ∀ (s : St) (l0 : Nat) (l3 : Int32) (l4 : Int32) (l5 : Int32) (l6 : Int32) (l7 : Int32) (l8 : Int32) (l9 : Int32) (l10 : Int32), k75 s l0 l3 l4 l5 l6 l7 l8 l9 l10 = some (s', w') → V E 12 (QE E (s', .inl (some (vJ w')))) s 75 [(0, vR 9 l0), (3, vI l3), (4, vI l4), (5, vI l5), (6, vI l6), (7, vI l7), (8, vI l8), (9, vI l9), (10, vI l10)] []) {s : St} {l0 : Nat} {l3 : Int32} {l5 : Int32} {l6 : Int32} {l7 : Int32} {l8 : Int32} {l9 : Int32} {l11 : Int32} {t0 : Int32} {t1 : Int32} (hf : f_X9_trend_b123 fu k75 s l0 l3 l5 l6 l7 l8 l9 l11 t0 t1 = some (s', w')) : V E 12 (QE E (s', .inl (some (vJ w')))) s 123 [(0, vR 9 l0), (3, vI l3), (5, vI l5), (6, vI l6), (7, vI l7), (8, vI l8), (9, vI l9), (11, vI l11)] [vI t0, vI t1] := by
  unfold f_X9_trend_b123 at hf
  refine V_iadd g dX9_trend_123 ?_
  obtain ⟨x30, ex30, hf⟩ := lt_some hf
  refine V_istore g [(4, vI x30), (0, vR 9 l0), (3, vI l3), (5, vI l5), (6, vI l6), (7, vI l7), (8, vI l8), (9, vI l9), (11, vI l11)] dX9_trend_124 ex30 (by decide) rfl ?_
  refine V_iload g 3 dX9_trend_126 rfl ?_
  refine V_iload g 8 dX9_trend_128 rfl ?_
  refine V_if_ge g 137 dX9_trend_130 (by decide) (fun c31 => ?_) (fun c31 => ?_)
  · have hf := it_t hf c31
    refine V_iconst (v := 0) g dX9_trend_137 (by decide) ?_
    refine V_sub [(0, vR 9 l0), (3, vI l3), (4, vI x30), (6, vI l6), (7, vI l7), (8, vI l8), (9, vI l9), (11, vI l11)] [1, 2, 0, 4, 5, 6, 7, 8] rfl ?_
    exact t_X9_trend_b138 g f hk75 hf
  · have hf := it_f hf c31
    refine V_iconst (v := 1) g dX9_trend_133 (by decide) ?_
    refine V_goto g 138 dX9_trend_134 (by decide) ?_
    refine V_sub [(0, vR 9 l0), (3, vI l3), (4, vI x30), (6, vI l6), (7, vI l7), (8, vI l8), (9, vI l9), (11, vI l11)] [1, 2, 0, 4, 5, 6, 7, 8] rfl ?_
    exact t_X9_trend_b138 g f hk75 hf
set_option maxRecDepth 20000 in
theorem t_X9_trend_b109 {E : ET} {fu : Nat} {s' : St} {w' : Int64} (g : GX E "ThinSeriesModel" cX9_trend 12 5) (f : FX E "trend" (some .long) []) {k75 : St → Nat → Int32 → Int32 → Int32 → Int32 → Int32 → Int32 → Int32 → Int32 → Option (St × Int64)} (hk75 : ∀ (s : St) (l0 : Nat) (l3 : Int32) (l4 : Int32) (l5 : Int32) (l6 : Int32) (l7 : Int32) (l8 : Int32) (l9 : Int32) (l10 : Int32), k75 s l0 l3 l4 l5 l6 l7 l8 l9 l10 = some (s', w') → V E 12 (QE E (s', .inl (some (vJ w')))) s 75 [(0, vR 9 l0), (3, vI l3), (4, vI l4), (5, vI l5), (6, vI l6), (7, vI l7), (8, vI l8), (9, vI l9), (10, vI l10)] []) {s : St} {l0 : Nat} {l3 : Int32} {l4 : Int32} {l5 : Int32} {l6 : Int32} {l7 : Int32} {l8 : Int32} {l9 : Int32} {t0 : Int32} (hf : f_X9_trend_b109 fu k75 s l0 l3 l4 l5 l6 l7 l8 l9 t0 = some (s', w')) : V E 12 (QE E (s', .inl (some (vJ w')))) s 109 [(0, vR 9 l0), (3, vI l3), (4, vI l4), (5, vI l5), (6, vI l6), (7, vI l7), (8, vI l8), (9, vI l9)] [vI t0] := by
  unfold f_X9_trend_b109 at hf
  refine V_istore g [(11, vI t0), (0, vR 9 l0), (3, vI l3), (4, vI l4), (5, vI l5), (6, vI l6), (7, vI l7), (8, vI l8), (9, vI l9)] dX9_trend_109 rfl (by decide) rfl ?_
  refine V_iload g 3 dX9_trend_111 rfl ?_
  refine V_iload g 0 dX9_trend_113 rfl ?_
  refine V_if_le g 122 dX9_trend_115 (by decide) (fun c29 => ?_) (fun c29 => ?_)
  · have hf := it_t hf c29
    refine V_iconst (v := 0) g dX9_trend_122 (by decide) ?_
    refine V_sub [(0, vR 9 l0), (3, vI l3), (5, vI l5), (6, vI l6), (7, vI l7), (8, vI l8), (9, vI l9), (11, vI t0)] [1, 2, 4, 5, 6, 7, 8, 0] rfl ?_
    exact t_X9_trend_b123 g f hk75 hf
  · have hf := it_f hf c29
    refine V_iconst (v := 1) g dX9_trend_118 (by decide) ?_
    refine V_goto g 123 dX9_trend_119 (by decide) ?_
    refine V_sub [(0, vR 9 l0), (3, vI l3), (5, vI l5), (6, vI l6), (7, vI l7), (8, vI l8), (9, vI l9), (11, vI t0)] [1, 2, 4, 5, 6, 7, 8, 0] rfl ?_
    exact t_X9_trend_b123 g f hk75 hf
set_option maxRecDepth 20000 in
theorem t_X9_trend_b202 {E : ET} {fu : Nat} {s' : St} {w' : Int64} (g : GX E "ThinSeriesModel" cX9_trend 12 5) (f : FX E "trend" (some .long) []) {s : St} {t0 : Int64} (hf : f_X9_trend_b202 fu s t0 = some (s', w')) : V E 12 (QE E (s', .inl (some (vJ w')))) s 202 [] [vJ t0] := by
  unfold f_X9_trend_b202 at hf
  cases hf
  exact V_lreturn g f dX9_trend_202
set_option maxRecDepth 20000 in
theorem t_X9_trend_b75 {E : ET} {fu : Nat} {s' : St} {w' : Int64} (g : GX E "ThinSeriesModel" cX9_trend 12 5) (f : FX E "trend" (some .long) []) : ∀ (n : Nat) (s : St) (l0 : Nat) (l3 : Int32) (l4 : Int32) (l5 : Int32) (l6 : Int32) (l7 : Int32) (l8 : Int32) (l9 : Int32) (l10 : Int32), f_X9_trend_b75 fu n s l0 l3 l4 l5 l6 l7 l8 l9 l10 = some (s', w') → V E 12 (QE E (s', .inl (some (vJ w')))) s 75 [(0, vR 9 l0), (3, vI l3), (4, vI l4), (5, vI l5), (6, vI l6), (7, vI l7), (8, vI l8), (9, vI l9), (10, vI l10)] [] := by
  intro n
  induction n with
  | zero =>
    intro s l0 l3 l4 l5 l6 l7 l8 l9 l10 hf
    unfold f_X9_trend_b75 at hf
    exact nomatch hf
  | succ n ih =>
    intro s l0 l3 l4 l5 l6 l7 l8 l9 l10 hf
    unfold f_X9_trend_b75 at hf
    refine V_iload g 7 dX9_trend_75 rfl ?_
    refine V_iload g 6 dX9_trend_77 rfl ?_
    refine V_icmp_ge g 167 dX9_trend_79 (by decide) (fun c19 => ?_) (fun c19 => ?_)
    · have hf := it_t hf c19
      refine V_iload_n g 1 dX9_trend_167 rfl ?_
      refine V_if_ne g 177 dX9_trend_168 (by decide) (fun c20 => ?_) (fun c20 => ?_)
      · have hf := it_f hf c20
        refine V_iload_n g 1 dX9_trend_177 rfl ?_
        refine V_iconst (v := 1) g dX9_trend_178 (by decide) ?_
        refine V_icmp_ne g 188 dX9_trend_179 (by decide) (fun c21 => ?_) (fun c21 => ?_)
        · have hf := it_f hf c21
          refine V_iload_n g 1 dX9_trend_188 rfl ?_
          refine V_iconst (v := 2) g dX9_trend_189 (by decide) ?_
          refine V_icmp_ne g 199 dX9_trend_190 (by decide) (fun c22 => ?_) (fun c22 => ?_)
          · have hf := it_f hf c22
            refine V_iload g 5 dX9_trend_199 rfl ?_
            refine V_i2l g dX9_trend_201 ?_
            refine V_sub [] [] rfl ?_
            exact t_X9_trend_b202 g f hf
          · have hf := it_t hf c22
            refine V_iload g 4 dX9_trend_193 rfl ?_
            refine V_i2l g dX9_trend_195 ?_
            refine V_goto g 202 dX9_trend_196 (by decide) ?_
            refine V_sub [] [] rfl ?_
            exact t_X9_trend_b202 g f hf
        · have hf := it_t hf c21
          refine V_iload g 3 dX9_trend_182 rfl ?_
          refine V_i2l g dX9_trend_184 ?_
          refine V_goto g 202 dX9_trend_185 (by decide) ?_
          refine V_sub [] [] rfl ?_
          exact t_X9_trend_b202 g f hf
      · have hf := it_t hf c20
        refine V_iload g 2 dX9_trend_171 rfl ?_
        refine V_i2l g dX9_trend_173 ?_
        refine V_goto g 202 dX9_trend_174 (by decide) ?_
        refine V_sub [] [] rfl ?_
        exact t_X9_trend_b202 g f hf
    · have hf := it_f hf c19
      refine V_aload_n g 0 dX9_trend_82 rfl ?_
      refine V_iload g 7 dX9_trend_83 rfl ?_
      obtain ⟨z23, hf⟩ := nz_some hf
      obtain ⟨s24, x25, hc, hf⟩ := bI_some hf
      refine cV1 g [vI l9] [] s24 (vI x25) cf_X9_bucketFrom (t_X9_bucketFrom g.2.2.2.2.2.2.1 hc) (RC_own g rfl z23) z23 (by decide) q_1665 (Nat.le_of_ble_eq_true rfl) dX9_trend_85 ?_ rfl
      refine V_istore g [(9, vI x25), (0, vR 9 l0), (3, vI l3), (4, vI l4), (5, vI l5), (6, vI l6), (7, vI l7), (8, vI l8), (10, vI l10)] dX9_trend_88 rfl (by decide) rfl ?_
      refine V_iload g 8 dX9_trend_90 rfl ?_
      refine V_sipush (v := (-20000)) g dX9_trend_92 (by decide) ?_
      refine V_icmp_ne g 102 dX9_trend_95 (by decide) (fun c26 => ?_) (fun c26 => ?_)
      · have hf := it_f hf c26
        refine V_aload_n g 1 dX9_trend_102 rfl ?_
        obtain ⟨s27, x28, hc, hf⟩ := bI_some hf
        refine cV1 g [] [] s27 (vI x28) cf_X9_meanNow (t_X9_meanNow g.2.2.2.2.2.2.1 hc) (RC_own g rfl z23) z23 (by decide) q_1766 (Nat.le_of_ble_eq_true rfl) dX9_trend_103 ?_ rfl
        refine V_iload g 8 dX9_trend_106 rfl ?_
        refine V_isub g dX9_trend_108 ?_
        refine V_sub [(0, vR 9 l0), (3, vI l3), (4, vI l4), (5, vI l5), (6, vI l6), (7, vI l7), (8, vI l8), (9, vI x25)] [1, 2, 3, 4, 5, 6, 7, 0] rfl ?_
        exact t_X9_trend_b109 g f ih hf
      · have hf := it_t hf c26
        refine V_iconst (v := 0) g dX9_trend_98 (by decide) ?_
        refine V_goto g 109 dX9_trend_99 (by decide) ?_
        refine V_sub [(0, vR 9 l0), (3, vI l3), (4, vI l4), (5, vI l5), (6, vI l6), (7, vI l7), (8, vI l8), (9, vI x25)] [1, 2, 3, 4, 5, 6, 7, 0] rfl ?_
        exact t_X9_trend_b109 g f ih hf
set_option maxRecDepth 20000 in
theorem t_X9_trend {G : GT} {l : Launch} (hl : l.stackTraces = false) {fu : Nat} {s s' : St} {a0 : Nat} {a1 : Int32} {a2 : Int32} {a3 : Int32} {w' : Int64} (hf : f_X9_trend fu s a0 a1 a2 a3 = some (s', w')) : MetG G l yX9_trend (.code yX9_trend cX9_trend 12 (some .long)) 5 s [vR 9 a0, vI a1, vI a2, vI a3] (s', .inl (some (vJ w'))) := by
  refine MetG_of hl (by decide +kernel) (Nat.le_of_ble_eq_true rfl) (fun E g f eG eL => ?_)
  subst eG; subst eL
  have g : GX E "ThinSeriesModel" cX9_trend 12 5 := g
  have f : FX E "trend" (some .long) [] := f
  show V E 12 (QE E (s', .inl (some (vJ w')))) s 0 [(0, vR 9 a0), (1, vI a1), (2, vI a2), (3, vI a3)] []
  unfold f_X9_trend at hf
  refine V_aload_n g 0 dX9_trend_0 rfl ?_
  refine V_iconst (v := 0) g dX9_trend_1 (by decide) ?_
  obtain ⟨z1, hf⟩ := nz_some hf
  obtain ⟨s2, es2, hf⟩ := lt_some hf
  refine V_putI g 9 a0 3 es2 rfl (by decide) rfl q_1236 z1 (Or.inl rfl) pf_9_3 dX9_trend_2 ?_
  refine V_aload_n g 0 dX9_trend_5 rfl ?_
  refine V_iload_n g 1 dX9_trend_6 rfl ?_
  obtain ⟨s3, x4, hc, hf⟩ := bI_some hf
  refine cV1 g [vI a1] [] s3 (vI x4) cf_X9_isSeries (t_X9_isSeries g.2.2.2.2.2.2.1 hc) (RC_own g rfl z1) z1 (by decide) q_1727 (Nat.le_of_ble_eq_true rfl) dX9_trend_7 ?_ rfl
  refine V_if_eq g 33 dX9_trend_10 (by decide) (fun c5 => ?_) (fun c5 => ?_)
  · have hf := it_t hf c5
    refine V_sub [(0, vR 9 a0)] [0] rfl ?_
    exact t_X9_trend_b33 g f hf
  · have hf := it_f hf c5
    refine V_aload_n g 0 dX9_trend_13 rfl ?_
    refine V_iload_n g 2 dX9_trend_14 rfl ?_
    obtain ⟨s6, x7, hc, hf⟩ := bI_some hf
    refine cV1 g [vI a2] [] s6 (vI x7) cf_X9_isTier (t_X9_isTier g.2.2.2.2.2.2.1 hc) (RC_own g rfl z1) z1 (by decide) q_1715 (Nat.le_of_ble_eq_true rfl) dX9_trend_15 ?_ rfl
    refine V_if_eq g 33 dX9_trend_18 (by decide) (fun c8 => ?_) (fun c8 => ?_)
    · have hf := it_t hf c8
      refine V_sub [(0, vR 9 a0)] [0] rfl ?_
      exact t_X9_trend_b33 g f hf
    · have hf := it_f hf c8
      refine V_iload_n g 3 dX9_trend_21 rfl ?_
      refine V_i2l g dX9_trend_22 ?_
      refine V_lconst (v := 0) g dX9_trend_23 (by decide) ?_
      refine V_ldc2 (v := 3) g q_1800 dX9_trend_24 ?_
      obtain ⟨s9, x10, hc, hf⟩ := bI_some hf
      refine cS1 g [vJ (Int32.toInt64 a3), vJ 0, vJ 3] [] s9 (vI x10) cf_X9_isIn (t_X9_isIn g.2.2.2.2.2.2.1 hc) (by decide) q_1512 (Nat.le_of_ble_eq_true rfl) dX9_trend_27 ?_ rfl
      refine V_if_ne g 40 dX9_trend_30 (by decide) (fun c11 => ?_) (fun c11 => ?_)
      · have hf := it_f hf c11
        refine V_iconst (v := 0) g dX9_trend_40 (by decide) ?_
        refine V_istore g [(4, vI 0), (0, vR 9 a0), (1, vI a1), (2, vI a2), (3, vI a3)] dX9_trend_41 rfl (by decide) rfl ?_
        refine V_iconst (v := 0) g dX9_trend_43 (by decide) ?_
        refine V_istore g [(5, vI 0), (4, vI 0), (0, vR 9 a0), (1, vI a1), (2, vI a2), (3, vI a3)] dX9_trend_44 rfl (by decide) rfl ?_
        refine V_iconst (v := 0) g dX9_trend_46 (by decide) ?_
        refine V_istore g [(6, vI 0), (5, vI 0), (4, vI 0), (0, vR 9 a0), (1, vI a1), (2, vI a2), (3, vI a3)] dX9_trend_47 rfl (by decide) rfl ?_
        refine V_sipush (v := (-20000)) g dX9_trend_49 (by decide) ?_
        refine V_istore g [(7, vI ((-20000))), (6, vI 0), (5, vI 0), (4, vI 0), (0, vR 9 a0), (1, vI a1), (2, vI a2), (3, vI a3)] dX9_trend_52 rfl (by decide) rfl ?_
        refine V_aload_n g 4 dX9_trend_54 rfl ?_
        refine V_iload_n g 5 dX9_trend_55 rfl ?_
        refine V_iload_n g 6 dX9_trend_56 rfl ?_
        obtain ⟨s12, x13, hc, hf⟩ := bI_some hf
        refine cV1 g [vI a1, vI a2] [] s12 (vI x13) cf_X9_tierTo (t_X9_tierTo g.2.2.2.2.2.2.1 hc) (RC_own g rfl z1) z1 (by decide) q_1754 (Nat.le_of_ble_eq_true rfl) dX9_trend_57 ?_ rfl
        refine V_istore g [(8, vI x13), (7, vI ((-20000))), (6, vI 0), (5, vI 0), (4, vI 0), (0, vR 9 a0), (1, vI a1), (2, vI a2), (3, vI a3)] dX9_trend_60 rfl (by decide) rfl ?_
        refine V_aload_n g 5 dX9_trend_62 rfl ?_
        refine V_iload_n g 6 dX9_trend_63 rfl ?_
        refine V_iload_n g 7 dX9_trend_64 rfl ?_
        obtain ⟨s14, x15, hc, hf⟩ := bI_some hf
        refine cV1 g [vI a1, vI a2] [] s14 (vI x15) cf_X9_tierFrom (t_X9_tierFrom g.2.2.2.2.2.2.1 hc) (RC_own g rfl z1) z1 (by decide) q_1758 (Nat.le_of_ble_eq_true rfl) dX9_trend_65 ?_ rfl
        refine V_istore g [(9, vI x15), (8, vI x13), (7, vI ((-20000))), (6, vI 0), (5, vI 0), (4, vI 0), (0, vR 9 a0), (1, vI a1), (2, vI a2), (3, vI a3)] dX9_trend_68 rfl (by decide) rfl ?_
        refine V_sipush (v := (-20000)) g dX9_trend_70 (by decide) ?_
        refine V_istore g [(10, vI ((-20000))), (9, vI x15), (8, vI x13), (7, vI ((-20000))), (6, vI 0), (5, vI 0), (4, vI 0), (0, vR 9 a0), (1, vI a1), (2, vI a2), (3, vI a3)] dX9_trend_73 rfl (by decide) rfl ?_
        refine V_sub [(0, vR 9 a0), (3, vI a3), (4, vI 0), (5, vI 0), (6, vI 0), (7, vI ((-20000))), (8, vI x13), (9, vI x15), (10, vI ((-20000)))] [7, 10, 6, 5, 4, 3, 2, 1, 0] rfl ?_
        exact t_X9_trend_b75 g f _ s14 a0 a3 0 0 0 ((-20000)) x13 x15 ((-20000)) hf
      · have hf := it_t hf c11
        refine V_sub [(0, vR 9 a0)] [0] rfl ?_
        exact t_X9_trend_b33 g f hf
set_option maxRecDepth 20000 in
theorem t_X9_until_b21 {E : ET} {fu : Nat} {s' : St} {w' : Int32} (g : GX E "ThinSeriesModel" cX9_until 7 3) (f : FX E "until" (some .int) []) {s : St} {l0 : Nat} (hf : f_X9_until_b21 fu s l0 = some (s', w')) : V E 7 (QE E (s', .inl (some (vI w')))) s 21 [(0, vR 9 l0)] [] := by
  unfold f_X9_until_b21 at hf
  refine V_aload_n g 0 dX9_until_21 rfl ?_
  refine V_iconst (v := 1) g dX9_until_22 (by decide) ?_
  obtain ⟨z17, hf⟩ := nz_some hf
  obtain ⟨s18, x19, hc, hf⟩ := bI_some hf
  refine cV1 g [vI 1] [] s18 (vI x19) cf_X9_fail (t_X9_fail g.2.2.2.2.2.2.1 hc) (RC_own g rfl z17) z17 (by decide) q_1454 (Nat.le_of_ble_eq_true rfl) dX9_until_23 ?_ rfl
  cases hf
  exact V_ireturn g f dX9_until_26
set_option maxRecDepth 20000 in
theorem t_X9_until_b97 {E : ET} {fu : Nat} {s' : St} {w' : Int32} (g : GX E "ThinSeriesModel" cX9_until 7 3) (f : FX E "until" (some .int) []) {k54 : St → Nat → Int32 → Int32 → Int32 → Int32 → Option (St × Int32)} (hk54 : ∀ (s : St) (l0 : Nat) (l2 : Int32) (l3 : Int32) (l4 : Int32) (l5 : Int32), k54 s l0 l2 l3 l4 l5 = some (s', w') → V E 7 (QE E (s', .inl (some (vI w')))) s 54 [(0, vR 9 l0), (2, vI l2), (3, vI l3), (4, vI l4), (5, vI l5)] []) {s : St} {l0 : Nat} {l2 : Int32} {l3 : Int32} {l4 : Int32} {l5 : Int32} (hf : f_X9_until_b97 fu k54 s l0 l2 l3 l4 l5 = some (s', w')) : V E 7 (QE E (s', .inl (some (vI w')))) s 97 [(0, vR 9 l0), (2, vI l2), (3, vI l3), (4, vI l4), (5, vI l5)] [] := by
  unfold f_X9_until_b97 at hf
  refine V_goto g 54 dX9_until_97 (by decide) ?_
  exact hk54 s l0 l2 l3 l4 l5 hf
set_option maxRecDepth 20000 in
theorem t_X9_until_b114 {E : ET} {fu : Nat} {s' : St} {w' : Int32} (g : GX E "ThinSeriesModel" cX9_until 7 3) (f : FX E "until" (some .int) []) {s : St} {t0 : Int32} (hf : f_X9_until_b114 fu s t0 = some (s', w')) : V E 7 (QE E (s', .inl (some (vI w')))) s 114 [] [vI t0] := by
  unfold f_X9_until_b114 at hf
  cases hf
  exact V_ireturn g f dX9_until_114
set_option maxRecDepth 20000 in
theorem t_X9_until_b54 {E : ET} {fu : Nat} {s' : St} {w' : Int32} (g : GX E "ThinSeriesModel" cX9_until 7 3) (f : FX E "until" (some .int) []) : ∀ (n : Nat) (s : St) (l0 : Nat) (l2 : Int32) (l3 : Int32) (l4 : Int32) (l5 : Int32), f_X9_until_b54 fu n s l0 l2 l3 l4 l5 = some (s', w') → V E 7 (QE E (s', .inl (some (vI w')))) s 54 [(0, vR 9 l0), (2, vI l2), (3, vI l3), (4, vI l4), (5, vI l5)] [] := by
  intro n
  induction n with
  | zero =>
    intro s l0 l2 l3 l4 l5 hf
    unfold f_X9_until_b54 at hf
    exact nomatch hf
  | succ n ih =>
    intro s l0 l2 l3 l4 l5 hf
    unfold f_X9_until_b54 at hf
    refine V_iload g 3 dX9_until_54 rfl ?_
    refine V_iload g 4 dX9_until_56 rfl ?_
    refine V_icmp_ge g 100 dX9_until_58 (by decide) (fun c20 => ?_) (fun c20 => ?_)
    · have hf := it_t hf c20
      refine V_iload g 3 dX9_until_100 rfl ?_
      refine V_ldcw (v := 1000000) g q_1691 dX9_until_102 ?_
      refine V_icmp_le g 112 dX9_until_105 (by decide) (fun c21 => ?_) (fun c21 => ?_)
      · have hf := it_t hf c21
        refine V_iload g 3 dX9_until_112 rfl ?_
        refine V_sub [] [] rfl ?_
        exact t_X9_until_b114 g f hf
      · have hf := it_f hf c21
        refine V_iconst (v := (-1)) g dX9_until_108 (by decide) ?_
        refine V_goto g 114 dX9_until_109 (by decide) ?_
        refine V_sub [] [] rfl ?_
        exact t_X9_until_b114 g f hf
    · have hf := it_f hf c20
      refine V_iload g 3 dX9_until_61 rfl ?_
      refine V_iload g 4 dX9_until_63 rfl ?_
      refine V_iload g 3 dX9_until_65 rfl ?_
      refine V_isub g dX9_until_67 ?_
      refine V_iconst (v := 2) g dX9_until_68 (by decide) ?_
      refine V_idiv g dX9_until_69 (by decide) ?_
      refine V_iadd g dX9_until_70 ?_
      obtain ⟨x23, ex23, hf⟩ := lt_some hf
      refine V_istore g [(6, vI x23), (0, vR 9 l0), (2, vI l2), (3, vI l3), (4, vI l4), (5, vI l5)] dX9_until_71 ex23 (by decide) rfl ?_
      refine V_iload_n g 3 dX9_until_73 rfl ?_
      refine V_aload_n g 1 dX9_until_74 rfl ?_
      refine V_iload g 0 dX9_until_75 rfl ?_
      refine V_iload_n g 2 dX9_until_77 rfl ?_
      obtain ⟨z24, hf⟩ := nz_some hf
      obtain ⟨s25, x26, hc, hf⟩ := bI_some hf
      refine cV1 g [vI x23, vI l2] [vI l3] s25 (vI x26) cf_X9_seamBy (t_X9_seamBy g.2.2.2.2.2.2.1 hc) (RC_own g rfl z24) z24 (by decide) q_1593 (Nat.le_of_ble_eq_true rfl) dX9_until_78 ?_ rfl
      refine V_icmp_ge g 91 dX9_until_81 (by decide) (fun c27 => ?_) (fun c27 => ?_)
      · have hf := it_t hf c27
        refine V_iload g 0 dX9_until_91 rfl ?_
        refine V_iconst (v := 1) g dX9_until_93 (by decide) ?_
        refine V_iadd g dX9_until_94 ?_
        obtain ⟨x28, ex28, hf⟩ := lt_some hf
        refine V_istore g [(4, vI x28), (6, vI x23), (0, vR 9 l0), (2, vI l2), (3, vI l3), (5, vI l5)] dX9_until_95 ex28 (by decide) rfl ?_
        refine V_sub [(0, vR 9 l0), (2, vI l2), (3, vI l3), (4, vI x28), (5, vI l5)] [2, 3, 4, 0, 5] rfl ?_
        exact t_X9_until_b97 g f ih hf
      · have hf := it_f hf c27
        refine V_iload g 0 dX9_until_84 rfl ?_
        refine V_istore g [(5, vI x23), (6, vI x23), (0, vR 9 l0), (2, vI l2), (3, vI l3), (4, vI l4)] dX9_until_86 rfl (by decide) rfl ?_
        refine V_goto g 97 dX9_until_88 (by decide) ?_
        refine V_sub [(0, vR 9 l0), (2, vI l2), (3, vI l3), (4, vI l4), (5, vI x23)] [2, 3, 4, 5, 0] rfl ?_
        exact t_X9_until_b97 g f ih hf
set_option maxRecDepth 20000 in
theorem t_X9_until {G : GT} {l : Launch} (hl : l.stackTraces = false) {fu : Nat} {s s' : St} {a0 : Nat} {a1 : Int32} {a2 : Int32} {a3 : Int32} {w' : Int32} (hf : f_X9_until fu s a0 a1 a2 a3 = some (s', w')) : MetG G l yX9_until (.code yX9_until cX9_until 7 (some .int)) 3 s [vR 9 a0, vI a1, vI a2, vI a3] (s', .inl (some (vI w'))) := by
  refine MetG_of hl (by decide +kernel) (Nat.le_of_ble_eq_true rfl) (fun E g f eG eL => ?_)
  subst eG; subst eL
  have g : GX E "ThinSeriesModel" cX9_until 7 3 := g
  have f : FX E "until" (some .int) [] := f
  show V E 7 (QE E (s', .inl (some (vI w')))) s 0 [(0, vR 9 a0), (1, vI a1), (2, vI a2), (3, vI a3)] []
  unfold f_X9_until at hf
  refine V_aload_n g 0 dX9_until_0 rfl ?_
  refine V_iconst (v := 0) g dX9_until_1 (by decide) ?_
  obtain ⟨z1, hf⟩ := nz_some hf
  obtain ⟨s2, es2, hf⟩ := lt_some hf
  refine V_putI g 9 a0 3 es2 rfl (by decide) rfl q_1236 z1 (Or.inl rfl) pf_9_3 dX9_until_2 ?_
  refine V_aload_n g 0 dX9_until_5 rfl ?_
  refine V_iload_n g 1 dX9_until_6 rfl ?_
  obtain ⟨s3, x4, hc, hf⟩ := bI_some hf
  refine cV1 g [vI a1] [] s3 (vI x4) cf_X9_isSeries (t_X9_isSeries g.2.2.2.2.2.2.1 hc) (RC_own g rfl z1) z1 (by decide) q_1727 (Nat.le_of_ble_eq_true rfl) dX9_until_7 ?_ rfl
  refine V_if_eq g 21 dX9_until_10 (by decide) (fun c5 => ?_) (fun c5 => ?_)
  · have hf := it_t hf c5
    refine V_sub [(0, vR 9 a0)] [0] rfl ?_
    exact t_X9_until_b21 g f hf
  · have hf := it_f hf c5
    refine V_aload_n g 0 dX9_until_13 rfl ?_
    refine V_iload_n g 2 dX9_until_14 rfl ?_
    obtain ⟨s6, x7, hc, hf⟩ := bI_some hf
    refine cV1 g [vI a2] [] s6 (vI x7) cf_X9_isTier (t_X9_isTier g.2.2.2.2.2.2.1 hc) (RC_own g rfl z1) z1 (by decide) q_1715 (Nat.le_of_ble_eq_true rfl) dX9_until_15 ?_ rfl
    refine V_if_ne g 27 dX9_until_18 (by decide) (fun c8 => ?_) (fun c8 => ?_)
    · have hf := it_f hf c8
      refine V_iload_n g 3 dX9_until_27 rfl ?_
      refine V_i2l g dX9_until_28 ?_
      obtain ⟨s9, x10, hc, hf⟩ := bI_some hf
      refine cS1 g [vJ (Int32.toInt64 a3)] [] s9 (vI x10) cf_X9_isTime (t_X9_isTime g.2.2.2.2.2.2.1 hc) (by decide) q_1571 (Nat.le_of_ble_eq_true rfl) dX9_until_29 ?_ rfl
      refine V_if_ne g 41 dX9_until_32 (by decide) (fun c11 => ?_) (fun c11 => ?_)
      · have hf := it_f hf c11
        refine V_aload_n g 0 dX9_until_41 rfl ?_
        refine V_getR g 9 a0 11 10 rfl (by decide) rfl rfl q_1244 z1 dX9_until_42 ?_
        refine V_iload_n g 1 dX9_until_45 rfl ?_
        obtain ⟨z12, hf⟩ := nz_some hf
        obtain ⟨h13, hf⟩ := ckf hf
        refine V_iald g z12 h13 dX9_until_46 ?_
        obtain ⟨x14, ex14, hf⟩ := lt_some hf
        refine V_istore g [(4, vI x14), (0, vR 9 a0), (1, vI a1), (2, vI a2), (3, vI a3)] dX9_until_47 ex14 (by decide) rfl ?_
        refine V_ldcw (v := 1000001) g q_1833 dX9_until_49 ?_
        refine V_istore g [(5, vI 1000001), (4, vI x14), (0, vR 9 a0), (1, vI a1), (2, vI a2), (3, vI a3)] dX9_until_52 rfl (by decide) rfl ?_
        refine V_sub [(0, vR 9 a0), (2, vI a2), (3, vI a3), (4, vI x14), (5, vI 1000001)] [2, 4, 5, 1, 0] rfl ?_
        exact t_X9_until_b54 g f _ s9 a0 a2 a3 x14 1000001 hf
      · have hf := it_t hf c11
        refine V_aload_n g 0 dX9_until_35 rfl ?_
        refine V_iconst (v := 2) g dX9_until_36 (by decide) ?_
        obtain ⟨s15, x16, hc, hf⟩ := bI_some hf
        refine cV1 g [vI 2] [] s15 (vI x16) cf_X9_fail (t_X9_fail g.2.2.2.2.2.2.1 hc) (RC_own g rfl z1) z1 (by decide) q_1454 (Nat.le_of_ble_eq_true rfl) dX9_until_37 ?_ rfl
        cases hf
        exact V_ireturn g f dX9_until_40
    · have hf := it_t hf c8
      refine V_sub [(0, vR 9 a0)] [0] rfl ?_
      exact t_X9_until_b21 g f hf
set_option maxRecDepth 20000 in
theorem t_X9_used_b57 {E : ET} {fu : Nat} {s' : St} {w' : Int32} (g : GX E "ThinSeriesModel" cX9_used 5 1) (f : FX E "used" (some .int) []) {k7 : St → Nat → Int32 → Int32 → Option (St × Int32)} (hk7 : ∀ (s : St) (l0 : Nat) (l1 : Int32) (l2 : Int32), k7 s l0 l1 l2 = some (s', w') → V E 5 (QE E (s', .inl (some (vI w')))) s 7 [(0, vR 9 l0), (1, vI l1), (2, vI l2)] []) {k18 : St → Nat → Int32 → Int32 → Int32 → Int32 → Option (St × Int32)} (hk18 : ∀ (s : St) (l0 : Nat) (l1 : Int32) (l2 : Int32) (l3 : Int32) (l4 : Int32), k18 s l0 l1 l2 l3 l4 = some (s', w') → V E 5 (QE E (s', .inl (some (vI w')))) s 18 [(0, vR 9 l0), (1, vI l1), (2, vI l2), (3, vI l3), (4, vI l4)] []) {s : St} {l0 : Nat} {l1 : Int32} {l2 : Int32} {l4 : Int32} {t0 : Int32} {t1 : Int32} (hf : f_X9_used_b57 fu k7 k18 s l0 l1 l2 l4 t0 t1 = some (s', w')) : V E 5 (QE E (s', .inl (some (vI w')))) s 57 [(0, vR 9 l0), (1, vI l1), (2, vI l2), (4, vI l4)] [vI t0, vI t1] := by
  unfold f_X9_used_b57 at hf
  refine V_iadd g dX9_used_57 ?_
  obtain ⟨x21, ex21, hf⟩ := lt_some hf
  refine V_istore_n g [(3, vI x21), (0, vR 9 l0), (1, vI l1), (2, vI l2), (4, vI l4)] dX9_used_58 ex21 (by decide) rfl ?_
  obtain ⟨x22, ex22, hf⟩ := lt_some hf
  refine V_iinc g 4 [(4, vI x22), (3, vI x21), (0, vR 9 l0), (1, vI l1), (2, vI l2)] dX9_used_59 rfl (by rw [ex22]; rfl) (by decide) rfl ?_
  refine V_goto g 18 dX9_used_62 (by decide) ?_
  refine V_sub [(0, vR 9 l0), (1, vI l1), (2, vI l2), (3, vI x21), (4, vI x22)] [2, 3, 4, 1, 0] rfl ?_
  exact hk18 s l0 l1 l2 x21 x22 hf
set_option maxRecDepth 20000 in
theorem t_X9_used_b56 {E : ET} {fu : Nat} {s' : St} {w' : Int32} (g : GX E "ThinSeriesModel" cX9_used 5 1) (f : FX E "used" (some .int) []) {k7 : St → Nat → Int32 → Int32 → Option (St × Int32)} (hk7 : ∀ (s : St) (l0 : Nat) (l1 : Int32) (l2 : Int32), k7 s l0 l1 l2 = some (s', w') → V E 5 (QE E (s', .inl (some (vI w')))) s 7 [(0, vR 9 l0), (1, vI l1), (2, vI l2)] []) {k18 : St → Nat → Int32 → Int32 → Int32 → Int32 → Option (St × Int32)} (hk18 : ∀ (s : St) (l0 : Nat) (l1 : Int32) (l2 : Int32) (l3 : Int32) (l4 : Int32), k18 s l0 l1 l2 l3 l4 = some (s', w') → V E 5 (QE E (s', .inl (some (vI w')))) s 18 [(0, vR 9 l0), (1, vI l1), (2, vI l2), (3, vI l3), (4, vI l4)] []) {s : St} {l0 : Nat} {l1 : Int32} {l2 : Int32} {l4 : Int32} {t0 : Int32} (hf : f_X9_used_b56 fu k7 k18 s l0 l1 l2 l4 t0 = some (s', w')) : V E 5 (QE E (s', .inl (some (vI w')))) s 56 [(0, vR 9 l0), (1, vI l1), (2, vI l2), (4, vI l4)] [vI t0] := by
  unfold f_X9_used_b56 at hf
  refine V_iconst (v := 0) g dX9_used_56 (by decide) ?_
  exact t_X9_used_b57 g f hk7 hk18 hf
set_option maxRecDepth 20000 in
theorem t_X9_used_b81 {E : ET} {fu : Nat} {s' : St} {w' : Int32} (g : GX E "ThinSeriesModel" cX9_used 5 1) (f : FX E "used" (some .int) []) {k7 : St → Nat → Int32 → Int32 → Option (St × Int32)} (hk7 : ∀ (s : St) (l0 : Nat) (l1 : Int32) (l2 : Int32), k7 s l0 l1 l2 = some (s', w') → V E 5 (QE E (s', .inl (some (vI w')))) s 7 [(0, vR 9 l0), (1, vI l1), (2, vI l2)] []) {s : St} {l0 : Nat} {l1 : Int32} {l2 : Int32} (hf : f_X9_used_b81 fu k7 s l0 l1 l2 = some (s', w')) : V E 5 (QE E (s', .inl (some (vI w')))) s 81 [(0, vR 9 l0), (1, vI l1), (2, vI l2)] [] := by
  unfold f_X9_used_b81 at hf
  obtain ⟨x23, ex23, hf⟩ := lt_some hf
  refine V_iinc g 2 [(2, vI x23), (0, vR 9 l0), (1, vI l1)] dX9_used_81 rfl (by rw [ex23]; rfl) (by decide) rfl ?_
  refine V_goto g 7 dX9_used_84 (by decide) ?_
  refine V_sub [(0, vR 9 l0), (1, vI l1), (2, vI x23)] [1, 2, 0] rfl ?_
  exact hk7 s l0 l1 x23 hf
set_option maxRecDepth 20000 in
theorem t_X9_used_b18 {E : ET} {fu : Nat} {s' : St} {w' : Int32} (g : GX E "ThinSeriesModel" cX9_used 5 1) (f : FX E "used" (some .int) []) {k7 : St → Nat → Int32 → Int32 → Option (St × Int32)} (hk7 : ∀ (s : St) (l0 : Nat) (l1 : Int32) (l2 : Int32), k7 s l0 l1 l2 = some (s', w') → V E 5 (QE E (s', .inl (some (vI w')))) s 7 [(0, vR 9 l0), (1, vI l1), (2, vI l2)] []) : ∀ (n : Nat) (s : St) (l0 : Nat) (l1 : Int32) (l2 : Int32) (l3 : Int32) (l4 : Int32), f_X9_used_b18 fu k7 n s l0 l1 l2 l3 l4 = some (s', w') → V E 5 (QE E (s', .inl (some (vI w')))) s 18 [(0, vR 9 l0), (1, vI l1), (2, vI l2), (3, vI l3), (4, vI l4)] [] := by
  intro n
  induction n with
  | zero =>
    intro s l0 l1 l2 l3 l4 hf
    unfold f_X9_used_b18 at hf
    exact nomatch hf
  | succ n ih =>
    intro s l0 l1 l2 l3 l4 hf
    unfold f_X9_used_b18 at hf
    refine V_iload g 4 dX9_used_18 rfl ?_
    refine V_bipush (v := 10) g dX9_used_20 (by decide) ?_
    refine V_icmp_ge g 65 dX9_used_22 (by decide) (fun c7 => ?_) (fun c7 => ?_)
    · have hf := it_t hf c7
      refine V_aload_n g 0 dX9_used_65 rfl ?_
      obtain ⟨z8, hf⟩ := nz_some hf
      refine V_getR g 9 l0 10 13 rfl (by decide) rfl rfl q_1243 z8 dX9_used_66 ?_
      refine V_iload_n g 2 dX9_used_69 rfl ?_
      obtain ⟨z9, hf⟩ := nz_some hf
      obtain ⟨h10, hf⟩ := ckf hf
      refine V_zald g z9 h10 dX9_used_70 ?_
      refine V_if_eq g 81 dX9_used_71 (by decide) (fun c11 => ?_) (fun c11 => ?_)
      · have hf := it_t hf c11
        refine V_sub [(0, vR 9 l0), (1, vI l1), (2, vI l2)] [0, 1, 2] rfl ?_
        exact t_X9_used_b81 g f hk7 hf
      · have hf := it_f hf c11
        refine V_iload_n g 3 dX9_used_74 rfl ?_
        refine V_iload_n g 1 dX9_used_75 rfl ?_
        refine V_icmp_ne g 81 dX9_used_76 (by decide) (fun c12 => ?_) (fun c12 => ?_)
        · have hf := it_f hf c12
          refine V_sub [(0, vR 9 l0), (1, vI l1), (2, vI l2)] [0, 1, 2] rfl ?_
          exact t_X9_used_b81 g f hk7 hf
        · have hf := it_t hf c12
          refine V_iload_n g 2 dX9_used_79 rfl ?_
          cases hf
          exact V_ireturn g f dX9_used_80
    · have hf := it_f hf c7
      refine V_iload_n g 3 dX9_used_25 rfl ?_
      refine V_aload_n g 0 dX9_used_26 rfl ?_
      obtain ⟨z13, hf⟩ := nz_some hf
      refine V_getR g 9 l0 10 13 rfl (by decide) rfl rfl q_1243 z13 dX9_used_27 ?_
      refine V_iload g 4 dX9_used_30 rfl ?_
      obtain ⟨z14, hf⟩ := nz_some hf
      obtain ⟨h15, hf⟩ := ckf hf
      refine V_zald g z14 h15 dX9_used_32 ?_
      refine V_if_eq g 56 dX9_used_33 (by decide) (fun c16 => ?_) (fun c16 => ?_)
      · have hf := it_t hf c16
        refine V_sub [(0, vR 9 l0), (1, vI l1), (2, vI l2), (4, vI l4)] [0, 1, 2, 4] rfl ?_
        exact t_X9_used_b56 g f hk7 ih hf
      · have hf := it_f hf c16
        refine V_aload_n g 0 dX9_used_36 rfl ?_
        refine V_getR g 9 l0 14 10 rfl (by decide) rfl rfl q_1247 z13 dX9_used_37 ?_
        refine V_iload g 4 dX9_used_40 rfl ?_
        obtain ⟨z17, hf⟩ := nz_some hf
        obtain ⟨h18, hf⟩ := ckf hf
        refine V_iald g z17 h18 dX9_used_42 ?_
        refine V_aload_n g 0 dX9_used_43 rfl ?_
        refine V_getR g 9 l0 14 10 rfl (by decide) rfl rfl q_1247 z13 dX9_used_44 ?_
        refine V_iload_n g 2 dX9_used_47 rfl ?_
        obtain ⟨h19, hf⟩ := ckf hf
        refine V_iald g z17 h19 dX9_used_48 ?_
        refine V_icmp_le g 56 dX9_used_49 (by decide) (fun c20 => ?_) (fun c20 => ?_)
        · have hf := it_t hf c20
          refine V_sub [(0, vR 9 l0), (1, vI l1), (2, vI l2), (4, vI l4)] [0, 1, 2, 4] rfl ?_
          exact t_X9_used_b56 g f hk7 ih hf
        · have hf := it_f hf c20
          refine V_iconst (v := 1) g dX9_used_52 (by decide) ?_
          refine V_goto g 57 dX9_used_53 (by decide) ?_
          refine V_sub [(0, vR 9 l0), (1, vI l1), (2, vI l2), (4, vI l4)] [0, 1, 2, 4] rfl ?_
          exact t_X9_used_b57 g f hk7 ih hf
set_option maxRecDepth 20000 in
theorem t_X9_used_b7 {E : ET} {fu : Nat} {s' : St} {w' : Int32} (g : GX E "ThinSeriesModel" cX9_used 5 1) (f : FX E "used" (some .int) []) : ∀ (n : Nat) (s : St) (l0 : Nat) (l1 : Int32) (l2 : Int32), f_X9_used_b7 fu n s l0 l1 l2 = some (s', w') → V E 5 (QE E (s', .inl (some (vI w')))) s 7 [(0, vR 9 l0), (1, vI l1), (2, vI l2)] [] := by
  intro n
  induction n with
  | zero =>
    intro s l0 l1 l2 hf
    unfold f_X9_used_b7 at hf
    exact nomatch hf
  | succ n ih =>
    intro s l0 l1 l2 hf
    unfold f_X9_used_b7 at hf
    refine V_iload_n g 2 dX9_used_7 rfl ?_
    refine V_bipush (v := 10) g dX9_used_8 (by decide) ?_
    refine V_icmp_ge g 87 dX9_used_10 (by decide) (fun c3 => ?_) (fun c3 => ?_)
    · have hf := it_t hf c3
      refine V_aload_n g 0 dX9_used_87 rfl ?_
      refine V_iconst (v := 1) g dX9_used_88 (by decide) ?_
      obtain ⟨z4, hf⟩ := nz_some hf
      obtain ⟨s5, x6, hc, hf⟩ := bI_some hf
      refine cV1 g [vI 1] [] s5 (vI x6) cf_X9_fail (t_X9_fail g.2.2.2.2.2.2.1 hc) (RC_own g rfl z4) z4 (by decide) q_1454 (Nat.le_of_ble_eq_true rfl) dX9_used_89 ?_ rfl
      cases hf
      exact V_ireturn g f dX9_used_92
    · have hf := it_f hf c3
      refine V_iconst (v := 0) g dX9_used_13 (by decide) ?_
      refine V_istore_n g [(3, vI 0), (0, vR 9 l0), (1, vI l1), (2, vI l2)] dX9_used_14 rfl (by decide) rfl ?_
      refine V_iconst (v := 0) g dX9_used_15 (by decide) ?_
      refine V_istore g [(4, vI 0), (3, vI 0), (0, vR 9 l0), (1, vI l1), (2, vI l2)] dX9_used_16 rfl (by decide) rfl ?_
      refine V_sub [(0, vR 9 l0), (1, vI l1), (2, vI l2), (3, vI 0), (4, vI 0)] [2, 3, 4, 1, 0] rfl ?_
      exact t_X9_used_b18 g f ih _ s l0 l1 l2 0 0 hf
set_option maxRecDepth 20000 in
theorem t_X9_used {G : GT} {l : Launch} (hl : l.stackTraces = false) {fu : Nat} {s s' : St} {a0 : Nat} {a1 : Int32} {w' : Int32} (hf : f_X9_used fu s a0 a1 = some (s', w')) : MetG G l yX9_used (.code yX9_used cX9_used 5 (some .int)) 1 s [vR 9 a0, vI a1] (s', .inl (some (vI w'))) := by
  refine MetG_of hl (by decide +kernel) (Nat.le_of_ble_eq_true rfl) (fun E g f eG eL => ?_)
  subst eG; subst eL
  have g : GX E "ThinSeriesModel" cX9_used 5 1 := g
  have f : FX E "used" (some .int) [] := f
  show V E 5 (QE E (s', .inl (some (vI w')))) s 0 [(0, vR 9 a0), (1, vI a1)] []
  unfold f_X9_used at hf
  refine V_aload_n g 0 dX9_used_0 rfl ?_
  refine V_iconst (v := 0) g dX9_used_1 (by decide) ?_
  obtain ⟨z1, hf⟩ := nz_some hf
  obtain ⟨s2, es2, hf⟩ := lt_some hf
  refine V_putI g 9 a0 3 es2 rfl (by decide) rfl q_1236 z1 (Or.inl rfl) pf_9_3 dX9_used_2 ?_
  refine V_iconst (v := 0) g dX9_used_5 (by decide) ?_
  refine V_istore_n g [(2, vI 0), (0, vR 9 a0), (1, vI a1)] dX9_used_6 rfl (by decide) rfl ?_
  refine V_sub [(0, vR 9 a0), (1, vI a1), (2, vI 0)] [1, 2, 0] rfl ?_
  exact t_X9_used_b7 g f _ s2 a0 a1 0 hf
