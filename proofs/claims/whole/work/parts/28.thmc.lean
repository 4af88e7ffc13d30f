set_option maxRecDepth 20000 in
theorem t_X8_allLinesWouldGo_b146 {E : ET} {fu : Nat} {s' : St} {w' : Int32} (g : GX E "ThinSeries" cX8_allLinesWouldGo 5 4) (f : FX E "allLinesWouldGo" (some .boolean) []) {k13 : St → Nat → Int32 → Option (St × Int32)} (hk13 : ∀ (s : St) (l0 : Nat) (l1 : Int32), k13 s l0 l1 = some (s', w') → V E 5 (QE E (s', .inl (some (vI w')))) s 13 [(0, vR 8 l0), (1, vI l1)] []) {s : St} {l0 : Nat} {l1 : Int32} (hf : f_X8_allLinesWouldGo_b146 fu k13 s l0 l1 = some (s', w')) : V E 5 (QE E (s', .inl (some (vI w')))) s 146 [(0, vR 8 l0), (1, vI l1)] [] := by
  unfold f_X8_allLinesWouldGo_b146 at hf
  obtain ⟨x39, ex39, hf⟩ := lt_some hf
  refine V_iinc g 1 [(1, vI x39), (0, vR 8 l0)] dX8_allLinesWouldGo_146 rfl (by rw [ex39]; rfl) (by decide) rfl ?_
  refine V_goto g 13 dX8_allLinesWouldGo_149 (by decide) ?_
  refine V_sub [(0, vR 8 l0), (1, vI x39)] [1, 0] rfl ?_
  exact hk13 s l0 x39 hf
set_option maxRecDepth 20000 in
theorem t_X8_allLinesWouldGo_b129 {E : ET} {fu : Nat} {s' : St} {w' : Int32} (g : GX E "ThinSeries" cX8_allLinesWouldGo 5 4) (f : FX E "allLinesWouldGo" (some .boolean) []) {k13 : St → Nat → Int32 → Option (St × Int32)} (hk13 : ∀ (s : St) (l0 : Nat) (l1 : Int32), k13 s l0 l1 = some (s', w') → V E 5 (QE E (s', .inl (some (vI w')))) s 13 [(0, vR 8 l0), (1, vI l1)] []) {s : St} {l0 : Nat} {l1 : Int32} {l2 : Int32} {l3 : Int32} (hf : f_X8_allLinesWouldGo_b129 fu k13 s l0 l1 l2 l3 = some (s', w')) : V E 5 (QE E (s', .inl (some (vI w')))) s 129 [(0, vR 8 l0), (1, vI l1), (2, vI l2), (3, vI l3)] [] := by
  unfold f_X8_allLinesWouldGo_b129 at hf
  refine V_aload_n g 0 dX8_allLinesWouldGo_129 rfl ?_
  obtain ⟨z34, hf⟩ := nz_some hf
  refine V_getR g 8 l0 5 4 rfl (by decide) rfl rfl q_317 z34 dX8_allLinesWouldGo_130 ?_
  refine V_iload_n g 2 dX8_allLinesWouldGo_133 rfl ?_
  refine V_iload_n g 3 dX8_allLinesWouldGo_134 rfl ?_
  refine V_aload_n g 0 dX8_allLinesWouldGo_135 rfl ?_
  refine V_getR g 8 l0 12 2 rfl (by decide) rfl rfl q_324 z34 dX8_allLinesWouldGo_136 ?_
  obtain ⟨z35, hf⟩ := nz_some hf
  refine V_getI g 2 (gR s 8 l0 12) 4 rfl (by decide) rfl q_300 z35 dX8_allLinesWouldGo_139 ?_
  obtain ⟨z36, hf⟩ := nz_some hf
  obtain ⟨s37, x38, hc, hf⟩ := bI_some hf
  refine cV1 g [vI l2, vI l3, vI (gI s 2 (gR s 8 l0 12) 4)] [] s37 (vI x38) cf_X4_use (t_X4_use g.2.2.2.2.2.2.1 hc) (RC_own g rfl z36) z36 (by decide) q_494 (Nat.le_of_ble_eq_true rfl) dX8_allLinesWouldGo_142 ?_ rfl
  refine V_pop g dX8_allLinesWouldGo_145 rfl ?_
  refine V_sub [(0, vR 8 l0), (1, vI l1)] [0, 1] rfl ?_
  exact t_X8_allLinesWouldGo_b146 g f hk13 hf
set_option maxRecDepth 20000 in
theorem t_X8_allLinesWouldGo_b13 {E : ET} {fu : Nat} {s' : St} {w' : Int32} (g : GX E "ThinSeries" cX8_allLinesWouldGo 5 4) (f : FX E "allLinesWouldGo" (some .boolean) []) : ∀ (n : Nat) (s : St) (l0 : Nat) (l1 : Int32), f_X8_allLinesWouldGo_b13 fu n s l0 l1 = some (s', w') → V E 5 (QE E (s', .inl (some (vI w')))) s 13 [(0, vR 8 l0), (1, vI l1)] [] := by
  intro n
  induction n with
  | zero =>
    intro s l0 l1 hf
    unfold f_X8_allLinesWouldGo_b13 at hf
    exact nomatch hf
  | succ n ih =>
    intro s l0 l1 hf
    unfold f_X8_allLinesWouldGo_b13 at hf
    refine V_iload_n g 1 dX8_allLinesWouldGo_13 rfl ?_
    refine V_aload_n g 0 dX8_allLinesWouldGo_14 rfl ?_
    obtain ⟨z4, hf⟩ := nz_some hf
    refine V_getR g 8 l0 3 1 rfl (by decide) rfl rfl q_315 z4 dX8_allLinesWouldGo_15 ?_
    obtain ⟨z5, hf⟩ := nz_some hf
    refine V_getI g 1 (gR s 8 l0 3) 5 rfl (by decide) rfl q_193 z5 dX8_allLinesWouldGo_18 ?_
    refine V_icmp_ge g 152 dX8_allLinesWouldGo_21 (by decide) (fun c6 => ?_) (fun c6 => ?_)
    · have hf := it_t hf c6
      refine V_iconst (v := 1) g dX8_allLinesWouldGo_152 (by decide) ?_
      obtain ⟨h7, hf⟩ := ckf hf
      cases hf
      exact V_zreturn g f (zb_n h7) dX8_allLinesWouldGo_153
    · have hf := it_f hf c6
      refine V_aload_n g 0 dX8_allLinesWouldGo_24 rfl ?_
      refine V_getR g 8 l0 3 1 rfl (by decide) rfl rfl q_315 z4 dX8_allLinesWouldGo_25 ?_
      refine V_getR g 1 (gR s 8 l0 3) 2 10 rfl (by decide) rfl rfl q_187 z5 dX8_allLinesWouldGo_28 ?_
      refine V_iload_n g 1 dX8_allLinesWouldGo_31 rfl ?_
      obtain ⟨z8, hf⟩ := nz_some hf
      obtain ⟨h9, hf⟩ := ckf hf
      refine V_iald g z8 h9 dX8_allLinesWouldGo_32 ?_
      obtain ⟨x10, ex10, hf⟩ := lt_some hf
      refine V_istore_n g [(2, vI x10), (0, vR 8 l0), (1, vI l1)] dX8_allLinesWouldGo_33 ex10 (by decide) rfl ?_
      refine V_aload_n g 1 dX8_allLinesWouldGo_34 rfl ?_
      refine V_getR g 8 l0 3 1 rfl (by decide) rfl rfl q_315 z4 dX8_allLinesWouldGo_35 ?_
      refine V_getR g 1 (gR s 8 l0 3) 3 10 rfl (by decide) rfl rfl q_189 z5 dX8_allLinesWouldGo_38 ?_
      refine V_iload_n g 2 dX8_allLinesWouldGo_41 rfl ?_
      obtain ⟨z11, hf⟩ := nz_some hf
      obtain ⟨h12, hf⟩ := ckf hf
      refine V_iald g z11 h12 dX8_allLinesWouldGo_42 ?_
      obtain ⟨x13, ex13, hf⟩ := lt_some hf
      refine V_istore_n g [(3, vI x13), (2, vI x10), (0, vR 8 l0), (1, vI l1)] dX8_allLinesWouldGo_43 ex13 (by decide) rfl ?_
      refine V_aload_n g 2 dX8_allLinesWouldGo_44 rfl ?_
      refine V_getR g 8 l0 3 1 rfl (by decide) rfl rfl q_315 z4 dX8_allLinesWouldGo_45 ?_
      refine V_getR g 1 (gR s 8 l0 3) 1 10 rfl (by decide) rfl rfl q_185 z5 dX8_allLinesWouldGo_48 ?_
      refine V_iload_n g 3 dX8_allLinesWouldGo_51 rfl ?_
      obtain ⟨z14, hf⟩ := nz_some hf
      obtain ⟨h15, hf⟩ := ckf hf
      refine V_iald g z14 h15 dX8_allLinesWouldGo_52 ?_
      refine V_iconst (v := 2) g dX8_allLinesWouldGo_53 (by decide) ?_
      refine V_icmp_ne g 89 dX8_allLinesWouldGo_54 (by decide) (fun c16 => ?_) (fun c16 => ?_)
      · have hf := it_f hf c16
        refine V_aload_n g 2 dX8_allLinesWouldGo_89 rfl ?_
        refine V_aload_n g 2 dX8_allLinesWouldGo_90 rfl ?_
        refine V_getR g 8 l0 5 4 rfl (by decide) rfl rfl q_317 z4 dX8_allLinesWouldGo_91 ?_
        refine V_iload_n g 1 dX8_allLinesWouldGo_94 rfl ?_
        refine V_iload_n g 0 dX8_allLinesWouldGo_95 rfl ?_
        obtain ⟨s17, x18, hc, hf⟩ := bI_some hf
        refine cV1 g [vR 4 (gR s 8 l0 5), vI x10, vI x13] [] s17 (vI x18) cf_X8_latenessIn (t_X8_latenessIn g.2.2.2.2.2.2.1 hc) (RC_own g rfl z4) z4 (by decide) q_403 (Nat.le_of_ble_eq_true rfl) dX8_allLinesWouldGo_96 ?_ rfl
        refine V_istore g [(4, vI x18), (3, vI x13), (2, vI x10), (0, vR 8 l0), (1, vI l1)] dX8_allLinesWouldGo_99 rfl (by decide) rfl ?_
        refine V_aload_n g 3 dX8_allLinesWouldGo_101 rfl ?_
        refine V_getR g 8 l0 3 1 rfl (by decide) rfl rfl q_315 z4 dX8_allLinesWouldGo_102 ?_
        obtain ⟨z19, hf⟩ := nz_some hf
        refine V_getR g 1 (gR s17 8 l0 3) 1 10 rfl (by decide) rfl rfl q_185 z19 dX8_allLinesWouldGo_105 ?_
        refine V_iload_n g 4 dX8_allLinesWouldGo_108 rfl ?_
        obtain ⟨z20, hf⟩ := nz_some hf
        obtain ⟨h21, hf⟩ := ckf hf
        refine V_iald g z20 h21 dX8_allLinesWouldGo_109 ?_
        refine V_if_ne g 129 dX8_allLinesWouldGo_110 (by decide) (fun c22 => ?_) (fun c22 => ?_)
        · have hf := it_f hf c22
          refine V_sub [(0, vR 8 l0), (1, vI l1), (2, vI x10), (3, vI x13)] [3, 4, 2, 1] rfl ?_
          exact t_X8_allLinesWouldGo_b129 g f ih hf
        · have hf := it_t hf c22
          refine V_iload g 0 dX8_allLinesWouldGo_113 rfl ?_
          refine V_if_le g 129 dX8_allLinesWouldGo_115 (by decide) (fun c23 => ?_) (fun c23 => ?_)
          · have hf := it_t hf c23
            refine V_sub [(0, vR 8 l0), (1, vI l1), (2, vI x10), (3, vI x13)] [3, 4, 2, 1] rfl ?_
            exact t_X8_allLinesWouldGo_b129 g f ih hf
          · have hf := it_f hf c23
            refine V_aload_n g 3 dX8_allLinesWouldGo_118 rfl ?_
            refine V_iconst (v := 4) g dX8_allLinesWouldGo_119 (by decide) ?_
            refine V_iconst (v := 2) g dX8_allLinesWouldGo_120 (by decide) ?_
            refine V_iload g 0 dX8_allLinesWouldGo_121 rfl ?_
            refine V_iload_n g 4 dX8_allLinesWouldGo_123 rfl ?_
            obtain ⟨s24, hc, hf⟩ := bV_some hf
            refine cV0 g [vI 4, vI 2, vI x18, vI l1] [] s24 cf_X8_explain (t_X8_explain g.2.2.2.2.2.2.1 hc) (RC_own g rfl z4) z4 (by decide) q_399 (Nat.le_of_ble_eq_true rfl) dX8_allLinesWouldGo_124 ?_ rfl
            refine V_iconst (v := 0) g dX8_allLinesWouldGo_127 (by decide) ?_
            obtain ⟨h25, hf⟩ := ckf hf
            cases hf
            exact V_zreturn g f (zb_n h25) dX8_allLinesWouldGo_128
      · have hf := it_t hf c16
        refine V_aload_n g 2 dX8_allLinesWouldGo_57 rfl ?_
        refine V_getR g 8 l0 5 4 rfl (by decide) rfl rfl q_317 z4 dX8_allLinesWouldGo_58 ?_
        refine V_iload_n g 1 dX8_allLinesWouldGo_61 rfl ?_
        obtain ⟨z26, hf⟩ := nz_some hf
        obtain ⟨s27, x28, hc, hf⟩ := bI_some hf
        refine cV1 g [vI x10] [] s27 (vI x28) cf_X4_knows (t_X4_knows g.2.2.2.2.2.2.1 hc) (RC_own g rfl z26) z26 (by decide) q_407 (Nat.le_of_ble_eq_true rfl) dX8_allLinesWouldGo_62 ?_ rfl
        refine V_if_ne g 78 dX8_allLinesWouldGo_65 (by decide) (fun c29 => ?_) (fun c29 => ?_)
        · have hf := it_f hf c29
          refine V_aload_n g 2 dX8_allLinesWouldGo_78 rfl ?_
          refine V_getR g 8 l0 5 4 rfl (by decide) rfl rfl q_317 z4 dX8_allLinesWouldGo_79 ?_
          refine V_iload_n g 1 dX8_allLinesWouldGo_82 rfl ?_
          obtain ⟨z30, hf⟩ := nz_some hf
          obtain ⟨s31, hc, hf⟩ := bV_some hf
          refine cV0 g [vI x10] [] s31 cf_X4_remove (t_X4_remove g.2.2.2.2.2.2.1 hc) (RC_own g rfl z30) z30 (by decide) q_596 (Nat.le_of_ble_eq_true rfl) dX8_allLinesWouldGo_83 ?_ rfl
          refine V_goto g 146 dX8_allLinesWouldGo_86 (by decide) ?_
          refine V_sub [(0, vR 8 l0), (1, vI l1)] [2, 3] rfl ?_
          exact t_X8_allLinesWouldGo_b146 g f ih hf
        · have hf := it_t hf c29
          refine V_aload_n g 2 dX8_allLinesWouldGo_68 rfl ?_
          refine V_iconst (v := 4) g dX8_allLinesWouldGo_69 (by decide) ?_
          refine V_iconst (v := 3) g dX8_allLinesWouldGo_70 (by decide) ?_
          refine V_iconst (v := (-1)) g dX8_allLinesWouldGo_71 (by decide) ?_
          refine V_iload_n g 3 dX8_allLinesWouldGo_72 rfl ?_
          obtain ⟨s32, hc, hf⟩ := bV_some hf
          refine cV0 g [vI 4, vI 3, vI ((-1)), vI l1] [] s32 cf_X8_explain (t_X8_explain g.2.2.2.2.2.2.1 hc) (RC_own g rfl z4) z4 (by decide) q_399 (Nat.le_of_ble_eq_true rfl) dX8_allLinesWouldGo_73 ?_ rfl
          refine V_iconst (v := 0) g dX8_allLinesWouldGo_76 (by decide) ?_
          obtain ⟨h33, hf⟩ := ckf hf
          cases hf
          exact V_zreturn g f (zb_n h33) dX8_allLinesWouldGo_77
set_option maxRecDepth 20000 in
theorem t_X8_allLinesWouldGo {G : GT} {l : Launch} (hl : l.stackTraces = false) {fu : Nat} {s s' : St} {a0 : Nat} {w' : Int32} (hf : f_X8_allLinesWouldGo fu s a0 = some (s', w')) : MetG G l yX8_allLinesWouldGo (.code yX8_allLinesWouldGo cX8_allLinesWouldGo 5 (some .boolean)) 4 s [vR 8 a0] (s', .inl (some (vI w'))) := by
  refine MetG_of hl (by decide +kernel) (Nat.le_of_ble_eq_true rfl) (fun E g f eG eL => ?_)
  subst eG; subst eL
  have g : GX E "ThinSeries" cX8_allLinesWouldGo 5 4 := g
  have f : FX E "allLinesWouldGo" (some .boolean) [] := f
  show V E 5 (QE E (s', .inl (some (vI w')))) s 0 [(0, vR 8 a0)] []
  unfold f_X8_allLinesWouldGo at hf
  refine V_aload_n g 0 dX8_allLinesWouldGo_0 rfl ?_
  obtain ⟨z1, hf⟩ := nz_some hf
  refine V_getR g 8 a0 5 4 rfl (by decide) rfl rfl q_317 z1 dX8_allLinesWouldGo_1 ?_
  refine V_aload_n g 0 dX8_allLinesWouldGo_4 rfl ?_
  refine V_getR g 8 a0 4 4 rfl (by decide) rfl rfl q_316 z1 dX8_allLinesWouldGo_5 ?_
  obtain ⟨z2, hf⟩ := nz_some hf
  obtain ⟨s3, hc, hf⟩ := bV_some hf
  refine cV0 g [vR 4 (gR s 8 a0 4)] [] s3 cf_X4_copyFrom (t_X4_copyFrom g.2.2.2.2.2.2.1 hc) (RC_own g rfl z2) z2 (by decide) q_951 (Nat.le_of_ble_eq_true rfl) dX8_allLinesWouldGo_8 ?_ rfl
  refine V_iconst (v := 0) g dX8_allLinesWouldGo_11 (by decide) ?_
  refine V_istore_n g [(1, vI 0), (0, vR 8 a0)] dX8_allLinesWouldGo_12 rfl (by decide) rfl ?_
  refine V_sub [(0, vR 8 a0), (1, vI 0)] [1, 0] rfl ?_
  exact t_X8_allLinesWouldGo_b13 g f _ s3 a0 0 hf
set_option maxRecDepth 20000 in
theorem t_X8_carryOut_b93 {E : ET} {fu : Nat} {s' : St} (g : GX E "ThinSeries" cX8_carryOut 4 6) (f : FX E "carryOut" none []) {s : St} (hf : f_X8_carryOut_b93 fu s = some s') : V E 4 (QE E (s', .inl none)) s 93 [] [] := by
  unfold f_X8_carryOut_b93 at hf
  cases hf
  exact V_return g f dX8_carryOut_93
set_option maxRecDepth 20000 in
theorem t_X8_carryOut {G : GT} {l : Launch} (hl : l.stackTraces = false) {fu : Nat} {s s' : St} {a0 : Nat} {a1 : Int32} (hf : f_X8_carryOut fu s a0 a1 = some s') : MetG G l yX8_carryOut (.code yX8_carryOut cX8_carryOut 4 none) 6 s [vR 8 a0, vI a1] (s', .inl none) := by
  refine MetG_of hl (by decide +kernel) (Nat.le_of_ble_eq_true rfl) (fun E g f eG eL => ?_)
  subst eG; subst eL
  have g : GX E "ThinSeries" cX8_carryOut 4 6 := g
  have f : FX E "carryOut" none [] := f
  show V E 4 (QE E (s', .inl none)) s 0 [(0, vR 8 a0), (1, vI a1)] []
  unfold f_X8_carryOut at hf
  refine V_aload_n g 0 dX8_carryOut_0 rfl ?_
  obtain ⟨z1, hf⟩ := nz_some hf
  refine V_getR g 8 a0 3 1 rfl (by decide) rfl rfl q_315 z1 dX8_carryOut_1 ?_
  obtain ⟨z2, hf⟩ := nz_some hf
  refine V_getR g 1 (gR s 8 a0 3) 2 10 rfl (by decide) rfl rfl q_187 z2 dX8_carryOut_4 ?_
  refine V_iload_n g 1 dX8_carryOut_7 rfl ?_
  obtain ⟨z3, hf⟩ := nz_some hf
  obtain ⟨h4, hf⟩ := ckf hf
  refine V_iald g z3 h4 dX8_carryOut_8 ?_
  obtain ⟨x5, ex5, hf⟩ := lt_some hf
  refine V_istore_n g [(2, vI x5), (0, vR 8 a0), (1, vI a1)] dX8_carryOut_9 ex5 (by decide) rfl ?_
  refine V_aload_n g 1 dX8_carryOut_10 rfl ?_
  refine V_getR g 8 a0 3 1 rfl (by decide) rfl rfl q_315 z1 dX8_carryOut_11 ?_
  refine V_getR g 1 (gR s 8 a0 3) 3 10 rfl (by decide) rfl rfl q_189 z2 dX8_carryOut_14 ?_
  refine V_iload_n g 2 dX8_carryOut_17 rfl ?_
  obtain ⟨z6, hf⟩ := nz_some hf
  obtain ⟨h7, hf⟩ := ckf hf
  refine V_iald g z6 h7 dX8_carryOut_18 ?_
  obtain ⟨x8, ex8, hf⟩ := lt_some hf
  refine V_istore_n g [(3, vI x8), (2, vI x5), (0, vR 8 a0), (1, vI a1)] dX8_carryOut_19 ex8 (by decide) rfl ?_
  refine V_aload_n g 2 dX8_carryOut_20 rfl ?_
  refine V_getR g 8 a0 3 1 rfl (by decide) rfl rfl q_315 z1 dX8_carryOut_21 ?_
  refine V_getR g 1 (gR s 8 a0 3) 1 10 rfl (by decide) rfl rfl q_185 z2 dX8_carryOut_24 ?_
  refine V_iload_n g 3 dX8_carryOut_27 rfl ?_
  obtain ⟨z9, hf⟩ := nz_some hf
  obtain ⟨h10, hf⟩ := ckf hf
  refine V_iald g z9 h10 dX8_carryOut_28 ?_
  obtain ⟨x11, ex11, hf⟩ := lt_some hf
  refine V_eqI ex11 ?_
  by_cases c12 : x11 = 0
  · subst c12
    have hf := it_t hf rfl
    refine V_lookup g 56 dX8_carryOut_29 (by decide) rfl (by decide) ?_
    refine V_aload_n g 2 dX8_carryOut_56 rfl ?_
    refine V_iload_n g 1 dX8_carryOut_57 rfl ?_
    refine V_iload_n g 0 dX8_carryOut_58 rfl ?_
    refine V_aload_n g 2 dX8_carryOut_59 rfl ?_
    refine V_getR g 8 a0 3 1 rfl (by decide) rfl rfl q_315 z1 dX8_carryOut_60 ?_
    refine V_getR g 1 (gR s 8 a0 3) 4 10 rfl (by decide) rfl rfl q_191 z2 dX8_carryOut_63 ?_
    refine V_iload_n g 3 dX8_carryOut_66 rfl ?_
    obtain ⟨z13, hf⟩ := nz_some hf
    obtain ⟨h14, hf⟩ := ckf hf
    refine V_iald g z13 h14 dX8_carryOut_67 ?_
    obtain ⟨s15, x16, hc, hf⟩ := bI_some hf
    refine cV1 g [vI x5, vI x8, vI (gI s 10 (gR s 1 (gR s 8 a0 3) 4) (ix a1))] [] s15 (vI x16) cf_X8_place (t_X8_place g.2.2.2.2.2.2.1 hc) (RC_own g rfl z1) z1 (by decide) q_486 (Nat.le_of_ble_eq_true rfl) dX8_carryOut_68 ?_ rfl
    refine V_pop g dX8_carryOut_71 rfl ?_
    refine V_goto g 93 dX8_carryOut_72 (by decide) ?_
    refine V_sub [] [] rfl ?_
    exact t_X8_carryOut_b93 g f hf
  · have hf := it_f hf c12
    by_cases c17 : x11 = 1
    · subst c17
      have hf := it_t hf rfl
      refine V_lookup g 75 dX8_carryOut_29 (by decide) rfl (by decide) ?_
      refine V_aload_n g 2 dX8_carryOut_75 rfl ?_
      refine V_iload_n g 1 dX8_carryOut_76 rfl ?_
      refine V_iload_n g 0 dX8_carryOut_77 rfl ?_
      obtain ⟨s18, x19, hc, hf⟩ := bI_some hf
      refine cV1 g [vI x5, vI x8] [] s18 (vR 5 x19) cf_X8_bring (t_X8_bring g.2.2.2.2.2.2.1 hc) (RC_own g rfl z1) z1 (by decide) q_490 (Nat.le_of_ble_eq_true rfl) dX8_carryOut_78 ?_ rfl
      refine V_pop g dX8_carryOut_81 rfl ?_
      refine V_goto g 93 dX8_carryOut_82 (by decide) ?_
      refine V_sub [] [] rfl ?_
      exact t_X8_carryOut_b93 g f hf
    · have hf := it_f hf c17
      refine V_lookup g 85 dX8_carryOut_29 (by decide) (lk_out (by decide) (fun q h1 h2 => ?_)) (by decide) ?_
      · simp only [List.mem_cons, List.not_mem_nil, or_false] at h1
        rcases h1 with rfl | rfl
        · exact c12 h2
        · exact c17 h2
      · skip
        refine V_aload_n g 2 dX8_carryOut_85 rfl ?_
        refine V_getR g 8 a0 4 4 rfl (by decide) rfl rfl q_316 z1 dX8_carryOut_86 ?_
        refine V_iload_n g 1 dX8_carryOut_89 rfl ?_
        obtain ⟨z20, hf⟩ := nz_some hf
        obtain ⟨s21, hc, hf⟩ := bV_some hf
        refine cV0 g [vI x5] [] s21 cf_X4_remove (t_X4_remove g.2.2.2.2.2.2.1 hc) (RC_own g rfl z20) z20 (by decide) q_596 (Nat.le_of_ble_eq_true rfl) dX8_carryOut_90 ?_ rfl
        refine V_sub [] [] rfl ?_
        exact t_X8_carryOut_b93 g f hf
set_option maxRecDepth 20000 in
theorem t_X7_isWord_b24 {E : ET} {fu : Nat} {s' : St} {w' : Int32} (g : GX E "ThinSeries$Tokens" cX7_isWord 3 4) (f : FX E "isWord" (some .boolean) []) {s : St} (hf : f_X7_isWord_b24 fu s = some (s', w')) : V E 3 (QE E (s', .inl (some (vI w')))) s 24 [] [] := by
  unfold f_X7_isWord_b24 at hf
  refine V_iconst (v := 0) g dX7_isWord_24 (by decide) ?_
  obtain ⟨h7, hf⟩ := ckf hf
  cases hf
  exact V_zreturn g f (zb_n h7) dX7_isWord_25
set_option maxRecDepth 20000 in
theorem t_X7_isWord_b28 {E : ET} {fu : Nat} {s' : St} {w' : Int32} (g : GX E "ThinSeries$Tokens" cX7_isWord 3 4) (f : FX E "isWord" (some .boolean) []) : ∀ (n : Nat) (s : St) (l0 : Nat) (l1 : Nat) (l2 : Int32), f_X7_isWord_b28 fu n s l0 l1 l2 = some (s', w') → V E 3 (QE E (s', .inl (some (vI w')))) s 28 [(0, vR 7 l0), (1, vR 16 l1), (2, vI l2)] [] := by
  intro n
  induction n with
  | zero =>
    intro s l0 l1 l2 hf
    unfold f_X7_isWord_b28 at hf
    exact nomatch hf
  | succ n ih =>
    intro s l0 l1 l2 hf
    unfold f_X7_isWord_b28 at hf
    refine V_iload_n g 2 dX7_isWord_28 rfl ?_
    refine V_aload_n g 1 dX7_isWord_29 rfl ?_
    obtain ⟨z8, hf⟩ := nz_some hf
    obtain ⟨s9, x10, hc, hf⟩ := bI_some hf
    refine cV1 g [] [vI l2] s9 (vI x10) cf_J0_length_8abf5 (t_J0_length_8abf5 g.2.2.2.2.2.2.1 hc) (RC_str g z8) z8 (by decide) q_805 (Nat.le_of_ble_eq_true rfl) dX7_isWord_30 ?_ rfl
    refine V_icmp_ge g 63 dX7_isWord_33 (by decide) (fun c11 => ?_) (fun c11 => ?_)
    · have hf := it_t hf c11
      refine V_iconst (v := 1) g dX7_isWord_63 (by decide) ?_
      obtain ⟨h12, hf⟩ := ckf hf
      cases hf
      exact V_zreturn g f (zb_n h12) dX7_isWord_64
    · have hf := it_f hf c11
      refine V_aload_n g 0 dX7_isWord_36 rfl ?_
      obtain ⟨z13, hf⟩ := nz_some hf
      refine V_getR g 7 l0 0 12 rfl (by decide) rfl rfl q_131 z13 dX7_isWord_37 ?_
      refine V_aload_n g 0 dX7_isWord_40 rfl ?_
      refine V_getI g 7 l0 2 rfl (by decide) rfl q_133 z13 dX7_isWord_41 ?_
      refine V_iload_n g 2 dX7_isWord_44 rfl ?_
      refine V_iadd g dX7_isWord_45 ?_
      obtain ⟨z14, hf⟩ := nz_some hf
      obtain ⟨h15, hf⟩ := ckf hf
      refine V_bald g z14 h15 dX7_isWord_46 ?_
      refine V_aload_n g 1 dX7_isWord_47 rfl ?_
      refine V_iload_n g 2 dX7_isWord_48 rfl ?_
      obtain ⟨s16, x17, hc, hf⟩ := bI_some hf
      refine cV1 g [vI l2] [vI (gI s9 12 (gR s9 7 l0 0) (ix ((gI s9 7 l0 2) + l2)))] s16 (vI x17) cf_J0_charAt_5068e (t_J0_charAt_5068e g.2.2.2.2.2.2.1 hc) (RC_str g z8) z8 (by decide) q_806 (Nat.le_of_ble_eq_true rfl) dX7_isWord_49 ?_ rfl
      refine V_icmp_eq g 57 dX7_isWord_52 (by decide) (fun c18 => ?_) (fun c18 => ?_)
      · have hf := it_t hf c18
        obtain ⟨x19, ex19, hf⟩ := lt_some hf
        refine V_iinc g 2 [(2, vI x19), (0, vR 7 l0), (1, vR 16 l1)] dX7_isWord_57 rfl (by rw [ex19]; rfl) (by decide) rfl ?_
        refine V_goto g 28 dX7_isWord_60 (by decide) ?_
        refine V_sub [(0, vR 7 l0), (1, vR 16 l1), (2, vI x19)] [1, 2, 0] rfl ?_
        exact ih s16 l0 l1 x19 hf
      · have hf := it_f hf c18
        refine V_iconst (v := 0) g dX7_isWord_55 (by decide) ?_
        obtain ⟨h20, hf⟩ := ckf hf
        cases hf
        exact V_zreturn g f (zb_n h20) dX7_isWord_56
set_option maxRecDepth 20000 in
theorem t_X7_isWord {G : GT} {l : Launch} (hl : l.stackTraces = false) {fu : Nat} {s s' : St} {a0 : Nat} {a1 : Nat} {w' : Int32} (hf : f_X7_isWord fu s a0 a1 = some (s', w')) : MetG G l yX7_isWord (.code yX7_isWord cX7_isWord 3 (some .boolean)) 4 s [vR 7 a0, vR 16 a1] (s', .inl (some (vI w'))) := by
  refine MetG_of hl (by decide +kernel) (Nat.le_of_ble_eq_true rfl) (fun E g f eG eL => ?_)
  subst eG; subst eL
  have g : GX E "ThinSeries$Tokens" cX7_isWord 3 4 := g
  have f : FX E "isWord" (some .boolean) [] := f
  show V E 3 (QE E (s', .inl (some (vI w')))) s 0 [(0, vR 7 a0), (1, vR 16 a1)] []
  unfold f_X7_isWord at hf
  refine V_aload_n g 0 dX7_isWord_0 rfl ?_
  obtain ⟨z1, hf⟩ := nz_some hf
  refine V_getI g 7 a0 4 rfl (by decide) rfl q_135 z1 dX7_isWord_1 ?_
  refine V_iconst (v := 1) g dX7_isWord_4 (by decide) ?_
  refine V_icmp_ne g 24 dX7_isWord_5 (by decide) (fun c2 => ?_) (fun c2 => ?_)
  · have hf := it_f hf c2
    refine V_sub [] [] rfl ?_
    exact t_X7_isWord_b24 g f hf
  · have hf := it_t hf c2
    refine V_aload_n g 0 dX7_isWord_8 rfl ?_
    refine V_getI g 7 a0 3 rfl (by decide) rfl q_134 z1 dX7_isWord_9 ?_
    refine V_aload_n g 0 dX7_isWord_12 rfl ?_
    refine V_getI g 7 a0 2 rfl (by decide) rfl q_133 z1 dX7_isWord_13 ?_
    refine V_isub g dX7_isWord_16 ?_
    refine V_aload_n g 1 dX7_isWord_17 rfl ?_
    obtain ⟨z3, hf⟩ := nz_some hf
    obtain ⟨s4, x5, hc, hf⟩ := bI_some hf
    refine cV1 g [] [vI ((gI s 7 a0 3) - (gI s 7 a0 2))] s4 (vI x5) cf_J0_length_8abf5 (t_J0_length_8abf5 g.2.2.2.2.2.2.1 hc) (RC_str g z3) z3 (by decide) q_805 (Nat.le_of_ble_eq_true rfl) dX7_isWord_18 ?_ rfl
    refine V_icmp_eq g 26 dX7_isWord_21 (by decide) (fun c6 => ?_) (fun c6 => ?_)
    · have hf := it_t hf c6
      refine V_iconst (v := 0) g dX7_isWord_26 (by decide) ?_
      refine V_istore_n g [(2, vI 0), (0, vR 7 a0), (1, vR 16 a1)] dX7_isWord_27 rfl (by decide) rfl ?_
      refine V_sub [(0, vR 7 a0), (1, vR 16 a1), (2, vI 0)] [1, 2, 0] rfl ?_
      exact t_X7_isWord_b28 g f _ s4 a0 a1 0 hf
    · have hf := it_f hf c6
      refine V_sub [] [] rfl ?_
      exact t_X7_isWord_b24 g f hf
set_option maxRecDepth 20000 in
theorem t_X1_kindHere_b45 {E : ET} {fu : Nat} {s' : St} {w' : Int32} (g : GX E "ThinSeries$BatchReader" cX1_kindHere 1 5) (f : FX E "kindHere" (some .int) []) {s : St} {t0 : Int32} (hf : f_X1_kindHere_b45 fu s t0 = some (s', w')) : V E 1 (QE E (s', .inl (some (vI w')))) s 45 [] [vI t0] := by
  unfold f_X1_kindHere_b45 at hf
  cases hf
  exact V_ireturn g f dX1_kindHere_45
set_option maxRecDepth 20000 in
theorem t_X1_kindHere {G : GT} {l : Launch} (hl : l.stackTraces = false) {fu : Nat} {s s' : St} {a0 : Nat} {w' : Int32} (hf : f_X1_kindHere fu s a0 = some (s', w')) : MetG G l yX1_kindHere (.code yX1_kindHere cX1_kindHere 1 (some .int)) 5 s [vR 1 a0] (s', .inl (some (vI w'))) := by
  refine MetG_of hl (by decide +kernel) (Nat.le_of_ble_eq_true rfl) (fun E g f eG eL => ?_)
  subst eG; subst eL
  have g : GX E "ThinSeries$BatchReader" cX1_kindHere 1 5 := g
  have f : FX E "kindHere" (some .int) [] := f
  show V E 1 (QE E (s', .inl (some (vI w')))) s 0 [(0, vR 1 a0)] []
  unfold f_X1_kindHere at hf
  refine V_aload_n g 0 dX1_kindHere_0 rfl ?_
  obtain ⟨z1, hf⟩ := nz_some hf
  refine V_getR g 1 a0 0 7 rfl (by decide) rfl rfl q_183 z1 dX1_kindHere_1 ?_
  refine V_ldcS g 14 (by decide) rfl dX1_kindHere_4 ?_
  obtain ⟨z2, hf⟩ := nz_some hf
  obtain ⟨s3, x4, hc, hf⟩ := bI_some hf
  refine cV1 g [vR 16 14] [] s3 (vI x4) cf_X7_isWord (t_X7_isWord g.2.2.2.2.2.2.1 hc) (RC_own g rfl z2) z2 (by decide) q_938 (Nat.le_of_ble_eq_true rfl) dX1_kindHere_6 ?_ rfl
  refine V_if_eq g 14 dX1_kindHere_9 (by decide) (fun c5 => ?_) (fun c5 => ?_)
  · have hf := it_t hf c5
    refine V_aload_n g 0 dX1_kindHere_14 rfl ?_
    refine V_getR g 1 a0 0 7 rfl (by decide) rfl rfl q_183 z1 dX1_kindHere_15 ?_
    refine V_ldcS g 15 (by decide) rfl dX1_kindHere_18 ?_
    obtain ⟨z6, hf⟩ := nz_some hf
    obtain ⟨s7, x8, hc, hf⟩ := bI_some hf
    refine cV1 g [vR 16 15] [] s7 (vI x8) cf_X7_isWord (t_X7_isWord g.2.2.2.2.2.2.1 hc) (RC_own g rfl z6) z6 (by decide) q_938 (Nat.le_of_ble_eq_true rfl) dX1_kindHere_20 ?_ rfl
    refine V_if_eq g 28 dX1_kindHere_23 (by decide) (fun c9 => ?_) (fun c9 => ?_)
    · have hf := it_t hf c9
      refine V_aload_n g 0 dX1_kindHere_28 rfl ?_
      refine V_getR g 1 a0 0 7 rfl (by decide) rfl rfl q_183 z1 dX1_kindHere_29 ?_
      refine V_ldcS g 16 (by decide) rfl dX1_kindHere_32 ?_
      obtain ⟨z10, hf⟩ := nz_some hf
      obtain ⟨s11, x12, hc, hf⟩ := bI_some hf
      refine cV1 g [vR 16 16] [] s11 (vI x12) cf_X7_isWord (t_X7_isWord g.2.2.2.2.2.2.1 hc) (RC_own g rfl z10) z10 (by decide) q_938 (Nat.le_of_ble_eq_true rfl) dX1_kindHere_34 ?_ rfl
      refine V_if_eq g 44 dX1_kindHere_37 (by decide) (fun c13 => ?_) (fun c13 => ?_)
      · have hf := it_t hf c13
        refine V_iconst (v := (-1)) g dX1_kindHere_44 (by decide) ?_
        refine V_sub [] [] rfl ?_
        exact t_X1_kindHere_b45 g f hf
      · have hf := it_f hf c13
        refine V_iconst (v := 2) g dX1_kindHere_40 (by decide) ?_
        refine V_goto g 45 dX1_kindHere_41 (by decide) ?_
        refine V_sub [] [] rfl ?_
        exact t_X1_kindHere_b45 g f hf
    · have hf := it_f hf c9
      refine V_iconst (v := 1) g dX1_kindHere_26 (by decide) ?_
      cases hf
      exact V_ireturn g f dX1_kindHere_27
  · have hf := it_f hf c5
    refine V_iconst (v := 0) g dX1_kindHere_12 (by decide) ?_
    cases hf
    exact V_ireturn g f dX1_kindHere_13
set_option maxRecDepth 20000 in
theorem t_X7_readNumber_b106 {E : ET} {fu : Nat} {s' : St} (g : GX E "ThinSeries$Tokens" cX7_readNumber 1 0) (f : FX E "readNumber" none []) {s : St} (hf : f_X7_readNumber_b106 fu s = some s') : V E 1 (QE E (s', .inl none)) s 106 [] [] := by
  unfold f_X7_readNumber_b106 at hf
  cases hf
  exact V_return g f dX7_readNumber_106
set_option maxRecDepth 20000 in
theorem t_X7_readNumber_b86 {E : ET} {fu : Nat} {s' : St} (g : GX E "ThinSeries$Tokens" cX7_readNumber 1 0) (f : FX E "readNumber" none []) {s : St} {l0 : Nat} (hf : f_X7_readNumber_b86 fu s l0 = some s') : V E 1 (QE E (s', .inl none)) s 86 [(0, vR 7 l0)] [] := by
  unfold f_X7_readNumber_b86 at hf
  refine V_aload_n g 0 dX7_readNumber_86 rfl ?_
  obtain ⟨z14, hf⟩ := nz_some hf
  refine V_getI g 7 l0 3 rfl (by decide) rfl q_134 z14 dX7_readNumber_87 ?_
  refine V_aload_n g 0 dX7_readNumber_90 rfl ?_
  refine V_getI g 7 l0 2 rfl (by decide) rfl q_133 z14 dX7_readNumber_91 ?_
  refine V_isub g dX7_readNumber_94 ?_
  refine V_bipush (v := 7) g dX7_readNumber_95 (by decide) ?_
  refine V_icmp_le g 106 dX7_readNumber_97 (by decide) (fun c15 => ?_) (fun c15 => ?_)
  · have hf := it_t hf c15
    refine V_sub [] [] rfl ?_
    exact t_X7_readNumber_b106 g f hf
  · have hf := it_f hf c15
    refine V_aload_n g 0 dX7_readNumber_100 rfl ?_
    refine V_ldc (v := 2147483647) g q_712 dX7_readNumber_101 ?_
    obtain ⟨s16, es16, hf⟩ := lt_some hf
    refine V_putI g 7 l0 5 es16 rfl (by decide) rfl q_138 z14 (Or.inl rfl) pf_7_5 dX7_readNumber_103 ?_
    refine V_sub [] [] rfl ?_
    exact t_X7_readNumber_b106 g f hf
set_option maxRecDepth 20000 in
theorem t_X7_readNumber_b10 {E : ET} {fu : Nat} {s' : St} (g : GX E "ThinSeries$Tokens" cX7_readNumber 1 0) (f : FX E "readNumber" none []) : ∀ (n : Nat) (s : St) (l0 : Nat), f_X7_readNumber_b10 fu n s l0 = some s' → V E 1 (QE E (s', .inl none)) s 10 [(0, vR 7 l0)] [] := by
  intro n
  induction n with
  | zero =>
    intro s l0 hf
    unfold f_X7_readNumber_b10 at hf
    exact nomatch hf
  | succ n ih =>
    intro s l0 hf
    unfold f_X7_readNumber_b10 at hf
    refine V_aload_n g 0 dX7_readNumber_10 rfl ?_
    obtain ⟨z4, hf⟩ := nz_some hf
    refine V_getI g 7 l0 3 rfl (by decide) rfl q_134 z4 dX7_readNumber_11 ?_
    refine V_aload_n g 0 dX7_readNumber_14 rfl ?_
    refine V_getI g 7 l0 1 rfl (by decide) rfl q_132 z4 dX7_readNumber_15 ?_
    refine V_icmp_ge g 86 dX7_readNumber_18 (by decide) (fun c5 => ?_) (fun c5 => ?_)
    · have hf := it_t hf c5
      exact t_X7_readNumber_b86 g f hf
    · have hf := it_f hf c5
      refine V_aload_n g 0 dX7_readNumber_21 rfl ?_
      refine V_getR g 7 l0 0 12 rfl (by decide) rfl rfl q_131 z4 dX7_readNumber_22 ?_
      refine V_aload_n g 0 dX7_readNumber_25 rfl ?_
      refine V_getI g 7 l0 3 rfl (by decide) rfl q_134 z4 dX7_readNumber_26 ?_
      obtain ⟨z6, hf⟩ := nz_some hf
      obtain ⟨h7, hf⟩ := ckf hf
      refine V_bald g z6 h7 dX7_readNumber_29 ?_
      refine V_bipush (v := 48) g dX7_readNumber_30 (by decide) ?_
      refine V_icmp_lt g 86 dX7_readNumber_32 (by decide) (fun c8 => ?_) (fun c8 => ?_)
      · have hf := it_t hf c8
        exact t_X7_readNumber_b86 g f hf
      · have hf := it_f hf c8
        refine V_aload_n g 0 dX7_readNumber_35 rfl ?_
        refine V_getR g 7 l0 0 12 rfl (by decide) rfl rfl q_131 z4 dX7_readNumber_36 ?_
        refine V_aload_n g 0 dX7_readNumber_39 rfl ?_
        refine V_getI g 7 l0 3 rfl (by decide) rfl q_134 z4 dX7_readNumber_40 ?_
        obtain ⟨h9, hf⟩ := ckf hf
        refine V_bald g z6 h9 dX7_readNumber_43 ?_
        refine V_bipush (v := 57) g dX7_readNumber_44 (by decide) ?_
        refine V_icmp_gt g 86 dX7_readNumber_46 (by decide) (fun c10 => ?_) (fun c10 => ?_)
        · have hf := it_t hf c10
          exact t_X7_readNumber_b86 g f hf
        · have hf := it_f hf c10
          refine V_aload_n g 0 dX7_readNumber_49 rfl ?_
          refine V_aload_n g 0 dX7_readNumber_50 rfl ?_
          refine V_getI g 7 l0 5 rfl (by decide) rfl q_138 z4 dX7_readNumber_51 ?_
          refine V_bipush (v := 10) g dX7_readNumber_54 (by decide) ?_
          refine V_imul g dX7_readNumber_56 ?_
          refine V_aload_n g 0 dX7_readNumber_57 rfl ?_
          refine V_getR g 7 l0 0 12 rfl (by decide) rfl rfl q_131 z4 dX7_readNumber_58 ?_
          refine V_aload_n g 0 dX7_readNumber_61 rfl ?_
          refine V_getI g 7 l0 3 rfl (by decide) rfl q_134 z4 dX7_readNumber_62 ?_
          obtain ⟨h11, hf⟩ := ckf hf
          refine V_bald g z6 h11 dX7_readNumber_65 ?_
          refine V_iadd g dX7_readNumber_66 ?_
          refine V_bipush (v := 48) g dX7_readNumber_67 (by decide) ?_
          refine V_isub g dX7_readNumber_69 ?_
          obtain ⟨s12, es12, hf⟩ := lt_some hf
          refine V_putI g 7 l0 5 es12 rfl (by decide) rfl q_138 z4 (Or.inl rfl) pf_7_5 dX7_readNumber_70 ?_
          refine V_aload_n g 0 dX7_readNumber_73 rfl ?_
          refine V_dup g dX7_readNumber_74 rfl ?_
          refine V_getI g 7 l0 3 rfl (by decide) rfl q_134 z4 dX7_readNumber_75 ?_
          refine V_iconst (v := 1) g dX7_readNumber_78 (by decide) ?_
          refine V_iadd g dX7_readNumber_79 ?_
          obtain ⟨s13, es13, hf⟩ := lt_some hf
          refine V_putI g 7 l0 3 es13 rfl (by decide) rfl q_134 z4 (Or.inl rfl) pf_7_3 dX7_readNumber_80 ?_
          refine V_goto g 10 dX7_readNumber_83 (by decide) ?_
          exact ih s13 l0 hf
set_option maxRecDepth 20000 in
theorem t_X7_readNumber {G : GT} {l : Launch} (hl : l.stackTraces = false) {fu : Nat} {s s' : St} {a0 : Nat} (hf : f_X7_readNumber fu s a0 = some s') : MetG G l yX7_readNumber (.code yX7_readNumber cX7_readNumber 1 none) 0 s [vR 7 a0] (s', .inl none) := by
  refine MetG_of hl (by decide +kernel) (Nat.le_of_ble_eq_true rfl) (fun E g f eG eL => ?_)
  subst eG; subst eL
  have g : GX E "ThinSeries$Tokens" cX7_readNumber 1 0 := g
  have f : FX E "readNumber" none [] := f
  show V E 1 (QE E (s', .inl none)) s 0 [(0, vR 7 a0)] []
  unfold f_X7_readNumber at hf
  refine V_aload_n g 0 dX7_readNumber_0 rfl ?_
  refine V_iconst (v := 2) g dX7_readNumber_1 (by decide) ?_
  obtain ⟨z1, hf⟩ := nz_some hf
  obtain ⟨s2, es2, hf⟩ := lt_some hf
  refine V_putI g 7 a0 4 es2 rfl (by decide) rfl q_135 z1 (Or.inl rfl) pf_7_4 dX7_readNumber_2 ?_
  refine V_aload_n g 0 dX7_readNumber_5 rfl ?_
  refine V_iconst (v := 0) g dX7_readNumber_6 (by decide) ?_
  obtain ⟨s3, es3, hf⟩ := lt_some hf
  refine V_putI g 7 a0 5 es3 rfl (by decide) rfl q_138 z1 (Or.inl rfl) pf_7_5 dX7_readNumber_7 ?_
  exact t_X7_readNumber_b10 g f _ s3 a0 hf
set_option maxRecDepth 20000 in
theorem t_X7_readWord_b57 {E : ET} {fu : Nat} {s' : St} (g : GX E "ThinSeries$Tokens" cX7_readWord 1 0) (f : FX E "readWord" none []) {s : St} (hf : f_X7_readWord_b57 fu s = some s') : V E 1 (QE E (s', .inl none)) s 57 [] [] := by
  unfold f_X7_readWord_b57 at hf
  cases hf
  exact V_return g f dX7_readWord_57
set_option maxRecDepth 20000 in
theorem t_X7_readWord_b5 {E : ET} {fu : Nat} {s' : St} (g : GX E "ThinSeries$Tokens" cX7_readWord 1 0) (f : FX E "readWord" none []) : ∀ (n : Nat) (s : St) (l0 : Nat), f_X7_readWord_b5 fu n s l0 = some s' → V E 1 (QE E (s', .inl none)) s 5 [(0, vR 7 l0)] [] := by
  intro n
  induction n with
  | zero =>
    intro s l0 hf
    unfold f_X7_readWord_b5 at hf
    exact nomatch hf
  | succ n ih =>
    intro s l0 hf
    unfold f_X7_readWord_b5 at hf
    refine V_aload_n g 0 dX7_readWord_5 rfl ?_
    obtain ⟨z3, hf⟩ := nz_some hf
    refine V_getI g 7 l0 3 rfl (by decide) rfl q_134 z3 dX7_readWord_6 ?_
    refine V_aload_n g 0 dX7_readWord_9 rfl ?_
    refine V_getI g 7 l0 1 rfl (by decide) rfl q_132 z3 dX7_readWord_10 ?_
    refine V_icmp_ge g 57 dX7_readWord_13 (by decide) (fun c4 => ?_) (fun c4 => ?_)
    · have hf := it_t hf c4
      refine V_sub [] [] rfl ?_
      exact t_X7_readWord_b57 g f hf
    · have hf := it_f hf c4
      refine V_aload_n g 0 dX7_readWord_16 rfl ?_
      refine V_getR g 7 l0 0 12 rfl (by decide) rfl rfl q_131 z3 dX7_readWord_17 ?_
      refine V_aload_n g 0 dX7_readWord_20 rfl ?_
      refine V_getI g 7 l0 3 rfl (by decide) rfl q_134 z3 dX7_readWord_21 ?_
      obtain ⟨z5, hf⟩ := nz_some hf
      obtain ⟨h6, hf⟩ := ckf hf
      refine V_bald g z5 h6 dX7_readWord_24 ?_
      refine V_bipush (v := 97) g dX7_readWord_25 (by decide) ?_
      refine V_icmp_lt g 57 dX7_readWord_27 (by decide) (fun c7 => ?_) (fun c7 => ?_)
      · have hf := it_t hf c7
        refine V_sub [] [] rfl ?_
        exact t_X7_readWord_b57 g f hf
      · have hf := it_f hf c7
        refine V_aload_n g 0 dX7_readWord_30 rfl ?_
        refine V_getR g 7 l0 0 12 rfl (by decide) rfl rfl q_131 z3 dX7_readWord_31 ?_
        refine V_aload_n g 0 dX7_readWord_34 rfl ?_
        refine V_getI g 7 l0 3 rfl (by decide) rfl q_134 z3 dX7_readWord_35 ?_
        obtain ⟨h8, hf⟩ := ckf hf
        refine V_bald g z5 h8 dX7_readWord_38 ?_
        refine V_bipush (v := 122) g dX7_readWord_39 (by decide) ?_
        refine V_icmp_gt g 57 dX7_readWord_41 (by decide) (fun c9 => ?_) (fun c9 => ?_)
        · have hf := it_t hf c9
          refine V_sub [] [] rfl ?_
          exact t_X7_readWord_b57 g f hf
        · have hf := it_f hf c9
          refine V_aload_n g 0 dX7_readWord_44 rfl ?_
          refine V_dup g dX7_readWord_45 rfl ?_
          refine V_getI g 7 l0 3 rfl (by decide) rfl q_134 z3 dX7_readWord_46 ?_
          refine V_iconst (v := 1) g dX7_readWord_49 (by decide) ?_
          refine V_iadd g dX7_readWord_50 ?_
          obtain ⟨s10, es10, hf⟩ := lt_some hf
          refine V_putI g 7 l0 3 es10 rfl (by decide) rfl q_134 z3 (Or.inl rfl) pf_7_3 dX7_readWord_51 ?_
          refine V_goto g 5 dX7_readWord_54 (by decide) ?_
          exact ih s10 l0 hf
set_option maxRecDepth 20000 in
theorem t_X7_readWord {G : GT} {l : Launch} (hl : l.stackTraces = false) {fu : Nat} {s s' : St} {a0 : Nat} (hf : f_X7_readWord fu s a0 = some s') : MetG G l yX7_readWord (.code yX7_readWord cX7_readWord 1 none) 0 s [vR 7 a0] (s', .inl none) := by
  refine MetG_of hl (by decide +kernel) (Nat.le_of_ble_eq_true rfl) (fun E g f eG eL => ?_)
  subst eG; subst eL
  have g : GX E "ThinSeries$Tokens" cX7_readWord 1 0 := g
  have f : FX E "readWord" none [] := f
  show V E 1 (QE E (s', .inl none)) s 0 [(0, vR 7 a0)] []
  unfold f_X7_readWord at hf
  refine V_aload_n g 0 dX7_readWord_0 rfl ?_
  refine V_iconst (v := 1) g dX7_readWord_1 (by decide) ?_
  obtain ⟨z1, hf⟩ := nz_some hf
  obtain ⟨s2, es2, hf⟩ := lt_some hf
  refine V_putI g 7 a0 4 es2 rfl (by decide) rfl q_135 z1 (Or.inl rfl) pf_7_4 dX7_readWord_2 ?_
  exact t_X7_readWord_b5 g f _ s2 a0 hf
set_option maxRecDepth 20000 in
theorem t_X7_next_b39 {E : ET} {fu : Nat} {s' : St} (g : GX E "ThinSeries$Tokens" cX7_next 1 4) (f : FX E "next" none []) {k0 : St → Nat → Option (St)} (hk0 : ∀ (s : St) (l0 : Nat), k0 s l0 = some s' → V E 1 (QE E (s', .inl none)) s 0 [(0, vR 7 l0)] []) {s : St} {l0 : Nat} (hf : f_X7_next_b39 fu k0 s l0 = some s') : V E 1 (QE E (s', .inl none)) s 39 [(0, vR 7 l0)] [] := by
  unfold f_X7_next_b39 at hf
  refine V_aload_n g 0 dX7_next_39 rfl ?_
  refine V_dup g dX7_next_40 rfl ?_
  obtain ⟨z8, hf⟩ := nz_some hf
  refine V_getI g 7 l0 3 rfl (by decide) rfl q_134 z8 dX7_next_41 ?_
  refine V_iconst (v := 1) g dX7_next_44 (by decide) ?_
  refine V_iadd g dX7_next_45 ?_
  obtain ⟨s9, es9, hf⟩ := lt_some hf
  refine V_putI g 7 l0 3 es9 rfl (by decide) rfl q_134 z8 (Or.inl rfl) pf_7_3 dX7_next_46 ?_
  refine V_goto g 0 dX7_next_49 (by decide) ?_
  exact hk0 s9 l0 hf
set_option maxRecDepth 20000 in
theorem t_X7_next_b190 {E : ET} {fu : Nat} {s' : St} (g : GX E "ThinSeries$Tokens" cX7_next 1 4) (f : FX E "next" none []) {s : St} (hf : f_X7_next_b190 fu s = some s') : V E 1 (QE E (s', .inl none)) s 190 [] [] := by
  unfold f_X7_next_b190 at hf
  cases hf
  exact V_return g f dX7_next_190
set_option maxRecDepth 20000 in
theorem t_X7_next_b177 {E : ET} {fu : Nat} {s' : St} (g : GX E "ThinSeries$Tokens" cX7_next 1 4) (f : FX E "next" none []) {s : St} {l0 : Nat} {t0 : Int32} {t1 : Nat} (hf : f_X7_next_b177 fu s l0 t0 t1 = some s') : V E 1 (QE E (s', .inl none)) s 177 [(0, vR 7 l0)] [vI t0, vR 7 t1] := by
  unfold f_X7_next_b177 at hf
  obtain ⟨z33, hf⟩ := nz_some hf
  obtain ⟨s34, es34, hf⟩ := lt_some hf
  refine V_putI g 7 t1 4 es34 rfl (by decide) rfl q_135 z33 (Or.inl rfl) pf_7_4 dX7_next_177 ?_
  refine V_aload_n g 0 dX7_next_180 rfl ?_
  refine V_aload_n g 0 dX7_next_181 rfl ?_
  obtain ⟨z35, hf⟩ := nz_some hf
  refine V_getI g 7 l0 2 rfl (by decide) rfl q_133 z35 dX7_next_182 ?_
  refine V_iconst (v := 1) g dX7_next_185 (by decide) ?_
  refine V_iadd g dX7_next_186 ?_
  obtain ⟨s36, es36, hf⟩ := lt_some hf
  refine V_putI g 7 l0 3 es36 rfl (by decide) rfl q_134 z35 (Or.inl rfl) pf_7_3 dX7_next_187 ?_
  refine V_sub [] [] rfl ?_
  exact t_X7_next_b190 g f hf
set_option maxRecDepth 20000 in
theorem t_X7_next_b149 {E : ET} {fu : Nat} {s' : St} (g : GX E "ThinSeries$Tokens" cX7_next 1 4) (f : FX E "next" none []) {s : St} {l0 : Nat} (hf : f_X7_next_b149 fu s l0 = some s') : V E 1 (QE E (s', .inl none)) s 149 [(0, vR 7 l0)] [] := by
  unfold f_X7_next_b149 at hf
  refine V_aload_n g 0 dX7_next_149 rfl ?_
  refine V_ldcS g 2 (by decide) rfl dX7_next_150 ?_
  refine V_aload_n g 0 dX7_next_152 rfl ?_
  obtain ⟨z27, hf⟩ := nz_some hf
  refine V_getR g 7 l0 0 12 rfl (by decide) rfl rfl q_131 z27 dX7_next_153 ?_
  refine V_aload_n g 0 dX7_next_156 rfl ?_
  refine V_getI g 7 l0 2 rfl (by decide) rfl q_133 z27 dX7_next_157 ?_
  obtain ⟨z28, hf⟩ := nz_some hf
  obtain ⟨h29, hf⟩ := ckf hf
  refine V_bald g z28 h29 dX7_next_160 ?_
  refine V_sipush (v := 255) g dX7_next_161 (by decide) ?_
  refine V_iand g dX7_next_164 ?_
  refine V_i2c g dX7_next_165 ?_
  obtain ⟨s30, x31, hc, hf⟩ := bI_some hf
  refine cV1 g [vI ((Int32.toUInt32 ((gI s 12 (gR s 7 l0 0) (ix (gI s 7 l0 2))) &&& 255) % 65536).toInt32)] [vR 7 l0] s30 (vI x31) cf_J0_indexOf_0f7a4 (t_J0_indexOf_0f7a4 g.2.2.2.2.2.2.1 hc) (RC_str g (by decide)) (by decide) (by decide) q_714 (Nat.le_of_ble_eq_true rfl) dX7_next_166 ?_ rfl
  refine V_if_lt g 176 dX7_next_169 (by decide) (fun c32 => ?_) (fun c32 => ?_)
  · have hf := it_t hf c32
    refine V_iconst (v := 4) g dX7_next_176 (by decide) ?_
    exact t_X7_next_b177 g f hf
  · have hf := it_f hf c32
    refine V_iconst (v := 3) g dX7_next_172 (by decide) ?_
    refine V_goto g 177 dX7_next_173 (by decide) ?_
    exact t_X7_next_b177 g f hf
set_option maxRecDepth 20000 in
theorem t_X7_next_b114 {E : ET} {fu : Nat} {s' : St} (g : GX E "ThinSeries$Tokens" cX7_next 1 4) (f : FX E "next" none []) {s : St} {l0 : Nat} (hf : f_X7_next_b114 fu s l0 = some s') : V E 1 (QE E (s', .inl none)) s 114 [(0, vR 7 l0)] [] := by
  unfold f_X7_next_b114 at hf
  refine V_aload_n g 0 dX7_next_114 rfl ?_
  obtain ⟨z20, hf⟩ := nz_some hf
  refine V_getR g 7 l0 0 12 rfl (by decide) rfl rfl q_131 z20 dX7_next_115 ?_
  refine V_aload_n g 0 dX7_next_118 rfl ?_
  refine V_getI g 7 l0 2 rfl (by decide) rfl q_133 z20 dX7_next_119 ?_
  obtain ⟨z21, hf⟩ := nz_some hf
  obtain ⟨h22, hf⟩ := ckf hf
  refine V_bald g z21 h22 dX7_next_122 ?_
  refine V_bipush (v := 48) g dX7_next_123 (by decide) ?_
  refine V_icmp_lt g 149 dX7_next_125 (by decide) (fun c23 => ?_) (fun c23 => ?_)
  · have hf := it_t hf c23
    exact t_X7_next_b149 g f hf
  · have hf := it_f hf c23
    refine V_aload_n g 0 dX7_next_128 rfl ?_
    refine V_getR g 7 l0 0 12 rfl (by decide) rfl rfl q_131 z20 dX7_next_129 ?_
    refine V_aload_n g 0 dX7_next_132 rfl ?_
    refine V_getI g 7 l0 2 rfl (by decide) rfl q_133 z20 dX7_next_133 ?_
    obtain ⟨h24, hf⟩ := ckf hf
    refine V_bald g z21 h24 dX7_next_136 ?_
    refine V_bipush (v := 57) g dX7_next_137 (by decide) ?_
    refine V_icmp_gt g 149 dX7_next_139 (by decide) (fun c25 => ?_) (fun c25 => ?_)
    · have hf := it_t hf c25
      exact t_X7_next_b149 g f hf
    · have hf := it_f hf c25
      refine V_aload_n g 0 dX7_next_142 rfl ?_
      obtain ⟨s26, hc, hf⟩ := bV_some hf
      refine cV0 g [] [] s26 cf_X7_readNumber (t_X7_readNumber g.2.2.2.2.2.2.1 hc) (RC_own g rfl z20) z20 (by decide) q_708 (Nat.le_of_ble_eq_true rfl) dX7_next_143 ?_ rfl
      refine V_goto g 190 dX7_next_146 (by decide) ?_
      refine V_sub [] [] rfl ?_
      exact t_X7_next_b190 g f hf
set_option maxRecDepth 20000 in
theorem t_X7_next_b52 {E : ET} {fu : Nat} {s' : St} (g : GX E "ThinSeries$Tokens" cX7_next 1 4) (f : FX E "next" none []) {s : St} {l0 : Nat} (hf : f_X7_next_b52 fu s l0 = some s') : V E 1 (QE E (s', .inl none)) s 52 [(0, vR 7 l0)] [] := by
  unfold f_X7_next_b52 at hf
  refine V_aload_n g 0 dX7_next_52 rfl ?_
  refine V_aload_n g 0 dX7_next_53 rfl ?_
  obtain ⟨z10, hf⟩ := nz_some hf
  refine V_getI g 7 l0 3 rfl (by decide) rfl q_134 z10 dX7_next_54 ?_
  obtain ⟨s11, es11, hf⟩ := lt_some hf
  refine V_putI g 7 l0 2 es11 rfl (by decide) rfl q_133 z10 (Or.inl rfl) pf_7_2 dX7_next_57 ?_
  refine V_aload_n g 0 dX7_next_60 rfl ?_
  refine V_getI g 7 l0 2 rfl (by decide) rfl q_133 z10 dX7_next_61 ?_
  refine V_aload_n g 0 dX7_next_64 rfl ?_
  refine V_getI g 7 l0 1 rfl (by decide) rfl q_132 z10 dX7_next_65 ?_
  refine V_icmp_lt g 79 dX7_next_68 (by decide) (fun c12 => ?_) (fun c12 => ?_)
  · have hf := it_t hf c12
    refine V_aload_n g 0 dX7_next_79 rfl ?_
    refine V_getR g 7 l0 0 12 rfl (by decide) rfl rfl q_131 z10 dX7_next_80 ?_
    refine V_aload_n g 0 dX7_next_83 rfl ?_
    refine V_getI g 7 l0 2 rfl (by decide) rfl q_133 z10 dX7_next_84 ?_
    obtain ⟨z13, hf⟩ := nz_some hf
    obtain ⟨h14, hf⟩ := ckf hf
    refine V_bald g z13 h14 dX7_next_87 ?_
    refine V_bipush (v := 97) g dX7_next_88 (by decide) ?_
    refine V_icmp_lt g 114 dX7_next_90 (by decide) (fun c15 => ?_) (fun c15 => ?_)
    · have hf := it_t hf c15
      exact t_X7_next_b114 g f hf
    · have hf := it_f hf c15
      refine V_aload_n g 0 dX7_next_93 rfl ?_
      refine V_getR g 7 l0 0 12 rfl (by decide) rfl rfl q_131 z10 dX7_next_94 ?_
      refine V_aload_n g 0 dX7_next_97 rfl ?_
      refine V_getI g 7 l0 2 rfl (by decide) rfl q_133 z10 dX7_next_98 ?_
      obtain ⟨h16, hf⟩ := ckf hf
      refine V_bald g z13 h16 dX7_next_101 ?_
      refine V_bipush (v := 122) g dX7_next_102 (by decide) ?_
      refine V_icmp_gt g 114 dX7_next_104 (by decide) (fun c17 => ?_) (fun c17 => ?_)
      · have hf := it_t hf c17
        exact t_X7_next_b114 g f hf
      · have hf := it_f hf c17
        refine V_aload_n g 0 dX7_next_107 rfl ?_
        obtain ⟨s18, hc, hf⟩ := bV_some hf
        refine cV0 g [] [] s18 cf_X7_readWord (t_X7_readWord g.2.2.2.2.2.2.1 hc) (RC_own g rfl z10) z10 (by decide) q_704 (Nat.le_of_ble_eq_true rfl) dX7_next_108 ?_ rfl
        refine V_goto g 190 dX7_next_111 (by decide) ?_
        refine V_sub [] [] rfl ?_
        exact t_X7_next_b190 g f hf
  · have hf := it_f hf c12
    refine V_aload_n g 0 dX7_next_71 rfl ?_
    refine V_iconst (v := 0) g dX7_next_72 (by decide) ?_
    obtain ⟨s19, es19, hf⟩ := lt_some hf
    refine V_putI g 7 l0 4 es19 rfl (by decide) rfl q_135 z10 (Or.inl rfl) pf_7_4 dX7_next_73 ?_
    refine V_goto g 190 dX7_next_76 (by decide) ?_
    refine V_sub [] [] rfl ?_
    exact t_X7_next_b190 g f hf
set_option maxRecDepth 20000 in
theorem t_X7_next_b0 {E : ET} {fu : Nat} {s' : St} (g : GX E "ThinSeries$Tokens" cX7_next 1 4) (f : FX E "next" none []) : ∀ (n : Nat) (s : St) (l0 : Nat), f_X7_next_b0 fu n s l0 = some s' → V E 1 (QE E (s', .inl none)) s 0 [(0, vR 7 l0)] [] := by
  intro n
  induction n with
  | zero =>
    intro s l0 hf
    unfold f_X7_next_b0 at hf
    exact nomatch hf
  | succ n ih =>
    intro s l0 hf
    unfold f_X7_next_b0 at hf
    refine V_aload_n g 0 dX7_next_0 rfl ?_
    obtain ⟨z1, hf⟩ := nz_some hf
    refine V_getI g 7 l0 3 rfl (by decide) rfl q_134 z1 dX7_next_1 ?_
    refine V_aload_n g 0 dX7_next_4 rfl ?_
    refine V_getI g 7 l0 1 rfl (by decide) rfl q_132 z1 dX7_next_5 ?_
    refine V_icmp_ge g 52 dX7_next_8 (by decide) (fun c2 => ?_) (fun c2 => ?_)
    · have hf := it_t hf c2
      exact t_X7_next_b52 g f hf
    · have hf := it_f hf c2
      refine V_aload_n g 0 dX7_next_11 rfl ?_
      refine V_getR g 7 l0 0 12 rfl (by decide) rfl rfl q_131 z1 dX7_next_12 ?_
      refine V_aload_n g 0 dX7_next_15 rfl ?_
      refine V_getI g 7 l0 3 rfl (by decide) rfl q_134 z1 dX7_next_16 ?_
      obtain ⟨z3, hf⟩ := nz_some hf
      obtain ⟨h4, hf⟩ := ckf hf
      refine V_bald g z3 h4 dX7_next_19 ?_
      refine V_bipush (v := 32) g dX7_next_20 (by decide) ?_
      refine V_icmp_eq g 39 dX7_next_22 (by decide) (fun c5 => ?_) (fun c5 => ?_)
      · have hf := it_t hf c5
        exact t_X7_next_b39 g f ih hf
      · have hf := it_f hf c5
        refine V_aload_n g 0 dX7_next_25 rfl ?_
        refine V_getR g 7 l0 0 12 rfl (by decide) rfl rfl q_131 z1 dX7_next_26 ?_
        refine V_aload_n g 0 dX7_next_29 rfl ?_
        refine V_getI g 7 l0 3 rfl (by decide) rfl q_134 z1 dX7_next_30 ?_
        obtain ⟨h6, hf⟩ := ckf hf
        refine V_bald g z3 h6 dX7_next_33 ?_
        refine V_bipush (v := 10) g dX7_next_34 (by decide) ?_
        refine V_icmp_ne g 52 dX7_next_36 (by decide) (fun c7 => ?_) (fun c7 => ?_)
        · have hf := it_f hf c7
          exact t_X7_next_b52 g f hf
        · have hf := it_t hf c7
          exact t_X7_next_b39 g f ih hf
set_option maxRecDepth 20000 in
theorem t_X7_next {G : GT} {l : Launch} (hl : l.stackTraces = false) {fu : Nat} {s s' : St} {a0 : Nat} (hf : f_X7_next fu s a0 = some s') : MetG G l yX7_next (.code yX7_next cX7_next 1 none) 4 s [vR 7 a0] (s', .inl none) := by
  refine MetG_of hl (by decide +kernel) (Nat.le_of_ble_eq_true rfl) (fun E g f eG eL => ?_)
  subst eG; subst eL
  have g : GX E "ThinSeries$Tokens" cX7_next 1 4 := g
  have f : FX E "next" none [] := f
  show V E 1 (QE E (s', .inl none)) s 0 [(0, vR 7 a0)] []
  unfold f_X7_next at hf
  exact t_X7_next_b0 g f _ s a0 hf
set_option maxRecDepth 20000 in
theorem t_X7_refuse {G : GT} {l : Launch} (hl : l.stackTraces = false) {fu : Nat} {s s' : St} {a0 : Nat} {a1 : Int32} {w' : Int32} (hf : f_X7_refuse fu s a0 a1 = some (s', w')) : MetG G l yX7_refuse (.code yX7_refuse cX7_refuse 2 (some .boolean)) 0 s [vR 7 a0, vI a1] (s', .inl (some (vI w'))) := by
  refine MetG_of hl (by decide +kernel) (Nat.le_of_ble_eq_true rfl) (fun E g f eG eL => ?_)
  subst eG; subst eL
  have g : GX E "ThinSeries$Tokens" cX7_refuse 2 0 := g
  have f : FX E "refuse" (some .boolean) [] := f
  show V E 2 (QE E (s', .inl (some (vI w')))) s 0 [(0, vR 7 a0), (1, vI a1)] []
  unfold f_X7_refuse at hf
  refine V_aload_n g 0 dX7_refuse_0 rfl ?_
  refine V_iload_n g 1 dX7_refuse_1 rfl ?_
  obtain ⟨z1, hf⟩ := nz_some hf
  obtain ⟨s2, es2, hf⟩ := lt_some hf
  refine V_putI g 7 a0 7 es2 rfl (by decide) rfl q_143 z1 (Or.inl rfl) pf_7_7 dX7_refuse_2 ?_
  refine V_aload_n g 0 dX7_refuse_5 rfl ?_
  refine V_aload_n g 0 dX7_refuse_6 rfl ?_
  refine V_getI g 7 a0 2 rfl (by decide) rfl q_133 z1 dX7_refuse_7 ?_
  obtain ⟨s3, es3, hf⟩ := lt_some hf
  refine V_putI g 7 a0 8 es3 rfl (by decide) rfl q_145 z1 (Or.inl rfl) pf_7_8 dX7_refuse_10 ?_
  refine V_iconst (v := 0) g dX7_refuse_13 (by decide) ?_
  obtain ⟨h4, hf⟩ := ckf hf
  cases hf
  exact V_zreturn g f (zb_n h4) dX7_refuse_14
set_option maxRecDepth 20000 in
theorem t_X7_isNumberWithin_b30 {E : ET} {fu : Nat} {s' : St} {w' : Int32} (g : GX E "ThinSeries$Tokens" cX7_isNumberWithin 3 1) (f : FX E "isNumberWithin" (some .boolean) []) {s : St} {l0 : Nat} (hf : f_X7_isNumberWithin_b30 fu s l0 = some (s', w')) : V E 3 (QE E (s', .inl (some (vI w')))) s 30 [(0, vR 7 l0)] [] := by
  unfold f_X7_isNumberWithin_b30 at hf
  refine V_aload_n g 0 dX7_isNumberWithin_30 rfl ?_
  refine V_iconst (v := 2) g dX7_isNumberWithin_31 (by decide) ?_
  obtain ⟨z9, hf⟩ := nz_some hf
  obtain ⟨s10, x11, hc, hf⟩ := bI_some hf
  refine cV1 g [vI 2] [] s10 (vI x11) cf_X7_refuse (t_X7_refuse g.2.2.2.2.2.2.1 hc) (RC_own g rfl z9) z9 (by decide) q_844 (Nat.le_of_ble_eq_true rfl) dX7_isNumberWithin_32 ?_ rfl
  obtain ⟨h12, hf⟩ := ckf hf
  cases hf
  exact V_zreturn g f (zb_n h12) dX7_isNumberWithin_35
set_option maxRecDepth 20000 in
theorem t_X7_isNumberWithin {G : GT} {l : Launch} (hl : l.stackTraces = false) {fu : Nat} {s s' : St} {a0 : Nat} {a1 : Int32} {a2 : Int32} {w' : Int32} (hf : f_X7_isNumberWithin fu s a0 a1 a2 = some (s', w')) : MetG G l yX7_isNumberWithin (.code yX7_isNumberWithin cX7_isNumberWithin 3 (some .boolean)) 1 s [vR 7 a0, vI a1, vI a2] (s', .inl (some (vI w'))) := by
  refine MetG_of hl (by decide +kernel) (Nat.le_of_ble_eq_true rfl) (fun E g f eG eL => ?_)
  subst eG; subst eL
  have g : GX E "ThinSeries$Tokens" cX7_isNumberWithin 3 1 := g
  have f : FX E "isNumberWithin" (some .boolean) [] := f
  show V E 3 (QE E (s', .inl (some (vI w')))) s 0 [(0, vR 7 a0), (1, vI a1), (2, vI a2)] []
  unfold f_X7_isNumberWithin at hf
  refine V_aload_n g 0 dX7_isNumberWithin_0 rfl ?_
  obtain ⟨z1, hf⟩ := nz_some hf
  refine V_getI g 7 a0 4 rfl (by decide) rfl q_135 z1 dX7_isNumberWithin_1 ?_
  refine V_iconst (v := 2) g dX7_isNumberWithin_4 (by decide) ?_
  refine V_icmp_eq g 14 dX7_isNumberWithin_5 (by decide) (fun c2 => ?_) (fun c2 => ?_)
  · have hf := it_t hf c2
    refine V_aload_n g 0 dX7_isNumberWithin_14 rfl ?_
    refine V_getI g 7 a0 5 rfl (by decide) rfl q_138 z1 dX7_isNumberWithin_15 ?_
    refine V_iload_n g 1 dX7_isNumberWithin_18 rfl ?_
    refine V_icmp_lt g 30 dX7_isNumberWithin_19 (by decide) (fun c3 => ?_) (fun c3 => ?_)
    · have hf := it_t hf c3
      refine V_sub [(0, vR 7 a0)] [0] rfl ?_
      exact t_X7_isNumberWithin_b30 g f hf
    · have hf := it_f hf c3
      refine V_aload_n g 0 dX7_isNumberWithin_22 rfl ?_
      refine V_getI g 7 a0 5 rfl (by decide) rfl q_138 z1 dX7_isNumberWithin_23 ?_
      refine V_iload_n g 2 dX7_isNumberWithin_26 rfl ?_
      refine V_icmp_le g 36 dX7_isNumberWithin_27 (by decide) (fun c4 => ?_) (fun c4 => ?_)
      · have hf := it_t hf c4
        refine V_iconst (v := 1) g dX7_isNumberWithin_36 (by decide) ?_
        obtain ⟨h5, hf⟩ := ckf hf
        cases hf
        exact V_zreturn g f (zb_n h5) dX7_isNumberWithin_37
      · have hf := it_f hf c4
        refine V_sub [(0, vR 7 a0)] [0] rfl ?_
        exact t_X7_isNumberWithin_b30 g f hf
  · have hf := it_f hf c2
    refine V_aload_n g 0 dX7_isNumberWithin_8 rfl ?_
    refine V_iconst (v := 1) g dX7_isNumberWithin_9 (by decide) ?_
    obtain ⟨s6, x7, hc, hf⟩ := bI_some hf
    refine cV1 g [vI 1] [] s6 (vI x7) cf_X7_refuse (t_X7_refuse g.2.2.2.2.2.2.1 hc) (RC_own g rfl z1) z1 (by decide) q_844 (Nat.le_of_ble_eq_true rfl) dX7_isNumberWithin_10 ?_ rfl
    obtain ⟨h8, hf⟩ := ckf hf
    cases hf
    exact V_zreturn g f (zb_n h8) dX7_isNumberWithin_13
set_option maxRecDepth 20000 in
theorem t_X7_takeNumber {G : GT} {l : Launch} (hl : l.stackTraces = false) {fu : Nat} {s s' : St} {a0 : Nat} {a1 : Int32} {a2 : Int32} {w' : Int32} (hf : f_X7_takeNumber fu s a0 a1 a2 = some (s', w')) : MetG G l yX7_takeNumber (.code yX7_takeNumber cX7_takeNumber 3 (some .boolean)) 5 s [vR 7 a0, vI a1, vI a2] (s', .inl (some (vI w'))) := by
  refine MetG_of hl (by decide +kernel) (Nat.le_of_ble_eq_true rfl) (fun E g f eG eL => ?_)
  subst eG; subst eL
  have g : GX E "ThinSeries$Tokens" cX7_takeNumber 3 5 := g
  have f : FX E "takeNumber" (some .boolean) [] := f
  show V E 3 (QE E (s', .inl (some (vI w')))) s 0 [(0, vR 7 a0), (1, vI a1), (2, vI a2)] []
  unfold f_X7_takeNumber at hf
  refine V_aload_n g 0 dX7_takeNumber_0 rfl ?_
  refine V_iload_n g 1 dX7_takeNumber_1 rfl ?_
  refine V_iload_n g 2 dX7_takeNumber_2 rfl ?_
  obtain ⟨z1, hf⟩ := nz_some hf
  obtain ⟨s2, x3, hc, hf⟩ := bI_some hf
  refine cV1 g [vI a1, vI a2] [] s2 (vI x3) cf_X7_isNumberWithin (t_X7_isNumberWithin g.2.2.2.2.2.2.1 hc) (RC_own g rfl z1) z1 (by decide) q_853 (Nat.le_of_ble_eq_true rfl) dX7_takeNumber_3 ?_ rfl
  refine V_if_ne g 11 dX7_takeNumber_6 (by decide) (fun c4 => ?_) (fun c4 => ?_)
  · have hf := it_f hf c4
    refine V_aload_n g 0 dX7_takeNumber_11 rfl ?_
    refine V_aload_n g 0 dX7_takeNumber_12 rfl ?_
    refine V_getI g 7 a0 5 rfl (by decide) rfl q_138 z1 dX7_takeNumber_13 ?_
    obtain ⟨s5, es5, hf⟩ := lt_some hf
    refine V_putI g 7 a0 6 es5 rfl (by decide) rfl q_140 z1 (Or.inl rfl) pf_7_6 dX7_takeNumber_16 ?_
    refine V_aload_n g 0 dX7_takeNumber_19 rfl ?_
    obtain ⟨s6, hc, hf⟩ := bV_some hf
    refine cV0 g [] [] s6 cf_X7_next (t_X7_next g.2.2.2.2.2.2.1 hc) (RC_own g rfl z1) z1 (by decide) q_700 (Nat.le_of_ble_eq_true rfl) dX7_takeNumber_20 ?_ rfl
    refine V_iconst (v := 1) g dX7_takeNumber_23 (by decide) ?_
    obtain ⟨h7, hf⟩ := ckf hf
    cases hf
    exact V_zreturn g f (zb_n h7) dX7_takeNumber_24
  · have hf := it_t hf c4
    refine V_iconst (v := 0) g dX7_takeNumber_9 (by decide) ?_
    obtain ⟨h8, hf⟩ := ckf hf
    cases hf
    exact V_zreturn g f (zb_n h8) dX7_takeNumber_10
set_option maxRecDepth 20000 in
theorem t_X7_isSign_b26 {E : ET} {fu : Nat} {s' : St} {w' : Int32} (g : GX E "ThinSeries$Tokens" cX7_isSign 2 0) (f : FX E "isSign" (some .boolean) []) {s : St} {t0 : Int32} (hf : f_X7_isSign_b26 fu s t0 = some (s', w')) : V E 2 (QE E (s', .inl (some (vI w')))) s 26 [] [vI t0] := by
  unfold f_X7_isSign_b26 at hf
  obtain ⟨h6, hf⟩ := ckf hf
  cases hf
  exact V_zreturn g f (zb_n h6) dX7_isSign_26
set_option maxRecDepth 20000 in
theorem t_X7_isSign_b25 {E : ET} {fu : Nat} {s' : St} {w' : Int32} (g : GX E "ThinSeries$Tokens" cX7_isSign 2 0) (f : FX E "isSign" (some .boolean) []) {s : St} (hf : f_X7_isSign_b25 fu s = some (s', w')) : V E 2 (QE E (s', .inl (some (vI w')))) s 25 [] [] := by
  unfold f_X7_isSign_b25 at hf
  refine V_iconst (v := 0) g dX7_isSign_25 (by decide) ?_
  exact t_X7_isSign_b26 g f hf
set_option maxRecDepth 20000 in
theorem t_X7_isSign {G : GT} {l : Launch} (hl : l.stackTraces = false) {fu : Nat} {s s' : St} {a0 : Nat} {a1 : Int32} {w' : Int32} (hf : f_X7_isSign fu s a0 a1 = some (s', w')) : MetG G l yX7_isSign (.code yX7_isSign cX7_isSign 2 (some .boolean)) 0 s [vR 7 a0, vI a1] (s', .inl (some (vI w'))) := by
  refine MetG_of hl (by decide +kernel) (Nat.le_of_ble_eq_true rfl) (fun E g f eG eL => ?_)
  subst eG; subst eL
  have g : GX E "ThinSeries$Tokens" cX7_isSign 2 0 := g
  have f : FX E "isSign" (some .boolean) [] := f
  show V E 2 (QE E (s', .inl (some (vI w')))) s 0 [(0, vR 7 a0), (1, vI a1)] []
  unfold f_X7_isSign at hf
  refine V_aload_n g 0 dX7_isSign_0 rfl ?_
  obtain ⟨z1, hf⟩ := nz_some hf
  refine V_getI g 7 a0 4 rfl (by decide) rfl q_135 z1 dX7_isSign_1 ?_
  refine V_iconst (v := 3) g dX7_isSign_4 (by decide) ?_
  refine V_icmp_ne g 25 dX7_isSign_5 (by decide) (fun c2 => ?_) (fun c2 => ?_)
  · have hf := it_f hf c2
    refine V_sub [] [] rfl ?_
    exact t_X7_isSign_b25 g f hf
  · have hf := it_t hf c2
    refine V_aload_n g 0 dX7_isSign_8 rfl ?_
    refine V_getR g 7 a0 0 12 rfl (by decide) rfl rfl q_131 z1 dX7_isSign_9 ?_
    refine V_aload_n g 0 dX7_isSign_12 rfl ?_
    refine V_getI g 7 a0 2 rfl (by decide) rfl q_133 z1 dX7_isSign_13 ?_
    obtain ⟨z3, hf⟩ := nz_some hf
    obtain ⟨h4, hf⟩ := ckf hf
    refine V_bald g z3 h4 dX7_isSign_16 ?_
    refine V_iload_n g 1 dX7_isSign_17 rfl ?_
    refine V_icmp_ne g 25 dX7_isSign_18 (by decide) (fun c5 => ?_) (fun c5 => ?_)
    · have hf := it_f hf c5
      refine V_sub [] [] rfl ?_
      exact t_X7_isSign_b25 g f hf
    · have hf := it_t hf c5
      refine V_iconst (v := 1) g dX7_isSign_21 (by decide) ?_
      refine V_goto g 26 dX7_isSign_22 (by decide) ?_
      refine V_sub [] [] rfl ?_
      exact t_X7_isSign_b26 g f hf
set_option maxRecDepth 20000 in
theorem t_X7_takeSign {G : GT} {l : Launch} (hl : l.stackTraces = false) {fu : Nat} {s s' : St} {a0 : Nat} {a1 : Int32} {w' : Int32} (hf : f_X7_takeSign fu s a0 a1 = some (s', w')) : MetG G l yX7_takeSign (.code yX7_takeSign cX7_takeSign 2 (some .boolean)) 5 s [vR 7 a0, vI a1] (s', .inl (some (vI w'))) := by
  refine MetG_of hl (by decide +kernel) (Nat.le_of_ble_eq_true rfl) (fun E g f eG eL => ?_)
  subst eG; subst eL
  have g : GX E "ThinSeries$Tokens" cX7_takeSign 2 5 := g
  have f : FX E "takeSign" (some .boolean) [] := f
  show V E 2 (QE E (s', .inl (some (vI w')))) s 0 [(0, vR 7 a0), (1, vI a1)] []
  unfold f_X7_takeSign at hf
  refine V_aload_n g 0 dX7_takeSign_0 rfl ?_
  refine V_iload_n g 1 dX7_takeSign_1 rfl ?_
  obtain ⟨z1, hf⟩ := nz_some hf
  obtain ⟨s2, x3, hc, hf⟩ := bI_some hf
  refine cV1 g [vI a1] [] s2 (vI x3) cf_X7_isSign (t_X7_isSign g.2.2.2.2.2.2.1 hc) (RC_own g rfl z1) z1 (by decide) q_879 (Nat.le_of_ble_eq_true rfl) dX7_takeSign_2 ?_ rfl
  refine V_if_ne g 14 dX7_takeSign_5 (by decide) (fun c4 => ?_) (fun c4 => ?_)
  · have hf := it_f hf c4
    refine V_aload_n g 0 dX7_takeSign_14 rfl ?_
    obtain ⟨s5, hc, hf⟩ := bV_some hf
    refine cV0 g [] [] s5 cf_X7_next (t_X7_next g.2.2.2.2.2.2.1 hc) (RC_own g rfl z1) z1 (by decide) q_700 (Nat.le_of_ble_eq_true rfl) dX7_takeSign_15 ?_ rfl
    refine V_iconst (v := 1) g dX7_takeSign_18 (by decide) ?_
    obtain ⟨h6, hf⟩ := ckf hf
    cases hf
    exact V_zreturn g f (zb_n h6) dX7_takeSign_19
  · have hf := it_t hf c4
    refine V_aload_n g 0 dX7_takeSign_8 rfl ?_
    refine V_iconst (v := 1) g dX7_takeSign_9 (by decide) ?_
    obtain ⟨s7, x8, hc, hf⟩ := bI_some hf
    refine cV1 g [vI 1] [] s7 (vI x8) cf_X7_refuse (t_X7_refuse g.2.2.2.2.2.2.1 hc) (RC_own g rfl z1) z1 (by decide) q_844 (Nat.le_of_ble_eq_true rfl) dX7_takeSign_10 ?_ rfl
    obtain ⟨h9, hf⟩ := ckf hf
    cases hf
    exact V_zreturn g f (zb_n h9) dX7_takeSign_13
set_option maxRecDepth 20000 in
theorem t_X7_takeSigned_b43 {E : ET} {fu : Nat} {s' : St} {w' : Int32} (g : GX E "ThinSeries$Tokens" cX7_takeSigned 3 5) (f : FX E "takeSigned" (some .boolean) []) {s : St} {l0 : Nat} {t0 : Int32} {t1 : Nat} (hf : f_X7_takeSigned_b43 fu s l0 t0 t1 = some (s', w')) : V E 3 (QE E (s', .inl (some (vI w')))) s 43 [(0, vR 7 l0)] [vI t0, vR 7 t1] := by
  unfold f_X7_takeSigned_b43 at hf
  obtain ⟨z12, hf⟩ := nz_some hf
  obtain ⟨s13, es13, hf⟩ := lt_some hf
  refine V_putI g 7 t1 6 es13 rfl (by decide) rfl q_140 z12 (Or.inl rfl) pf_7_6 dX7_takeSigned_43 ?_
  refine V_aload_n g 0 dX7_takeSigned_46 rfl ?_
  obtain ⟨z14, hf⟩ := nz_some hf
  obtain ⟨s15, hc, hf⟩ := bV_some hf
  refine cV0 g [] [] s15 cf_X7_next (t_X7_next g.2.2.2.2.2.2.1 hc) (RC_own g rfl z14) z14 (by decide) q_700 (Nat.le_of_ble_eq_true rfl) dX7_takeSigned_47 ?_ rfl
  refine V_iconst (v := 1) g dX7_takeSigned_50 (by decide) ?_
  obtain ⟨h16, hf⟩ := ckf hf
  cases hf
  exact V_zreturn g f (zb_n h16) dX7_takeSigned_51
set_option maxRecDepth 20000 in
theorem t_X7_takeSigned_b15 {E : ET} {fu : Nat} {s' : St} {w' : Int32} (g : GX E "ThinSeries$Tokens" cX7_takeSigned 3 5) (f : FX E "takeSigned" (some .boolean) []) {s : St} {l0 : Nat} {l1 : Int32} {l2 : Int32} (hf : f_X7_takeSigned_b15 fu s l0 l1 l2 = some (s', w')) : V E 3 (QE E (s', .inl (some (vI w')))) s 15 [(0, vR 7 l0), (1, vI l1), (2, vI l2)] [] := by
  unfold f_X7_takeSigned_b15 at hf
  refine V_aload_n g 0 dX7_takeSigned_15 rfl ?_
  refine V_iconst (v := 0) g dX7_takeSigned_16 (by decide) ?_
  refine V_iload_n g 1 dX7_takeSigned_17 rfl ?_
  obtain ⟨z6, hf⟩ := nz_some hf
  obtain ⟨s7, x8, hc, hf⟩ := bI_some hf
  refine cV1 g [vI 0, vI l1] [] s7 (vI x8) cf_X7_isNumberWithin (t_X7_isNumberWithin g.2.2.2.2.2.2.1 hc) (RC_own g rfl z6) z6 (by decide) q_853 (Nat.le_of_ble_eq_true rfl) dX7_takeSigned_18 ?_ rfl
  refine V_if_ne g 26 dX7_takeSigned_21 (by decide) (fun c9 => ?_) (fun c9 => ?_)
  · have hf := it_f hf c9
    refine V_aload_n g 0 dX7_takeSigned_26 rfl ?_
    refine V_iload_n g 2 dX7_takeSigned_27 rfl ?_
    refine V_if_eq g 39 dX7_takeSigned_28 (by decide) (fun c10 => ?_) (fun c10 => ?_)
    · have hf := it_t hf c10
      refine V_aload_n g 0 dX7_takeSigned_39 rfl ?_
      refine V_getI g 7 l0 5 rfl (by decide) rfl q_138 z6 dX7_takeSigned_40 ?_
      refine V_sub [(0, vR 7 l0)] [0] rfl ?_
      exact t_X7_takeSigned_b43 g f hf
    · have hf := it_f hf c10
      refine V_aload_n g 0 dX7_takeSigned_31 rfl ?_
      refine V_getI g 7 l0 5 rfl (by decide) rfl q_138 z6 dX7_takeSigned_32 ?_
      refine V_ineg g dX7_takeSigned_35 ?_
      refine V_goto g 43 dX7_takeSigned_36 (by decide) ?_
      refine V_sub [(0, vR 7 l0)] [0] rfl ?_
      exact t_X7_takeSigned_b43 g f hf
  · have hf := it_t hf c9
    refine V_iconst (v := 0) g dX7_takeSigned_24 (by decide) ?_
    obtain ⟨h11, hf⟩ := ckf hf
    cases hf
    exact V_zreturn g f (zb_n h11) dX7_takeSigned_25
set_option maxRecDepth 20000 in
theorem t_X7_takeSigned {G : GT} {l : Launch} (hl : l.stackTraces = false) {fu : Nat} {s s' : St} {a0 : Nat} {a1 : Int32} {w' : Int32} (hf : f_X7_takeSigned fu s a0 a1 = some (s', w')) : MetG G l yX7_takeSigned (.code yX7_takeSigned cX7_takeSigned 3 (some .boolean)) 5 s [vR 7 a0, vI a1] (s', .inl (some (vI w'))) := by
  refine MetG_of hl (by decide +kernel) (Nat.le_of_ble_eq_true rfl) (fun E g f eG eL => ?_)
  subst eG; subst eL
  have g : GX E "ThinSeries$Tokens" cX7_takeSigned 3 5 := g
  have f : FX E "takeSigned" (some .boolean) [] := f
  show V E 3 (QE E (s', .inl (some (vI w')))) s 0 [(0, vR 7 a0), (1, vI a1)] []
  unfold f_X7_takeSigned at hf
  refine V_aload_n g 0 dX7_takeSigned_0 rfl ?_
  refine V_bipush (v := 45) g dX7_takeSigned_1 (by decide) ?_
  obtain ⟨z1, hf⟩ := nz_some hf
  obtain ⟨s2, x3, hc, hf⟩ := bI_some hf
  refine cV1 g [vI 45] [] s2 (vI x3) cf_X7_isSign (t_X7_isSign g.2.2.2.2.2.2.1 hc) (RC_own g rfl z1) z1 (by decide) q_879 (Nat.le_of_ble_eq_true rfl) dX7_takeSigned_3 ?_ rfl
  refine V_istore_n g [(2, vI x3), (0, vR 7 a0), (1, vI a1)] dX7_takeSigned_6 rfl (by decide) rfl ?_
  refine V_iload_n g 0 dX7_takeSigned_7 rfl ?_
  refine V_if_eq g 15 dX7_takeSigned_8 (by decide) (fun c4 => ?_) (fun c4 => ?_)
  · have hf := it_t hf c4
    refine V_sub [(0, vR 7 a0), (1, vI a1), (2, vI x3)] [1, 2, 0] rfl ?_
    exact t_X7_takeSigned_b15 g f hf
  · have hf := it_f hf c4
    refine V_aload_n g 1 dX7_takeSigned_11 rfl ?_
    obtain ⟨s5, hc, hf⟩ := bV_some hf
    refine cV0 g [] [] s5 cf_X7_next (t_X7_next g.2.2.2.2.2.2.1 hc) (RC_own g rfl z1) z1 (by decide) q_700 (Nat.le_of_ble_eq_true rfl) dX7_takeSigned_12 ?_ rfl
    refine V_sub [(0, vR 7 a0), (1, vI a1), (2, vI x3)] [1, 2, 0] rfl ?_
    exact t_X7_takeSigned_b15 g f hf
set_option maxRecDepth 20000 in
theorem t_X1_readLine_b121 {E : ET} {fu : Nat} {s' : St} {w' : Int32} (g : GX E "ThinSeries$BatchReader" cX1_readLine 2 6) (f : FX E "readLine" (some .boolean) []) {s : St} {l0 : Nat} (hf : f_X1_readLine_b121 fu s l0 = some (s', w')) : V E 2 (QE E (s', .inl (some (vI w')))) s 121 [(0, vR 1 l0)] [] := by
  unfold f_X1_readLine_b121 at hf
  refine V_aload_n g 0 dX1_readLine_121 rfl ?_
  obtain ⟨z40, hf⟩ := nz_some hf
  refine V_getR g 1 l0 4 10 rfl (by decide) rfl rfl q_190 z40 dX1_readLine_122 ?_
  refine V_aload_n g 0 dX1_readLine_125 rfl ?_
  refine V_getI g 1 l0 5 rfl (by decide) rfl q_192 z40 dX1_readLine_126 ?_
  refine V_aload_n g 0 dX1_readLine_129 rfl ?_
  refine V_getR g 1 l0 0 7 rfl (by decide) rfl rfl q_183 z40 dX1_readLine_130 ?_
  obtain ⟨z41, hf⟩ := nz_some hf
  refine V_getI g 7 (gR s 1 l0 0) 6 rfl (by decide) rfl q_142 z41 dX1_readLine_133 ?_
  obtain ⟨z42, hf⟩ := nz_some hf
  obtain ⟨h43, hf⟩ := ckf hf
  obtain ⟨s44, es44, hf⟩ := lt_some hf
  refine V_iast g es44 z42 h43 dX1_readLine_136 ?_
  refine V_aload_n g 0 dX1_readLine_137 rfl ?_
  refine V_getR g 1 l0 0 7 rfl (by decide) rfl rfl q_183 z40 dX1_readLine_138 ?_
  refine V_bipush (v := 59) g dX1_readLine_141 (by decide) ?_
  obtain ⟨z45, hf⟩ := nz_some hf
  obtain ⟨s46, x47, hc, hf⟩ := bI_some hf
  refine cV1 g [vI 59] [] s46 (vI x47) cf_X7_takeSign (t_X7_takeSign g.2.2.2.2.2.2.1 hc) (RC_own g rfl z45) z45 (by decide) q_946 (Nat.le_of_ble_eq_true rfl) dX1_readLine_143 ?_ rfl
  obtain ⟨h48, hf⟩ := ckf hf
  cases hf
  exact V_zreturn g f (zb_n h48) dX1_readLine_146
set_option maxRecDepth 20000 in
theorem t_X1_readLine_b86 {E : ET} {fu : Nat} {s' : St} {w' : Int32} (g : GX E "ThinSeries$BatchReader" cX1_readLine 2 6) (f : FX E "readLine" (some .boolean) []) {s : St} {l0 : Nat} {l1 : Int32} (hf : f_X1_readLine_b86 fu s l0 l1 = some (s', w')) : V E 2 (QE E (s', .inl (some (vI w')))) s 86 [(0, vR 1 l0), (1, vI l1)] [] := by
  unfold f_X1_readLine_b86 at hf
  refine V_aload_n g 0 dX1_readLine_86 rfl ?_
  obtain ⟨z29, hf⟩ := nz_some hf
  refine V_getR g 1 l0 3 10 rfl (by decide) rfl rfl q_188 z29 dX1_readLine_87 ?_
  refine V_aload_n g 0 dX1_readLine_90 rfl ?_
  refine V_getI g 1 l0 5 rfl (by decide) rfl q_192 z29 dX1_readLine_91 ?_
  refine V_aload_n g 0 dX1_readLine_94 rfl ?_
  refine V_getR g 1 l0 0 7 rfl (by decide) rfl rfl q_183 z29 dX1_readLine_95 ?_
  obtain ⟨z30, hf⟩ := nz_some hf
  refine V_getI g 7 (gR s 1 l0 0) 6 rfl (by decide) rfl q_142 z30 dX1_readLine_98 ?_
  obtain ⟨z31, hf⟩ := nz_some hf
  obtain ⟨h32, hf⟩ := ckf hf
  obtain ⟨s33, es33, hf⟩ := lt_some hf
  refine V_iast g es33 z31 h32 dX1_readLine_101 ?_
  refine V_iload_n g 1 dX1_readLine_102 rfl ?_
  refine V_if_ne g 121 dX1_readLine_103 (by decide) (fun c34 => ?_) (fun c34 => ?_)
  · have hf := it_f hf c34
    refine V_sub [(0, vR 1 l0)] [0] rfl ?_
    exact t_X1_readLine_b121 g f hf
  · have hf := it_t hf c34
    refine V_aload_n g 0 dX1_readLine_106 rfl ?_
    refine V_getR g 1 l0 0 7 rfl (by decide) rfl rfl q_183 z29 dX1_readLine_107 ?_
    refine V_sipush (v := 10000) g dX1_readLine_110 (by decide) ?_
    obtain ⟨z35, hf⟩ := nz_some hf
    obtain ⟨s36, x37, hc, hf⟩ := bI_some hf
    refine cV1 g [vI 10000] [] s36 (vI x37) cf_X7_takeSigned (t_X7_takeSigned g.2.2.2.2.2.2.1 hc) (RC_own g rfl z35) z35 (by decide) q_945 (Nat.le_of_ble_eq_true rfl) dX1_readLine_113 ?_ rfl
    refine V_if_ne g 121 dX1_readLine_116 (by decide) (fun c38 => ?_) (fun c38 => ?_)
    · have hf := it_f hf c38
      refine V_sub [(0, vR 1 l0)] [0] rfl ?_
      exact t_X1_readLine_b121 g f hf
    · have hf := it_t hf c38
      refine V_iconst (v := 0) g dX1_readLine_119 (by decide) ?_
      obtain ⟨h39, hf⟩ := ckf hf
      cases hf
      exact V_zreturn g f (zb_n h39) dX1_readLine_120
set_option maxRecDepth 20000 in
theorem t_X1_readLine {G : GT} {l : Launch} (hl : l.stackTraces = false) {fu : Nat} {s s' : St} {a0 : Nat} {w' : Int32} (hf : f_X1_readLine fu s a0 = some (s', w')) : MetG G l yX1_readLine (.code yX1_readLine cX1_readLine 2 (some .boolean)) 6 s [vR 1 a0] (s', .inl (some (vI w'))) := by
  refine MetG_of hl (by decide +kernel) (Nat.le_of_ble_eq_true rfl) (fun E g f eG eL => ?_)
  subst eG; subst eL
  have g : GX E "ThinSeries$BatchReader" cX1_readLine 2 6 := g
  have f : FX E "readLine" (some .boolean) [] := f
  show V E 2 (QE E (s', .inl (some (vI w')))) s 0 [(0, vR 1 a0)] []
  unfold f_X1_readLine at hf
  refine V_aload_n g 0 dX1_readLine_0 rfl ?_
  obtain ⟨z1, hf⟩ := nz_some hf
  obtain ⟨s2, x3, hc, hf⟩ := bI_some hf
  refine cV1 g [] [] s2 (vI x3) cf_X1_kindHere (t_X1_kindHere g.2.2.2.2.2.2.1 hc) (RC_own g rfl z1) z1 (by decide) q_933 (Nat.le_of_ble_eq_true rfl) dX1_readLine_1 ?_ rfl
  refine V_istore_n g [(1, vI x3), (0, vR 1 a0)] dX1_readLine_4 rfl (by decide) rfl ?_
  refine V_iload_n g 0 dX1_readLine_5 rfl ?_
  refine V_iconst (v := (-1)) g dX1_readLine_6 (by decide) ?_
  refine V_icmp_ne g 19 dX1_readLine_7 (by decide) (fun c4 => ?_) (fun c4 => ?_)
  · have hf := it_f hf c4
    refine V_aload_n g 1 dX1_readLine_19 rfl ?_
    refine V_getR g 1 a0 0 7 rfl (by decide) rfl rfl q_183 z1 dX1_readLine_20 ?_
    obtain ⟨z5, hf⟩ := nz_some hf
    obtain ⟨s6, hc, hf⟩ := bV_some hf
    refine cV0 g [] [] s6 cf_X7_next (t_X7_next g.2.2.2.2.2.2.1 hc) (RC_own g rfl z5) z5 (by decide) q_942 (Nat.le_of_ble_eq_true rfl) dX1_readLine_23 ?_ rfl
    refine V_aload_n g 1 dX1_readLine_26 rfl ?_
    refine V_getR g 1 a0 1 10 rfl (by decide) rfl rfl q_184 z1 dX1_readLine_27 ?_
    refine V_aload_n g 1 dX1_readLine_30 rfl ?_
    refine V_getI g 1 a0 5 rfl (by decide) rfl q_192 z1 dX1_readLine_31 ?_
    refine V_iload_n g 0 dX1_readLine_34 rfl ?_
    obtain ⟨z7, hf⟩ := nz_some hf
    obtain ⟨h8, hf⟩ := ckf hf
    obtain ⟨s9, es9, hf⟩ := lt_some hf
    refine V_iast g es9 z7 h8 dX1_readLine_35 ?_
    refine V_aload_n g 1 dX1_readLine_36 rfl ?_
    refine V_getR g 1 a0 0 7 rfl (by decide) rfl rfl q_183 z1 dX1_readLine_37 ?_
    refine V_iconst (v := 0) g dX1_readLine_40 (by decide) ?_
    refine V_bipush (v := 9) g dX1_readLine_41 (by decide) ?_
    obtain ⟨z10, hf⟩ := nz_some hf
    obtain ⟨s11, x12, hc, hf⟩ := bI_some hf
    refine cV1 g [vI 0, vI 9] [] s11 (vI x12) cf_X7_takeNumber (t_X7_takeNumber g.2.2.2.2.2.2.1 hc) (RC_own g rfl z10) z10 (by decide) q_943 (Nat.le_of_ble_eq_true rfl) dX1_readLine_43 ?_ rfl
    refine V_if_ne g 51 dX1_readLine_46 (by decide) (fun c13 => ?_) (fun c13 => ?_)
    · have hf := it_f hf c13
      refine V_aload_n g 1 dX1_readLine_51 rfl ?_
      refine V_getR g 1 a0 2 10 rfl (by decide) rfl rfl q_186 z1 dX1_readLine_52 ?_
      refine V_aload_n g 1 dX1_readLine_55 rfl ?_
      refine V_getI g 1 a0 5 rfl (by decide) rfl q_192 z1 dX1_readLine_56 ?_
      refine V_aload_n g 1 dX1_readLine_59 rfl ?_
      refine V_getR g 1 a0 0 7 rfl (by decide) rfl rfl q_183 z1 dX1_readLine_60 ?_
      obtain ⟨z14, hf⟩ := nz_some hf
      refine V_getI g 7 (gR s11 1 a0 0) 6 rfl (by decide) rfl q_142 z14 dX1_readLine_63 ?_
      obtain ⟨z15, hf⟩ := nz_some hf
      obtain ⟨h16, hf⟩ := ckf hf
      obtain ⟨s17, es17, hf⟩ := lt_some hf
      refine V_iast g es17 z15 h16 dX1_readLine_66 ?_
      refine V_iload_n g 0 dX1_readLine_67 rfl ?_
      refine V_iconst (v := 2) g dX1_readLine_68 (by decide) ?_
      refine V_icmp_eq g 86 dX1_readLine_69 (by decide) (fun c18 => ?_) (fun c18 => ?_)
      · have hf := it_t hf c18
        refine V_sub [(0, vR 1 a0), (1, vI x3)] [1, 0] rfl ?_
        exact t_X1_readLine_b86 g f hf
      · have hf := it_f hf c18
        refine V_aload_n g 1 dX1_readLine_72 rfl ?_
        refine V_getR g 1 a0 0 7 rfl (by decide) rfl rfl q_183 z1 dX1_readLine_73 ?_
        refine V_ldc (v := 1000000) g q_944 dX1_readLine_76 ?_
        obtain ⟨z19, hf⟩ := nz_some hf
        obtain ⟨s20, x21, hc, hf⟩ := bI_some hf
        refine cV1 g [vI 1000000] [] s20 (vI x21) cf_X7_takeSigned (t_X7_takeSigned g.2.2.2.2.2.2.1 hc) (RC_own g rfl z19) z19 (by decide) q_945 (Nat.le_of_ble_eq_true rfl) dX1_readLine_78 ?_ rfl
        refine V_if_ne g 86 dX1_readLine_81 (by decide) (fun c22 => ?_) (fun c22 => ?_)
        · have hf := it_f hf c22
          refine V_sub [(0, vR 1 a0), (1, vI x3)] [1, 0] rfl ?_
          exact t_X1_readLine_b86 g f hf
        · have hf := it_t hf c22
          refine V_iconst (v := 0) g dX1_readLine_84 (by decide) ?_
          obtain ⟨h23, hf⟩ := ckf hf
          cases hf
          exact V_zreturn g f (zb_n h23) dX1_readLine_85
    · have hf := it_t hf c13
      refine V_iconst (v := 0) g dX1_readLine_49 (by decide) ?_
      obtain ⟨h24, hf⟩ := ckf hf
      cases hf
      exact V_zreturn g f (zb_n h24) dX1_readLine_50
  · have hf := it_t hf c4
    refine V_aload_n g 1 dX1_readLine_10 rfl ?_
    refine V_getR g 1 a0 0 7 rfl (by decide) rfl rfl q_183 z1 dX1_readLine_11 ?_
    refine V_iconst (v := 1) g dX1_readLine_14 (by decide) ?_
    obtain ⟨z25, hf⟩ := nz_some hf
    obtain ⟨s26, x27, hc, hf⟩ := bI_some hf
    refine cV1 g [vI 1] [] s26 (vI x27) cf_X7_refuse (t_X7_refuse g.2.2.2.2.2.2.1 hc) (RC_own g rfl z25) z25 (by decide) q_941 (Nat.le_of_ble_eq_true rfl) dX1_readLine_15 ?_ rfl
    obtain ⟨h28, hf⟩ := ckf hf
    cases hf
    exact V_zreturn g f (zb_n h28) dX1_readLine_18
set_option maxRecDepth 20000 in
theorem t_X7_open {G : GT} {l : Launch} (hl : l.stackTraces = false) {fu : Nat} {s s' : St} {a0 : Nat} {a1 : Int32} (hf : f_X7_open fu s a0 a1 = some s') : MetG G l yX7_open (.code yX7_open cX7_open 2 none) 5 s [vR 7 a0, vI a1] (s', .inl none) := by
  refine MetG_of hl (by decide +kernel) (Nat.le_of_ble_eq_true rfl) (fun E g f eG eL => ?_)
  subst eG; subst eL
  have g : GX E "ThinSeries$Tokens" cX7_open 2 5 := g
  have f : FX E "open" none [] := f
  show V E 2 (QE E (s', .inl none)) s 0 [(0, vR 7 a0), (1, vI a1)] []
  unfold f_X7_open at hf
  refine V_aload_n g 0 dX7_open_0 rfl ?_
  refine V_iconst (v := 0) g dX7_open_1 (by decide) ?_
  refine V_iload_n g 1 dX7_open_2 rfl ?_
  refine V_aload_n g 0 dX7_open_3 rfl ?_
  obtain ⟨z1, hf⟩ := nz_some hf
  refine V_getR g 7 a0 0 12 rfl (by decide) rfl rfl q_131 z1 dX7_open_4 ?_
  obtain ⟨z2, hf⟩ := nz_some hf
  refine V_alen12 g z2 dX7_open_7 ?_
  obtain ⟨s3, x4, hc, hf⟩ := bI_some hf
  refine cS1 g [vI a1, vI (nI (gL s 12 (gR s 7 a0 0)))] [vI 0, vR 7 a0] s3 (vI x4) cf_J9_min_7cf53 (t_J9_min_7cf53 g.2.2.2.2.2.2.1 hc) (by decide) q_698 (Nat.le_of_ble_eq_true rfl) dX7_open_8 ?_ rfl
  obtain ⟨s5, x6, hc, hf⟩ := bI_some hf
  refine cS1 g [vI 0, vI x4] [vR 7 a0] s5 (vI x6) cf_J9_max_7cf53 (t_J9_max_7cf53 g.2.2.2.2.2.2.1 hc) (by decide) q_699 (Nat.le_of_ble_eq_true rfl) dX7_open_11 ?_ rfl
  obtain ⟨s7, es7, hf⟩ := lt_some hf
  refine V_putI g 7 a0 1 es7 rfl (by decide) rfl q_132 z1 (Or.inl rfl) pf_7_1 dX7_open_14 ?_
  refine V_aload_n g 0 dX7_open_17 rfl ?_
  refine V_iconst (v := 0) g dX7_open_18 (by decide) ?_
  obtain ⟨s8, es8, hf⟩ := lt_some hf
  refine V_putI g 7 a0 3 es8 rfl (by decide) rfl q_134 z1 (Or.inl rfl) pf_7_3 dX7_open_19 ?_
  refine V_aload_n g 0 dX7_open_22 rfl ?_
  refine V_iconst (v := 0) g dX7_open_23 (by decide) ?_
  obtain ⟨s9, es9, hf⟩ := lt_some hf
  refine V_putI g 7 a0 7 es9 rfl (by decide) rfl q_143 z1 (Or.inl rfl) pf_7_7 dX7_open_24 ?_
  refine V_aload_n g 0 dX7_open_27 rfl ?_
  refine V_iconst (v := (-1)) g dX7_open_28 (by decide) ?_
  obtain ⟨s10, es10, hf⟩ := lt_some hf
  refine V_putI g 7 a0 8 es10 rfl (by decide) rfl q_145 z1 (Or.inl rfl) pf_7_8 dX7_open_29 ?_
  refine V_aload_n g 0 dX7_open_32 rfl ?_
  obtain ⟨s11, hc, hf⟩ := bV_some hf
  refine cV0 g [] [] s11 cf_X7_next (t_X7_next g.2.2.2.2.2.2.1 hc) (RC_own g rfl z1) z1 (by decide) q_700 (Nat.le_of_ble_eq_true rfl) dX7_open_33 ?_ rfl
  cases hf
  exact V_return g f dX7_open_36
set_option maxRecDepth 20000 in
theorem t_X1_read_b53 {E : ET} {fu : Nat} {s' : St} {w' : Int32} (g : GX E "ThinSeries$BatchReader" cX1_read 3 7) (f : FX E "read" (some .boolean) []) {s : St} (hf : f_X1_read_b53 fu s = some (s', w')) : V E 3 (QE E (s', .inl (some (vI w')))) s 53 [] [] := by
  unfold f_X1_read_b53 at hf
  refine V_iconst (v := 1) g dX1_read_53 (by decide) ?_
  obtain ⟨h15, hf⟩ := ckf hf
  cases hf
  exact V_zreturn g f (zb_n h15) dX1_read_54
set_option maxRecDepth 20000 in
theorem t_X1_read_b15 {E : ET} {fu : Nat} {s' : St} {w' : Int32} (g : GX E "ThinSeries$BatchReader" cX1_read 3 7) (f : FX E "read" (some .boolean) []) : ∀ (n : Nat) (s : St) (l0 : Nat) (l2 : Int32), f_X1_read_b15 fu n s l0 l2 = some (s', w') → V E 3 (QE E (s', .inl (some (vI w')))) s 15 [(0, vR 1 l0), (2, vI l2)] [] := by
  intro n
  induction n with
  | zero =>
    intro s l0 l2 hf
    unfold f_X1_read_b15 at hf
    exact nomatch hf
  | succ n ih =>
    intro s l0 l2 hf
    unfold f_X1_read_b15 at hf
    refine V_iload_n g 1 dX1_read_15 rfl ?_
    refine V_bipush (v := 100) g dX1_read_16 (by decide) ?_
    refine V_icmp_ge g 53 dX1_read_18 (by decide) (fun c5 => ?_) (fun c5 => ?_)
    · have hf := it_t hf c5
      refine V_sub [] [] rfl ?_
      exact t_X1_read_b53 g f hf
    · have hf := it_f hf c5
      refine V_aload_n g 0 dX1_read_21 rfl ?_
      obtain ⟨z6, hf⟩ := nz_some hf
      refine V_getR g 1 l0 0 7 rfl (by decide) rfl rfl q_183 z6 dX1_read_22 ?_
      obtain ⟨z7, hf⟩ := nz_some hf
      refine V_getI g 7 (gR s 1 l0 0) 4 rfl (by decide) rfl q_137 z7 dX1_read_25 ?_
      refine V_if_eq g 53 dX1_read_28 (by decide) (fun c8 => ?_) (fun c8 => ?_)
      · have hf := it_t hf c8
        refine V_sub [] [] rfl ?_
        exact t_X1_read_b53 g f hf
      · have hf := it_f hf c8
        refine V_aload_n g 0 dX1_read_31 rfl ?_
        obtain ⟨s9, x10, hc, hf⟩ := bI_some hf
        refine cV1 g [] [] s9 (vI x10) cf_X1_readLine (t_X1_readLine g.2.2.2.2.2.2.1 hc) (RC_own g rfl z6) z6 (by decide) q_929 (Nat.le_of_ble_eq_true rfl) dX1_read_32 ?_ rfl
        refine V_if_ne g 40 dX1_read_35 (by decide) (fun c11 => ?_) (fun c11 => ?_)
        · have hf := it_f hf c11
          refine V_aload_n g 0 dX1_read_40 rfl ?_
          refine V_iload_n g 1 dX1_read_41 rfl ?_
          refine V_iconst (v := 1) g dX1_read_42 (by decide) ?_
          refine V_iadd g dX1_read_43 ?_
          obtain ⟨s12, es12, hf⟩ := lt_some hf
          refine V_putI g 1 l0 5 es12 rfl (by decide) rfl q_192 z6 (Or.inl rfl) pf_1_5 dX1_read_44 ?_
          obtain ⟨x13, ex13, hf⟩ := lt_some hf
          refine V_iinc g 1 [(2, vI x13), (0, vR 1 l0)] dX1_read_47 rfl (by rw [ex13]; rfl) (by decide) rfl ?_
          refine V_goto g 15 dX1_read_50 (by decide) ?_
          refine V_sub [(0, vR 1 l0), (2, vI x13)] [1, 0] rfl ?_
          exact ih s12 l0 x13 hf
        · have hf := it_t hf c11
          refine V_iconst (v := 0) g dX1_read_38 (by decide) ?_
          obtain ⟨h14, hf⟩ := ckf hf
          cases hf
          exact V_zreturn g f (zb_n h14) dX1_read_39
set_option maxRecDepth 20000 in
theorem t_X1_read {G : GT} {l : Launch} (hl : l.stackTraces = false) {fu : Nat} {s s' : St} {a0 : Nat} {a1 : Int32} {w' : Int32} (hf : f_X1_read fu s a0 a1 = some (s', w')) : MetG G l yX1_read (.code yX1_read cX1_read 3 (some .boolean)) 7 s [vR 1 a0, vI a1] (s', .inl (some (vI w'))) := by
  refine MetG_of hl (by decide +kernel) (Nat.le_of_ble_eq_true rfl) (fun E g f eG eL => ?_)
  subst eG; subst eL
  have g : GX E "ThinSeries$BatchReader" cX1_read 3 7 := g
  have f : FX E "read" (some .boolean) [] := f
  show V E 3 (QE E (s', .inl (some (vI w')))) s 0 [(0, vR 1 a0), (1, vI a1)] []
  unfold f_X1_read at hf
  refine V_aload_n g 0 dX1_read_0 rfl ?_
  refine V_iconst (v := 0) g dX1_read_1 (by decide) ?_
  obtain ⟨z1, hf⟩ := nz_some hf
  obtain ⟨s2, es2, hf⟩ := lt_some hf
  refine V_putI g 1 a0 5 es2 rfl (by decide) rfl q_192 z1 (Or.inl rfl) pf_1_5 dX1_read_2 ?_
  refine V_aload_n g 0 dX1_read_5 rfl ?_
  refine V_getR g 1 a0 0 7 rfl (by decide) rfl rfl q_183 z1 dX1_read_6 ?_
  refine V_iload_n g 1 dX1_read_9 rfl ?_
  obtain ⟨z3, hf⟩ := nz_some hf
  obtain ⟨s4, hc, hf⟩ := bV_some hf
  refine cV0 g [vI a1] [] s4 cf_X7_open (t_X7_open g.2.2.2.2.2.2.1 hc) (RC_own g rfl z3) z3 (by decide) q_928 (Nat.le_of_ble_eq_true rfl) dX1_read_10 ?_ rfl
  refine V_iconst (v := 0) g dX1_read_13 (by decide) ?_
  refine V_istore_n g [(2, vI 0), (0, vR 1 a0), (1, vI a1)] dX1_read_14 rfl (by decide) rfl ?_
  refine V_sub [(0, vR 1 a0), (2, vI 0)] [1, 0] rfl ?_
  exact t_X1_read_b15 g f _ s4 a0 0 hf
set_option maxRecDepth 20000 in
theorem t_X8_batch_b12 {E : ET} {fu : Nat} {s' : St} {w' : Nat ⊕ Int32} (g : GX E "ThinSeries" cX8_batch 4 8) (f : FX E "batch" (some .int) []) {s : St} (hf : f_X8_batch_b12 fu s = some (s', w')) : V E 4 (QE E (s', rI w')) s 12 [] [] := by
  unfold f_X8_batch_b12 at hf
  obtain ⟨h16, hf⟩ := ckf hf
  cases hf
  exact thI (j := 1) g f (rm_of h16) q_616 q_106 (by decide) rfl (by decide) (Nat.le_of_ble_eq_true rfl) ⟨⟨dX8_batch_12, dX8_batch_15⟩, Or.inl ⟨dX8_batch_16, dX8_batch_18, dX8_batch_21⟩⟩
set_option maxRecDepth 20000 in
theorem t_X8_batch_b81 {E : ET} {fu : Nat} {s' : St} {w' : Nat ⊕ Int32} (g : GX E "ThinSeries" cX8_batch 4 8) (f : FX E "batch" (some .int) []) : ∀ (n : Nat) (s : St) (l0 : Nat) (l3 : Int32), f_X8_batch_b81 fu n s l0 l3 = some (s', w') → V E 4 (QE E (s', rI w')) s 81 [(0, vR 8 l0), (3, vI l3)] [] := by
  intro n
  induction n with
  | zero =>
    intro s l0 l3 hf
    unfold f_X8_batch_b81 at hf
    exact nomatch hf
  | succ n ih =>
    intro s l0 l3 hf
    unfold f_X8_batch_b81 at hf
    refine V_iload_n g 1 dX8_batch_81 rfl ?_
    refine V_aload_n g 0 dX8_batch_82 rfl ?_
    obtain ⟨z17, hf⟩ := nz_some hf
    refine V_getR g 8 l0 3 1 rfl (by decide) rfl rfl q_315 z17 dX8_batch_83 ?_
    obtain ⟨z18, hf⟩ := nz_some hf
    refine V_getI g 1 (gR s 8 l0 3) 5 rfl (by decide) rfl q_193 z18 dX8_batch_86 ?_
    refine V_icmp_ge g 103 dX8_batch_89 (by decide) (fun c19 => ?_) (fun c19 => ?_)
    · have hf := it_t hf c19
      refine V_aload_n g 0 dX8_batch_103 rfl ?_
      refine V_iconst (v := 0) g dX8_batch_104 (by decide) ?_
      refine V_iconst (v := 0) g dX8_batch_105 (by decide) ?_
      refine V_iconst (v := (-1)) g dX8_batch_106 (by decide) ?_
      refine V_iconst (v := (-1)) g dX8_batch_107 (by decide) ?_
      obtain ⟨s20, hc, hf⟩ := bV_some hf
      refine cV0 g [vI 0, vI 0, vI ((-1)), vI ((-1))] [] s20 cf_X8_explain (t_X8_explain g.2.2.2.2.2.2.1 hc) (RC_own g rfl z17) z17 (by decide) q_399 (Nat.le_of_ble_eq_true rfl) dX8_batch_108 ?_ rfl
      refine V_aload_n g 0 dX8_batch_111 rfl ?_
      refine V_getR g 8 l0 3 1 rfl (by decide) rfl rfl q_315 z17 dX8_batch_112 ?_
      obtain ⟨z21, hf⟩ := nz_some hf
      refine V_getI g 1 (gR s20 8 l0 3) 5 rfl (by decide) rfl q_193 z21 dX8_batch_115 ?_
      cases hf
      exact V_ireturn g f dX8_batch_118
    · have hf := it_f hf c19
      refine V_aload_n g 0 dX8_batch_92 rfl ?_
      refine V_iload_n g 1 dX8_batch_93 rfl ?_
      obtain ⟨s22, hc, hf⟩ := bV_some hf
      refine cV0 g [vI l3] [] s22 cf_X8_carryOut (t_X8_carryOut g.2.2.2.2.2.2.1 hc) (RC_own g rfl z17) z17 (by decide) q_955 (Nat.le_of_ble_eq_true rfl) dX8_batch_94 ?_ rfl
      obtain ⟨x23, ex23, hf⟩ := lt_some hf
      refine V_iinc g 1 [(3, vI x23), (0, vR 8 l0)] dX8_batch_97 rfl (by rw [ex23]; rfl) (by decide) rfl ?_
      refine V_goto g 81 dX8_batch_100 (by decide) ?_
      refine V_sub [(0, vR 8 l0), (3, vI x23)] [1, 0] rfl ?_
      exact ih s22 l0 x23 hf
set_option maxRecDepth 20000 in
theorem t_X8_batch {G : GT} {l : Launch} (hl : l.stackTraces = false) {fu : Nat} {s s' : St} {a0 : Nat} {a1 : Int32} {w' : Nat ⊕ Int32} (hf : f_X8_batch fu s a0 a1 = some (s', w')) : MetG G l yX8_batch (.code yX8_batch cX8_batch 4 (some .int)) 8 s [vR 8 a0, vI a1] (s', rI w') := by
  refine MetG_of hl (by decide +kernel) (Nat.le_of_ble_eq_true rfl) (fun E g f eG eL => ?_)
  subst eG; subst eL
  have g : GX E "ThinSeries" cX8_batch 4 8 := g
  have f : FX E "batch" (some .int) [] := f
  show V E 4 (QE E (s', rI w')) s 0 [(0, vR 8 a0), (1, vI a1)] []
  unfold f_X8_batch at hf
  refine V_iload_n g 1 dX8_batch_0 rfl ?_
  refine V_if_lt g 12 dX8_batch_1 (by decide) (fun c1 => ?_) (fun c1 => ?_)
  · have hf := it_t hf c1
    refine V_sub [] [] rfl ?_
    exact t_X8_batch_b12 g f hf
  · have hf := it_f hf c1
    refine V_iload_n g 1 dX8_batch_4 rfl ?_
    refine V_aload_n g 0 dX8_batch_5 rfl ?_
    obtain ⟨z2, hf⟩ := nz_some hf
    refine V_getI g 8 a0 14 rfl (by decide) rfl q_326 z2 dX8_batch_6 ?_
    refine V_icmp_le g 22 dX8_batch_9 (by decide) (fun c3 => ?_) (fun c3 => ?_)
    · have hf := it_t hf c3
      refine V_aload_n g 0 dX8_batch_22 rfl ?_
      refine V_iconst (v := 0) g dX8_batch_23 (by decide) ?_
      obtain ⟨s4, es4, hf⟩ := lt_some hf
      refine V_putI g 8 a0 14 es4 rfl (by decide) rfl q_326 z2 (Or.inl rfl) pf_8_14 dX8_batch_24 ?_
      refine V_aload_n g 0 dX8_batch_27 rfl ?_
      refine V_getR g 8 a0 3 1 rfl (by decide) rfl rfl q_315 z2 dX8_batch_28 ?_
      refine V_iload_n g 1 dX8_batch_31 rfl ?_
      obtain ⟨z5, hf⟩ := nz_some hf
      obtain ⟨s6, x7, hc, hf⟩ := bI_some hf
      refine cV1 g [vI a1] [] s6 (vI x7) cf_X1_read (t_X1_read g.2.2.2.2.2.2.1 hc) (RC_own g rfl z5) z5 (by decide) q_924 (Nat.le_of_ble_eq_true rfl) dX8_batch_32 ?_ rfl
      refine V_istore_n g [(2, vI x7), (0, vR 8 a0), (1, vI a1)] dX8_batch_35 rfl (by decide) rfl ?_
      refine V_aload_n g 1 dX8_batch_36 rfl ?_
      refine V_aload_n g 1 dX8_batch_37 rfl ?_
      refine V_getR g 8 a0 1 7 rfl (by decide) rfl rfl q_313 z2 dX8_batch_38 ?_
      obtain ⟨z8, hf⟩ := nz_some hf
      refine V_getI g 7 (gR s6 8 a0 1) 8 rfl (by decide) rfl q_146 z8 dX8_batch_41 ?_
      obtain ⟨s9, es9, hf⟩ := lt_some hf
      refine V_putI g 8 a0 15 es9 rfl (by decide) rfl q_327 z2 (Or.inl rfl) pf_8_15 dX8_batch_44 ?_
      refine V_iload_n g 0 dX8_batch_47 rfl ?_
      refine V_if_ne g 70 dX8_batch_48 (by decide) (fun c10 => ?_) (fun c10 => ?_)
      · have hf := it_f hf c10
        refine V_aload_n g 1 dX8_batch_70 rfl ?_
        obtain ⟨s11, x12, hc, hf⟩ := bI_some hf
        refine cV1 g [] [] s11 (vI x12) cf_X8_allLinesWouldGo (t_X8_allLinesWouldGo g.2.2.2.2.2.2.1 hc) (RC_own g rfl z2) z2 (by decide) q_947 (Nat.le_of_ble_eq_true rfl) dX8_batch_71 ?_ rfl
        refine V_if_ne g 79 dX8_batch_74 (by decide) (fun c13 => ?_) (fun c13 => ?_)
        · have hf := it_f hf c13
          refine V_iconst (v := 0) g dX8_batch_79 (by decide) ?_
          refine V_istore_n g [(3, vI 0), (2, vI x7), (0, vR 8 a0), (1, vI a1)] dX8_batch_80 rfl (by decide) rfl ?_
          refine V_sub [(0, vR 8 a0), (3, vI 0)] [2, 0] rfl ?_
          exact t_X8_batch_b81 g f _ s11 a0 0 hf
        · have hf := it_t hf c13
          refine V_iconst (v := (-1)) g dX8_batch_77 (by decide) ?_
          cases hf
          exact V_ireturn g f dX8_batch_78
      · have hf := it_t hf c10
        refine V_aload_n g 1 dX8_batch_51 rfl ?_
        refine V_iconst (v := 1) g dX8_batch_52 (by decide) ?_
        refine V_iconst (v := 0) g dX8_batch_53 (by decide) ?_
        refine V_iconst (v := (-1)) g dX8_batch_54 (by decide) ?_
        refine V_iconst (v := (-1)) g dX8_batch_55 (by decide) ?_
        obtain ⟨s14, hc, hf⟩ := bV_some hf
        refine cV0 g [vI 1, vI 0, vI ((-1)), vI ((-1))] [] s14 cf_X8_explain (t_X8_explain g.2.2.2.2.2.2.1 hc) (RC_own g rfl z2) z2 (by decide) q_399 (Nat.le_of_ble_eq_true rfl) dX8_batch_56 ?_ rfl
        refine V_bipush (v := (-2)) g dX8_batch_59 (by decide) ?_
        refine V_aload_n g 1 dX8_batch_61 rfl ?_
        refine V_getR g 8 a0 1 7 rfl (by decide) rfl rfl q_313 z2 dX8_batch_62 ?_
        obtain ⟨z15, hf⟩ := nz_some hf
        refine V_getI g 7 (gR s14 8 a0 1) 7 rfl (by decide) rfl q_144 z15 dX8_batch_65 ?_
        refine V_isub g dX8_batch_68 ?_
        cases hf
        exact V_ireturn g f dX8_batch_69
    · have hf := it_f hf c3
      refine V_sub [] [] rfl ?_
      exact t_X8_batch_b12 g f hf
set_option maxRecDepth 20000 in
theorem t_X8_surveyBoth_b141 {E : ET} {fu : Nat} {s' : St} (g : GX E "ThinSeries" cX8_surveyBoth 7 3) (f : FX E "surveyBoth" none []) {k25 : St → Nat → Nat → Nat → Int32 → Option (St)} (hk25 : ∀ (s : St) (l0 : Nat) (l1 : Nat) (l2 : Nat) (l3 : Int32), k25 s l0 l1 l2 l3 = some s' → V E 7 (QE E (s', .inl none)) s 25 [(0, vR 8 l0), (1, vR 5 l1), (2, vR 5 l2), (3, vI l3)] []) {s : St} {l0 : Nat} {l1 : Nat} {l2 : Nat} {l3 : Int32} (hf : f_X8_surveyBoth_b141 fu k25 s l0 l1 l2 l3 = some s') : V E 7 (QE E (s', .inl none)) s 141 [(0, vR 8 l0), (1, vR 5 l1), (2, vR 5 l2), (3, vI l3)] [] := by
  unfold f_X8_surveyBoth_b141 at hf
  obtain ⟨x52, ex52, hf⟩ := lt_some hf
  refine V_iinc g 3 [(3, vI x52), (0, vR 8 l0), (1, vR 5 l1), (2, vR 5 l2)] dX8_surveyBoth_141 rfl (by rw [ex52]; rfl) (by decide) rfl ?_
  refine V_goto g 25 dX8_surveyBoth_144 (by decide) ?_
  refine V_sub [(0, vR 8 l0), (1, vR 5 l1), (2, vR 5 l2), (3, vI x52)] [1, 2, 3, 0] rfl ?_
  exact hk25 s l0 l1 l2 x52 hf
set_option maxRecDepth 20000 in
theorem t_X8_surveyBoth_b119 {E : ET} {fu : Nat} {s' : St} (g : GX E "ThinSeries" cX8_surveyBoth 7 3) (f : FX E "surveyBoth" none []) {k25 : St → Nat → Nat → Nat → Int32 → Option (St)} (hk25 : ∀ (s : St) (l0 : Nat) (l1 : Nat) (l2 : Nat) (l3 : Int32), k25 s l0 l1 l2 l3 = some s' → V E 7 (QE E (s', .inl none)) s 25 [(0, vR 8 l0), (1, vR 5 l1), (2, vR 5 l2), (3, vI l3)] []) {s : St} {l0 : Nat} {l1 : Nat} {l2 : Nat} {l3 : Int32} {l6 : Int32} {t0 : Int32} {t1 : Int32} {t2 : Int32} {t3 : Nat} (hf : f_X8_surveyBoth_b119 fu k25 s l0 l1 l2 l3 l6 t0 t1 t2 t3 = some s') : V E 7 (QE E (s', .inl none)) s 119 [(0, vR 8 l0), (1, vR 5 l1), (2, vR 5 l2), (3, vI l3), (6, vI l6)] [vI t0, vI t1, vI t2, vR 10 t3] := by
  unfold f_X8_surveyBoth_b119 at hf
  refine V_iadd g dX8_surveyBoth_119 ?_
  obtain ⟨z40, hf⟩ := nz_some hf
  obtain ⟨h41, hf⟩ := ckf hf
  obtain ⟨s42, es42, hf⟩ := lt_some hf
  refine V_iast g es42 z40 h41 dX8_surveyBoth_120 ?_
  refine V_aload_n g 0 dX8_surveyBoth_121 rfl ?_
  obtain ⟨z43, hf⟩ := nz_some hf
  refine V_getR g 8 l0 9 10 rfl (by decide) rfl rfl q_321 z43 dX8_surveyBoth_122 ?_
  refine V_iconst (v := 2) g dX8_surveyBoth_125 (by decide) ?_
  refine V_aload_n g 0 dX8_surveyBoth_126 rfl ?_
  refine V_getR g 8 l0 9 10 rfl (by decide) rfl rfl q_321 z43 dX8_surveyBoth_127 ?_
  refine V_iconst (v := 2) g dX8_surveyBoth_130 (by decide) ?_
  obtain ⟨z44, hf⟩ := nz_some hf
  obtain ⟨h45, hf⟩ := ckf hf
  refine V_iald g z44 h45 dX8_surveyBoth_131 ?_
  refine V_iload g 4 dX8_surveyBoth_132 rfl ?_
  obtain ⟨s46, x47, hc, hf⟩ := bI_some hf
  refine cS1 g [vI l6] [vI (gI s42 10 (gR s42 8 l0 9) (ix 2)), vI 2, vR 10 (gR s42 8 l0 9)] s46 (vI x47) cf_J9_abs_0f7a4 (t_J9_abs_0f7a4 g.2.2.2.2.2.2.1 hc) (by decide) q_1208 (Nat.le_of_ble_eq_true rfl) dX8_surveyBoth_134 ?_ rfl
  obtain ⟨s48, x49, hc, hf⟩ := bI_some hf
  refine cS1 g [vI (gI s42 10 (gR s42 8 l0 9) (ix 2)), vI x47] [vI 2, vR 10 (gR s42 8 l0 9)] s48 (vI x49) cf_J9_max_7cf53 (t_J9_max_7cf53 g.2.2.2.2.2.2.1 hc) (by decide) q_425 (Nat.le_of_ble_eq_true rfl) dX8_surveyBoth_137 ?_ rfl
  obtain ⟨h50, hf⟩ := ckf hf
  obtain ⟨s51, es51, hf⟩ := lt_some hf
  refine V_iast g es51 z44 h50 dX8_surveyBoth_140 ?_
  refine V_sub [(0, vR 8 l0), (1, vR 5 l1), (2, vR 5 l2), (3, vI l3)] [0, 1, 2, 3] rfl ?_
  exact t_X8_surveyBoth_b141 g f hk25 hf
set_option maxRecDepth 20000 in
theorem t_X8_surveyBoth_b25 {E : ET} {fu : Nat} {s' : St} (g : GX E "ThinSeries" cX8_surveyBoth 7 3) (f : FX E "surveyBoth" none []) : ∀ (n : Nat) (s : St) (l0 : Nat) (l1 : Nat) (l2 : Nat) (l3 : Int32), f_X8_surveyBoth_b25 fu n s l0 l1 l2 l3 = some s' → V E 7 (QE E (s', .inl none)) s 25 [(0, vR 8 l0), (1, vR 5 l1), (2, vR 5 l2), (3, vI l3)] [] := by
  intro n
  induction n with
  | zero =>
    intro s l0 l1 l2 l3 hf
    unfold f_X8_surveyBoth_b25 at hf
    exact nomatch hf
  | succ n ih =>
    intro s l0 l1 l2 l3 hf
    unfold f_X8_surveyBoth_b25 at hf
    refine V_iload_n g 3 dX8_surveyBoth_25 rfl ?_
    refine V_aload_n g 1 dX8_surveyBoth_26 rfl ?_
    obtain ⟨z11, hf⟩ := nz_some hf
    refine V_getI g 5 l1 8 rfl (by decide) rfl q_457 z11 dX8_surveyBoth_27 ?_
    refine V_icmp_ge g 147 dX8_surveyBoth_30 (by decide) (fun c12 => ?_) (fun c12 => ?_)
    · have hf := it_t hf c12
      cases hf
      exact V_return g f dX8_surveyBoth_147
    · have hf := it_f hf c12
      refine V_aload_n g 1 dX8_surveyBoth_33 rfl ?_
      refine V_getR g 5 l1 3 10 rfl (by decide) rfl rfl q_447 z11 dX8_surveyBoth_34 ?_
      refine V_iload_n g 3 dX8_surveyBoth_37 rfl ?_
      obtain ⟨z13, hf⟩ := nz_some hf
      obtain ⟨h14, hf⟩ := ckf hf
      refine V_iald g z13 h14 dX8_surveyBoth_38 ?_
      obtain ⟨x15, ex15, hf⟩ := lt_some hf
      refine V_istore g [(4, vI x15), (0, vR 8 l0), (1, vR 5 l1), (2, vR 5 l2), (3, vI l3)] dX8_surveyBoth_39 ex15 (by decide) rfl ?_
      refine V_aload_n g 3 dX8_surveyBoth_41 rfl ?_
      refine V_iload g 0 dX8_surveyBoth_42 rfl ?_
      obtain ⟨z16, hf⟩ := nz_some hf
      obtain ⟨s17, x18, hc, hf⟩ := bI_some hf
      refine cV1 g [vI x15] [] s17 (vI x18) cf_X5_firstFrom (t_X5_firstFrom g.2.2.2.2.2.2.1 hc) (RC_own g rfl z16) z16 (by decide) q_1128 (Nat.le_of_ble_eq_true rfl) dX8_surveyBoth_44 ?_ rfl
      refine V_istore g [(5, vI x18), (4, vI x15), (0, vR 8 l0), (1, vR 5 l1), (2, vR 5 l2), (3, vI l3)] dX8_surveyBoth_47 rfl (by decide) rfl ?_
      refine V_aload_n g 4 dX8_surveyBoth_49 rfl ?_
      refine V_iload g 0 dX8_surveyBoth_50 rfl ?_
      refine V_iload g 1 dX8_surveyBoth_52 rfl ?_
      obtain ⟨s19, x20, hc, hf⟩ := bI_some hf
      refine cV1 g [vI x18, vI x15] [] s19 (vI x20) cf_X5_hasStart (t_X5_hasStart g.2.2.2.2.2.2.1 hc) (RC_own g rfl z16) z16 (by decide) q_1206 (Nat.le_of_ble_eq_true rfl) dX8_surveyBoth_54 ?_ rfl
      refine V_if_eq g 141 dX8_surveyBoth_57 (by decide) (fun c21 => ?_) (fun c21 => ?_)
      · have hf := it_t hf c21
        refine V_sub [(0, vR 8 l0), (1, vR 5 l1), (2, vR 5 l2), (3, vI l3)] [2, 3, 4, 5] rfl ?_
        exact t_X8_surveyBoth_b141 g f ih hf
      · have hf := it_f hf c21
        refine V_aload_n g 3 dX8_surveyBoth_60 rfl ?_
        refine V_iload g 1 dX8_surveyBoth_61 rfl ?_
        obtain ⟨s22, x23, hc, hf⟩ := bI_some hf
        refine cV1 g [vI x15] [] s22 (vI x23) cf_X5_tierOf (t_X5_tierOf g.2.2.2.2.2.2.1 hc) (RC_own g rfl z11) z11 (by decide) q_573 (Nat.le_of_ble_eq_true rfl) dX8_surveyBoth_63 ?_ rfl
        refine V_aload_n g 4 dX8_surveyBoth_66 rfl ?_
        refine V_iload g 1 dX8_surveyBoth_67 rfl ?_
        obtain ⟨s24, x25, hc, hf⟩ := bI_some hf
        refine cV1 g [vI x15] [vI x23] s24 (vI x25) cf_X5_tierOf (t_X5_tierOf g.2.2.2.2.2.2.1 hc) (RC_own g rfl z16) z16 (by decide) q_573 (Nat.le_of_ble_eq_true rfl) dX8_surveyBoth_69 ?_ rfl
        refine V_icmp_eq g 78 dX8_surveyBoth_72 (by decide) (fun c26 => ?_) (fun c26 => ?_)
        · have hf := it_t hf c26
          refine V_aload_n g 3 dX8_surveyBoth_78 rfl ?_
          refine V_iload_n g 5 dX8_surveyBoth_79 rfl ?_
          obtain ⟨s27, x28, hc, hf⟩ := bI_some hf
          refine cV1 g [vI l3] [] s27 (vI x28) cf_X5_mean (t_X5_mean g.2.2.2.2.2.2.1 hc) (RC_own g rfl z11) z11 (by decide) q_1207 (Nat.le_of_ble_eq_true rfl) dX8_surveyBoth_80 ?_ rfl
          refine V_aload_n g 4 dX8_surveyBoth_83 rfl ?_
          refine V_iload g 0 dX8_surveyBoth_84 rfl ?_
          obtain ⟨s29, x30, hc, hf⟩ := bI_some hf
          refine cV1 g [vI x18] [vI x28] s29 (vI x30) cf_X5_mean (t_X5_mean g.2.2.2.2.2.2.1 hc) (RC_own g rfl z16) z16 (by decide) q_1207 (Nat.le_of_ble_eq_true rfl) dX8_surveyBoth_86 ?_ rfl
          refine V_isub g dX8_surveyBoth_89 ?_
          obtain ⟨x31, ex31, hf⟩ := lt_some hf
          refine V_istore g [(6, vI x31), (5, vI x18), (4, vI x15), (0, vR 8 l0), (1, vR 5 l1), (2, vR 5 l2), (3, vI l3)] dX8_surveyBoth_90 ex31 (by decide) rfl ?_
          refine V_aload_n g 3 dX8_surveyBoth_92 rfl ?_
          obtain ⟨z32, hf⟩ := nz_some hf
          refine V_getR g 8 l0 9 10 rfl (by decide) rfl rfl q_321 z32 dX8_surveyBoth_93 ?_
          refine V_iconst (v := 0) g dX8_surveyBoth_96 (by decide) ?_
          refine V_dup2 g dX8_surveyBoth_97 rfl rfl ?_
          obtain ⟨z33, hf⟩ := nz_some hf
          obtain ⟨h34, hf⟩ := ckf hf
          refine V_iald g z33 h34 dX8_surveyBoth_98 ?_
          refine V_iconst (v := 1) g dX8_surveyBoth_99 (by decide) ?_
          refine V_iadd g dX8_surveyBoth_100 ?_
          obtain ⟨h35, hf⟩ := ckf hf
          obtain ⟨s36, es36, hf⟩ := lt_some hf
          refine V_iast g es36 z33 h35 dX8_surveyBoth_101 ?_
          refine V_aload_n g 3 dX8_surveyBoth_102 rfl ?_
          refine V_getR g 8 l0 9 10 rfl (by decide) rfl rfl q_321 z32 dX8_surveyBoth_103 ?_
          refine V_iconst (v := 1) g dX8_surveyBoth_106 (by decide) ?_
          refine V_dup2 g dX8_surveyBoth_107 rfl rfl ?_
          obtain ⟨z37, hf⟩ := nz_some hf
          obtain ⟨h38, hf⟩ := ckf hf
          refine V_iald g z37 h38 dX8_surveyBoth_108 ?_
          refine V_iload g 0 dX8_surveyBoth_109 rfl ?_
          refine V_if_le g 118 dX8_surveyBoth_111 (by decide) (fun c39 => ?_) (fun c39 => ?_)
          · have hf := it_t hf c39
            refine V_iconst (v := 0) g dX8_surveyBoth_118 (by decide) ?_
            refine V_sub [(0, vR 8 l0), (1, vR 5 l1), (2, vR 5 l2), (3, vI l3), (6, vI x31)] [3, 4, 5, 6, 0] rfl ?_
            exact t_X8_surveyBoth_b119 g f ih hf
          · have hf := it_f hf c39
            refine V_iconst (v := 1) g dX8_surveyBoth_114 (by decide) ?_
            refine V_goto g 119 dX8_surveyBoth_115 (by decide) ?_
            refine V_sub [(0, vR 8 l0), (1, vR 5 l1), (2, vR 5 l2), (3, vI l3), (6, vI x31)] [3, 4, 5, 6, 0] rfl ?_
            exact t_X8_surveyBoth_b119 g f ih hf
        · have hf := it_f hf c26
          refine V_goto g 141 dX8_surveyBoth_75 (by decide) ?_
          refine V_sub [(0, vR 8 l0), (1, vR 5 l1), (2, vR 5 l2), (3, vI l3)] [2, 3, 4, 5] rfl ?_
          exact t_X8_surveyBoth_b141 g f ih hf
set_option maxRecDepth 20000 in
theorem t_X8_surveyBoth {G : GT} {l : Launch} (hl : l.stackTraces = false) {fu : Nat} {s s' : St} {a0 : Nat} {a1 : Nat} {a2 : Nat} (hf : f_X8_surveyBoth fu s a0 a1 a2 = some s') : MetG G l yX8_surveyBoth (.code yX8_surveyBoth cX8_surveyBoth 7 none) 3 s [vR 8 a0, vR 5 a1, vR 5 a2] (s', .inl none) := by
  refine MetG_of hl (by decide +kernel) (Nat.le_of_ble_eq_true rfl) (fun E g f eG eL => ?_)
  subst eG; subst eL
  have g : GX E "ThinSeries" cX8_surveyBoth 7 3 := g
  have f : FX E "surveyBoth" none [] := f
  show V E 7 (QE E (s', .inl none)) s 0 [(0, vR 8 a0), (1, vR 5 a1), (2, vR 5 a2)] []
  unfold f_X8_surveyBoth at hf
  refine V_aload_n g 0 dX8_surveyBoth_0 rfl ?_
  obtain ⟨z1, hf⟩ := nz_some hf
  refine V_getR g 8 a0 9 10 rfl (by decide) rfl rfl q_321 z1 dX8_surveyBoth_1 ?_
  refine V_iconst (v := 0) g dX8_surveyBoth_4 (by decide) ?_
  refine V_iconst (v := 0) g dX8_surveyBoth_5 (by decide) ?_
  obtain ⟨z2, hf⟩ := nz_some hf
  obtain ⟨h3, hf⟩ := ckf hf
  obtain ⟨s4, es4, hf⟩ := lt_some hf
  refine V_iast g es4 z2 h3 dX8_surveyBoth_6 ?_
  refine V_aload_n g 0 dX8_surveyBoth_7 rfl ?_
  refine V_getR g 8 a0 9 10 rfl (by decide) rfl rfl q_321 z1 dX8_surveyBoth_8 ?_
  refine V_iconst (v := 1) g dX8_surveyBoth_11 (by decide) ?_
  refine V_iconst (v := 0) g dX8_surveyBoth_12 (by decide) ?_
  obtain ⟨z5, hf⟩ := nz_some hf
  obtain ⟨h6, hf⟩ := ckf hf
  obtain ⟨s7, es7, hf⟩ := lt_some hf
  refine V_iast g es7 z5 h6 dX8_surveyBoth_13 ?_
  refine V_aload_n g 0 dX8_surveyBoth_14 rfl ?_
  refine V_getR g 8 a0 9 10 rfl (by decide) rfl rfl q_321 z1 dX8_surveyBoth_15 ?_
  refine V_iconst (v := 2) g dX8_surveyBoth_18 (by decide) ?_
  refine V_sipush (v := (-20000)) g dX8_surveyBoth_19 (by decide) ?_
  obtain ⟨z8, hf⟩ := nz_some hf
  obtain ⟨h9, hf⟩ := ckf hf
  obtain ⟨s10, es10, hf⟩ := lt_some hf
  refine V_iast g es10 z8 h9 dX8_surveyBoth_22 ?_
  refine V_iconst (v := 0) g dX8_surveyBoth_23 (by decide) ?_
  refine V_istore_n g [(3, vI 0), (0, vR 8 a0), (1, vR 5 a1), (2, vR 5 a2)] dX8_surveyBoth_24 rfl (by decide) rfl ?_
  refine V_sub [(0, vR 8 a0), (1, vR 5 a1), (2, vR 5 a2), (3, vI 0)] [1, 2, 3, 0] rfl ?_
  exact t_X8_surveyBoth_b25 g f _ s10 a0 a1 a2 0 hf
set_option maxRecDepth 20000 in
theorem t_X8_both {G : GT} {l : Launch} (hl : l.stackTraces = false) {fu : Nat} {s s' : St} {a0 : Nat} {a1 : Int32} {a2 : Int32} {a3 : Int32} {w' : Nat ⊕ Int32} (hf : f_X8_both fu s a0 a1 a2 a3 = some (s', w')) : MetG G l yX8_both (.code yX8_both cX8_both 6 (some .int)) 7 s [vR 8 a0, vI a1, vI a2, vI a3] (s', rI w') := by
  refine MetG_of hl (by decide +kernel) (Nat.le_of_ble_eq_true rfl) (fun E g f eG eL => ?_)
  subst eG; subst eL
  have g : GX E "ThinSeries" cX8_both 6 7 := g
  have f : FX E "both" (some .int) [] := f
  show V E 6 (QE E (s', rI w')) s 0 [(0, vR 8 a0), (1, vI a1), (2, vI a2), (3, vI a3)] []
  unfold f_X8_both at hf
  refine V_aload_n g 0 dX8_both_0 rfl ?_
  refine V_iload_n g 1 dX8_both_1 rfl ?_
  obtain ⟨z1, hf⟩ := nz_some hf
  rcases bX_some hf with ⟨s2, e3, hc, hf⟩ | ⟨s2, x4, hc, hf⟩
  · cases hf
    refine cVX g [vI a1] [] _ (exN e3) cf_X8_known (t_X8_known g.2.2.2.2.2.2.1 hc) (RC_own g rfl z1) z1 (by decide) q_1024 (Nat.le_of_ble_eq_true rfl) dX8_both_2 ?_ rfl
    exact VX_out g f
  · refine cV1 g [vI a1] [] s2 (vR 5 x4) cf_X8_known (t_X8_known g.2.2.2.2.2.2.1 hc) (RC_own g rfl z1) z1 (by decide) q_1024 (Nat.le_of_ble_eq_true rfl) dX8_both_2 ?_ rfl
    refine V_astore g [(4, vR 5 x4), (0, vR 8 a0), (1, vI a1), (2, vI a2), (3, vI a3)] dX8_both_5 rfl (by decide) rfl ?_
    refine V_aload_n g 1 dX8_both_7 rfl ?_
    refine V_iload_n g 3 dX8_both_8 rfl ?_
    rcases bX_some hf with ⟨s5, e6, hc, hf⟩ | ⟨s5, x7, hc, hf⟩
    · cases hf
      refine cVX g [vI a2] [] _ (exN e6) cf_X8_known (t_X8_known g.2.2.2.2.2.2.1 hc) (RC_own g rfl z1) z1 (by decide) q_1024 (Nat.le_of_ble_eq_true rfl) dX8_both_9 ?_ rfl
      exact VX_out g f
    · refine cV1 g [vI a2] [] s5 (vR 5 x7) cf_X8_known (t_X8_known g.2.2.2.2.2.2.1 hc) (RC_own g rfl z1) z1 (by decide) q_1024 (Nat.le_of_ble_eq_true rfl) dX8_both_9 ?_ rfl
      refine V_astore g [(5, vR 5 x7), (4, vR 5 x4), (0, vR 8 a0), (1, vI a1), (2, vI a2), (3, vI a3)] dX8_both_12 rfl (by decide) rfl ?_
      refine V_iload_n g 5 dX8_both_14 rfl ?_
      refine V_iconst (v := 2) g dX8_both_15 (by decide) ?_
      rcases bX_some hf with ⟨s8, e9, hc, hf⟩ | ⟨s8, x10, hc, hf⟩
      · cases hf
        refine cSX g [vI a3, vI 2] [] _ (exN e9) cf_X8_needWhat (t_X8_needWhat g.2.2.2.2.2.2.1 hc) (by decide) q_967 (Nat.le_of_ble_eq_true rfl) dX8_both_16 ?_ rfl
        exact VX_out g f
      · refine cS0 g [vI a3, vI 2] [] s8 cf_X8_needWhat (t_X8_needWhat g.2.2.2.2.2.2.1 hc) (by decide) q_967 (Nat.le_of_ble_eq_true rfl) dX8_both_16 ?_ rfl
        refine V_aload_n g 2 dX8_both_19 rfl ?_
        refine V_aload g 1 dX8_both_20 rfl ?_
        refine V_aload g 0 dX8_both_22 rfl ?_
        obtain ⟨s11, hc, hf⟩ := bV_some hf
        refine cV0 g [vR 5 x4, vR 5 x7] [] s11 cf_X8_surveyBoth (t_X8_surveyBoth g.2.2.2.2.2.2.1 hc) (RC_own g rfl z1) z1 (by decide) q_1202 (Nat.le_of_ble_eq_true rfl) dX8_both_24 ?_ rfl
        refine V_aload_n g 2 dX8_both_27 rfl ?_
        refine V_getR g 8 a0 9 10 rfl (by decide) rfl rfl q_321 z1 dX8_both_28 ?_
        refine V_iload_n g 5 dX8_both_31 rfl ?_
        obtain ⟨z12, hf⟩ := nz_some hf
        obtain ⟨h13, hf⟩ := ckf hf
        refine V_iald g z12 h13 dX8_both_32 ?_
        cases hf
        exact V_ireturn g f dX8_both_33
set_option maxRecDepth 20000 in
theorem t_X8_needTier_b15 {E : ET} {fu : Nat} {s' : St} {w' : Nat ⊕ Unit} (g : GX E "ThinSeries" cX8_needTier 2 6) (f : FX E "needTier" none []) {s : St} (hf : f_X8_needTier_b15 fu s = some (s', w')) : V E 2 (QE E (s', rV w')) s 15 [] [] := by
  unfold f_X8_needTier_b15 at hf
  obtain ⟨h5, hf⟩ := ckf hf
  cases hf
  exact thN (j := 18) g f (rm_of h5) q_970 q_116 (by decide) rfl (by decide) (Nat.le_of_ble_eq_true rfl) ⟨⟨dX8_needTier_15, dX8_needTier_18⟩, Or.inr ⟨dX8_needTier_19, dX8_needTier_22, dX8_needTier_25⟩⟩
set_option maxRecDepth 20000 in
theorem t_X8_needTier {G : GT} {l : Launch} (hl : l.stackTraces = false) {fu : Nat} {s s' : St} {a0 : Nat} {a1 : Int32} {w' : Nat ⊕ Unit} (hf : f_X8_needTier fu s a0 a1 = some (s', w')) : MetG G l yX8_needTier (.code yX8_needTier cX8_needTier 2 none) 6 s [vR 8 a0, vI a1] (s', rV w') := by
  refine MetG_of hl (by decide +kernel) (Nat.le_of_ble_eq_true rfl) (fun E g f eG eL => ?_)
  subst eG; subst eL
  have g : GX E "ThinSeries" cX8_needTier 2 6 := g
  have f : FX E "needTier" none [] := f
  show V E 2 (QE E (s', rV w')) s 0 [(0, vR 8 a0), (1, vI a1)] []
  unfold f_X8_needTier at hf
  refine V_iload_n g 1 dX8_needTier_0 rfl ?_
  refine V_if_lt g 15 dX8_needTier_1 (by decide) (fun c1 => ?_) (fun c1 => ?_)
  · have hf := it_t hf c1
    refine V_sub [] [] rfl ?_
    exact t_X8_needTier_b15 g f hf
  · have hf := it_f hf c1
    refine V_iload_n g 1 dX8_needTier_4 rfl ?_
    refine V_aload_n g 0 dX8_needTier_5 rfl ?_
    obtain ⟨z2, hf⟩ := nz_some hf
    refine V_getR g 8 a0 12 2 rfl (by decide) rfl rfl q_324 z2 dX8_needTier_6 ?_
    obtain ⟨z3, hf⟩ := nz_some hf
    refine V_getI g 2 (gR s 8 a0 12) 3 rfl (by decide) rfl q_297 z3 dX8_needTier_9 ?_
    refine V_icmp_lt g 26 dX8_needTier_12 (by decide) (fun c4 => ?_) (fun c4 => ?_)
    · have hf := it_t hf c4
      cases hf
      exact V_return g f dX8_needTier_26
    · have hf := it_f hf c4
      refine V_sub [] [] rfl ?_
      exact t_X8_needTier_b15 g f hf
set_option maxRecDepth 20000 in
theorem t_X5_beginOf {G : GT} {l : Launch} (hl : l.stackTraces = false) {fu : Nat} {s s' : St} {a0 : Nat} {a1 : Int32} {w' : Int32} (hf : f_X5_beginOf fu s a0 a1 = some (s', w')) : MetG G l yX5_beginOf (.code yX5_beginOf cX5_beginOf 2 (some .int)) 1 s [vR 5 a0, vI a1] (s', .inl (some (vI w'))) := by
  refine MetG_of hl (by decide +kernel) (Nat.le_of_ble_eq_true rfl) (fun E g f eG eL => ?_)
  subst eG; subst eL
  have g : GX E "ThinSeries$Series" cX5_beginOf 2 1 := g
  have f : FX E "beginOf" (some .int) [] := f
  show V E 2 (QE E (s', .inl (some (vI w')))) s 0 [(0, vR 5 a0), (1, vI a1)] []
  unfold f_X5_beginOf at hf
  refine V_aload_n g 0 dX5_beginOf_0 rfl ?_
  refine V_aload_n g 0 dX5_beginOf_1 rfl ?_
  obtain ⟨z1, hf⟩ := nz_some hf
  refine V_getR g 5 a0 1 10 rfl (by decide) rfl rfl q_442 z1 dX5_beginOf_2 ?_
  refine V_iload_n g 1 dX5_beginOf_5 rfl ?_
  obtain ⟨z2, hf⟩ := nz_some hf
  obtain ⟨h3, hf⟩ := ckf hf
  refine V_iald g z2 h3 dX5_beginOf_6 ?_
  obtain ⟨s4, x5, hc, hf⟩ := bI_some hf
  refine cV1 g [vI (gI s 10 (gR s 5 a0 1) (ix a1))] [] s4 (vI x5) cf_X5_firstFrom (t_X5_firstFrom g.2.2.2.2.2.2.1 hc) (RC_own g rfl z1) z1 (by decide) q_536 (Nat.le_of_ble_eq_true rfl) dX5_beginOf_7 ?_ rfl
  cases hf
  exact V_ireturn g f dX5_beginOf_10
set_option maxRecDepth 20000 in
theorem t_X5_endOf_b23 {E : ET} {fu : Nat} {s' : St} {w' : Int32} (g : GX E "ThinSeries$Series" cX5_endOf 2 1) (f : FX E "endOf" (some .int) []) {s : St} {t0 : Int32} (hf : f_X5_endOf_b23 fu s t0 = some (s', w')) : V E 2 (QE E (s', .inl (some (vI w')))) s 23 [] [vI t0] := by
  unfold f_X5_endOf_b23 at hf
  cases hf
  exact V_ireturn g f dX5_endOf_23
set_option maxRecDepth 20000 in
theorem t_X5_endOf {G : GT} {l : Launch} (hl : l.stackTraces = false) {fu : Nat} {s s' : St} {a0 : Nat} {a1 : Int32} {w' : Int32} (hf : f_X5_endOf fu s a0 a1 = some (s', w')) : MetG G l yX5_endOf (.code yX5_endOf cX5_endOf 2 (some .int)) 1 s [vR 5 a0, vI a1] (s', .inl (some (vI w'))) := by
  refine MetG_of hl (by decide +kernel) (Nat.le_of_ble_eq_true rfl) (fun E g f eG eL => ?_)
  subst eG; subst eL
  have g : GX E "ThinSeries$Series" cX5_endOf 2 1 := g
  have f : FX E "endOf" (some .int) [] := f
  show V E 2 (QE E (s', .inl (some (vI w')))) s 0 [(0, vR 5 a0), (1, vI a1)] []
  unfold f_X5_endOf at hf
  refine V_iload_n g 1 dX5_endOf_0 rfl ?_
  refine V_if_ne g 11 dX5_endOf_1 (by decide) (fun c1 => ?_) (fun c1 => ?_)
  · have hf := it_f hf c1
    refine V_aload_n g 0 dX5_endOf_11 rfl ?_
    refine V_aload_n g 0 dX5_endOf_12 rfl ?_
    obtain ⟨z2, hf⟩ := nz_some hf
    refine V_getR g 5 a0 1 10 rfl (by decide) rfl rfl q_442 z2 dX5_endOf_13 ?_
    refine V_iload_n g 1 dX5_endOf_16 rfl ?_
    refine V_iconst (v := 1) g dX5_endOf_17 (by decide) ?_
    refine V_isub g dX5_endOf_18 ?_
    obtain ⟨z3, hf⟩ := nz_some hf
    obtain ⟨h4, hf⟩ := ckf hf
    refine V_iald g z3 h4 dX5_endOf_19 ?_
    obtain ⟨s5, x6, hc, hf⟩ := bI_some hf
    refine cV1 g [vI (gI s 10 (gR s 5 a0 1) (ix (a1 - 1)))] [] s5 (vI x6) cf_X5_firstFrom (t_X5_firstFrom g.2.2.2.2.2.2.1 hc) (RC_own g rfl z2) z2 (by decide) q_536 (Nat.le_of_ble_eq_true rfl) dX5_endOf_20 ?_ rfl
    refine V_sub [] [] rfl ?_
    exact t_X5_endOf_b23 g f hf
  · have hf := it_t hf c1
    refine V_aload_n g 0 dX5_endOf_4 rfl ?_
    obtain ⟨z7, hf⟩ := nz_some hf
    refine V_getI g 5 a0 8 rfl (by decide) rfl q_456 z7 dX5_endOf_5 ?_
    refine V_goto g 23 dX5_endOf_8 (by decide) ?_
    refine V_sub [] [] rfl ?_
    exact t_X5_endOf_b23 g f hf
set_option maxRecDepth 20000 in
theorem t_X8_bucket_b43 {E : ET} {fu : Nat} {s' : St} {w' : Nat ⊕ Int64} (g : GX E "ThinSeries" cX8_bucket 7 7) (f : FX E "bucket" (some .long) []) {s : St} (hf : f_X8_bucket_b43 fu s = some (s', w')) : V E 7 (QE E (s', rJ w')) s 43 [] [] := by
  unfold f_X8_bucket_b43 at hf
  obtain ⟨h20, hf⟩ := ckf hf
  cases hf
  exact thN (j := 20) g f (rm_of h20) q_970 q_116 (by decide) rfl (by decide) (Nat.le_of_ble_eq_true rfl) ⟨⟨dX8_bucket_43, dX8_bucket_46⟩, Or.inr ⟨dX8_bucket_47, dX8_bucket_50, dX8_bucket_53⟩⟩
set_option maxRecDepth 20000 in
theorem t_X8_bucket {G : GT} {l : Launch} (hl : l.stackTraces = false) {fu : Nat} {s s' : St} {a0 : Nat} {a1 : Int32} {a2 : Int32} {a3 : Int32} {a4 : Int32} {w' : Nat ⊕ Int64} (hf : f_X8_bucket fu s a0 a1 a2 a3 a4 = some (s', w')) : MetG G l yX8_bucket (.code yX8_bucket cX8_bucket 7 (some .long)) 7 s [vR 8 a0, vI a1, vI a2, vI a3, vI a4] (s', rJ w') := by
  refine MetG_of hl (by decide +kernel) (Nat.le_of_ble_eq_true rfl) (fun E g f eG eL => ?_)
  subst eG; subst eL
  have g : GX E "ThinSeries" cX8_bucket 7 7 := g
  have f : FX E "bucket" (some .long) [] := f
  show V E 7 (QE E (s', rJ w')) s 0 [(0, vR 8 a0), (1, vI a1), (2, vI a2), (3, vI a3), (4, vI a4)] []
  unfold f_X8_bucket at hf
  refine V_aload_n g 0 dX8_bucket_0 rfl ?_
  refine V_iload_n g 1 dX8_bucket_1 rfl ?_
  obtain ⟨z1, hf⟩ := nz_some hf
  rcases bX_some hf with ⟨s2, e3, hc, hf⟩ | ⟨s2, x4, hc, hf⟩
  · cases hf
    refine cVX g [vI a1] [] _ (exN e3) cf_X8_known (t_X8_known g.2.2.2.2.2.2.1 hc) (RC_own g rfl z1) z1 (by decide) q_1024 (Nat.le_of_ble_eq_true rfl) dX8_bucket_2 ?_ rfl
    exact VX_out g f
  · refine cV1 g [vI a1] [] s2 (vR 5 x4) cf_X8_known (t_X8_known g.2.2.2.2.2.2.1 hc) (RC_own g rfl z1) z1 (by decide) q_1024 (Nat.le_of_ble_eq_true rfl) dX8_bucket_2 ?_ rfl
    refine V_astore g [(5, vR 5 x4), (0, vR 8 a0), (1, vI a1), (2, vI a2), (3, vI a3), (4, vI a4)] dX8_bucket_5 rfl (by decide) rfl ?_
    refine V_aload_n g 1 dX8_bucket_7 rfl ?_
    refine V_iload_n g 3 dX8_bucket_8 rfl ?_
    rcases bX_some hf with ⟨s5, e6, hc, hf⟩ | ⟨s5, x7, hc, hf⟩
    · cases hf
      refine cVX g [vI a2] [] _ (exN e6) cf_X8_needTier (t_X8_needTier g.2.2.2.2.2.2.1 hc) (RC_own g rfl z1) z1 (by decide) q_1004 (Nat.le_of_ble_eq_true rfl) dX8_bucket_9 ?_ rfl
      exact VX_out g f
    · refine cV0 g [vI a2] [] s5 cf_X8_needTier (t_X8_needTier g.2.2.2.2.2.2.1 hc) (RC_own g rfl z1) z1 (by decide) q_1004 (Nat.le_of_ble_eq_true rfl) dX8_bucket_9 ?_ rfl
      refine V_iload g 5 dX8_bucket_12 rfl ?_
      refine V_iconst (v := 5) g dX8_bucket_14 (by decide) ?_
      rcases bX_some hf with ⟨s8, e9, hc, hf⟩ | ⟨s8, x10, hc, hf⟩
      · cases hf
        refine cSX g [vI a4, vI 5] [] _ (exN e9) cf_X8_needWhat (t_X8_needWhat g.2.2.2.2.2.2.1 hc) (by decide) q_967 (Nat.le_of_ble_eq_true rfl) dX8_bucket_15 ?_ rfl
        exact VX_out g f
      · refine cS0 g [vI a4, vI 5] [] s8 cf_X8_needWhat (t_X8_needWhat g.2.2.2.2.2.2.1 hc) (by decide) q_967 (Nat.le_of_ble_eq_true rfl) dX8_bucket_15 ?_ rfl
        refine V_aload g 0 dX8_bucket_18 rfl ?_
        refine V_iload_n g 3 dX8_bucket_20 rfl ?_
        obtain ⟨z11, hf⟩ := nz_some hf
        obtain ⟨s12, x13, hc, hf⟩ := bI_some hf
        refine cV1 g [vI a2] [] s12 (vI x13) cf_X5_beginOf (t_X5_beginOf g.2.2.2.2.2.2.1 hc) (RC_own g rfl z11) z11 (by decide) q_1046 (Nat.le_of_ble_eq_true rfl) dX8_bucket_21 ?_ rfl
        refine V_istore g [(6, vI x13), (5, vR 5 x4), (0, vR 8 a0), (1, vI a1), (2, vI a2), (3, vI a3), (4, vI a4)] dX8_bucket_24 rfl (by decide) rfl ?_
        refine V_iload_n g 5 dX8_bucket_26 rfl ?_
        refine V_if_lt g 43 dX8_bucket_27 (by decide) (fun c14 => ?_) (fun c14 => ?_)
        · have hf := it_t hf c14
          refine V_sub [] [] rfl ?_
          exact t_X8_bucket_b43 g f hf
        · have hf := it_f hf c14
          refine V_iload_n g 5 dX8_bucket_30 rfl ?_
          refine V_aload g 1 dX8_bucket_31 rfl ?_
          refine V_iload_n g 4 dX8_bucket_33 rfl ?_
          obtain ⟨s15, x16, hc, hf⟩ := bI_some hf
          refine cV1 g [vI a2] [vI a3] s15 (vI x16) cf_X5_endOf (t_X5_endOf g.2.2.2.2.2.2.1 hc) (RC_own g rfl z11) z11 (by decide) q_1042 (Nat.le_of_ble_eq_true rfl) dX8_bucket_34 ?_ rfl
          refine V_iload g 0 dX8_bucket_37 rfl ?_
          refine V_isub g dX8_bucket_39 ?_
          refine V_icmp_lt g 54 dX8_bucket_40 (by decide) (fun c17 => ?_) (fun c17 => ?_)
          · have hf := it_t hf c17
            refine V_aload g 1 dX8_bucket_54 rfl ?_
            refine V_iload g 0 dX8_bucket_56 rfl ?_
            refine V_iload_n g 5 dX8_bucket_58 rfl ?_
            refine V_iadd g dX8_bucket_59 ?_
            refine V_iload g 6 dX8_bucket_60 rfl ?_
            obtain ⟨s18, x19, hc, hf⟩ := bI_some hf
            refine cV1 g [vI (x13 + a3), vI a4] [] s18 (vJ x19) cf_X5_fact (t_X5_fact g.2.2.2.2.2.2.1 hc) (RC_own g rfl z11) z11 (by decide) q_1058 (Nat.le_of_ble_eq_true rfl) dX8_bucket_62 ?_ rfl
            cases hf
            exact V_lreturn g f dX8_bucket_65
          · have hf := it_f hf c17
            refine V_sub [] [] rfl ?_
            exact t_X8_bucket_b43 g f hf
set_option maxRecDepth 20000 in
theorem t_X8_buckets {G : GT} {l : Launch} (hl : l.stackTraces = false) {fu : Nat} {s s' : St} {a0 : Nat} {a1 : Int32} {a2 : Int32} {w' : Nat ⊕ Int32} (hf : f_X8_buckets fu s a0 a1 a2 = some (s', w')) : MetG G l yX8_buckets (.code yX8_buckets cX8_buckets 4 (some .int)) 7 s [vR 8 a0, vI a1, vI a2] (s', rI w') := by
  refine MetG_of hl (by decide +kernel) (Nat.le_of_ble_eq_true rfl) (fun E g f eG eL => ?_)
  subst eG; subst eL
  have g : GX E "ThinSeries" cX8_buckets 4 7 := g
  have f : FX E "buckets" (some .int) [] := f
  show V E 4 (QE E (s', rI w')) s 0 [(0, vR 8 a0), (1, vI a1), (2, vI a2)] []
  unfold f_X8_buckets at hf
  refine V_aload_n g 0 dX8_buckets_0 rfl ?_
  refine V_iload_n g 1 dX8_buckets_1 rfl ?_
  obtain ⟨z1, hf⟩ := nz_some hf
  rcases bX_some hf with ⟨s2, e3, hc, hf⟩ | ⟨s2, x4, hc, hf⟩
  · cases hf
    refine cVX g [vI a1] [] _ (exN e3) cf_X8_known (t_X8_known g.2.2.2.2.2.2.1 hc) (RC_own g rfl z1) z1 (by decide) q_1024 (Nat.le_of_ble_eq_true rfl) dX8_buckets_2 ?_ rfl
    exact VX_out g f
  · refine cV1 g [vI a1] [] s2 (vR 5 x4) cf_X8_known (t_X8_known g.2.2.2.2.2.2.1 hc) (RC_own g rfl z1) z1 (by decide) q_1024 (Nat.le_of_ble_eq_true rfl) dX8_buckets_2 ?_ rfl
    refine V_astore_n g [(3, vR 5 x4), (0, vR 8 a0), (1, vI a1), (2, vI a2)] dX8_buckets_5 rfl (by decide) rfl ?_
    refine V_aload_n g 1 dX8_buckets_6 rfl ?_
    refine V_iload_n g 3 dX8_buckets_7 rfl ?_
    rcases bX_some hf with ⟨s5, e6, hc, hf⟩ | ⟨s5, x7, hc, hf⟩
    · cases hf
      refine cVX g [vI a2] [] _ (exN e6) cf_X8_needTier (t_X8_needTier g.2.2.2.2.2.2.1 hc) (RC_own g rfl z1) z1 (by decide) q_1004 (Nat.le_of_ble_eq_true rfl) dX8_buckets_8 ?_ rfl
      exact VX_out g f
    · refine cV0 g [vI a2] [] s5 cf_X8_needTier (t_X8_needTier g.2.2.2.2.2.2.1 hc) (RC_own g rfl z1) z1 (by decide) q_1004 (Nat.le_of_ble_eq_true rfl) dX8_buckets_8 ?_ rfl
      refine V_aload_n g 0 dX8_buckets_11 rfl ?_
      refine V_iload_n g 3 dX8_buckets_12 rfl ?_
      obtain ⟨z8, hf⟩ := nz_some hf
      obtain ⟨s9, x10, hc, hf⟩ := bI_some hf
      refine cV1 g [vI a2] [] s9 (vI x10) cf_X5_endOf (t_X5_endOf g.2.2.2.2.2.2.1 hc) (RC_own g rfl z8) z8 (by decide) q_1042 (Nat.le_of_ble_eq_true rfl) dX8_buckets_13 ?_ rfl
      refine V_aload_n g 0 dX8_buckets_16 rfl ?_
      refine V_iload_n g 3 dX8_buckets_17 rfl ?_
      obtain ⟨s11, x12, hc, hf⟩ := bI_some hf
      refine cV1 g [vI a2] [vI x10] s11 (vI x12) cf_X5_beginOf (t_X5_beginOf g.2.2.2.2.2.2.1 hc) (RC_own g rfl z8) z8 (by decide) q_1046 (Nat.le_of_ble_eq_true rfl) dX8_buckets_18 ?_ rfl
      refine V_isub g dX8_buckets_21 ?_
      cases hf
      exact V_ireturn g f dX8_buckets_22
set_option maxRecDepth 20000 in
theorem t_X8_count_b82 {E : ET} {fu : Nat} {s' : St} {w' : Nat ⊕ Int32} (g : GX E "ThinSeries" cX8_count 2 6) (f : FX E "count" (some .int) []) {s : St} {t0 : Int32} (hf : f_X8_count_b82 fu s t0 = some (s', w')) : V E 2 (QE E (s', rI w')) s 82 [] [vI t0] := by
  unfold f_X8_count_b82 at hf
  cases hf
  exact V_ireturn g f dX8_count_82
set_option maxRecDepth 20000 in
theorem t_X8_count {G : GT} {l : Launch} (hl : l.stackTraces = false) {fu : Nat} {s s' : St} {a0 : Nat} {a1 : Int32} {w' : Nat ⊕ Int32} (hf : f_X8_count fu s a0 a1 = some (s', w')) : MetG G l yX8_count (.code yX8_count cX8_count 2 (some .int)) 6 s [vR 8 a0, vI a1] (s', rI w') := by
  refine MetG_of hl (by decide +kernel) (Nat.le_of_ble_eq_true rfl) (fun E g f eG eL => ?_)
  subst eG; subst eL
  have g : GX E "ThinSeries" cX8_count 2 6 := g
  have f : FX E "count" (some .int) [] := f
  show V E 2 (QE E (s', rI w')) s 0 [(0, vR 8 a0), (1, vI a1)] []
  unfold f_X8_count at hf
  refine V_iload_n g 1 dX8_count_0 rfl ?_
  by_cases c1 : a1 = 0
  · subst c1
    have hf := it_t hf rfl
    refine V_tableIn g 48 dX8_count_1 (by decide) (by decide) rfl (by decide) ?_
    refine V_aload_n g 0 dX8_count_48 rfl ?_
    obtain ⟨z2, hf⟩ := nz_some hf
    refine V_getR g 8 a0 12 2 rfl (by decide) rfl rfl q_324 z2 dX8_count_49 ?_
    obtain ⟨z3, hf⟩ := nz_some hf
    refine V_getI g 2 (gR s 8 a0 12) 3 rfl (by decide) rfl q_297 z3 dX8_count_52 ?_
    cases hf
    exact V_ireturn g f dX8_count_55
  · have hf := it_f hf c1
    by_cases c4 : a1 = 1
    · subst c4
      have hf := it_t hf rfl
      refine V_tableIn g 56 dX8_count_1 (by decide) (by decide) rfl (by decide) ?_
      refine V_aload_n g 0 dX8_count_56 rfl ?_
      obtain ⟨z5, hf⟩ := nz_some hf
      refine V_getR g 8 a0 12 2 rfl (by decide) rfl rfl q_324 z5 dX8_count_57 ?_
      obtain ⟨z6, hf⟩ := nz_some hf
      refine V_getI g 2 (gR s 8 a0 12) 4 rfl (by decide) rfl q_300 z6 dX8_count_60 ?_
      cases hf
      exact V_ireturn g f dX8_count_63
    · have hf := it_f hf c4
      by_cases c7 : a1 = 2
      · subst c7
        have hf := it_t hf rfl
        refine V_tableIn g 64 dX8_count_1 (by decide) (by decide) rfl (by decide) ?_
        refine V_aload_n g 0 dX8_count_64 rfl ?_
        obtain ⟨z8, hf⟩ := nz_some hf
        refine V_getR g 8 a0 12 2 rfl (by decide) rfl rfl q_324 z8 dX8_count_65 ?_
        obtain ⟨z9, hf⟩ := nz_some hf
        refine V_getR g 2 (gR s 8 a0 12) 2 0 rfl (by decide) rfl rfl q_293 z9 dX8_count_68 ?_
        obtain ⟨z10, hf⟩ := nz_some hf
        obtain ⟨s11, x12, hc, hf⟩ := bI_some hf
        refine cV1 g [] [] s11 (vI x12) cf_X0_isTold (t_X0_isTold g.2.2.2.2.2.2.1 hc) (RC_own g rfl z10) z10 (by decide) q_993 (Nat.le_of_ble_eq_true rfl) dX8_count_71 ?_ rfl
        refine V_if_eq g 81 dX8_count_74 (by decide) (fun c13 => ?_) (fun c13 => ?_)
        · have hf := it_t hf c13
          refine V_iconst (v := 0) g dX8_count_81 (by decide) ?_
          refine V_sub [] [] rfl ?_
          exact t_X8_count_b82 g f hf
        · have hf := it_f hf c13
          refine V_iconst (v := 1) g dX8_count_77 (by decide) ?_
          refine V_goto g 82 dX8_count_78 (by decide) ?_
          refine V_sub [] [] rfl ?_
          exact t_X8_count_b82 g f hf
      · have hf := it_f hf c7
        by_cases c14 : a1 = 3
        · subst c14
          have hf := it_t hf rfl
          refine V_tableIn g 83 dX8_count_1 (by decide) (by decide) rfl (by decide) ?_
          refine V_aload_n g 0 dX8_count_83 rfl ?_
          obtain ⟨z15, hf⟩ := nz_some hf
          refine V_getR g 8 a0 4 4 rfl (by decide) rfl rfl q_316 z15 dX8_count_84 ?_
          obtain ⟨z16, hf⟩ := nz_some hf
          refine V_getI g 4 (gR s 8 a0 4) 2 rfl (by decide) rfl q_219 z16 dX8_count_87 ?_
          cases hf
          exact V_ireturn g f dX8_count_90
        · have hf := it_f hf c14
          by_cases c17 : a1 = 4
          · subst c17
            have hf := it_t hf rfl
            refine V_tableIn g 91 dX8_count_1 (by decide) (by decide) rfl (by decide) ?_
            refine V_aload_n g 0 dX8_count_91 rfl ?_
            obtain ⟨z18, hf⟩ := nz_some hf
            refine V_getI g 8 a0 14 rfl (by decide) rfl q_326 z18 dX8_count_92 ?_
            cases hf
            exact V_ireturn g f dX8_count_95
          · have hf := it_f hf c17
            by_cases c19 : a1 = 5
            · subst c19
              have hf := it_t hf rfl
              refine V_tableIn g 96 dX8_count_1 (by decide) (by decide) rfl (by decide) ?_
              refine V_aload_n g 0 dX8_count_96 rfl ?_
              obtain ⟨z20, hf⟩ := nz_some hf
              refine V_getI g 8 a0 16 rfl (by decide) rfl q_328 z20 dX8_count_97 ?_
              cases hf
              exact V_ireturn g f dX8_count_100
            · have hf := it_f hf c19
              by_cases c21 : a1 = 6
              · subst c21
                have hf := it_t hf rfl
                refine V_tableIn g 101 dX8_count_1 (by decide) (by decide) rfl (by decide) ?_
                refine V_aload_n g 0 dX8_count_101 rfl ?_
                obtain ⟨z22, hf⟩ := nz_some hf
                refine V_getI g 8 a0 17 rfl (by decide) rfl q_329 z22 dX8_count_102 ?_
                cases hf
                exact V_ireturn g f dX8_count_105
              · have hf := it_f hf c21
                by_cases c23 : a1 = 7
                · subst c23
                  have hf := it_t hf rfl
                  refine V_tableIn g 106 dX8_count_1 (by decide) (by decide) rfl (by decide) ?_
                  refine V_aload_n g 0 dX8_count_106 rfl ?_
                  obtain ⟨z24, hf⟩ := nz_some hf
                  refine V_getI g 8 a0 18 rfl (by decide) rfl q_330 z24 dX8_count_107 ?_
                  cases hf
                  exact V_ireturn g f dX8_count_110
                · have hf := it_f hf c23
                  refine V_tableOut g 111 dX8_count_1 (sw_out (fun v h1 h2 => ?_)) (by decide) ?_
                  · rcases (show v = 0 ∨ v = 1 ∨ v = 2 ∨ v = 3 ∨ v = 4 ∨ v = 5 ∨ v = 6 ∨ v = 7 by omega) with rfl | rfl | rfl | rfl | rfl | rfl | rfl | rfl
                    · exact c1
                    · exact c4
                    · exact c7
                    · exact c14
                    · exact c17
                    · exact c19
                    · exact c21
                    · exact c23
                  · skip
                    obtain ⟨h25, hf⟩ := ckf hf
                    cases hf
                    exact thN (j := 17) g f (rm_of h25) q_970 q_116 (by decide) rfl (by decide) (Nat.le_of_ble_eq_true rfl) ⟨⟨dX8_count_111, dX8_count_114⟩, Or.inl ⟨dX8_count_115, dX8_count_117, dX8_count_120⟩⟩
set_option maxRecDepth 20000 in
theorem t_X8_gap_b115 {E : ET} {fu : Nat} {s' : St} {w' : Nat ⊕ Int32} (g : GX E "ThinSeries" cX8_gap 11 7) (f : FX E "gap" (some .int) []) {s : St} {t0 : Int32} (hf : f_X8_gap_b115 fu s t0 = some (s', w')) : V E 11 (QE E (s', rI w')) s 115 [] [vI t0] := by
  unfold f_X8_gap_b115 at hf
  cases hf
  exact V_ireturn g f dX8_gap_115
set_option maxRecDepth 20000 in
theorem t_X8_gap_b119 {E : ET} {fu : Nat} {s' : St} {w' : Nat ⊕ Int32} (g : GX E "ThinSeries" cX8_gap 11 7) (f : FX E "gap" (some .int) []) {k44 : St → Int32 → Int32 → Nat → Int32 → Int32 → Int32 → Int32 → Option (St × (Nat ⊕ Int32))} (hk44 : ∀ (s : St) (l3 : Int32) (l4 : Int32) (l5 : Nat) (l6 : Int32) (l7 : Int32) (l8 : Int32) (l9 : Int32), k44 s l3 l4 l5 l6 l7 l8 l9 = some (s', w') → V E 11 (QE E (s', rI w')) s 44 [(3, vI l3), (4, vI l4), (5, vR 5 l5), (6, vI l6), (7, vI l7), (8, vI l8), (9, vI l9)] []) {s : St} {l3 : Int32} {l4 : Int32} {l5 : Nat} {l6 : Int32} {l7 : Int32} {l8 : Int32} {l9 : Int32} (hf : f_X8_gap_b119 fu k44 s l3 l4 l5 l6 l7 l8 l9 = some (s', w')) : V E 11 (QE E (s', rI w')) s 119 [(3, vI l3), (4, vI l4), (5, vR 5 l5), (6, vI l6), (7, vI l7), (8, vI l8), (9, vI l9)] [] := by
  unfold f_X8_gap_b119 at hf
  obtain ⟨x33, ex33, hf⟩ := lt_some hf
  refine V_iinc g 6 [(9, vI x33), (3, vI l3), (4, vI l4), (5, vR 5 l5), (6, vI l6), (7, vI l7), (8, vI l8)] dX8_gap_119 rfl (by rw [ex33]; rfl) (by decide) rfl ?_
  refine V_goto g 44 dX8_gap_122 (by decide) ?_
  refine V_sub [(3, vI l3), (4, vI l4), (5, vR 5 l5), (6, vI l6), (7, vI l7), (8, vI l8), (9, vI x33)] [1, 2, 3, 4, 5, 6, 0] rfl ?_
  exact hk44 s l3 l4 l5 l6 l7 l8 x33 hf
set_option maxRecDepth 20000 in
theorem t_X8_gap_b44 {E : ET} {fu : Nat} {s' : St} {w' : Nat ⊕ Int32} (g : GX E "ThinSeries" cX8_gap 11 7) (f : FX E "gap" (some .int) []) : ∀ (n : Nat) (s : St) (l3 : Int32) (l4 : Int32) (l5 : Nat) (l6 : Int32) (l7 : Int32) (l8 : Int32) (l9 : Int32), f_X8_gap_b44 fu n s l3 l4 l5 l6 l7 l8 l9 = some (s', w') → V E 11 (QE E (s', rI w')) s 44 [(3, vI l3), (4, vI l4), (5, vR 5 l5), (6, vI l6), (7, vI l7), (8, vI l8), (9, vI l9)] [] := by
  intro n
  induction n with
  | zero =>
    intro s l3 l4 l5 l6 l7 l8 l9 hf
    unfold f_X8_gap_b44 at hf
    exact nomatch hf
  | succ n ih =>
    intro s l3 l4 l5 l6 l7 l8 l9 hf
    unfold f_X8_gap_b44 at hf
    refine V_iload g 6 dX8_gap_44 rfl ?_
    refine V_iload g 4 dX8_gap_46 rfl ?_
    refine V_icmp_ge g 125 dX8_gap_48 (by decide) (fun c18 => ?_) (fun c18 => ?_)
    · have hf := it_t hf c18
      refine V_iload_n g 0 dX8_gap_125 rfl ?_
      refine V_iconst (v := (-1)) g dX8_gap_126 (by decide) ?_
      refine V_icmp_eq g 141 dX8_gap_127 (by decide) (fun c19 => ?_) (fun c19 => ?_)
      · have hf := it_t hf c19
        refine V_iload g 5 dX8_gap_141 rfl ?_
        cases hf
        exact V_ireturn g f dX8_gap_143
      · have hf := it_f hf c19
        obtain ⟨h20, hf⟩ := ckf hf
        cases hf
        exact thN (j := 23) g f (rm_of h20) q_970 q_116 (by decide) rfl (by decide) (Nat.le_of_ble_eq_true rfl) ⟨⟨dX8_gap_130, dX8_gap_133⟩, Or.inr ⟨dX8_gap_134, dX8_gap_137, dX8_gap_140⟩⟩
    · have hf := it_f hf c18
      refine V_aload g 2 dX8_gap_51 rfl ?_
      obtain ⟨z21, hf⟩ := nz_some hf
      refine V_getR g 5 l5 3 10 rfl (by decide) rfl rfl q_447 z21 dX8_gap_53 ?_
      refine V_iload g 6 dX8_gap_56 rfl ?_
      refine V_iconst (v := 1) g dX8_gap_58 (by decide) ?_
      refine V_isub g dX8_gap_59 ?_
      obtain ⟨z22, hf⟩ := nz_some hf
      obtain ⟨h23, hf⟩ := ckf hf
      refine V_iald g z22 h23 dX8_gap_60 ?_
      refine V_iload g 3 dX8_gap_61 rfl ?_
      refine V_iadd g dX8_gap_63 ?_
      obtain ⟨x24, ex24, hf⟩ := lt_some hf
      refine V_istore g [(10, vI x24), (3, vI l3), (4, vI l4), (5, vR 5 l5), (6, vI l6), (7, vI l7), (8, vI l8), (9, vI l9)] dX8_gap_64 ex24 (by decide) rfl ?_
      refine V_aload g 3 dX8_gap_66 rfl ?_
      refine V_getR g 5 l5 3 10 rfl (by decide) rfl rfl q_447 z21 dX8_gap_68 ?_
      refine V_iload g 7 dX8_gap_71 rfl ?_
      obtain ⟨h25, hf⟩ := ckf hf
      refine V_iald g z22 h25 dX8_gap_73 ?_
      refine V_iload g 0 dX8_gap_74 rfl ?_
      refine V_icmp_ne g 82 dX8_gap_76 (by decide) (fun c26 => ?_) (fun c26 => ?_)
      · have hf := it_f hf c26
        refine V_iload g 6 dX8_gap_82 rfl ?_
        refine V_iload_n g 1 dX8_gap_84 rfl ?_
        refine V_icmp_ne g 116 dX8_gap_85 (by decide) (fun c27 => ?_) (fun c27 => ?_)
        · have hf := it_f hf c27
          obtain ⟨x28, ex28, hf⟩ := lt_some hf
          refine V_iinc g 6 [(8, vI x28), (10, vI x24), (3, vI l3), (4, vI l4), (5, vR 5 l5), (6, vI l6), (7, vI l7), (9, vI l9)] dX8_gap_116 rfl (by rw [ex28]; rfl) (by decide) rfl ?_
          refine V_sub [(3, vI l3), (4, vI l4), (5, vR 5 l5), (6, vI l6), (7, vI l7), (8, vI x28), (9, vI l9)] [2, 3, 4, 5, 6, 0, 7] rfl ?_
          exact t_X8_gap_b119 g f ih hf
        · have hf := it_t hf c27
          refine V_iload g 2 dX8_gap_88 rfl ?_
          refine V_if_eq g 113 dX8_gap_90 (by decide) (fun c29 => ?_) (fun c29 => ?_)
          · have hf := it_t hf c29
            refine V_iload g 0 dX8_gap_113 rfl ?_
            refine V_sub [] [] rfl ?_
            exact t_X8_gap_b115 g f hf
          · have hf := it_f hf c29
            refine V_aload g 3 dX8_gap_93 rfl ?_
            refine V_getR g 5 l5 3 10 rfl (by decide) rfl rfl q_447 z21 dX8_gap_95 ?_
            refine V_iload g 7 dX8_gap_98 rfl ?_
            obtain ⟨h30, hf⟩ := ckf hf
            refine V_iald g z22 h30 dX8_gap_100 ?_
            refine V_iload g 0 dX8_gap_101 rfl ?_
            refine V_isub g dX8_gap_103 ?_
            refine V_i2l g dX8_gap_104 ?_
            refine V_iload g 4 dX8_gap_105 rfl ?_
            obtain ⟨s31, x32, hc, hf⟩ := bI_some hf
            refine cS1 g [vJ (Int32.toInt64 ((gI s 10 (gR s 5 l5 3) (ix l9)) - x24)), vI l6] [] s31 (vI x32) cf_X8_quotient (t_X8_quotient g.2.2.2.2.2.2.1 hc) (by decide) q_1113 (Nat.le_of_ble_eq_true rfl) dX8_gap_107 ?_ rfl
            refine V_goto g 115 dX8_gap_110 (by decide) ?_
            refine V_sub [] [] rfl ?_
            exact t_X8_gap_b115 g f hf
      · have hf := it_t hf c26
        refine V_goto g 119 dX8_gap_79 (by decide) ?_
        refine V_sub [(3, vI l3), (4, vI l4), (5, vR 5 l5), (6, vI l6), (7, vI l7), (8, vI l8), (9, vI l9)] [1, 2, 3, 4, 5, 6, 7] rfl ?_
        exact t_X8_gap_b119 g f ih hf
set_option maxRecDepth 20000 in
theorem t_X8_gap {G : GT} {l : Launch} (hl : l.stackTraces = false) {fu : Nat} {s s' : St} {a0 : Nat} {a1 : Int32} {a2 : Int32} {a3 : Int32} {a4 : Int32} {w' : Nat ⊕ Int32} (hf : f_X8_gap fu s a0 a1 a2 a3 a4 = some (s', w')) : MetG G l yX8_gap (.code yX8_gap cX8_gap 11 (some .int)) 7 s [vR 8 a0, vI a1, vI a2, vI a3, vI a4] (s', rI w') := by
  refine MetG_of hl (by decide +kernel) (Nat.le_of_ble_eq_true rfl) (fun E g f eG eL => ?_)
  subst eG; subst eL
  have g : GX E "ThinSeries" cX8_gap 11 7 := g
  have f : FX E "gap" (some .int) [] := f
  show V E 11 (QE E (s', rI w')) s 0 [(0, vR 8 a0), (1, vI a1), (2, vI a2), (3, vI a3), (4, vI a4)] []
  unfold f_X8_gap at hf
  refine V_aload_n g 0 dX8_gap_0 rfl ?_
  refine V_iload_n g 1 dX8_gap_1 rfl ?_
  obtain ⟨z1, hf⟩ := nz_some hf
  rcases bX_some hf with ⟨s2, e3, hc, hf⟩ | ⟨s2, x4, hc, hf⟩
  · cases hf
    refine cVX g [vI a1] [] _ (exN e3) cf_X8_known (t_X8_known g.2.2.2.2.2.2.1 hc) (RC_own g rfl z1) z1 (by decide) q_1024 (Nat.le_of_ble_eq_true rfl) dX8_gap_2 ?_ rfl
    exact VX_out g f
  · refine cV1 g [vI a1] [] s2 (vR 5 x4) cf_X8_known (t_X8_known g.2.2.2.2.2.2.1 hc) (RC_own g rfl z1) z1 (by decide) q_1024 (Nat.le_of_ble_eq_true rfl) dX8_gap_2 ?_ rfl
    refine V_astore g [(5, vR 5 x4), (0, vR 8 a0), (1, vI a1), (2, vI a2), (3, vI a3), (4, vI a4)] dX8_gap_5 rfl (by decide) rfl ?_
    refine V_aload_n g 1 dX8_gap_7 rfl ?_
    refine V_iload_n g 3 dX8_gap_8 rfl ?_
    rcases bX_some hf with ⟨s5, e6, hc, hf⟩ | ⟨s5, x7, hc, hf⟩
    · cases hf
      refine cVX g [vI a2] [] _ (exN e6) cf_X8_needTier (t_X8_needTier g.2.2.2.2.2.2.1 hc) (RC_own g rfl z1) z1 (by decide) q_1004 (Nat.le_of_ble_eq_true rfl) dX8_gap_9 ?_ rfl
      exact VX_out g f
    · refine cV0 g [vI a2] [] s5 cf_X8_needTier (t_X8_needTier g.2.2.2.2.2.2.1 hc) (RC_own g rfl z1) z1 (by decide) q_1004 (Nat.le_of_ble_eq_true rfl) dX8_gap_9 ?_ rfl
      refine V_aload_n g 1 dX8_gap_12 rfl ?_
      refine V_getR g 8 a0 12 2 rfl (by decide) rfl rfl q_324 z1 dX8_gap_13 ?_
      obtain ⟨z8, hf⟩ := nz_some hf
      refine V_getR g 2 (gR s5 8 a0 12) 0 10 rfl (by decide) rfl rfl q_288 z8 dX8_gap_16 ?_
      refine V_iload_n g 3 dX8_gap_19 rfl ?_
      obtain ⟨z9, hf⟩ := nz_some hf
      obtain ⟨h10, hf⟩ := ckf hf
      refine V_iald g z9 h10 dX8_gap_20 ?_
      obtain ⟨x11, ex11, hf⟩ := lt_some hf
      refine V_istore g [(6, vI x11), (5, vR 5 x4), (0, vR 8 a0), (1, vI a1), (2, vI a2), (3, vI a3), (4, vI a4)] dX8_gap_21 ex11 (by decide) rfl ?_
      refine V_aload g 1 dX8_gap_23 rfl ?_
      refine V_iload_n g 4 dX8_gap_25 rfl ?_
      obtain ⟨z12, hf⟩ := nz_some hf
      obtain ⟨s13, x14, hc, hf⟩ := bI_some hf
      refine cV1 g [vI a2] [] s13 (vI x14) cf_X5_endOf (t_X5_endOf g.2.2.2.2.2.2.1 hc) (RC_own g rfl z12) z12 (by decide) q_1042 (Nat.le_of_ble_eq_true rfl) dX8_gap_26 ?_ rfl
      refine V_istore g [(7, vI x14), (6, vI x11), (5, vR 5 x4), (0, vR 8 a0), (1, vI a1), (2, vI a2), (3, vI a3), (4, vI a4)] dX8_gap_29 rfl (by decide) rfl ?_
      refine V_iconst (v := 0) g dX8_gap_31 (by decide) ?_
      refine V_istore g [(8, vI 0), (7, vI x14), (6, vI x11), (5, vR 5 x4), (0, vR 8 a0), (1, vI a1), (2, vI a2), (3, vI a3), (4, vI a4)] dX8_gap_32 rfl (by decide) rfl ?_
      refine V_aload g 3 dX8_gap_34 rfl ?_
      refine V_iload_n g 6 dX8_gap_36 rfl ?_
      obtain ⟨s15, x16, hc, hf⟩ := bI_some hf
      refine cV1 g [vI a2] [] s15 (vI x16) cf_X5_beginOf (t_X5_beginOf g.2.2.2.2.2.2.1 hc) (RC_own g rfl z12) z12 (by decide) q_1046 (Nat.le_of_ble_eq_true rfl) dX8_gap_37 ?_ rfl
      refine V_iconst (v := 1) g dX8_gap_40 (by decide) ?_
      refine V_iadd g dX8_gap_41 ?_
      obtain ⟨x17, ex17, hf⟩ := lt_some hf
      refine V_istore g [(9, vI x17), (8, vI 0), (7, vI x14), (6, vI x11), (5, vR 5 x4), (0, vR 8 a0), (1, vI a1), (2, vI a2), (3, vI a3), (4, vI a4)] dX8_gap_42 ex17 (by decide) rfl ?_
      refine V_sub [(3, vI a3), (4, vI a4), (5, vR 5 x4), (6, vI x11), (7, vI x14), (8, vI 0), (9, vI x17)] [8, 9, 4, 3, 2, 1, 0] rfl ?_
      exact t_X8_gap_b44 g f _ s15 a3 a4 x4 x11 x14 0 x17 hf
