set_option maxRecDepth 20000 in
theorem t_X9_bar_b26 {E : ET} {fu : Nat} {s' : St} {w' : Int64} (g : GX E "ThinSeriesModel" cX9_bar 8 5) (f : FX E "bar" (some .long) []) {s : St} {l0 : Nat} (hf : f_X9_bar_b26 fu s l0 = some (s', w')) : V E 8 (QE E (s', .inl (some (vJ w')))) s 26 [(0, vR 9 l0)] [] := by
  unfold f_X9_bar_b26 at hf
  refine V_aload_n g 0 dX9_bar_26 rfl ?_
  refine V_iconst (v := 1) g dX9_bar_27 (by decide) ?_
  obtain ⟨z26, hf⟩ := nz_some hf
  obtain ⟨s27, x28, hc, hf⟩ := bI_some hf
  refine cV1 g [vI 1] [] s27 (vI x28) cf_X9_fail (t_X9_fail g.2.2.2.2.2.2.1 hc) (RC_own g rfl z26) z26 (by decide) q_1454 (Nat.le_of_ble_eq_true rfl) dX9_bar_28 ?_ rfl
  refine V_i2l g dX9_bar_31 ?_
  cases hf
  exact V_lreturn g f dX9_bar_32
set_option maxRecDepth 20000 in
theorem t_X9_bar_b69 {E : ET} {fu : Nat} {s' : St} {w' : Int64} (g : GX E "ThinSeriesModel" cX9_bar 8 5) (f : FX E "bar" (some .long) []) {s : St} {l0 : Nat} (hf : f_X9_bar_b69 fu s l0 = some (s', w')) : V E 8 (QE E (s', .inl (some (vJ w')))) s 69 [(0, vR 9 l0)] [] := by
  unfold f_X9_bar_b69 at hf
  refine V_aload_n g 0 dX9_bar_69 rfl ?_
  refine V_iconst (v := 2) g dX9_bar_70 (by decide) ?_
  obtain ⟨z29, hf⟩ := nz_some hf
  obtain ⟨s30, x31, hc, hf⟩ := bI_some hf
  refine cV1 g [vI 2] [] s30 (vI x31) cf_X9_fail (t_X9_fail g.2.2.2.2.2.2.1 hc) (RC_own g rfl z29) z29 (by decide) q_1454 (Nat.le_of_ble_eq_true rfl) dX9_bar_71 ?_ rfl
  refine V_i2l g dX9_bar_74 ?_
  cases hf
  exact V_lreturn g f dX9_bar_75
set_option maxRecDepth 20000 in
theorem t_X9_bar_b178 {E : ET} {fu : Nat} {s' : St} {w' : Int64} (g : GX E "ThinSeriesModel" cX9_bar 8 5) (f : FX E "bar" (some .long) []) {s : St} {t0 : Int64} (hf : f_X9_bar_b178 fu s t0 = some (s', w')) : V E 8 (QE E (s', .inl (some (vJ w')))) s 178 [] [vJ t0] := by
  unfold f_X9_bar_b178 at hf
  cases hf
  exact V_lreturn g f dX9_bar_178
set_option maxRecDepth 20000 in
theorem t_X9_bar_b111 {E : ET} {fu : Nat} {s' : St} {w' : Int64} (g : GX E "ThinSeriesModel" cX9_bar 8 5) (f : FX E "bar" (some .long) []) : ∀ (n : Nat) (s : St) (l0 : Nat) (l4 : Int32) (l6 : Int32) (l7 : Int32), f_X9_bar_b111 fu n s l0 l4 l6 l7 = some (s', w') → V E 8 (QE E (s', .inl (some (vJ w')))) s 111 [(0, vR 9 l0), (4, vI l4), (6, vI l6), (7, vI l7)] [] := by
  intro n
  induction n with
  | zero =>
    intro s l0 l4 l6 l7 hf
    unfold f_X9_bar_b111 at hf
    exact nomatch hf
  | succ n ih =>
    intro s l0 l4 l6 l7 hf
    unfold f_X9_bar_b111 at hf
    refine V_iload g 3 dX9_bar_111 rfl ?_
    refine V_iload g 2 dX9_bar_113 rfl ?_
    refine V_icmp_ge g 133 dX9_bar_115 (by decide) (fun c32 => ?_) (fun c32 => ?_)
    · have hf := it_t hf c32
      refine V_iload g 1 dX9_bar_133 rfl ?_
      refine V_if_ne g 146 dX9_bar_135 (by decide) (fun c33 => ?_) (fun c33 => ?_)
      · have hf := it_f hf c33
        refine V_iload g 1 dX9_bar_146 rfl ?_
        refine V_iconst (v := 1) g dX9_bar_148 (by decide) ?_
        refine V_icmp_ne g 159 dX9_bar_149 (by decide) (fun c34 => ?_) (fun c34 => ?_)
        · have hf := it_f hf c34
          refine V_iload g 1 dX9_bar_159 rfl ?_
          refine V_iconst (v := 2) g dX9_bar_161 (by decide) ?_
          refine V_icmp_ne g 173 dX9_bar_162 (by decide) (fun c35 => ?_) (fun c35 => ?_)
          · have hf := it_f hf c35
            refine V_aload_n g 0 dX9_bar_173 rfl ?_
            obtain ⟨z36, hf⟩ := nz_some hf
            refine V_getI g 9 l0 60 rfl (by decide) rfl q_1293 z36 dX9_bar_174 ?_
            refine V_i2l g dX9_bar_177 ?_
            refine V_sub [] [] rfl ?_
            exact t_X9_bar_b178 g f hf
          · have hf := it_t hf c35
            refine V_aload_n g 0 dX9_bar_165 rfl ?_
            obtain ⟨z37, hf⟩ := nz_some hf
            refine V_getI g 9 l0 59 rfl (by decide) rfl q_1292 z37 dX9_bar_166 ?_
            refine V_i2l g dX9_bar_169 ?_
            refine V_goto g 178 dX9_bar_170 (by decide) ?_
            refine V_sub [] [] rfl ?_
            exact t_X9_bar_b178 g f hf
        · have hf := it_t hf c34
          refine V_aload_n g 0 dX9_bar_152 rfl ?_
          obtain ⟨z38, hf⟩ := nz_some hf
          refine V_getJ g 9 l0 57 rfl (by decide) rfl q_1290 z38 dX9_bar_153 ?_
          refine V_goto g 178 dX9_bar_156 (by decide) ?_
          refine V_sub [] [] rfl ?_
          exact t_X9_bar_b178 g f hf
      · have hf := it_t hf c33
        refine V_aload_n g 0 dX9_bar_138 rfl ?_
        obtain ⟨z39, hf⟩ := nz_some hf
        refine V_getI g 9 l0 58 rfl (by decide) rfl q_1291 z39 dX9_bar_139 ?_
        refine V_i2l g dX9_bar_142 ?_
        refine V_goto g 178 dX9_bar_143 (by decide) ?_
        refine V_sub [] [] rfl ?_
        exact t_X9_bar_b178 g f hf
    · have hf := it_f hf c32
      refine V_aload_n g 0 dX9_bar_118 rfl ?_
      refine V_iload g 3 dX9_bar_119 rfl ?_
      obtain ⟨z40, hf⟩ := nz_some hf
      obtain ⟨s41, x42, hc, hf⟩ := bI_some hf
      refine cV1 g [vI l7] [] s41 (vI x42) cf_X9_bucketFrom (t_X9_bucketFrom g.2.2.2.2.2.2.1 hc) (RC_own g rfl z40) z40 (by decide) q_1665 (Nat.le_of_ble_eq_true rfl) dX9_bar_121 ?_ rfl
      refine V_istore g [(7, vI x42), (0, vR 9 l0), (4, vI l4), (6, vI l6)] dX9_bar_124 rfl (by decide) rfl ?_
      refine V_aload_n g 1 dX9_bar_126 rfl ?_
      obtain ⟨s43, hc, hf⟩ := bV_some hf
      refine cV0 g [] [] s43 cf_X9_adds (t_X9_adds g.2.2.2.2.2.2.1 hc) (RC_own g rfl z40) z40 (by decide) q_1788 (Nat.le_of_ble_eq_true rfl) dX9_bar_127 ?_ rfl
      refine V_goto g 111 dX9_bar_130 (by decide) ?_
      refine V_sub [(0, vR 9 l0), (4, vI l4), (6, vI l6), (7, vI x42)] [1, 2, 3, 0] rfl ?_
      exact ih s43 l0 l4 l6 x42 hf
set_option maxRecDepth 20000 in
theorem t_X9_bar {G : GT} {l : Launch} (hl : l.stackTraces = false) {fu : Nat} {s s' : St} {a0 : Nat} {a1 : Int32} {a2 : Int32} {a3 : Int32} {a4 : Int32} {w' : Int64} (hf : f_X9_bar fu s a0 a1 a2 a3 a4 = some (s', w')) : MetG G l yX9_bar (.code yX9_bar cX9_bar 8 (some .long)) 5 s [vR 9 a0, vI a1, vI a2, vI a3, vI a4] (s', .inl (some (vJ w'))) := by
  refine MetG_of hl (by decide +kernel) (Nat.le_of_ble_eq_true rfl) (fun E g f eG eL => ?_)
  subst eG; subst eL
  have g : GX E "ThinSeriesModel" cX9_bar 8 5 := g
  have f : FX E "bar" (some .long) [] := f
  show V E 8 (QE E (s', .inl (some (vJ w')))) s 0 [(0, vR 9 a0), (1, vI a1), (2, vI a2), (3, vI a3), (4, vI a4)] []
  unfold f_X9_bar at hf
  refine V_aload_n g 0 dX9_bar_0 rfl ?_
  refine V_iconst (v := 0) g dX9_bar_1 (by decide) ?_
  obtain ⟨z1, hf⟩ := nz_some hf
  obtain ⟨s2, es2, hf⟩ := lt_some hf
  refine V_putI g 9 a0 3 es2 rfl (by decide) rfl q_1236 z1 (Or.inl rfl) pf_9_3 dX9_bar_2 ?_
  refine V_aload_n g 0 dX9_bar_5 rfl ?_
  refine V_iload_n g 1 dX9_bar_6 rfl ?_
  obtain ⟨s3, x4, hc, hf⟩ := bI_some hf
  refine cV1 g [vI a1] [] s3 (vI x4) cf_X9_isSeries (t_X9_isSeries g.2.2.2.2.2.2.1 hc) (RC_own g rfl z1) z1 (by decide) q_1727 (Nat.le_of_ble_eq_true rfl) dX9_bar_7 ?_ rfl
  refine V_if_eq g 26 dX9_bar_10 (by decide) (fun c5 => ?_) (fun c5 => ?_)
  · have hf := it_t hf c5
    refine V_sub [(0, vR 9 a0)] [0] rfl ?_
    exact t_X9_bar_b26 g f hf
  · have hf := it_f hf c5
    refine V_iload g 4 dX9_bar_13 rfl ?_
    refine V_i2l g dX9_bar_15 ?_
    refine V_lconst (v := 0) g dX9_bar_16 (by decide) ?_
    refine V_ldc2 (v := 3) g q_1800 dX9_bar_17 ?_
    obtain ⟨s6, x7, hc, hf⟩ := bI_some hf
    refine cS1 g [vJ (Int32.toInt64 a4), vJ 0, vJ 3] [] s6 (vI x7) cf_X9_isIn (t_X9_isIn g.2.2.2.2.2.2.1 hc) (by decide) q_1512 (Nat.le_of_ble_eq_true rfl) dX9_bar_20 ?_ rfl
    refine V_if_ne g 33 dX9_bar_23 (by decide) (fun c8 => ?_) (fun c8 => ?_)
    · have hf := it_f hf c8
      refine V_iload_n g 2 dX9_bar_33 rfl ?_
      refine V_i2l g dX9_bar_34 ?_
      refine V_lconst (v := 1) g dX9_bar_35 (by decide) ?_
      refine V_ldc2 (v := 1000000) g q_1575 dX9_bar_36 ?_
      obtain ⟨s9, x10, hc, hf⟩ := bI_some hf
      refine cS1 g [vJ (Int32.toInt64 a2), vJ 1, vJ 1000000] [] s9 (vI x10) cf_X9_isIn (t_X9_isIn g.2.2.2.2.2.2.1 hc) (by decide) q_1512 (Nat.le_of_ble_eq_true rfl) dX9_bar_39 ?_ rfl
      refine V_if_eq g 69 dX9_bar_42 (by decide) (fun c11 => ?_) (fun c11 => ?_)
      · have hf := it_t hf c11
        refine V_sub [(0, vR 9 a0)] [0] rfl ?_
        exact t_X9_bar_b69 g f hf
      · have hf := it_f hf c11
        refine V_iload_n g 2 dX9_bar_45 rfl ?_
        refine V_aload_n g 0 dX9_bar_46 rfl ?_
        refine V_getR g 9 a0 4 10 rfl (by decide) rfl rfl q_1237 z1 dX9_bar_47 ?_
        refine V_aload_n g 0 dX9_bar_50 rfl ?_
        refine V_getI g 9 a0 7 rfl (by decide) rfl q_1240 z1 dX9_bar_51 ?_
        refine V_iconst (v := 1) g dX9_bar_54 (by decide) ?_
        refine V_isub g dX9_bar_55 ?_
        obtain ⟨z12, hf⟩ := nz_some hf
        obtain ⟨h13, hf⟩ := ckf hf
        refine V_iald g z12 h13 dX9_bar_56 ?_
        obtain ⟨h14, hf⟩ := d0_some hf
        refine V_irem g dX9_bar_57 h14 ?_
        refine V_if_ne g 69 dX9_bar_58 (by decide) (fun c15 => ?_) (fun c15 => ?_)
        · have hf := it_f hf c15
          refine V_sub [(0, vR 9 a0)] [0] rfl ?_
          exact t_X9_bar_b69 g f hf
        · have hf := it_t hf c15
          refine V_iload_n g 3 dX9_bar_61 rfl ?_
          refine V_i2l g dX9_bar_62 ?_
          obtain ⟨s16, x17, hc, hf⟩ := bI_some hf
          refine cS1 g [vJ (Int32.toInt64 a3)] [] s16 (vI x17) cf_X9_isTime (t_X9_isTime g.2.2.2.2.2.2.1 hc) (by decide) q_1571 (Nat.le_of_ble_eq_true rfl) dX9_bar_63 ?_ rfl
          refine V_if_ne g 76 dX9_bar_66 (by decide) (fun c18 => ?_) (fun c18 => ?_)
          · have hf := it_f hf c18
            refine V_iload_n g 3 dX9_bar_76 rfl ?_
            refine V_i2l g dX9_bar_77 ?_
            refine V_iload_n g 2 dX9_bar_78 rfl ?_
            obtain ⟨s19, x20, hc, hf⟩ := bI_some hf
            refine cS1 g [vJ (Int32.toInt64 a3), vI a2] [] s19 (vI x20) cf_X9_multiple (t_X9_multiple g.2.2.2.2.2.2.1 hc) (by decide) q_1600 (Nat.le_of_ble_eq_true rfl) dX9_bar_79 ?_ rfl
            refine V_istore g [(5, vI x20), (0, vR 9 a0), (1, vI a1), (2, vI a2), (3, vI a3), (4, vI a4)] dX9_bar_82 rfl (by decide) rfl ?_
            refine V_aload_n g 1 dX9_bar_84 rfl ?_
            obtain ⟨s21, hc, hf⟩ := bV_some hf
            refine cV0 g [] [] s21 cf_X9_clears (t_X9_clears g.2.2.2.2.2.2.1 hc) (RC_own g rfl z1) z1 (by decide) q_1784 (Nat.le_of_ble_eq_true rfl) dX9_bar_85 ?_ rfl
            refine V_aload_n g 1 dX9_bar_88 rfl ?_
            refine V_iload_n g 2 dX9_bar_89 rfl ?_
            refine V_iload g 0 dX9_bar_90 rfl ?_
            refine V_i2l g dX9_bar_92 ?_
            refine V_iload_n g 3 dX9_bar_93 rfl ?_
            refine V_i2l g dX9_bar_94 ?_
            refine V_ladd g dX9_bar_95 ?_
            obtain ⟨s22, x23, hc, hf⟩ := bI_some hf
            refine cV1 g [vI a1, vJ ((Int32.toInt64 x20) + (Int32.toInt64 a2))] [] s22 (vI x23) cf_X9_placeOf (t_X9_placeOf g.2.2.2.2.2.2.1 hc) (RC_own g rfl z1) z1 (by decide) q_1632 (Nat.le_of_ble_eq_true rfl) dX9_bar_96 ?_ rfl
            refine V_istore g [(6, vI x23), (5, vI x20), (0, vR 9 a0), (1, vI a1), (2, vI a2), (3, vI a3), (4, vI a4)] dX9_bar_99 rfl (by decide) rfl ?_
            refine V_aload_n g 2 dX9_bar_101 rfl ?_
            refine V_iload_n g 3 dX9_bar_102 rfl ?_
            refine V_iload g 1 dX9_bar_103 rfl ?_
            refine V_i2l g dX9_bar_105 ?_
            obtain ⟨s24, x25, hc, hf⟩ := bI_some hf
            refine cV1 g [vI a1, vJ (Int32.toInt64 x20)] [] s24 (vI x25) cf_X9_placeOf (t_X9_placeOf g.2.2.2.2.2.2.1 hc) (RC_own g rfl z1) z1 (by decide) q_1632 (Nat.le_of_ble_eq_true rfl) dX9_bar_106 ?_ rfl
            refine V_istore g [(7, vI x25), (6, vI x23), (5, vI x20), (0, vR 9 a0), (1, vI a1), (2, vI a2), (3, vI a3), (4, vI a4)] dX9_bar_109 rfl (by decide) rfl ?_
            refine V_sub [(0, vR 9 a0), (4, vI a4), (6, vI x23), (7, vI x25)] [3, 7, 1, 0] rfl ?_
            exact t_X9_bar_b111 g f _ s24 a0 a4 x23 x25 hf
          · have hf := it_t hf c18
            refine V_sub [(0, vR 9 a0)] [0] rfl ?_
            exact t_X9_bar_b69 g f hf
    · have hf := it_t hf c8
      refine V_sub [(0, vR 9 a0)] [0] rfl ?_
      exact t_X9_bar_b26 g f hf
set_option maxRecDepth 20000 in
theorem t_X9_byteAt_b18 {E : ET} {fu : Nat} {s' : St} {w' : Int32} (g : GX E "ThinSeriesModel" cX9_byteAt 2 0) (f : FX E "byteAt" (some .int) []) {s : St} {t0 : Int32} (hf : f_X9_byteAt_b18 fu s t0 = some (s', w')) : V E 2 (QE E (s', .inl (some (vI w')))) s 18 [] [vI t0] := by
  unfold f_X9_byteAt_b18 at hf
  cases hf
  exact V_ireturn g f dX9_byteAt_18
set_option maxRecDepth 20000 in
theorem t_X9_byteAt {G : GT} {l : Launch} (hl : l.stackTraces = false) {fu : Nat} {s s' : St} {a0 : Nat} {a1 : Int32} {w' : Int32} (hf : f_X9_byteAt fu s a0 a1 = some (s', w')) : MetG G l yX9_byteAt (.code yX9_byteAt cX9_byteAt 2 (some .int)) 0 s [vR 9 a0, vI a1] (s', .inl (some (vI w'))) := by
  refine MetG_of hl (by decide +kernel) (Nat.le_of_ble_eq_true rfl) (fun E g f eG eL => ?_)
  subst eG; subst eL
  have g : GX E "ThinSeriesModel" cX9_byteAt 2 0 := g
  have f : FX E "byteAt" (some .int) [] := f
  show V E 2 (QE E (s', .inl (some (vI w')))) s 0 [(0, vR 9 a0), (1, vI a1)] []
  unfold f_X9_byteAt at hf
  refine V_iload_n g 1 dX9_byteAt_0 rfl ?_
  refine V_aload_n g 0 dX9_byteAt_1 rfl ?_
  obtain ⟨z1, hf⟩ := nz_some hf
  refine V_getI g 9 a0 26 rfl (by decide) rfl q_1259 z1 dX9_byteAt_2 ?_
  refine V_icmp_ge g 17 dX9_byteAt_5 (by decide) (fun c2 => ?_) (fun c2 => ?_)
  · have hf := it_t hf c2
    refine V_iconst (v := (-1)) g dX9_byteAt_17 (by decide) ?_
    refine V_sub [] [] rfl ?_
    exact t_X9_byteAt_b18 g f hf
  · have hf := it_f hf c2
    refine V_aload_n g 0 dX9_byteAt_8 rfl ?_
    refine V_getR g 9 a0 23 10 rfl (by decide) rfl rfl q_1256 z1 dX9_byteAt_9 ?_
    refine V_iload_n g 1 dX9_byteAt_12 rfl ?_
    obtain ⟨z3, hf⟩ := nz_some hf
    obtain ⟨h4, hf⟩ := ckf hf
    refine V_iald g z3 h4 dX9_byteAt_13 ?_
    refine V_goto g 18 dX9_byteAt_14 (by decide) ?_
    refine V_sub [] [] rfl ?_
    exact t_X9_byteAt_b18 g f hf
set_option maxRecDepth 20000 in
theorem t_X9_isDigit_b17 {E : ET} {fu : Nat} {s' : St} {w' : Int32} (g : GX E "ThinSeriesModel" cX9_isDigit 1 0) (f : FX E "isDigit" (some .boolean) []) {s : St} {t0 : Int32} (hf : f_X9_isDigit_b17 fu s t0 = some (s', w')) : V E 1 (QE E (s', .inl (some (vI w')))) s 17 [] [vI t0] := by
  unfold f_X9_isDigit_b17 at hf
  obtain ⟨h3, hf⟩ := ckf hf
  cases hf
  exact V_zreturn g f (zb_n h3) dX9_isDigit_17
set_option maxRecDepth 20000 in
theorem t_X9_isDigit_b16 {E : ET} {fu : Nat} {s' : St} {w' : Int32} (g : GX E "ThinSeriesModel" cX9_isDigit 1 0) (f : FX E "isDigit" (some .boolean) []) {s : St} (hf : f_X9_isDigit_b16 fu s = some (s', w')) : V E 1 (QE E (s', .inl (some (vI w')))) s 16 [] [] := by
  unfold f_X9_isDigit_b16 at hf
  refine V_iconst (v := 0) g dX9_isDigit_16 (by decide) ?_
  exact t_X9_isDigit_b17 g f hf
set_option maxRecDepth 20000 in
theorem t_X9_isDigit {G : GT} {l : Launch} (hl : l.stackTraces = false) {fu : Nat} {s s' : St} {a0 : Int32} {w' : Int32} (hf : f_X9_isDigit fu s a0 = some (s', w')) : MetG G l yX9_isDigit (.code yX9_isDigit cX9_isDigit 1 (some .boolean)) 0 s [vI a0] (s', .inl (some (vI w'))) := by
  refine MetG_of hl (by decide +kernel) (Nat.le_of_ble_eq_true rfl) (fun E g f eG eL => ?_)
  subst eG; subst eL
  have g : GX E "ThinSeriesModel" cX9_isDigit 1 0 := g
  have f : FX E "isDigit" (some .boolean) [] := f
  show V E 1 (QE E (s', .inl (some (vI w')))) s 0 [(0, vI a0)] []
  unfold f_X9_isDigit at hf
  refine V_iload_n g 0 dX9_isDigit_0 rfl ?_
  refine V_bipush (v := 48) g dX9_isDigit_1 (by decide) ?_
  refine V_icmp_lt g 16 dX9_isDigit_3 (by decide) (fun c1 => ?_) (fun c1 => ?_)
  · have hf := it_t hf c1
    refine V_sub [] [] rfl ?_
    exact t_X9_isDigit_b16 g f hf
  · have hf := it_f hf c1
    refine V_iload_n g 0 dX9_isDigit_6 rfl ?_
    refine V_bipush (v := 57) g dX9_isDigit_7 (by decide) ?_
    refine V_icmp_gt g 16 dX9_isDigit_9 (by decide) (fun c2 => ?_) (fun c2 => ?_)
    · have hf := it_t hf c2
      refine V_sub [] [] rfl ?_
      exact t_X9_isDigit_b16 g f hf
    · have hf := it_f hf c2
      refine V_iconst (v := 1) g dX9_isDigit_12 (by decide) ?_
      refine V_goto g 17 dX9_isDigit_13 (by decide) ?_
      refine V_sub [] [] rfl ?_
      exact t_X9_isDigit_b17 g f hf
set_option maxRecDepth 20000 in
theorem t_X9_isLetter_b17 {E : ET} {fu : Nat} {s' : St} {w' : Int32} (g : GX E "ThinSeriesModel" cX9_isLetter 1 0) (f : FX E "isLetter" (some .boolean) []) {s : St} {t0 : Int32} (hf : f_X9_isLetter_b17 fu s t0 = some (s', w')) : V E 1 (QE E (s', .inl (some (vI w')))) s 17 [] [vI t0] := by
  unfold f_X9_isLetter_b17 at hf
  obtain ⟨h3, hf⟩ := ckf hf
  cases hf
  exact V_zreturn g f (zb_n h3) dX9_isLetter_17
set_option maxRecDepth 20000 in
theorem t_X9_isLetter_b16 {E : ET} {fu : Nat} {s' : St} {w' : Int32} (g : GX E "ThinSeriesModel" cX9_isLetter 1 0) (f : FX E "isLetter" (some .boolean) []) {s : St} (hf : f_X9_isLetter_b16 fu s = some (s', w')) : V E 1 (QE E (s', .inl (some (vI w')))) s 16 [] [] := by
  unfold f_X9_isLetter_b16 at hf
  refine V_iconst (v := 0) g dX9_isLetter_16 (by decide) ?_
  exact t_X9_isLetter_b17 g f hf
set_option maxRecDepth 20000 in
theorem t_X9_isLetter {G : GT} {l : Launch} (hl : l.stackTraces = false) {fu : Nat} {s s' : St} {a0 : Int32} {w' : Int32} (hf : f_X9_isLetter fu s a0 = some (s', w')) : MetG G l yX9_isLetter (.code yX9_isLetter cX9_isLetter 1 (some .boolean)) 0 s [vI a0] (s', .inl (some (vI w'))) := by
  refine MetG_of hl (by decide +kernel) (Nat.le_of_ble_eq_true rfl) (fun E g f eG eL => ?_)
  subst eG; subst eL
  have g : GX E "ThinSeriesModel" cX9_isLetter 1 0 := g
  have f : FX E "isLetter" (some .boolean) [] := f
  show V E 1 (QE E (s', .inl (some (vI w')))) s 0 [(0, vI a0)] []
  unfold f_X9_isLetter at hf
  refine V_iload_n g 0 dX9_isLetter_0 rfl ?_
  refine V_bipush (v := 97) g dX9_isLetter_1 (by decide) ?_
  refine V_icmp_lt g 16 dX9_isLetter_3 (by decide) (fun c1 => ?_) (fun c1 => ?_)
  · have hf := it_t hf c1
    refine V_sub [] [] rfl ?_
    exact t_X9_isLetter_b16 g f hf
  · have hf := it_f hf c1
    refine V_iload_n g 0 dX9_isLetter_6 rfl ?_
    refine V_bipush (v := 122) g dX9_isLetter_7 (by decide) ?_
    refine V_icmp_gt g 16 dX9_isLetter_9 (by decide) (fun c2 => ?_) (fun c2 => ?_)
    · have hf := it_t hf c2
      refine V_sub [] [] rfl ?_
      exact t_X9_isLetter_b16 g f hf
    · have hf := it_f hf c2
      refine V_iconst (v := 1) g dX9_isLetter_12 (by decide) ?_
      refine V_goto g 17 dX9_isLetter_13 (by decide) ?_
      refine V_sub [] [] rfl ?_
      exact t_X9_isLetter_b17 g f hf
set_option maxRecDepth 20000 in
theorem t_X9_isMark_b47 {E : ET} {fu : Nat} {s' : St} {w' : Int32} (g : GX E "ThinSeriesModel" cX9_isMark 1 0) (f : FX E "isMark" (some .boolean) []) {s : St} {t0 : Int32} (hf : f_X9_isMark_b47 fu s t0 = some (s', w')) : V E 1 (QE E (s', .inl (some (vI w')))) s 47 [] [vI t0] := by
  unfold f_X9_isMark_b47 at hf
  obtain ⟨h8, hf⟩ := ckf hf
  cases hf
  exact V_zreturn g f (zb_n h8) dX9_isMark_47
set_option maxRecDepth 20000 in
theorem t_X9_isMark_b42 {E : ET} {fu : Nat} {s' : St} {w' : Int32} (g : GX E "ThinSeriesModel" cX9_isMark 1 0) (f : FX E "isMark" (some .boolean) []) {s : St} (hf : f_X9_isMark_b42 fu s = some (s', w')) : V E 1 (QE E (s', .inl (some (vI w')))) s 42 [] [] := by
  unfold f_X9_isMark_b42 at hf
  refine V_iconst (v := 1) g dX9_isMark_42 (by decide) ?_
  refine V_goto g 47 dX9_isMark_43 (by decide) ?_
  exact t_X9_isMark_b47 g f hf
set_option maxRecDepth 20000 in
theorem t_X9_isMark {G : GT} {l : Launch} (hl : l.stackTraces = false) {fu : Nat} {s s' : St} {a0 : Int32} {w' : Int32} (hf : f_X9_isMark fu s a0 = some (s', w')) : MetG G l yX9_isMark (.code yX9_isMark cX9_isMark 1 (some .boolean)) 0 s [vI a0] (s', .inl (some (vI w'))) := by
  refine MetG_of hl (by decide +kernel) (Nat.le_of_ble_eq_true rfl) (fun E g f eG eL => ?_)
  subst eG; subst eL
  have g : GX E "ThinSeriesModel" cX9_isMark 1 0 := g
  have f : FX E "isMark" (some .boolean) [] := f
  show V E 1 (QE E (s', .inl (some (vI w')))) s 0 [(0, vI a0)] []
  unfold f_X9_isMark at hf
  refine V_iload_n g 0 dX9_isMark_0 rfl ?_
  refine V_bipush (v := 59) g dX9_isMark_1 (by decide) ?_
  refine V_icmp_eq g 42 dX9_isMark_3 (by decide) (fun c1 => ?_) (fun c1 => ?_)
  · have hf := it_t hf c1
    refine V_sub [] [] rfl ?_
    exact t_X9_isMark_b42 g f hf
  · have hf := it_f hf c1
    refine V_iload_n g 0 dX9_isMark_6 rfl ?_
    refine V_bipush (v := 45) g dX9_isMark_7 (by decide) ?_
    refine V_icmp_eq g 42 dX9_isMark_9 (by decide) (fun c2 => ?_) (fun c2 => ?_)
    · have hf := it_t hf c2
      refine V_sub [] [] rfl ?_
      exact t_X9_isMark_b42 g f hf
    · have hf := it_f hf c2
      refine V_iload_n g 0 dX9_isMark_12 rfl ?_
      refine V_bipush (v := 40) g dX9_isMark_13 (by decide) ?_
      refine V_icmp_eq g 42 dX9_isMark_15 (by decide) (fun c3 => ?_) (fun c3 => ?_)
      · have hf := it_t hf c3
        refine V_sub [] [] rfl ?_
        exact t_X9_isMark_b42 g f hf
      · have hf := it_f hf c3
        refine V_iload_n g 0 dX9_isMark_18 rfl ?_
        refine V_bipush (v := 41) g dX9_isMark_19 (by decide) ?_
        refine V_icmp_eq g 42 dX9_isMark_21 (by decide) (fun c4 => ?_) (fun c4 => ?_)
        · have hf := it_t hf c4
          refine V_sub [] [] rfl ?_
          exact t_X9_isMark_b42 g f hf
        · have hf := it_f hf c4
          refine V_iload_n g 0 dX9_isMark_24 rfl ?_
          refine V_bipush (v := 60) g dX9_isMark_25 (by decide) ?_
          refine V_icmp_eq g 42 dX9_isMark_27 (by decide) (fun c5 => ?_) (fun c5 => ?_)
          · have hf := it_t hf c5
            refine V_sub [] [] rfl ?_
            exact t_X9_isMark_b42 g f hf
          · have hf := it_f hf c5
            refine V_iload_n g 0 dX9_isMark_30 rfl ?_
            refine V_bipush (v := 61) g dX9_isMark_31 (by decide) ?_
            refine V_icmp_eq g 42 dX9_isMark_33 (by decide) (fun c6 => ?_) (fun c6 => ?_)
            · have hf := it_t hf c6
              refine V_sub [] [] rfl ?_
              exact t_X9_isMark_b42 g f hf
            · have hf := it_f hf c6
              refine V_iload_n g 0 dX9_isMark_36 rfl ?_
              refine V_bipush (v := 62) g dX9_isMark_37 (by decide) ?_
              refine V_icmp_ne g 46 dX9_isMark_39 (by decide) (fun c7 => ?_) (fun c7 => ?_)
              · have hf := it_f hf c7
                refine V_iconst (v := 0) g dX9_isMark_46 (by decide) ?_
                refine V_sub [] [] rfl ?_
                exact t_X9_isMark_b47 g f hf
              · have hf := it_t hf c7
                refine V_sub [] [] rfl ?_
                exact t_X9_isMark_b42 g f hf
set_option maxRecDepth 20000 in
theorem t_X9_stepOn_b26 {E : ET} {fu : Nat} {s' : St} (g : GX E "ThinSeriesModel" cX9_stepOn 2 1) (f : FX E "stepOn" none []) {k0 : St → Nat → Option (St)} (hk0 : ∀ (s : St) (l0 : Nat), k0 s l0 = some s' → V E 2 (QE E (s', .inl none)) s 0 [(0, vR 9 l0)] []) {s : St} {l0 : Nat} (hf : f_X9_stepOn_b26 fu k0 s l0 = some s') : V E 2 (QE E (s', .inl none)) s 26 [(0, vR 9 l0)] [] := by
  unfold f_X9_stepOn_b26 at hf
  refine V_aload_n g 0 dX9_stepOn_26 rfl ?_
  refine V_dup g dX9_stepOn_27 rfl ?_
  obtain ⟨z24, hf⟩ := nz_some hf
  refine V_getI g 9 l0 25 rfl (by decide) rfl q_1258 z24 dX9_stepOn_28 ?_
  refine V_iconst (v := 1) g dX9_stepOn_31 (by decide) ?_
  refine V_iadd g dX9_stepOn_32 ?_
  obtain ⟨s25, es25, hf⟩ := lt_some hf
  refine V_putI g 9 l0 25 es25 rfl (by decide) rfl q_1258 z24 (Or.inl rfl) pf_9_25 dX9_stepOn_33 ?_
  refine V_goto g 0 dX9_stepOn_36 (by decide) ?_
  exact hk0 s25 l0 hf
set_option maxRecDepth 20000 in
theorem t_X9_stepOn_b212 {E : ET} {fu : Nat} {s' : St} (g : GX E "ThinSeriesModel" cX9_stepOn 2 1) (f : FX E "stepOn" none []) {s : St} {l0 : Nat} (hf : f_X9_stepOn_b212 fu s l0 = some s') : V E 2 (QE E (s', .inl none)) s 212 [(0, vR 9 l0)] [] := by
  unfold f_X9_stepOn_b212 at hf
  refine V_aload_n g 0 dX9_stepOn_212 rfl ?_
  refine V_aload_n g 0 dX9_stepOn_213 rfl ?_
  obtain ⟨z49, hf⟩ := nz_some hf
  refine V_getI g 9 l0 25 rfl (by decide) rfl q_1258 z49 dX9_stepOn_214 ?_
  obtain ⟨s50, es50, hf⟩ := lt_some hf
  refine V_putI g 9 l0 30 es50 rfl (by decide) rfl q_1263 z49 (Or.inl rfl) pf_9_30 dX9_stepOn_217 ?_
  cases hf
  exact V_return g f dX9_stepOn_220
set_option maxRecDepth 20000 in
theorem t_X9_stepOn_b76 {E : ET} {fu : Nat} {s' : St} (g : GX E "ThinSeriesModel" cX9_stepOn 2 1) (f : FX E "stepOn" none []) : ∀ (n : Nat) (s : St) (l0 : Nat), f_X9_stepOn_b76 fu n s l0 = some s' → V E 2 (QE E (s', .inl none)) s 76 [(0, vR 9 l0)] [] := by
  intro n
  induction n with
  | zero =>
    intro s l0 hf
    unfold f_X9_stepOn_b76 at hf
    exact nomatch hf
  | succ n ih =>
    intro s l0 hf
    unfold f_X9_stepOn_b76 at hf
    refine V_aload_n g 0 dX9_stepOn_76 rfl ?_
    refine V_aload_n g 0 dX9_stepOn_77 rfl ?_
    obtain ⟨z26, hf⟩ := nz_some hf
    refine V_getI g 9 l0 25 rfl (by decide) rfl q_1258 z26 dX9_stepOn_78 ?_
    obtain ⟨s27, x28, hc, hf⟩ := bI_some hf
    refine cV1 g [vI (gI s 9 l0 25)] [] s27 (vI x28) cf_X9_byteAt (t_X9_byteAt g.2.2.2.2.2.2.1 hc) (RC_own g rfl z26) z26 (by decide) q_1466 (Nat.le_of_ble_eq_true rfl) dX9_stepOn_81 ?_ rfl
    obtain ⟨s29, x30, hc, hf⟩ := bI_some hf
    refine cS1 g [vI x28] [] s29 (vI x30) cf_X9_isLetter (t_X9_isLetter g.2.2.2.2.2.2.1 hc) (by decide) q_1470 (Nat.le_of_ble_eq_true rfl) dX9_stepOn_84 ?_ rfl
    refine V_if_eq g 103 dX9_stepOn_87 (by decide) (fun c31 => ?_) (fun c31 => ?_)
    · have hf := it_t hf c31
      refine V_aload_n g 0 dX9_stepOn_103 rfl ?_
      refine V_iconst (v := 1) g dX9_stepOn_104 (by decide) ?_
      obtain ⟨s32, es32, hf⟩ := lt_some hf
      refine V_putI g 9 l0 27 es32 rfl (by decide) rfl q_1260 z26 (Or.inl rfl) pf_9_27 dX9_stepOn_105 ?_
      refine V_goto g 212 dX9_stepOn_108 (by decide) ?_
      exact t_X9_stepOn_b212 g f hf
    · have hf := it_f hf c31
      refine V_aload_n g 0 dX9_stepOn_90 rfl ?_
      refine V_dup g dX9_stepOn_91 rfl ?_
      refine V_getI g 9 l0 25 rfl (by decide) rfl q_1258 z26 dX9_stepOn_92 ?_
      refine V_iconst (v := 1) g dX9_stepOn_95 (by decide) ?_
      refine V_iadd g dX9_stepOn_96 ?_
      obtain ⟨s33, es33, hf⟩ := lt_some hf
      refine V_putI g 9 l0 25 es33 rfl (by decide) rfl q_1258 z26 (Or.inl rfl) pf_9_25 dX9_stepOn_97 ?_
      refine V_goto g 76 dX9_stepOn_100 (by decide) ?_
      exact ih s33 l0 hf
set_option maxRecDepth 20000 in
theorem t_X9_stepOn_b123 {E : ET} {fu : Nat} {s' : St} (g : GX E "ThinSeriesModel" cX9_stepOn 2 1) (f : FX E "stepOn" none []) : ∀ (n : Nat) (s : St) (l0 : Nat), f_X9_stepOn_b123 fu n s l0 = some s' → V E 2 (QE E (s', .inl none)) s 123 [(0, vR 9 l0)] [] := by
  intro n
  induction n with
  | zero =>
    intro s l0 hf
    unfold f_X9_stepOn_b123 at hf
    exact nomatch hf
  | succ n ih =>
    intro s l0 hf
    unfold f_X9_stepOn_b123 at hf
    refine V_aload_n g 0 dX9_stepOn_123 rfl ?_
    refine V_aload_n g 0 dX9_stepOn_124 rfl ?_
    obtain ⟨z34, hf⟩ := nz_some hf
    refine V_getI g 9 l0 25 rfl (by decide) rfl q_1258 z34 dX9_stepOn_125 ?_
    obtain ⟨s35, x36, hc, hf⟩ := bI_some hf
    refine cV1 g [vI (gI s 9 l0 25)] [] s35 (vI x36) cf_X9_byteAt (t_X9_byteAt g.2.2.2.2.2.2.1 hc) (RC_own g rfl z34) z34 (by decide) q_1466 (Nat.le_of_ble_eq_true rfl) dX9_stepOn_128 ?_ rfl
    obtain ⟨s37, x38, hc, hf⟩ := bI_some hf
    refine cS1 g [vI x36] [] s37 (vI x38) cf_X9_isDigit (t_X9_isDigit g.2.2.2.2.2.2.1 hc) (by decide) q_1473 (Nat.le_of_ble_eq_true rfl) dX9_stepOn_131 ?_ rfl
    refine V_if_eq g 178 dX9_stepOn_134 (by decide) (fun c39 => ?_) (fun c39 => ?_)
    · have hf := it_t hf c39
      refine V_aload_n g 0 dX9_stepOn_178 rfl ?_
      refine V_iconst (v := 2) g dX9_stepOn_179 (by decide) ?_
      obtain ⟨s40, es40, hf⟩ := lt_some hf
      refine V_putI g 9 l0 27 es40 rfl (by decide) rfl q_1260 z34 (Or.inl rfl) pf_9_27 dX9_stepOn_180 ?_
      refine V_goto g 212 dX9_stepOn_183 (by decide) ?_
      exact t_X9_stepOn_b212 g f hf
    · have hf := it_f hf c39
      refine V_aload_n g 0 dX9_stepOn_137 rfl ?_
      refine V_ldc (v := 100000000) g q_1476 dX9_stepOn_138 ?_
      refine V_bipush (v := 10) g dX9_stepOn_140 (by decide) ?_
      refine V_aload_n g 0 dX9_stepOn_142 rfl ?_
      refine V_getI g 9 l0 28 rfl (by decide) rfl q_1261 z34 dX9_stepOn_143 ?_
      refine V_imul g dX9_stepOn_146 ?_
      refine V_aload_n g 0 dX9_stepOn_147 rfl ?_
      refine V_aload_n g 0 dX9_stepOn_148 rfl ?_
      refine V_getI g 9 l0 25 rfl (by decide) rfl q_1258 z34 dX9_stepOn_149 ?_
      obtain ⟨s41, x42, hc, hf⟩ := bI_some hf
      refine cV1 g [vI (gI s37 9 l0 25)] [vI (10 * (gI s37 9 l0 28)), vI 100000000, vR 9 l0] s41 (vI x42) cf_X9_byteAt (t_X9_byteAt g.2.2.2.2.2.2.1 hc) (RC_own g rfl z34) z34 (by decide) q_1466 (Nat.le_of_ble_eq_true rfl) dX9_stepOn_152 ?_ rfl
      refine V_iadd g dX9_stepOn_155 ?_
      refine V_bipush (v := 48) g dX9_stepOn_156 (by decide) ?_
      refine V_isub g dX9_stepOn_158 ?_
      obtain ⟨s43, x44, hc, hf⟩ := bI_some hf
      refine cS1 g [vI 100000000, vI (((10 * (gI s37 9 l0 28)) + x42) - 48)] [vR 9 l0] s43 (vI x44) cf_J9_min_7cf53 (t_J9_min_7cf53 g.2.2.2.2.2.2.1 hc) (by decide) q_1477 (Nat.le_of_ble_eq_true rfl) dX9_stepOn_159 ?_ rfl
      obtain ⟨s45, es45, hf⟩ := lt_some hf
      refine V_putI g 9 l0 28 es45 rfl (by decide) rfl q_1261 z34 (Or.inl rfl) pf_9_28 dX9_stepOn_162 ?_
      refine V_aload_n g 0 dX9_stepOn_165 rfl ?_
      refine V_dup g dX9_stepOn_166 rfl ?_
      refine V_getI g 9 l0 25 rfl (by decide) rfl q_1258 z34 dX9_stepOn_167 ?_
      refine V_iconst (v := 1) g dX9_stepOn_170 (by decide) ?_
      refine V_iadd g dX9_stepOn_171 ?_
      obtain ⟨s46, es46, hf⟩ := lt_some hf
      refine V_putI g 9 l0 25 es46 rfl (by decide) rfl q_1258 z34 (Or.inl rfl) pf_9_25 dX9_stepOn_172 ?_
      refine V_goto g 123 dX9_stepOn_175 (by decide) ?_
      exact ih s46 l0 hf
set_option maxRecDepth 20000 in
theorem t_X9_stepOn_b209 {E : ET} {fu : Nat} {s' : St} (g : GX E "ThinSeriesModel" cX9_stepOn 2 1) (f : FX E "stepOn" none []) {s : St} {l0 : Nat} {t0 : Int32} {t1 : Nat} (hf : f_X9_stepOn_b209 fu s l0 t0 t1 = some s') : V E 2 (QE E (s', .inl none)) s 209 [(0, vR 9 l0)] [vI t0, vR 9 t1] := by
  unfold f_X9_stepOn_b209 at hf
  obtain ⟨z47, hf⟩ := nz_some hf
  obtain ⟨s48, es48, hf⟩ := lt_some hf
  refine V_putI g 9 t1 27 es48 rfl (by decide) rfl q_1260 z47 (Or.inl rfl) pf_9_27 dX9_stepOn_209 ?_
  exact t_X9_stepOn_b212 g f hf
set_option maxRecDepth 20000 in
theorem t_X9_stepOn_b0 {E : ET} {fu : Nat} {s' : St} (g : GX E "ThinSeriesModel" cX9_stepOn 2 1) (f : FX E "stepOn" none []) : ∀ (n : Nat) (s : St) (l0 : Nat), f_X9_stepOn_b0 fu n s l0 = some s' → V E 2 (QE E (s', .inl none)) s 0 [(0, vR 9 l0)] [] := by
  intro n
  induction n with
  | zero =>
    intro s l0 hf
    unfold f_X9_stepOn_b0 at hf
    exact nomatch hf
  | succ n ih =>
    intro s l0 hf
    unfold f_X9_stepOn_b0 at hf
    refine V_aload_n g 0 dX9_stepOn_0 rfl ?_
    refine V_aload_n g 0 dX9_stepOn_1 rfl ?_
    obtain ⟨z1, hf⟩ := nz_some hf
    refine V_getI g 9 l0 25 rfl (by decide) rfl q_1258 z1 dX9_stepOn_2 ?_
    obtain ⟨s2, x3, hc, hf⟩ := bI_some hf
    refine cV1 g [vI (gI s 9 l0 25)] [] s2 (vI x3) cf_X9_byteAt (t_X9_byteAt g.2.2.2.2.2.2.1 hc) (RC_own g rfl z1) z1 (by decide) q_1466 (Nat.le_of_ble_eq_true rfl) dX9_stepOn_5 ?_ rfl
    refine V_bipush (v := 32) g dX9_stepOn_8 (by decide) ?_
    refine V_icmp_eq g 26 dX9_stepOn_10 (by decide) (fun c4 => ?_) (fun c4 => ?_)
    · have hf := it_t hf c4
      exact t_X9_stepOn_b26 g f ih hf
    · have hf := it_f hf c4
      refine V_aload_n g 0 dX9_stepOn_13 rfl ?_
      refine V_aload_n g 0 dX9_stepOn_14 rfl ?_
      refine V_getI g 9 l0 25 rfl (by decide) rfl q_1258 z1 dX9_stepOn_15 ?_
      obtain ⟨s5, x6, hc, hf⟩ := bI_some hf
      refine cV1 g [vI (gI s2 9 l0 25)] [] s5 (vI x6) cf_X9_byteAt (t_X9_byteAt g.2.2.2.2.2.2.1 hc) (RC_own g rfl z1) z1 (by decide) q_1466 (Nat.le_of_ble_eq_true rfl) dX9_stepOn_18 ?_ rfl
      refine V_bipush (v := 10) g dX9_stepOn_21 (by decide) ?_
      refine V_icmp_ne g 39 dX9_stepOn_23 (by decide) (fun c7 => ?_) (fun c7 => ?_)
      · have hf := it_f hf c7
        refine V_aload_n g 0 dX9_stepOn_39 rfl ?_
        refine V_aload_n g 0 dX9_stepOn_40 rfl ?_
        refine V_getI g 9 l0 25 rfl (by decide) rfl q_1258 z1 dX9_stepOn_41 ?_
        obtain ⟨s8, es8, hf⟩ := lt_some hf
        refine V_putI g 9 l0 29 es8 rfl (by decide) rfl q_1262 z1 (Or.inl rfl) pf_9_29 dX9_stepOn_44 ?_
        refine V_aload_n g 0 dX9_stepOn_47 rfl ?_
        refine V_aload_n g 0 dX9_stepOn_48 rfl ?_
        refine V_getI g 9 l0 25 rfl (by decide) rfl q_1258 z1 dX9_stepOn_49 ?_
        obtain ⟨s9, x10, hc, hf⟩ := bI_some hf
        refine cV1 g [vI (gI s8 9 l0 25)] [] s9 (vI x10) cf_X9_byteAt (t_X9_byteAt g.2.2.2.2.2.2.1 hc) (RC_own g rfl z1) z1 (by decide) q_1466 (Nat.le_of_ble_eq_true rfl) dX9_stepOn_52 ?_ rfl
        refine V_istore_n g [(1, vI x10), (0, vR 9 l0)] dX9_stepOn_55 rfl (by decide) rfl ?_
        refine V_iload_n g 0 dX9_stepOn_56 rfl ?_
        refine V_iconst (v := (-1)) g dX9_stepOn_57 (by decide) ?_
        refine V_icmp_ne g 69 dX9_stepOn_58 (by decide) (fun c11 => ?_) (fun c11 => ?_)
        · have hf := it_f hf c11
          refine V_iload_n g 0 dX9_stepOn_69 rfl ?_
          obtain ⟨s12, x13, hc, hf⟩ := bI_some hf
          refine cS1 g [vI x10] [] s12 (vI x13) cf_X9_isLetter (t_X9_isLetter g.2.2.2.2.2.2.1 hc) (by decide) q_1470 (Nat.le_of_ble_eq_true rfl) dX9_stepOn_70 ?_ rfl
          refine V_if_eq g 111 dX9_stepOn_73 (by decide) (fun c14 => ?_) (fun c14 => ?_)
          · have hf := it_t hf c14
            refine V_iload_n g 0 dX9_stepOn_111 rfl ?_
            obtain ⟨s15, x16, hc, hf⟩ := bI_some hf
            refine cS1 g [vI x10] [] s15 (vI x16) cf_X9_isDigit (t_X9_isDigit g.2.2.2.2.2.2.1 hc) (by decide) q_1473 (Nat.le_of_ble_eq_true rfl) dX9_stepOn_112 ?_ rfl
            refine V_if_eq g 186 dX9_stepOn_115 (by decide) (fun c17 => ?_) (fun c17 => ?_)
            · have hf := it_t hf c17
              refine V_aload_n g 1 dX9_stepOn_186 rfl ?_
              refine V_dup g dX9_stepOn_187 rfl ?_
              refine V_getI g 9 l0 25 rfl (by decide) rfl q_1258 z1 dX9_stepOn_188 ?_
              refine V_iconst (v := 1) g dX9_stepOn_191 (by decide) ?_
              refine V_iadd g dX9_stepOn_192 ?_
              obtain ⟨s18, es18, hf⟩ := lt_some hf
              refine V_putI g 9 l0 25 es18 rfl (by decide) rfl q_1258 z1 (Or.inl rfl) pf_9_25 dX9_stepOn_193 ?_
              refine V_aload_n g 1 dX9_stepOn_196 rfl ?_
              refine V_iload_n g 0 dX9_stepOn_197 rfl ?_
              obtain ⟨s19, x20, hc, hf⟩ := bI_some hf
              refine cS1 g [vI x10] [vR 9 l0] s19 (vI x20) cf_X9_isMark (t_X9_isMark g.2.2.2.2.2.2.1 hc) (by decide) q_1478 (Nat.le_of_ble_eq_true rfl) dX9_stepOn_198 ?_ rfl
              refine V_if_eq g 208 dX9_stepOn_201 (by decide) (fun c21 => ?_) (fun c21 => ?_)
              · have hf := it_t hf c21
                refine V_iconst (v := 4) g dX9_stepOn_208 (by decide) ?_
                refine V_sub [(0, vR 9 l0)] [1] rfl ?_
                exact t_X9_stepOn_b209 g f hf
              · have hf := it_f hf c21
                refine V_iconst (v := 3) g dX9_stepOn_204 (by decide) ?_
                refine V_goto g 209 dX9_stepOn_205 (by decide) ?_
                refine V_sub [(0, vR 9 l0)] [1] rfl ?_
                exact t_X9_stepOn_b209 g f hf
            · have hf := it_f hf c17
              refine V_aload_n g 1 dX9_stepOn_118 rfl ?_
              refine V_iconst (v := 0) g dX9_stepOn_119 (by decide) ?_
              obtain ⟨s22, es22, hf⟩ := lt_some hf
              refine V_putI g 9 l0 28 es22 rfl (by decide) rfl q_1261 z1 (Or.inl rfl) pf_9_28 dX9_stepOn_120 ?_
              refine V_sub [(0, vR 9 l0)] [1] rfl ?_
              exact t_X9_stepOn_b123 g f _ s22 l0 hf
          · have hf := it_f hf c14
            refine V_sub [(0, vR 9 l0)] [1] rfl ?_
            exact t_X9_stepOn_b76 g f _ s12 l0 hf
        · have hf := it_t hf c11
          refine V_aload_n g 1 dX9_stepOn_61 rfl ?_
          refine V_iconst (v := 0) g dX9_stepOn_62 (by decide) ?_
          obtain ⟨s23, es23, hf⟩ := lt_some hf
          refine V_putI g 9 l0 27 es23 rfl (by decide) rfl q_1260 z1 (Or.inl rfl) pf_9_27 dX9_stepOn_63 ?_
          refine V_goto g 212 dX9_stepOn_66 (by decide) ?_
          refine V_sub [(0, vR 9 l0)] [1] rfl ?_
          exact t_X9_stepOn_b212 g f hf
      · have hf := it_t hf c7
        exact t_X9_stepOn_b26 g f ih hf
set_option maxRecDepth 20000 in
theorem t_X9_stepOn {G : GT} {l : Launch} (hl : l.stackTraces = false) {fu : Nat} {s s' : St} {a0 : Nat} (hf : f_X9_stepOn fu s a0 = some s') : MetG G l yX9_stepOn (.code yX9_stepOn cX9_stepOn 2 none) 1 s [vR 9 a0] (s', .inl none) := by
  refine MetG_of hl (by decide +kernel) (Nat.le_of_ble_eq_true rfl) (fun E g f eG eL => ?_)
  subst eG; subst eL
  have g : GX E "ThinSeriesModel" cX9_stepOn 2 1 := g
  have f : FX E "stepOn" none [] := f
  show V E 2 (QE E (s', .inl none)) s 0 [(0, vR 9 a0)] []
  unfold f_X9_stepOn at hf
  exact t_X9_stepOn_b0 g f _ s a0 hf
set_option maxRecDepth 20000 in
theorem t_X9_begin {G : GT} {l : Launch} (hl : l.stackTraces = false) {fu : Nat} {s s' : St} {a0 : Nat} {a1 : Int32} (hf : f_X9_begin fu s a0 a1 = some s') : MetG G l yX9_begin (.code yX9_begin cX9_begin 2 none) 2 s [vR 9 a0, vI a1] (s', .inl none) := by
  refine MetG_of hl (by decide +kernel) (Nat.le_of_ble_eq_true rfl) (fun E g f eG eL => ?_)
  subst eG; subst eL
  have g : GX E "ThinSeriesModel" cX9_begin 2 2 := g
  have f : FX E "begin" none [] := f
  show V E 2 (QE E (s', .inl none)) s 0 [(0, vR 9 a0), (1, vI a1)] []
  unfold f_X9_begin at hf
  refine V_aload_n g 0 dX9_begin_0 rfl ?_
  refine V_iconst (v := 0) g dX9_begin_1 (by decide) ?_
  obtain ⟨z1, hf⟩ := nz_some hf
  obtain ⟨s2, es2, hf⟩ := lt_some hf
  refine V_putI g 9 a0 24 es2 rfl (by decide) rfl q_1257 z1 (Or.inl rfl) pf_9_24 dX9_begin_2 ?_
  refine V_aload_n g 0 dX9_begin_5 rfl ?_
  refine V_iload_n g 1 dX9_begin_6 rfl ?_
  obtain ⟨s3, es3, hf⟩ := lt_some hf
  refine V_putI g 9 a0 26 es3 rfl (by decide) rfl q_1259 z1 (Or.inl rfl) pf_9_26 dX9_begin_7 ?_
  refine V_aload_n g 0 dX9_begin_10 rfl ?_
  refine V_iconst (v := 0) g dX9_begin_11 (by decide) ?_
  obtain ⟨s4, es4, hf⟩ := lt_some hf
  refine V_putI g 9 a0 25 es4 rfl (by decide) rfl q_1258 z1 (Or.inl rfl) pf_9_25 dX9_begin_12 ?_
  refine V_aload_n g 0 dX9_begin_15 rfl ?_
  refine V_iconst (v := 0) g dX9_begin_16 (by decide) ?_
  obtain ⟨s5, es5, hf⟩ := lt_some hf
  refine V_putI g 9 a0 31 es5 rfl (by decide) rfl q_1264 z1 (Or.inl rfl) pf_9_31 dX9_begin_17 ?_
  refine V_aload_n g 0 dX9_begin_20 rfl ?_
  refine V_iconst (v := (-1)) g dX9_begin_21 (by decide) ?_
  obtain ⟨s6, es6, hf⟩ := lt_some hf
  refine V_putI g 9 a0 33 es6 rfl (by decide) rfl q_1266 z1 (Or.inl rfl) pf_9_33 dX9_begin_22 ?_
  refine V_aload_n g 0 dX9_begin_25 rfl ?_
  obtain ⟨s7, hc, hf⟩ := bV_some hf
  refine cV0 g [] [] s7 cf_X9_stepOn (t_X9_stepOn g.2.2.2.2.2.2.1 hc) (RC_own g rfl z1) z1 (by decide) q_1462 (Nat.le_of_ble_eq_true rfl) dX9_begin_26 ?_ rfl
  cases hf
  exact V_return g f dX9_begin_29
set_option maxRecDepth 20000 in
theorem t_X9_lastSeam {G : GT} {l : Launch} (hl : l.stackTraces = false) {fu : Nat} {s s' : St} {a0 : Nat} {a1 : Int32} {w' : Int32} (hf : f_X9_lastSeam fu s a0 a1 = some (s', w')) : MetG G l yX9_lastSeam (.code yX9_lastSeam cX9_lastSeam 2 (some .int)) 3 s [vR 9 a0, vI a1] (s', .inl (some (vI w'))) := by
  refine MetG_of hl (by decide +kernel) (Nat.le_of_ble_eq_true rfl) (fun E g f eG eL => ?_)
  subst eG; subst eL
  have g : GX E "ThinSeriesModel" cX9_lastSeam 2 3 := g
  have f : FX E "lastSeam" (some .int) [] := f
  show V E 2 (QE E (s', .inl (some (vI w')))) s 0 [(0, vR 9 a0), (1, vI a1)] []
  unfold f_X9_lastSeam at hf
  refine V_aload_n g 0 dX9_lastSeam_0 rfl ?_
  refine V_aload_n g 0 dX9_lastSeam_1 rfl ?_
  obtain ⟨z1, hf⟩ := nz_some hf
  refine V_getR g 9 a0 11 10 rfl (by decide) rfl rfl q_1244 z1 dX9_lastSeam_2 ?_
  refine V_iload_n g 1 dX9_lastSeam_5 rfl ?_
  obtain ⟨z2, hf⟩ := nz_some hf
  obtain ⟨h3, hf⟩ := ckf hf
  refine V_iald g z2 h3 dX9_lastSeam_6 ?_
  refine V_aload_n g 0 dX9_lastSeam_7 rfl ?_
  refine V_getI g 9 a0 7 rfl (by decide) rfl q_1240 z1 dX9_lastSeam_8 ?_
  refine V_iconst (v := 1) g dX9_lastSeam_11 (by decide) ?_
  refine V_isub g dX9_lastSeam_12 ?_
  obtain ⟨s4, x5, hc, hf⟩ := bI_some hf
  refine cV1 g [vI (gI s 10 (gR s 9 a0 11) (ix a1)), vI ((gI s 9 a0 7) - 1)] [] s4 (vI x5) cf_X9_seamBy (t_X9_seamBy g.2.2.2.2.2.2.1 hc) (RC_own g rfl z1) z1 (by decide) q_1593 (Nat.le_of_ble_eq_true rfl) dX9_lastSeam_13 ?_ rfl
  cases hf
  exact V_ireturn g f dX9_lastSeam_16
set_option maxRecDepth 20000 in
theorem t_X9_isLate_b23 {E : ET} {fu : Nat} {s' : St} {w' : Int32} (g : GX E "ThinSeriesModel" cX9_isLate 3 4) (f : FX E "isLate" (some .boolean) []) {s : St} {t0 : Int32} (hf : f_X9_isLate_b23 fu s t0 = some (s', w')) : V E 3 (QE E (s', .inl (some (vI w')))) s 23 [] [vI t0] := by
  unfold f_X9_isLate_b23 at hf
  obtain ⟨h8, hf⟩ := ckf hf
  cases hf
  exact V_zreturn g f (zb_n h8) dX9_isLate_23
set_option maxRecDepth 20000 in
theorem t_X9_isLate_b22 {E : ET} {fu : Nat} {s' : St} {w' : Int32} (g : GX E "ThinSeriesModel" cX9_isLate 3 4) (f : FX E "isLate" (some .boolean) []) {s : St} (hf : f_X9_isLate_b22 fu s = some (s', w')) : V E 3 (QE E (s', .inl (some (vI w')))) s 22 [] [] := by
  unfold f_X9_isLate_b22 at hf
  refine V_iconst (v := 0) g dX9_isLate_22 (by decide) ?_
  exact t_X9_isLate_b23 g f hf
set_option maxRecDepth 20000 in
theorem t_X9_isLate {G : GT} {l : Launch} (hl : l.stackTraces = false) {fu : Nat} {s s' : St} {a0 : Nat} {a1 : Int32} {a2 : Int32} {w' : Int32} (hf : f_X9_isLate fu s a0 a1 a2 = some (s', w')) : MetG G l yX9_isLate (.code yX9_isLate cX9_isLate 3 (some .boolean)) 4 s [vR 9 a0, vI a1, vI a2] (s', .inl (some (vI w'))) := by
  refine MetG_of hl (by decide +kernel) (Nat.le_of_ble_eq_true rfl) (fun E g f eG eL => ?_)
  subst eG; subst eL
  have g : GX E "ThinSeriesModel" cX9_isLate 3 4 := g
  have f : FX E "isLate" (some .boolean) [] := f
  show V E 3 (QE E (s', .inl (some (vI w')))) s 0 [(0, vR 9 a0), (1, vI a1), (2, vI a2)] []
  unfold f_X9_isLate at hf
  refine V_aload_n g 0 dX9_isLate_0 rfl ?_
  obtain ⟨z1, hf⟩ := nz_some hf
  refine V_getR g 9 a0 10 13 rfl (by decide) rfl rfl q_1243 z1 dX9_isLate_1 ?_
  refine V_iload_n g 1 dX9_isLate_4 rfl ?_
  obtain ⟨z2, hf⟩ := nz_some hf
  obtain ⟨h3, hf⟩ := ckf hf
  refine V_zald g z2 h3 dX9_isLate_5 ?_
  refine V_if_eq g 22 dX9_isLate_6 (by decide) (fun c4 => ?_) (fun c4 => ?_)
  · have hf := it_t hf c4
    refine V_sub [] [] rfl ?_
    exact t_X9_isLate_b22 g f hf
  · have hf := it_f hf c4
    refine V_iload_n g 2 dX9_isLate_9 rfl ?_
    refine V_aload_n g 0 dX9_isLate_10 rfl ?_
    refine V_iload_n g 1 dX9_isLate_11 rfl ?_
    obtain ⟨s5, x6, hc, hf⟩ := bI_some hf
    refine cV1 g [vI a1] [vI a2] s5 (vI x6) cf_X9_lastSeam (t_X9_lastSeam g.2.2.2.2.2.2.1 hc) (RC_own g rfl z1) z1 (by decide) q_1589 (Nat.le_of_ble_eq_true rfl) dX9_isLate_12 ?_ rfl
    refine V_icmp_ge g 22 dX9_isLate_15 (by decide) (fun c7 => ?_) (fun c7 => ?_)
    · have hf := it_t hf c7
      refine V_sub [] [] rfl ?_
      exact t_X9_isLate_b22 g f hf
    · have hf := it_f hf c7
      refine V_iconst (v := 1) g dX9_isLate_18 (by decide) ?_
      refine V_goto g 23 dX9_isLate_19 (by decide) ?_
      refine V_sub [] [] rfl ?_
      exact t_X9_isLate_b23 g f hf
set_option maxRecDepth 20000 in
theorem t_X9_isLateBy {G : GT} {l : Launch} (hl : l.stackTraces = false) {fu : Nat} {s s' : St} {a0 : Nat} {a1 : Int32} {a2 : Int32} (hf : f_X9_isLateBy fu s a0 a1 a2 = some s') : MetG G l yX9_isLateBy (.code yX9_isLateBy cX9_isLateBy 3 none) 4 s [vR 9 a0, vI a1, vI a2] (s', .inl none) := by
  refine MetG_of hl (by decide +kernel) (Nat.le_of_ble_eq_true rfl) (fun E g f eG eL => ?_)
  subst eG; subst eL
  have g : GX E "ThinSeriesModel" cX9_isLateBy 3 4 := g
  have f : FX E "isLateBy" none [] := f
  show V E 3 (QE E (s', .inl none)) s 0 [(0, vR 9 a0), (1, vI a1), (2, vI a2)] []
  unfold f_X9_isLateBy at hf
  refine V_aload_n g 0 dX9_isLateBy_0 rfl ?_
  refine V_aload_n g 0 dX9_isLateBy_1 rfl ?_
  refine V_iload_n g 1 dX9_isLateBy_2 rfl ?_
  obtain ⟨z1, hf⟩ := nz_some hf
  obtain ⟨s2, x3, hc, hf⟩ := bI_some hf
  refine cV1 g [vI a1] [vR 9 a0] s2 (vI x3) cf_X9_lastSeam (t_X9_lastSeam g.2.2.2.2.2.2.1 hc) (RC_own g rfl z1) z1 (by decide) q_1589 (Nat.le_of_ble_eq_true rfl) dX9_isLateBy_3 ?_ rfl
  refine V_iload_n g 2 dX9_isLateBy_6 rfl ?_
  refine V_isub g dX9_isLateBy_7 ?_
  obtain ⟨s4, es4, hf⟩ := lt_some hf
  refine V_putI g 9 a0 42 es4 rfl (by decide) rfl q_1275 z1 (Or.inl rfl) pf_9_42 dX9_isLateBy_8 ?_
  cases hf
  exact V_return g f dX9_isLateBy_11
set_option maxRecDepth 20000 in
theorem t_X9_firstOf {G : GT} {l : Launch} (hl : l.stackTraces = false) {fu : Nat} {s s' : St} {a0 : Nat} {a1 : Int32} {w' : Int32} (hf : f_X9_firstOf fu s a0 a1 = some (s', w')) : MetG G l yX9_firstOf (.code yX9_firstOf cX9_firstOf 2 (some .int)) 1 s [vR 9 a0, vI a1] (s', .inl (some (vI w'))) := by
  refine MetG_of hl (by decide +kernel) (Nat.le_of_ble_eq_true rfl) (fun E g f eG eL => ?_)
  subst eG; subst eL
  have g : GX E "ThinSeriesModel" cX9_firstOf 2 1 := g
  have f : FX E "firstOf" (some .int) [] := f
  show V E 2 (QE E (s', .inl (some (vI w')))) s 0 [(0, vR 9 a0), (1, vI a1)] []
  unfold f_X9_firstOf at hf
  refine V_aload_n g 0 dX9_firstOf_0 rfl ?_
  refine V_iload_n g 1 dX9_firstOf_1 rfl ?_
  refine V_ldc2 (v := (-200000000)) g q_1631 dX9_firstOf_2 ?_
  obtain ⟨z1, hf⟩ := nz_some hf
  obtain ⟨s2, x3, hc, hf⟩ := bI_some hf
  refine cV1 g [vI a1, vJ ((-200000000))] [] s2 (vI x3) cf_X9_placeOf (t_X9_placeOf g.2.2.2.2.2.2.1 hc) (RC_own g rfl z1) z1 (by decide) q_1632 (Nat.le_of_ble_eq_true rfl) dX9_firstOf_5 ?_ rfl
  cases hf
  exact V_ireturn g f dX9_firstOf_8
set_option maxRecDepth 20000 in
theorem t_X9_goes_b84 {E : ET} {fu : Nat} {s' : St} {w' : Int32} (g : GX E "ThinSeriesModel" cX9_goes 5 0) (f : FX E "goes" (some .int) []) {s : St} {l3 : Int32} (hf : f_X9_goes_b84 fu s l3 = some (s', w')) : V E 5 (QE E (s', .inl (some (vI w')))) s 84 [(3, vI l3)] [] := by
  unfold f_X9_goes_b84 at hf
  refine V_iload_n g 0 dX9_goes_84 rfl ?_
  cases hf
  exact V_ireturn g f dX9_goes_85
set_option maxRecDepth 20000 in
theorem t_X9_goes_b17 {E : ET} {fu : Nat} {s' : St} {w' : Int32} (g : GX E "ThinSeriesModel" cX9_goes 5 0) (f : FX E "goes" (some .int) []) : ∀ (n : Nat) (s : St) (l0 : Nat) (l3 : Int32) (l4 : Int32), f_X9_goes_b17 fu n s l0 l3 l4 = some (s', w') → V E 5 (QE E (s', .inl (some (vI w')))) s 17 [(0, vR 9 l0), (3, vI l3), (4, vI l4)] [] := by
  intro n
  induction n with
  | zero =>
    intro s l0 l3 l4 hf
    unfold f_X9_goes_b17 at hf
    exact nomatch hf
  | succ n ih =>
    intro s l0 l3 l4 hf
    unfold f_X9_goes_b17 at hf
    refine V_iload g 2 dX9_goes_17 rfl ?_
    refine V_aload_n g 0 dX9_goes_19 rfl ?_
    obtain ⟨z4, hf⟩ := nz_some hf
    refine V_getI g 9 l0 22 rfl (by decide) rfl q_1255 z4 dX9_goes_20 ?_
    refine V_icmp_ge g 84 dX9_goes_23 (by decide) (fun c5 => ?_) (fun c5 => ?_)
    · have hf := it_t hf c5
      refine V_sub [(3, vI l3)] [1] rfl ?_
      exact t_X9_goes_b84 g f hf
    · have hf := it_f hf c5
      refine V_iload_n g 1 dX9_goes_26 rfl ?_
      refine V_if_le g 84 dX9_goes_27 (by decide) (fun c6 => ?_) (fun c6 => ?_)
      · have hf := it_t hf c6
        refine V_sub [(3, vI l3)] [1] rfl ?_
        exact t_X9_goes_b84 g f hf
      · have hf := it_f hf c6
        refine V_aload_n g 0 dX9_goes_30 rfl ?_
        refine V_getR g 9 l0 19 10 rfl (by decide) rfl rfl q_1252 z4 dX9_goes_31 ?_
        refine V_iload g 2 dX9_goes_34 rfl ?_
        refine V_aload_n g 0 dX9_goes_36 rfl ?_
        refine V_getR g 9 l0 19 10 rfl (by decide) rfl rfl q_1252 z4 dX9_goes_37 ?_
        refine V_iload g 2 dX9_goes_40 rfl ?_
        refine V_iload_n g 1 dX9_goes_42 rfl ?_
        refine V_iadd g dX9_goes_43 ?_
        obtain ⟨z7, hf⟩ := nz_some hf
        obtain ⟨h8, hf⟩ := ckf hf
        refine V_iald g z7 h8 dX9_goes_44 ?_
        obtain ⟨h9, hf⟩ := ckf hf
        obtain ⟨s10, es10, hf⟩ := lt_some hf
        refine V_iast g es10 z7 h9 dX9_goes_45 ?_
        refine V_aload_n g 0 dX9_goes_46 rfl ?_
        refine V_getR g 9 l0 20 10 rfl (by decide) rfl rfl q_1253 z4 dX9_goes_47 ?_
        refine V_iload g 2 dX9_goes_50 rfl ?_
        refine V_aload_n g 0 dX9_goes_52 rfl ?_
        refine V_getR g 9 l0 20 10 rfl (by decide) rfl rfl q_1253 z4 dX9_goes_53 ?_
        refine V_iload g 2 dX9_goes_56 rfl ?_
        refine V_iload_n g 1 dX9_goes_58 rfl ?_
        refine V_iadd g dX9_goes_59 ?_
        obtain ⟨z11, hf⟩ := nz_some hf
        obtain ⟨h12, hf⟩ := ckf hf
        refine V_iald g z11 h12 dX9_goes_60 ?_
        obtain ⟨h13, hf⟩ := ckf hf
        obtain ⟨s14, es14, hf⟩ := lt_some hf
        refine V_iast g es14 z11 h13 dX9_goes_61 ?_
        refine V_aload_n g 0 dX9_goes_62 rfl ?_
        refine V_getR g 9 l0 21 10 rfl (by decide) rfl rfl q_1254 z4 dX9_goes_63 ?_
        refine V_iload g 2 dX9_goes_66 rfl ?_
        refine V_aload_n g 0 dX9_goes_68 rfl ?_
        refine V_getR g 9 l0 21 10 rfl (by decide) rfl rfl q_1254 z4 dX9_goes_69 ?_
        refine V_iload g 2 dX9_goes_72 rfl ?_
        refine V_iload_n g 1 dX9_goes_74 rfl ?_
        refine V_iadd g dX9_goes_75 ?_
        obtain ⟨z15, hf⟩ := nz_some hf
        obtain ⟨h16, hf⟩ := ckf hf
        refine V_iald g z15 h16 dX9_goes_76 ?_
        obtain ⟨h17, hf⟩ := ckf hf
        obtain ⟨s18, es18, hf⟩ := lt_some hf
        refine V_iast g es18 z15 h17 dX9_goes_77 ?_
        obtain ⟨x19, ex19, hf⟩ := lt_some hf
        refine V_iinc g 2 [(4, vI x19), (0, vR 9 l0), (3, vI l3)] dX9_goes_78 rfl (by rw [ex19]; rfl) (by decide) rfl ?_
        refine V_goto g 17 dX9_goes_81 (by decide) ?_
        refine V_sub [(0, vR 9 l0), (3, vI l3), (4, vI x19)] [1, 2, 0] rfl ?_
        exact ih s18 l0 l3 x19 hf
set_option maxRecDepth 20000 in
theorem t_X9_goes {G : GT} {l : Launch} (hl : l.stackTraces = false) {fu : Nat} {s s' : St} {a0 : Nat} {a1 : Int32} {a2 : Int32} {w' : Int32} (hf : f_X9_goes fu s a0 a1 a2 = some (s', w')) : MetG G l yX9_goes (.code yX9_goes cX9_goes 5 (some .int)) 0 s [vR 9 a0, vI a1, vI a2] (s', .inl (some (vI w'))) := by
  refine MetG_of hl (by decide +kernel) (Nat.le_of_ble_eq_true rfl) (fun E g f eG eL => ?_)
  subst eG; subst eL
  have g : GX E "ThinSeriesModel" cX9_goes 5 0 := g
  have f : FX E "goes" (some .int) [] := f
  show V E 5 (QE E (s', .inl (some (vI w')))) s 0 [(0, vR 9 a0), (1, vI a1), (2, vI a2)] []
  unfold f_X9_goes at hf
  refine V_iload_n g 2 dX9_goes_0 rfl ?_
  refine V_iload_n g 1 dX9_goes_1 rfl ?_
  refine V_isub g dX9_goes_2 ?_
  obtain ⟨x1, ex1, hf⟩ := lt_some hf
  refine V_istore_n g [(3, vI x1), (0, vR 9 a0), (1, vI a1), (2, vI a2)] dX9_goes_3 ex1 (by decide) rfl ?_
  refine V_aload_n g 1 dX9_goes_4 rfl ?_
  refine V_dup g dX9_goes_5 rfl ?_
  obtain ⟨z2, hf⟩ := nz_some hf
  refine V_getI g 9 a0 22 rfl (by decide) rfl q_1255 z2 dX9_goes_6 ?_
  refine V_iload_n g 0 dX9_goes_9 rfl ?_
  refine V_isub g dX9_goes_10 ?_
  obtain ⟨s3, es3, hf⟩ := lt_some hf
  refine V_putI g 9 a0 22 es3 rfl (by decide) rfl q_1255 z2 (Or.inl rfl) pf_9_22 dX9_goes_11 ?_
  refine V_iload_n g 2 dX9_goes_14 rfl ?_
  refine V_istore g [(4, vI a1), (3, vI x1), (0, vR 9 a0), (1, vI a1), (2, vI a2)] dX9_goes_15 rfl (by decide) rfl ?_
  refine V_sub [(0, vR 9 a0), (3, vI x1), (4, vI a1)] [2, 1, 0] rfl ?_
  exact t_X9_goes_b17 g f _ s3 a0 x1 a1 hf
set_option maxRecDepth 20000 in
theorem t_X9_leaves {G : GT} {l : Launch} (hl : l.stackTraces = false) {fu : Nat} {s s' : St} {a0 : Nat} {a1 : Int32} {w' : Int32} (hf : f_X9_leaves fu s a0 a1 = some (s', w')) : MetG G l yX9_leaves (.code yX9_leaves cX9_leaves 2 (some .int)) 2 s [vR 9 a0, vI a1] (s', .inl (some (vI w'))) := by
  refine MetG_of hl (by decide +kernel) (Nat.le_of_ble_eq_true rfl) (fun E g f eG eL => ?_)
  subst eG; subst eL
  have g : GX E "ThinSeriesModel" cX9_leaves 2 2 := g
  have f : FX E "leaves" (some .int) [] := f
  show V E 2 (QE E (s', .inl (some (vI w')))) s 0 [(0, vR 9 a0), (1, vI a1)] []
  unfold f_X9_leaves at hf
  refine V_aload_n g 0 dX9_leaves_0 rfl ?_
  obtain ⟨z1, hf⟩ := nz_some hf
  refine V_getR g 9 a0 10 13 rfl (by decide) rfl rfl q_1243 z1 dX9_leaves_1 ?_
  refine V_iload_n g 1 dX9_leaves_4 rfl ?_
  refine V_iconst (v := 0) g dX9_leaves_5 (by decide) ?_
  obtain ⟨z2, hf⟩ := nz_some hf
  obtain ⟨h3, hf⟩ := ckf hf
  obtain ⟨s4, es4, hf⟩ := lt_some hf
  refine V_zast g es4 z2 h3 dX9_leaves_6 ?_
  refine V_aload_n g 0 dX9_leaves_7 rfl ?_
  refine V_aload_n g 0 dX9_leaves_8 rfl ?_
  refine V_iload_n g 1 dX9_leaves_9 rfl ?_
  obtain ⟨s5, x6, hc, hf⟩ := bI_some hf
  refine cV1 g [vI a1] [vR 9 a0] s5 (vI x6) cf_X9_firstOf (t_X9_firstOf g.2.2.2.2.2.2.1 hc) (RC_own g rfl z1) z1 (by decide) q_1627 (Nat.le_of_ble_eq_true rfl) dX9_leaves_10 ?_ rfl
  refine V_aload_n g 0 dX9_leaves_13 rfl ?_
  refine V_iload_n g 1 dX9_leaves_14 rfl ?_
  obtain ⟨s7, x8, hc, hf⟩ := bI_some hf
  refine cV1 g [vI a1] [vI x6, vR 9 a0] s7 (vI x8) cf_X9_behindOf (t_X9_behindOf g.2.2.2.2.2.2.1 hc) (RC_own g rfl z1) z1 (by decide) q_1636 (Nat.le_of_ble_eq_true rfl) dX9_leaves_15 ?_ rfl
  obtain ⟨s9, x10, hc, hf⟩ := bI_some hf
  refine cV1 g [vI x6, vI x8] [] s9 (vI x10) cf_X9_goes (t_X9_goes g.2.2.2.2.2.2.1 hc) (RC_own g rfl z1) z1 (by decide) q_1641 (Nat.le_of_ble_eq_true rfl) dX9_leaves_18 ?_ rfl
  cases hf
  exact V_ireturn g f dX9_leaves_21
set_option maxRecDepth 20000 in
theorem t_X9_longer_b9 {E : ET} {fu : Nat} {s' : St} {w' : Nat} (g : GX E "ThinSeriesModel" cX9_longer 3 0) (f : FX E "longer" (some (.array .int)) []) : ∀ (n : Nat) (s : St) (l0 : Nat) (l1 : Nat) (l2 : Int32), f_X9_longer_b9 fu n s l0 l1 l2 = some (s', w') → V E 3 (QE E (s', .inl (some (vR 10 w')))) s 9 [(0, vR 10 l0), (1, vR 10 l1), (2, vI l2)] [] := by
  intro n
  induction n with
  | zero =>
    intro s l0 l1 l2 hf
    unfold f_X9_longer_b9 at hf
    exact nomatch hf
  | succ n ih =>
    intro s l0 l1 l2 hf
    unfold f_X9_longer_b9 at hf
    refine V_iload_n g 2 dX9_longer_9 rfl ?_
    refine V_aload_n g 0 dX9_longer_10 rfl ?_
    obtain ⟨z7, hf⟩ := nz_some hf
    refine V_alen10 g z7 dX9_longer_11 ?_
    refine V_icmp_ge g 27 dX9_longer_12 (by decide) (fun c8 => ?_) (fun c8 => ?_)
    · have hf := it_t hf c8
      refine V_aload_n g 1 dX9_longer_27 rfl ?_
      cases hf
      exact V_areturn g f (Or.inr ⟨_, rfl⟩) dX9_longer_28
    · have hf := it_f hf c8
      refine V_aload_n g 1 dX9_longer_15 rfl ?_
      refine V_iload_n g 2 dX9_longer_16 rfl ?_
      refine V_aload_n g 0 dX9_longer_17 rfl ?_
      refine V_iload_n g 2 dX9_longer_18 rfl ?_
      obtain ⟨h9, hf⟩ := ckf hf
      refine V_iald g z7 h9 dX9_longer_19 ?_
      obtain ⟨z10, hf⟩ := nz_some hf
      obtain ⟨h11, hf⟩ := ckf hf
      obtain ⟨s12, es12, hf⟩ := lt_some hf
      refine V_iast g es12 z10 h11 dX9_longer_20 ?_
      obtain ⟨x13, ex13, hf⟩ := lt_some hf
      refine V_iinc g 2 [(2, vI x13), (0, vR 10 l0), (1, vR 10 l1)] dX9_longer_21 rfl (by rw [ex13]; rfl) (by decide) rfl ?_
      refine V_goto g 9 dX9_longer_24 (by decide) ?_
      refine V_sub [(0, vR 10 l0), (1, vR 10 l1), (2, vI x13)] [1, 2, 0] rfl ?_
      exact ih s12 l0 l1 x13 hf
set_option maxRecDepth 20000 in
theorem t_X9_longer {G : GT} {l : Launch} (hl : l.stackTraces = false) {fu : Nat} {s s' : St} {a0 : Nat} {w' : Nat} (hf : f_X9_longer fu s a0 = some (s', w')) : MetG G l yX9_longer (.code yX9_longer cX9_longer 3 (some (.array .int))) 0 s [vR 10 a0] (s', .inl (some (vR 10 w'))) := by
  refine MetG_of hl (by decide +kernel) (Nat.le_of_ble_eq_true rfl) (fun E g f eG eL => ?_)
  subst eG; subst eL
  have g : GX E "ThinSeriesModel" cX9_longer 3 0 := g
  have f : FX E "longer" (some (.array .int)) [] := f
  show V E 3 (QE E (s', .inl (some (vR 10 w')))) s 0 [(0, vR 10 a0)] []
  unfold f_X9_longer at hf
  refine V_iconst (v := 2) g dX9_longer_0 (by decide) ?_
  refine V_aload_n g 0 dX9_longer_1 rfl ?_
  obtain ⟨z1, hf⟩ := nz_some hf
  refine V_alen10 g z1 dX9_longer_2 ?_
  refine V_imul g dX9_longer_3 ?_
  obtain ⟨h2, hf⟩ := ckf hf
  obtain ⟨s3, es3, hf⟩ := lt_some hf
  obtain ⟨h4, hf⟩ := ckf hf
  refine V_new10 g es3 q_207 h2 (rm_of h4) dX9_longer_4 ?_
  obtain ⟨x5, ex5, hf⟩ := lt_some hf
  have z6 : ¬ x5 = 0 := by rw [ex5]; exact Nat.succ_ne_zero _
  refine V_astore_n g [(1, vR 10 x5), (0, vR 10 a0)] dX9_longer_6 ex5 (by decide) rfl ?_
  refine V_iconst (v := 0) g dX9_longer_7 (by decide) ?_
  refine V_istore_n g [(2, vI 0), (1, vR 10 x5), (0, vR 10 a0)] dX9_longer_8 rfl (by decide) rfl ?_
  refine V_sub [(0, vR 10 a0), (1, vR 10 x5), (2, vI 0)] [2, 1, 0] rfl ?_
  exact t_X9_longer_b9 g f _ s3 a0 x5 0 hf
set_option maxRecDepth 20000 in
theorem t_X9_comes_b60 {E : ET} {fu : Nat} {s' : St} (g : GX E "ThinSeriesModel" cX9_comes 6 1) (f : FX E "comes" none []) : ∀ (n : Nat) (s : St) (l0 : Nat) (l1 : Int32) (l2 : Int32) (l3 : Int32) (l4 : Int32) (l5 : Int32), f_X9_comes_b60 fu n s l0 l1 l2 l3 l4 l5 = some s' → V E 6 (QE E (s', .inl none)) s 60 [(0, vR 9 l0), (1, vI l1), (2, vI l2), (3, vI l3), (4, vI l4), (5, vI l5)] [] := by
  intro n
  induction n with
  | zero =>
    intro s l0 l1 l2 l3 l4 l5 hf
    unfold f_X9_comes_b60 at hf
    exact nomatch hf
  | succ n ih =>
    intro s l0 l1 l2 l3 l4 l5 hf
    unfold f_X9_comes_b60 at hf
    refine V_iload g 5 dX9_comes_60 rfl ?_
    refine V_iload g 4 dX9_comes_62 rfl ?_
    refine V_icmp_le g 121 dX9_comes_64 (by decide) (fun c17 => ?_) (fun c17 => ?_)
    · have hf := it_t hf c17
      refine V_aload_n g 0 dX9_comes_121 rfl ?_
      obtain ⟨z18, hf⟩ := nz_some hf
      refine V_getR g 9 l0 19 10 rfl (by decide) rfl rfl q_1252 z18 dX9_comes_122 ?_
      refine V_iload g 4 dX9_comes_125 rfl ?_
      refine V_iload_n g 1 dX9_comes_127 rfl ?_
      obtain ⟨z19, hf⟩ := nz_some hf
      obtain ⟨h20, hf⟩ := ckf hf
      obtain ⟨s21, es21, hf⟩ := lt_some hf
      refine V_iast g es21 z19 h20 dX9_comes_128 ?_
      refine V_aload_n g 0 dX9_comes_129 rfl ?_
      refine V_getR g 9 l0 20 10 rfl (by decide) rfl rfl q_1253 z18 dX9_comes_130 ?_
      refine V_iload g 4 dX9_comes_133 rfl ?_
      refine V_iload_n g 2 dX9_comes_135 rfl ?_
      obtain ⟨z22, hf⟩ := nz_some hf
      obtain ⟨h23, hf⟩ := ckf hf
      obtain ⟨s24, es24, hf⟩ := lt_some hf
      refine V_iast g es24 z22 h23 dX9_comes_136 ?_
      refine V_aload_n g 0 dX9_comes_137 rfl ?_
      refine V_getR g 9 l0 21 10 rfl (by decide) rfl rfl q_1254 z18 dX9_comes_138 ?_
      refine V_iload g 4 dX9_comes_141 rfl ?_
      refine V_iload_n g 3 dX9_comes_143 rfl ?_
      obtain ⟨z25, hf⟩ := nz_some hf
      obtain ⟨h26, hf⟩ := ckf hf
      obtain ⟨s27, es27, hf⟩ := lt_some hf
      refine V_iast g es27 z25 h26 dX9_comes_144 ?_
      refine V_aload_n g 0 dX9_comes_145 rfl ?_
      refine V_dup g dX9_comes_146 rfl ?_
      refine V_getI g 9 l0 22 rfl (by decide) rfl q_1255 z18 dX9_comes_147 ?_
      refine V_iconst (v := 1) g dX9_comes_150 (by decide) ?_
      refine V_iadd g dX9_comes_151 ?_
      obtain ⟨s28, es28, hf⟩ := lt_some hf
      refine V_putI g 9 l0 22 es28 rfl (by decide) rfl q_1255 z18 (Or.inl rfl) pf_9_22 dX9_comes_152 ?_
      cases hf
      exact V_return g f dX9_comes_155
    · have hf := it_f hf c17
      refine V_aload_n g 0 dX9_comes_67 rfl ?_
      obtain ⟨z29, hf⟩ := nz_some hf
      refine V_getR g 9 l0 19 10 rfl (by decide) rfl rfl q_1252 z29 dX9_comes_68 ?_
      refine V_iload g 5 dX9_comes_71 rfl ?_
      refine V_aload_n g 0 dX9_comes_73 rfl ?_
      refine V_getR g 9 l0 19 10 rfl (by decide) rfl rfl q_1252 z29 dX9_comes_74 ?_
      refine V_iload g 5 dX9_comes_77 rfl ?_
      refine V_iconst (v := 1) g dX9_comes_79 (by decide) ?_
      refine V_isub g dX9_comes_80 ?_
      obtain ⟨z30, hf⟩ := nz_some hf
      obtain ⟨h31, hf⟩ := ckf hf
      refine V_iald g z30 h31 dX9_comes_81 ?_
      obtain ⟨h32, hf⟩ := ckf hf
      obtain ⟨s33, es33, hf⟩ := lt_some hf
      refine V_iast g es33 z30 h32 dX9_comes_82 ?_
      refine V_aload_n g 0 dX9_comes_83 rfl ?_
      refine V_getR g 9 l0 20 10 rfl (by decide) rfl rfl q_1253 z29 dX9_comes_84 ?_
      refine V_iload g 5 dX9_comes_87 rfl ?_
      refine V_aload_n g 0 dX9_comes_89 rfl ?_
      refine V_getR g 9 l0 20 10 rfl (by decide) rfl rfl q_1253 z29 dX9_comes_90 ?_
      refine V_iload g 5 dX9_comes_93 rfl ?_
      refine V_iconst (v := 1) g dX9_comes_95 (by decide) ?_
      refine V_isub g dX9_comes_96 ?_
      obtain ⟨z34, hf⟩ := nz_some hf
      obtain ⟨h35, hf⟩ := ckf hf
      refine V_iald g z34 h35 dX9_comes_97 ?_
      obtain ⟨h36, hf⟩ := ckf hf
      obtain ⟨s37, es37, hf⟩ := lt_some hf
      refine V_iast g es37 z34 h36 dX9_comes_98 ?_
      refine V_aload_n g 0 dX9_comes_99 rfl ?_
      refine V_getR g 9 l0 21 10 rfl (by decide) rfl rfl q_1254 z29 dX9_comes_100 ?_
      refine V_iload g 5 dX9_comes_103 rfl ?_
      refine V_aload_n g 0 dX9_comes_105 rfl ?_
      refine V_getR g 9 l0 21 10 rfl (by decide) rfl rfl q_1254 z29 dX9_comes_106 ?_
      refine V_iload g 5 dX9_comes_109 rfl ?_
      refine V_iconst (v := 1) g dX9_comes_111 (by decide) ?_
      refine V_isub g dX9_comes_112 ?_
      obtain ⟨z38, hf⟩ := nz_some hf
      obtain ⟨h39, hf⟩ := ckf hf
      refine V_iald g z38 h39 dX9_comes_113 ?_
      obtain ⟨h40, hf⟩ := ckf hf
      obtain ⟨s41, es41, hf⟩ := lt_some hf
      refine V_iast g es41 z38 h40 dX9_comes_114 ?_
      obtain ⟨x42, ex42, hf⟩ := lt_some hf
      refine V_iinc g 5 [(5, vI x42), (0, vR 9 l0), (1, vI l1), (2, vI l2), (3, vI l3), (4, vI l4)] dX9_comes_115 rfl (by rw [ex42]; rfl) (by decide) rfl ?_
      refine V_goto g 60 dX9_comes_118 (by decide) ?_
      refine V_sub [(0, vR 9 l0), (1, vI l1), (2, vI l2), (3, vI l3), (4, vI l4), (5, vI x42)] [1, 2, 3, 4, 5, 0] rfl ?_
      exact ih s41 l0 l1 l2 l3 l4 x42 hf
set_option maxRecDepth 20000 in
theorem t_X9_comes_b45 {E : ET} {fu : Nat} {s' : St} (g : GX E "ThinSeriesModel" cX9_comes 6 1) (f : FX E "comes" none []) {s : St} {l0 : Nat} {l1 : Int32} {l2 : Int32} {l3 : Int32} (hf : f_X9_comes_b45 fu s l0 l1 l2 l3 = some s') : V E 6 (QE E (s', .inl none)) s 45 [(0, vR 9 l0), (1, vI l1), (2, vI l2), (3, vI l3)] [] := by
  unfold f_X9_comes_b45 at hf
  refine V_aload_n g 0 dX9_comes_45 rfl ?_
  refine V_iload_n g 1 dX9_comes_46 rfl ?_
  refine V_iload_n g 2 dX9_comes_47 rfl ?_
  refine V_i2l g dX9_comes_48 ?_
  obtain ⟨z13, hf⟩ := nz_some hf
  obtain ⟨s14, x15, hc, hf⟩ := bI_some hf
  refine cV1 g [vI l1, vJ (Int32.toInt64 l2)] [] s14 (vI x15) cf_X9_placeOf (t_X9_placeOf g.2.2.2.2.2.2.1 hc) (RC_own g rfl z13) z13 (by decide) q_1632 (Nat.le_of_ble_eq_true rfl) dX9_comes_49 ?_ rfl
  refine V_istore g [(4, vI x15), (0, vR 9 l0), (1, vI l1), (2, vI l2), (3, vI l3)] dX9_comes_52 rfl (by decide) rfl ?_
  refine V_aload_n g 1 dX9_comes_54 rfl ?_
  refine V_getI g 9 l0 22 rfl (by decide) rfl q_1255 z13 dX9_comes_55 ?_
  obtain ⟨x16, ex16, hf⟩ := lt_some hf
  refine V_istore g [(5, vI x16), (4, vI x15), (0, vR 9 l0), (1, vI l1), (2, vI l2), (3, vI l3)] dX9_comes_58 ex16 (by decide) rfl ?_
  refine V_sub [(0, vR 9 l0), (1, vI l1), (2, vI l2), (3, vI l3), (4, vI x15), (5, vI x16)] [2, 3, 4, 5, 1, 0] rfl ?_
  exact t_X9_comes_b60 g f _ s14 l0 l1 l2 l3 x15 x16 hf
set_option maxRecDepth 20000 in
theorem t_X9_comes {G : GT} {l : Launch} (hl : l.stackTraces = false) {fu : Nat} {s s' : St} {a0 : Nat} {a1 : Int32} {a2 : Int32} {a3 : Int32} (hf : f_X9_comes fu s a0 a1 a2 a3 = some s') : MetG G l yX9_comes (.code yX9_comes cX9_comes 6 none) 1 s [vR 9 a0, vI a1, vI a2, vI a3] (s', .inl none) := by
  refine MetG_of hl (by decide +kernel) (Nat.le_of_ble_eq_true rfl) (fun E g f eG eL => ?_)
  subst eG; subst eL
  have g : GX E "ThinSeriesModel" cX9_comes 6 1 := g
  have f : FX E "comes" none [] := f
  show V E 6 (QE E (s', .inl none)) s 0 [(0, vR 9 a0), (1, vI a1), (2, vI a2), (3, vI a3)] []
  unfold f_X9_comes at hf
  refine V_aload_n g 0 dX9_comes_0 rfl ?_
  obtain ⟨z1, hf⟩ := nz_some hf
  refine V_getI g 9 a0 22 rfl (by decide) rfl q_1255 z1 dX9_comes_1 ?_
  refine V_aload_n g 0 dX9_comes_4 rfl ?_
  refine V_getR g 9 a0 19 10 rfl (by decide) rfl rfl q_1252 z1 dX9_comes_5 ?_
  obtain ⟨z2, hf⟩ := nz_some hf
  refine V_alen10 g z2 dX9_comes_8 ?_
  refine V_icmp_ne g 45 dX9_comes_9 (by decide) (fun c3 => ?_) (fun c3 => ?_)
  · have hf := it_f hf c3
    exact t_X9_comes_b45 g f hf
  · have hf := it_t hf c3
    refine V_aload_n g 0 dX9_comes_12 rfl ?_
    refine V_aload_n g 0 dX9_comes_13 rfl ?_
    refine V_getR g 9 a0 19 10 rfl (by decide) rfl rfl q_1252 z1 dX9_comes_14 ?_
    obtain ⟨s4, x5, hc, hf⟩ := bI_some hf
    refine cS1 g [vR 10 (gR s 9 a0 19)] [vR 9 a0] s4 (vR 10 x5) cf_X9_longer (t_X9_longer g.2.2.2.2.2.2.1 hc) (by decide) q_1650 (Nat.le_of_ble_eq_true rfl) dX9_comes_17 ?_ rfl
    obtain ⟨s6, es6, hf⟩ := lt_some hf
    refine V_putR g 9 a0 19 10 es6 rfl (by decide) rfl rfl q_1252 z1 (Or.inl rfl) pf_9_19 q_arr dX9_comes_20 ?_
    refine V_aload_n g 0 dX9_comes_23 rfl ?_
    refine V_aload_n g 0 dX9_comes_24 rfl ?_
    refine V_getR g 9 a0 20 10 rfl (by decide) rfl rfl q_1253 z1 dX9_comes_25 ?_
    obtain ⟨s7, x8, hc, hf⟩ := bI_some hf
    refine cS1 g [vR 10 (gR s6 9 a0 20)] [vR 9 a0] s7 (vR 10 x8) cf_X9_longer (t_X9_longer g.2.2.2.2.2.2.1 hc) (by decide) q_1650 (Nat.le_of_ble_eq_true rfl) dX9_comes_28 ?_ rfl
    obtain ⟨s9, es9, hf⟩ := lt_some hf
    refine V_putR g 9 a0 20 10 es9 rfl (by decide) rfl rfl q_1253 z1 (Or.inl rfl) pf_9_20 q_arr dX9_comes_31 ?_
    refine V_aload_n g 0 dX9_comes_34 rfl ?_
    refine V_aload_n g 0 dX9_comes_35 rfl ?_
    refine V_getR g 9 a0 21 10 rfl (by decide) rfl rfl q_1254 z1 dX9_comes_36 ?_
    obtain ⟨s10, x11, hc, hf⟩ := bI_some hf
    refine cS1 g [vR 10 (gR s9 9 a0 21)] [vR 9 a0] s10 (vR 10 x11) cf_X9_longer (t_X9_longer g.2.2.2.2.2.2.1 hc) (by decide) q_1650 (Nat.le_of_ble_eq_true rfl) dX9_comes_39 ?_ rfl
    obtain ⟨s12, es12, hf⟩ := lt_some hf
    refine V_putR g 9 a0 21 10 es12 rfl (by decide) rfl rfl q_1254 z1 (Or.inl rfl) pf_9_21 q_arr dX9_comes_42 ?_
    exact t_X9_comes_b45 g f hf
set_option maxRecDepth 20000 in
theorem t_X9_oldest_b41 {E : ET} {fu : Nat} {s' : St} {w' : Int32} (g : GX E "ThinSeriesModel" cX9_oldest 3 0) (f : FX E "oldest" (some .int) []) {k4 : St → Nat → Int32 → Int32 → Option (St × Int32)} (hk4 : ∀ (s : St) (l0 : Nat) (l1 : Int32) (l2 : Int32), k4 s l0 l1 l2 = some (s', w') → V E 3 (QE E (s', .inl (some (vI w')))) s 4 [(0, vR 9 l0), (1, vI l1), (2, vI l2)] []) {s : St} {l0 : Nat} {l1 : Int32} {l2 : Int32} (hf : f_X9_oldest_b41 fu k4 s l0 l1 l2 = some (s', w')) : V E 3 (QE E (s', .inl (some (vI w')))) s 41 [(0, vR 9 l0), (1, vI l1), (2, vI l2)] [] := by
  unfold f_X9_oldest_b41 at hf
  obtain ⟨x11, ex11, hf⟩ := lt_some hf
  refine V_iinc g 2 [(2, vI x11), (0, vR 9 l0), (1, vI l1)] dX9_oldest_41 rfl (by rw [ex11]; rfl) (by decide) rfl ?_
  refine V_goto g 4 dX9_oldest_44 (by decide) ?_
  refine V_sub [(0, vR 9 l0), (1, vI l1), (2, vI x11)] [1, 2, 0] rfl ?_
  exact hk4 s l0 l1 x11 hf
set_option maxRecDepth 20000 in
theorem t_X9_oldest_b39 {E : ET} {fu : Nat} {s' : St} {w' : Int32} (g : GX E "ThinSeriesModel" cX9_oldest 3 0) (f : FX E "oldest" (some .int) []) {k4 : St → Nat → Int32 → Int32 → Option (St × Int32)} (hk4 : ∀ (s : St) (l0 : Nat) (l1 : Int32) (l2 : Int32), k4 s l0 l1 l2 = some (s', w') → V E 3 (QE E (s', .inl (some (vI w')))) s 4 [(0, vR 9 l0), (1, vI l1), (2, vI l2)] []) {s : St} {l0 : Nat} {l2 : Int32} (hf : f_X9_oldest_b39 fu k4 s l0 l2 = some (s', w')) : V E 3 (QE E (s', .inl (some (vI w')))) s 39 [(0, vR 9 l0), (2, vI l2)] [] := by
  unfold f_X9_oldest_b39 at hf
  refine V_iload_n g 1 dX9_oldest_39 rfl ?_
  refine V_istore_n g [(1, vI l2), (0, vR 9 l0), (2, vI l2)] dX9_oldest_40 rfl (by decide) rfl ?_
  refine V_sub [(0, vR 9 l0), (1, vI l2), (2, vI l2)] [1, 0, 2] rfl ?_
  exact t_X9_oldest_b41 g f hk4 hf
set_option maxRecDepth 20000 in
theorem t_X9_oldest_b4 {E : ET} {fu : Nat} {s' : St} {w' : Int32} (g : GX E "ThinSeriesModel" cX9_oldest 3 0) (f : FX E "oldest" (some .int) []) : ∀ (n : Nat) (s : St) (l0 : Nat) (l1 : Int32) (l2 : Int32), f_X9_oldest_b4 fu n s l0 l1 l2 = some (s', w') → V E 3 (QE E (s', .inl (some (vI w')))) s 4 [(0, vR 9 l0), (1, vI l1), (2, vI l2)] [] := by
  intro n
  induction n with
  | zero =>
    intro s l0 l1 l2 hf
    unfold f_X9_oldest_b4 at hf
    exact nomatch hf
  | succ n ih =>
    intro s l0 l1 l2 hf
    unfold f_X9_oldest_b4 at hf
    refine V_iload_n g 2 dX9_oldest_4 rfl ?_
    refine V_bipush (v := 10) g dX9_oldest_5 (by decide) ?_
    refine V_icmp_ge g 47 dX9_oldest_7 (by decide) (fun c1 => ?_) (fun c1 => ?_)
    · have hf := it_t hf c1
      refine V_iload_n g 1 dX9_oldest_47 rfl ?_
      cases hf
      exact V_ireturn g f dX9_oldest_48
    · have hf := it_f hf c1
      refine V_aload_n g 0 dX9_oldest_10 rfl ?_
      obtain ⟨z2, hf⟩ := nz_some hf
      refine V_getR g 9 l0 10 13 rfl (by decide) rfl rfl q_1243 z2 dX9_oldest_11 ?_
      refine V_iload_n g 2 dX9_oldest_14 rfl ?_
      obtain ⟨z3, hf⟩ := nz_some hf
      obtain ⟨h4, hf⟩ := ckf hf
      refine V_zald g z3 h4 dX9_oldest_15 ?_
      refine V_if_eq g 41 dX9_oldest_16 (by decide) (fun c5 => ?_) (fun c5 => ?_)
      · have hf := it_t hf c5
        exact t_X9_oldest_b41 g f ih hf
      · have hf := it_f hf c5
        refine V_iload_n g 1 dX9_oldest_19 rfl ?_
        refine V_iconst (v := (-1)) g dX9_oldest_20 (by decide) ?_
        refine V_icmp_eq g 39 dX9_oldest_21 (by decide) (fun c6 => ?_) (fun c6 => ?_)
        · have hf := it_t hf c6
          refine V_sub [(0, vR 9 l0), (2, vI l2)] [0, 2] rfl ?_
          exact t_X9_oldest_b39 g f ih hf
        · have hf := it_f hf c6
          refine V_aload_n g 0 dX9_oldest_24 rfl ?_
          refine V_getR g 9 l0 14 10 rfl (by decide) rfl rfl q_1247 z2 dX9_oldest_25 ?_
          refine V_iload_n g 2 dX9_oldest_28 rfl ?_
          obtain ⟨z7, hf⟩ := nz_some hf
          obtain ⟨h8, hf⟩ := ckf hf
          refine V_iald g z7 h8 dX9_oldest_29 ?_
          refine V_aload_n g 0 dX9_oldest_30 rfl ?_
          refine V_getR g 9 l0 14 10 rfl (by decide) rfl rfl q_1247 z2 dX9_oldest_31 ?_
          refine V_iload_n g 1 dX9_oldest_34 rfl ?_
          obtain ⟨h9, hf⟩ := ckf hf
          refine V_iald g z7 h9 dX9_oldest_35 ?_
          refine V_icmp_ge g 41 dX9_oldest_36 (by decide) (fun c10 => ?_) (fun c10 => ?_)
          · have hf := it_t hf c10
            exact t_X9_oldest_b41 g f ih hf
          · have hf := it_f hf c10
            refine V_sub [(0, vR 9 l0), (2, vI l2)] [0, 2] rfl ?_
            exact t_X9_oldest_b39 g f ih hf
set_option maxRecDepth 20000 in
theorem t_X9_oldest {G : GT} {l : Launch} (hl : l.stackTraces = false) {fu : Nat} {s s' : St} {a0 : Nat} {w' : Int32} (hf : f_X9_oldest fu s a0 = some (s', w')) : MetG G l yX9_oldest (.code yX9_oldest cX9_oldest 3 (some .int)) 0 s [vR 9 a0] (s', .inl (some (vI w'))) := by
  refine MetG_of hl (by decide +kernel) (Nat.le_of_ble_eq_true rfl) (fun E g f eG eL => ?_)
  subst eG; subst eL
  have g : GX E "ThinSeriesModel" cX9_oldest 3 0 := g
  have f : FX E "oldest" (some .int) [] := f
  show V E 3 (QE E (s', .inl (some (vI w')))) s 0 [(0, vR 9 a0)] []
  unfold f_X9_oldest at hf
  refine V_iconst (v := (-1)) g dX9_oldest_0 (by decide) ?_
  refine V_istore_n g [(1, vI ((-1))), (0, vR 9 a0)] dX9_oldest_1 rfl (by decide) rfl ?_
  refine V_iconst (v := 0) g dX9_oldest_2 (by decide) ?_
  refine V_istore_n g [(2, vI 0), (1, vI ((-1))), (0, vR 9 a0)] dX9_oldest_3 rfl (by decide) rfl ?_
  refine V_sub [(0, vR 9 a0), (1, vI ((-1))), (2, vI 0)] [2, 1, 0] rfl ?_
  exact t_X9_oldest_b4 g f _ s a0 ((-1)) 0 hf
set_option maxRecDepth 20000 in
theorem t_X9_series_b25 {E : ET} {fu : Nat} {s' : St} {w' : Int32} (g : GX E "ThinSeriesModel" cX9_series 3 0) (f : FX E "series" (some .int) []) {k4 : St → Nat → Int32 → Int32 → Option (St × Int32)} (hk4 : ∀ (s : St) (l0 : Nat) (l1 : Int32) (l2 : Int32), k4 s l0 l1 l2 = some (s', w') → V E 3 (QE E (s', .inl (some (vI w')))) s 4 [(0, vR 9 l0), (1, vI l1), (2, vI l2)] []) {s : St} {l0 : Nat} {l2 : Int32} {t0 : Int32} {t1 : Int32} (hf : f_X9_series_b25 fu k4 s l0 l2 t0 t1 = some (s', w')) : V E 3 (QE E (s', .inl (some (vI w')))) s 25 [(0, vR 9 l0), (2, vI l2)] [vI t0, vI t1] := by
  unfold f_X9_series_b25 at hf
  refine V_iadd g dX9_series_25 ?_
  obtain ⟨x6, ex6, hf⟩ := lt_some hf
  refine V_istore_n g [(1, vI x6), (0, vR 9 l0), (2, vI l2)] dX9_series_26 ex6 (by decide) rfl ?_
  obtain ⟨x7, ex7, hf⟩ := lt_some hf
  refine V_iinc g 2 [(2, vI x7), (1, vI x6), (0, vR 9 l0)] dX9_series_27 rfl (by rw [ex7]; rfl) (by decide) rfl ?_
  refine V_goto g 4 dX9_series_30 (by decide) ?_
  refine V_sub [(0, vR 9 l0), (1, vI x6), (2, vI x7)] [2, 1, 0] rfl ?_
  exact hk4 s l0 x6 x7 hf
set_option maxRecDepth 20000 in
theorem t_X9_series_b4 {E : ET} {fu : Nat} {s' : St} {w' : Int32} (g : GX E "ThinSeriesModel" cX9_series 3 0) (f : FX E "series" (some .int) []) : ∀ (n : Nat) (s : St) (l0 : Nat) (l1 : Int32) (l2 : Int32), f_X9_series_b4 fu n s l0 l1 l2 = some (s', w') → V E 3 (QE E (s', .inl (some (vI w')))) s 4 [(0, vR 9 l0), (1, vI l1), (2, vI l2)] [] := by
  intro n
  induction n with
  | zero =>
    intro s l0 l1 l2 hf
    unfold f_X9_series_b4 at hf
    exact nomatch hf
  | succ n ih =>
    intro s l0 l1 l2 hf
    unfold f_X9_series_b4 at hf
    refine V_iload_n g 2 dX9_series_4 rfl ?_
    refine V_bipush (v := 10) g dX9_series_5 (by decide) ?_
    refine V_icmp_ge g 33 dX9_series_7 (by decide) (fun c1 => ?_) (fun c1 => ?_)
    · have hf := it_t hf c1
      refine V_iload_n g 1 dX9_series_33 rfl ?_
      cases hf
      exact V_ireturn g f dX9_series_34
    · have hf := it_f hf c1
      refine V_iload_n g 1 dX9_series_10 rfl ?_
      refine V_aload_n g 0 dX9_series_11 rfl ?_
      obtain ⟨z2, hf⟩ := nz_some hf
      refine V_getR g 9 l0 10 13 rfl (by decide) rfl rfl q_1243 z2 dX9_series_12 ?_
      refine V_iload_n g 2 dX9_series_15 rfl ?_
      obtain ⟨z3, hf⟩ := nz_some hf
      obtain ⟨h4, hf⟩ := ckf hf
      refine V_zald g z3 h4 dX9_series_16 ?_
      refine V_if_eq g 24 dX9_series_17 (by decide) (fun c5 => ?_) (fun c5 => ?_)
      · have hf := it_t hf c5
        refine V_iconst (v := 0) g dX9_series_24 (by decide) ?_
        refine V_sub [(0, vR 9 l0), (2, vI l2)] [0, 2] rfl ?_
        exact t_X9_series_b25 g f ih hf
      · have hf := it_f hf c5
        refine V_iconst (v := 1) g dX9_series_20 (by decide) ?_
        refine V_goto g 25 dX9_series_21 (by decide) ?_
        refine V_sub [(0, vR 9 l0), (2, vI l2)] [0, 2] rfl ?_
        exact t_X9_series_b25 g f ih hf
set_option maxRecDepth 20000 in
theorem t_X9_series {G : GT} {l : Launch} (hl : l.stackTraces = false) {fu : Nat} {s s' : St} {a0 : Nat} {w' : Int32} (hf : f_X9_series fu s a0 = some (s', w')) : MetG G l yX9_series (.code yX9_series cX9_series 3 (some .int)) 0 s [vR 9 a0] (s', .inl (some (vI w'))) := by
  refine MetG_of hl (by decide +kernel) (Nat.le_of_ble_eq_true rfl) (fun E g f eG eL => ?_)
  subst eG; subst eL
  have g : GX E "ThinSeriesModel" cX9_series 3 0 := g
  have f : FX E "series" (some .int) [] := f
  show V E 3 (QE E (s', .inl (some (vI w')))) s 0 [(0, vR 9 a0)] []
  unfold f_X9_series at hf
  refine V_iconst (v := 0) g dX9_series_0 (by decide) ?_
  refine V_istore_n g [(1, vI 0), (0, vR 9 a0)] dX9_series_1 rfl (by decide) rfl ?_
  refine V_iconst (v := 0) g dX9_series_2 (by decide) ?_
  refine V_istore_n g [(2, vI 0), (1, vI 0), (0, vR 9 a0)] dX9_series_3 rfl (by decide) rfl ?_
  refine V_sub [(0, vR 9 a0), (1, vI 0), (2, vI 0)] [2, 1, 0] rfl ?_
  exact t_X9_series_b4 g f _ s a0 0 0 hf
set_option maxRecDepth 20000 in
theorem t_X9_rises_b67 {E : ET} {fu : Nat} {s' : St} (g : GX E "ThinSeriesModel" cX9_rises 4 4) (f : FX E "rises" none []) {s : St} {l0 : Nat} {l1 : Int32} {l2 : Int32} (hf : f_X9_rises_b67 fu s l0 l1 l2 = some s') : V E 4 (QE E (s', .inl none)) s 67 [(0, vR 9 l0), (1, vI l1), (2, vI l2)] [] := by
  unfold f_X9_rises_b67 at hf
  refine V_aload_n g 0 dX9_rises_67 rfl ?_
  obtain ⟨z26, hf⟩ := nz_some hf
  refine V_getR g 9 l0 11 10 rfl (by decide) rfl rfl q_1244 z26 dX9_rises_68 ?_
  refine V_iload_n g 1 dX9_rises_71 rfl ?_
  refine V_aload_n g 0 dX9_rises_72 rfl ?_
  refine V_getR g 9 l0 11 10 rfl (by decide) rfl rfl q_1244 z26 dX9_rises_73 ?_
  refine V_iload_n g 1 dX9_rises_76 rfl ?_
  obtain ⟨z27, hf⟩ := nz_some hf
  obtain ⟨h28, hf⟩ := ckf hf
  refine V_iald g z27 h28 dX9_rises_77 ?_
  refine V_iload_n g 2 dX9_rises_78 rfl ?_
  obtain ⟨s29, x30, hc, hf⟩ := bI_some hf
  refine cS1 g [vI (gI s 10 (gR s 9 l0 11) (ix l1)), vI l2] [vI l1, vR 10 (gR s 9 l0 11)] s29 (vI x30) cf_J9_max_7cf53 (t_J9_max_7cf53 g.2.2.2.2.2.2.1 hc) (by decide) q_1645 (Nat.le_of_ble_eq_true rfl) dX9_rises_79 ?_ rfl
  obtain ⟨h31, hf⟩ := ckf hf
  obtain ⟨s32, es32, hf⟩ := lt_some hf
  refine V_iast g es32 z27 h31 dX9_rises_82 ?_
  refine V_aload_n g 0 dX9_rises_83 rfl ?_
  refine V_aload_n g 0 dX9_rises_84 rfl ?_
  refine V_iload_n g 1 dX9_rises_85 rfl ?_
  obtain ⟨s33, x34, hc, hf⟩ := bI_some hf
  refine cV1 g [vI l1] [vR 9 l0] s33 (vI x34) cf_X9_firstOf (t_X9_firstOf g.2.2.2.2.2.2.1 hc) (RC_own g rfl z26) z26 (by decide) q_1627 (Nat.le_of_ble_eq_true rfl) dX9_rises_86 ?_ rfl
  refine V_aload_n g 0 dX9_rises_89 rfl ?_
  refine V_iload_n g 1 dX9_rises_90 rfl ?_
  refine V_aload_n g 0 dX9_rises_91 rfl ?_
  refine V_iload_n g 1 dX9_rises_92 rfl ?_
  obtain ⟨s35, x36, hc, hf⟩ := bI_some hf
  refine cV1 g [vI l1] [vI l1, vR 9 l0, vI x34, vR 9 l0] s35 (vI x36) cf_X9_lastSeam (t_X9_lastSeam g.2.2.2.2.2.2.1 hc) (RC_own g rfl z26) z26 (by decide) q_1589 (Nat.le_of_ble_eq_true rfl) dX9_rises_93 ?_ rfl
  refine V_i2l g dX9_rises_96 ?_
  obtain ⟨s37, x38, hc, hf⟩ := bI_some hf
  refine cV1 g [vI l1, vJ (Int32.toInt64 x36)] [vI x34, vR 9 l0] s37 (vI x38) cf_X9_placeOf (t_X9_placeOf g.2.2.2.2.2.2.1 hc) (RC_own g rfl z26) z26 (by decide) q_1632 (Nat.le_of_ble_eq_true rfl) dX9_rises_97 ?_ rfl
  obtain ⟨s39, x40, hc, hf⟩ := bI_some hf
  refine cV1 g [vI x34, vI x38] [] s39 (vI x40) cf_X9_goes (t_X9_goes g.2.2.2.2.2.2.1 hc) (RC_own g rfl z26) z26 (by decide) q_1641 (Nat.le_of_ble_eq_true rfl) dX9_rises_100 ?_ rfl
  refine V_istore_n g [(3, vI x40), (0, vR 9 l0), (1, vI l1), (2, vI l2)] dX9_rises_103 rfl (by decide) rfl ?_
  refine V_aload_n g 1 dX9_rises_104 rfl ?_
  refine V_getR g 9 l0 13 10 rfl (by decide) rfl rfl q_1246 z26 dX9_rises_105 ?_
  refine V_iload_n g 2 dX9_rises_108 rfl ?_
  refine V_dup2 g dX9_rises_109 rfl rfl ?_
  obtain ⟨z41, hf⟩ := nz_some hf
  obtain ⟨h42, hf⟩ := ckf hf
  refine V_iald g z41 h42 dX9_rises_110 ?_
  refine V_iload_n g 0 dX9_rises_111 rfl ?_
  refine V_iadd g dX9_rises_112 ?_
  obtain ⟨h43, hf⟩ := ckf hf
  obtain ⟨s44, es44, hf⟩ := lt_some hf
  refine V_iast g es44 z41 h43 dX9_rises_113 ?_
  refine V_aload_n g 1 dX9_rises_114 rfl ?_
  refine V_dup g dX9_rises_115 rfl ?_
  refine V_getI g 9 l0 18 rfl (by decide) rfl q_1251 z26 dX9_rises_116 ?_
  refine V_iload_n g 0 dX9_rises_119 rfl ?_
  refine V_iadd g dX9_rises_120 ?_
  obtain ⟨s45, es45, hf⟩ := lt_some hf
  refine V_putI g 9 l0 18 es45 rfl (by decide) rfl q_1251 z26 (Or.inl rfl) pf_9_18 dX9_rises_121 ?_
  refine V_aload_n g 1 dX9_rises_124 rfl ?_
  refine V_dup g dX9_rises_125 rfl ?_
  refine V_getI g 9 l0 15 rfl (by decide) rfl q_1248 z26 dX9_rises_126 ?_
  refine V_iconst (v := 1) g dX9_rises_129 (by decide) ?_
  refine V_iadd g dX9_rises_130 ?_
  obtain ⟨s46, es46, hf⟩ := lt_some hf
  refine V_putI g 9 l0 15 es46 rfl (by decide) rfl q_1248 z26 (Or.inl rfl) pf_9_15 dX9_rises_131 ?_
  refine V_aload_n g 1 dX9_rises_134 rfl ?_
  refine V_getR g 9 l0 14 10 rfl (by decide) rfl rfl q_1247 z26 dX9_rises_135 ?_
  refine V_iload_n g 2 dX9_rises_138 rfl ?_
  refine V_aload_n g 1 dX9_rises_139 rfl ?_
  refine V_getI g 9 l0 15 rfl (by decide) rfl q_1248 z26 dX9_rises_140 ?_
  obtain ⟨z47, hf⟩ := nz_some hf
  obtain ⟨h48, hf⟩ := ckf hf
  obtain ⟨s49, es49, hf⟩ := lt_some hf
  refine V_iast g es49 z47 h48 dX9_rises_143 ?_
  cases hf
  exact V_return g f dX9_rises_144
set_option maxRecDepth 20000 in
theorem t_X9_rises_b39 {E : ET} {fu : Nat} {s' : St} (g : GX E "ThinSeriesModel" cX9_rises 4 4) (f : FX E "rises" none []) {s : St} {l0 : Nat} {l1 : Int32} {l2 : Int32} (hf : f_X9_rises_b39 fu s l0 l1 l2 = some s') : V E 4 (QE E (s', .inl none)) s 39 [(0, vR 9 l0), (1, vI l1), (2, vI l2)] [] := by
  unfold f_X9_rises_b39 at hf
  refine V_aload_n g 0 dX9_rises_39 rfl ?_
  obtain ⟨z13, hf⟩ := nz_some hf
  refine V_getR g 9 l0 10 13 rfl (by decide) rfl rfl q_1243 z13 dX9_rises_40 ?_
  refine V_iload_n g 1 dX9_rises_43 rfl ?_
  refine V_iconst (v := 1) g dX9_rises_44 (by decide) ?_
  obtain ⟨z14, hf⟩ := nz_some hf
  obtain ⟨h15, hf⟩ := ckf hf
  obtain ⟨s16, es16, hf⟩ := lt_some hf
  refine V_zast g es16 z14 h15 dX9_rises_45 ?_
  refine V_aload_n g 0 dX9_rises_46 rfl ?_
  refine V_getR g 9 l0 11 10 rfl (by decide) rfl rfl q_1244 z13 dX9_rises_47 ?_
  refine V_iload_n g 1 dX9_rises_50 rfl ?_
  refine V_iload_n g 2 dX9_rises_51 rfl ?_
  obtain ⟨z17, hf⟩ := nz_some hf
  obtain ⟨h18, hf⟩ := ckf hf
  obtain ⟨s19, es19, hf⟩ := lt_some hf
  refine V_iast g es19 z17 h18 dX9_rises_52 ?_
  refine V_aload_n g 0 dX9_rises_53 rfl ?_
  refine V_getR g 9 l0 12 10 rfl (by decide) rfl rfl q_1245 z13 dX9_rises_54 ?_
  refine V_iload_n g 1 dX9_rises_57 rfl ?_
  refine V_iconst (v := 0) g dX9_rises_58 (by decide) ?_
  obtain ⟨z20, hf⟩ := nz_some hf
  obtain ⟨h21, hf⟩ := ckf hf
  obtain ⟨s22, es22, hf⟩ := lt_some hf
  refine V_iast g es22 z20 h21 dX9_rises_59 ?_
  refine V_aload_n g 0 dX9_rises_60 rfl ?_
  refine V_getR g 9 l0 13 10 rfl (by decide) rfl rfl q_1246 z13 dX9_rises_61 ?_
  refine V_iload_n g 1 dX9_rises_64 rfl ?_
  refine V_iconst (v := 0) g dX9_rises_65 (by decide) ?_
  obtain ⟨z23, hf⟩ := nz_some hf
  obtain ⟨h24, hf⟩ := ckf hf
  obtain ⟨s25, es25, hf⟩ := lt_some hf
  refine V_iast g es25 z23 h24 dX9_rises_66 ?_
  exact t_X9_rises_b67 g f hf
set_option maxRecDepth 20000 in
theorem t_X9_rises {G : GT} {l : Launch} (hl : l.stackTraces = false) {fu : Nat} {s s' : St} {a0 : Nat} {a1 : Int32} {a2 : Int32} (hf : f_X9_rises fu s a0 a1 a2 = some s') : MetG G l yX9_rises (.code yX9_rises cX9_rises 4 none) 4 s [vR 9 a0, vI a1, vI a2] (s', .inl none) := by
  refine MetG_of hl (by decide +kernel) (Nat.le_of_ble_eq_true rfl) (fun E g f eG eL => ?_)
  subst eG; subst eL
  have g : GX E "ThinSeriesModel" cX9_rises 4 4 := g
  have f : FX E "rises" none [] := f
  show V E 4 (QE E (s', .inl none)) s 0 [(0, vR 9 a0), (1, vI a1), (2, vI a2)] []
  unfold f_X9_rises at hf
  refine V_aload_n g 0 dX9_rises_0 rfl ?_
  obtain ⟨z1, hf⟩ := nz_some hf
  refine V_getR g 9 a0 10 13 rfl (by decide) rfl rfl q_1243 z1 dX9_rises_1 ?_
  refine V_iload_n g 1 dX9_rises_4 rfl ?_
  obtain ⟨z2, hf⟩ := nz_some hf
  obtain ⟨h3, hf⟩ := ckf hf
  refine V_zald g z2 h3 dX9_rises_5 ?_
  refine V_if_ne g 67 dX9_rises_6 (by decide) (fun c4 => ?_) (fun c4 => ?_)
  · have hf := it_f hf c4
    exact t_X9_rises_b67 g f hf
  · have hf := it_t hf c4
    refine V_aload_n g 0 dX9_rises_9 rfl ?_
    obtain ⟨s5, x6, hc, hf⟩ := bI_some hf
    refine cV1 g [] [] s5 (vI x6) cf_X9_series (t_X9_series g.2.2.2.2.2.2.1 hc) (RC_own g rfl z1) z1 (by decide) q_1615 (Nat.le_of_ble_eq_true rfl) dX9_rises_10 ?_ rfl
    refine V_aload_n g 0 dX9_rises_13 rfl ?_
    refine V_getI g 9 a0 8 rfl (by decide) rfl q_1241 z1 dX9_rises_14 ?_
    refine V_icmp_ne g 39 dX9_rises_17 (by decide) (fun c7 => ?_) (fun c7 => ?_)
    · have hf := it_f hf c7
      exact t_X9_rises_b39 g f hf
    · have hf := it_t hf c7
      refine V_aload_n g 0 dX9_rises_20 rfl ?_
      refine V_aload_n g 0 dX9_rises_21 rfl ?_
      obtain ⟨s8, x9, hc, hf⟩ := bI_some hf
      refine cV1 g [] [vR 9 a0] s8 (vI x9) cf_X9_oldest (t_X9_oldest g.2.2.2.2.2.2.1 hc) (RC_own g rfl z1) z1 (by decide) q_1619 (Nat.le_of_ble_eq_true rfl) dX9_rises_22 ?_ rfl
      obtain ⟨s10, x11, hc, hf⟩ := bI_some hf
      refine cV1 g [vI x9] [] s10 (vI x11) cf_X9_leaves (t_X9_leaves g.2.2.2.2.2.2.1 hc) (RC_own g rfl z1) z1 (by decide) q_1623 (Nat.le_of_ble_eq_true rfl) dX9_rises_25 ?_ rfl
      refine V_istore_n g [(3, vI x11), (0, vR 9 a0), (1, vI a1), (2, vI a2)] dX9_rises_28 rfl (by decide) rfl ?_
      refine V_aload_n g 1 dX9_rises_29 rfl ?_
      refine V_dup g dX9_rises_30 rfl ?_
      refine V_getI g 9 a0 16 rfl (by decide) rfl q_1249 z1 dX9_rises_31 ?_
      refine V_iconst (v := 1) g dX9_rises_34 (by decide) ?_
      refine V_iadd g dX9_rises_35 ?_
      obtain ⟨s12, es12, hf⟩ := lt_some hf
      refine V_putI g 9 a0 16 es12 rfl (by decide) rfl q_1249 z1 (Or.inl rfl) pf_9_16 dX9_rises_36 ?_
      refine V_sub [(0, vR 9 a0), (1, vI a1), (2, vI a2)] [1, 2, 3] rfl ?_
      exact t_X9_rises_b39 g f hf
set_option maxRecDepth 20000 in
theorem t_X9_puts {G : GT} {l : Launch} (hl : l.stackTraces = false) {fu : Nat} {s s' : St} {a0 : Nat} {a1 : Int32} {a2 : Int32} {a3 : Int32} (hf : f_X9_puts fu s a0 a1 a2 a3 = some s') : MetG G l yX9_puts (.code yX9_puts cX9_puts 4 none) 5 s [vR 9 a0, vI a1, vI a2, vI a3] (s', .inl none) := by
  refine MetG_of hl (by decide +kernel) (Nat.le_of_ble_eq_true rfl) (fun E g f eG eL => ?_)
  subst eG; subst eL
  have g : GX E "ThinSeriesModel" cX9_puts 4 5 := g
  have f : FX E "puts" none [] := f
  show V E 4 (QE E (s', .inl none)) s 0 [(0, vR 9 a0), (1, vI a1), (2, vI a2), (3, vI a3)] []
  unfold f_X9_puts at hf
  refine V_aload_n g 0 dX9_puts_0 rfl ?_
  refine V_iload_n g 1 dX9_puts_1 rfl ?_
  refine V_iload_n g 2 dX9_puts_2 rfl ?_
  obtain ⟨z1, hf⟩ := nz_some hf
  obtain ⟨s2, hc, hf⟩ := bV_some hf
  refine cV0 g [vI a1, vI a2] [] s2 cf_X9_rises (t_X9_rises g.2.2.2.2.2.2.1 hc) (RC_own g rfl z1) z1 (by decide) q_1611 (Nat.le_of_ble_eq_true rfl) dX9_puts_3 ?_ rfl
  refine V_aload_n g 0 dX9_puts_6 rfl ?_
  refine V_iload_n g 1 dX9_puts_7 rfl ?_
  refine V_iload_n g 2 dX9_puts_8 rfl ?_
  refine V_iload_n g 3 dX9_puts_9 rfl ?_
  obtain ⟨s3, hc, hf⟩ := bV_some hf
  refine cV0 g [vI a1, vI a2, vI a3] [] s3 cf_X9_comes (t_X9_comes g.2.2.2.2.2.2.1 hc) (RC_own g rfl z1) z1 (by decide) q_1646 (Nat.le_of_ble_eq_true rfl) dX9_puts_10 ?_ rfl
  cases hf
  exact V_return g f dX9_puts_13
set_option maxRecDepth 20000 in
theorem t_X9_does_b72 {E : ET} {fu : Nat} {s' : St} {w' : Int32} (g : GX E "ThinSeriesModel" cX9_does 6 6) (f : FX E "does" (some .int) []) {s : St} (hf : f_X9_does_b72 fu s = some (s', w')) : V E 6 (QE E (s', .inl (some (vI w')))) s 72 [] [] := by
  unfold f_X9_does_b72 at hf
  refine V_iconst (v := 0) g dX9_does_72 (by decide) ?_
  cases hf
  exact V_ireturn g f dX9_does_73
set_option maxRecDepth 20000 in
theorem t_X9_does_b60 {E : ET} {fu : Nat} {s' : St} {w' : Int32} (g : GX E "ThinSeriesModel" cX9_does 6 6) (f : FX E "does" (some .int) []) {s : St} {l0 : Nat} {l1 : Int32} {l2 : Int32} (hf : f_X9_does_b60 fu s l0 l1 l2 = some (s', w')) : V E 6 (QE E (s', .inl (some (vI w')))) s 60 [(0, vR 9 l0), (1, vI l1), (2, vI l2)] [] := by
  unfold f_X9_does_b60 at hf
  refine V_iload_n g 1 dX9_does_60 rfl ?_
  refine V_iconst (v := 2) g dX9_does_61 (by decide) ?_
  refine V_icmp_ne g 72 dX9_does_62 (by decide) (fun c18 => ?_) (fun c18 => ?_)
  · have hf := it_f hf c18
    refine V_sub [] [] rfl ?_
    exact t_X9_does_b72 g f hf
  · have hf := it_t hf c18
    refine V_aload_n g 0 dX9_does_65 rfl ?_
    refine V_iload_n g 2 dX9_does_66 rfl ?_
    obtain ⟨z19, hf⟩ := nz_some hf
    obtain ⟨s20, x21, hc, hf⟩ := bI_some hf
    refine cV1 g [vI l2] [] s20 (vI x21) cf_X9_leaves (t_X9_leaves g.2.2.2.2.2.2.1 hc) (RC_own g rfl z19) z19 (by decide) q_1623 (Nat.le_of_ble_eq_true rfl) dX9_does_67 ?_ rfl
    refine V_istore g [(5, vI x21), (0, vR 9 l0), (1, vI l1), (2, vI l2)] dX9_does_70 rfl (by decide) rfl ?_
    refine V_sub [] [] rfl ?_
    exact t_X9_does_b72 g f hf
set_option maxRecDepth 20000 in
theorem t_X9_does_b49 {E : ET} {fu : Nat} {s' : St} {w' : Int32} (g : GX E "ThinSeriesModel" cX9_does 6 6) (f : FX E "does" (some .int) []) {s : St} {l0 : Nat} {l1 : Int32} {l2 : Int32} {l3 : Int32} (hf : f_X9_does_b49 fu s l0 l1 l2 l3 = some (s', w')) : V E 6 (QE E (s', .inl (some (vI w')))) s 49 [(0, vR 9 l0), (1, vI l1), (2, vI l2), (3, vI l3)] [] := by
  unfold f_X9_does_b49 at hf
  refine V_iload_n g 1 dX9_does_49 rfl ?_
  refine V_iconst (v := 1) g dX9_does_50 (by decide) ?_
  refine V_icmp_ne g 60 dX9_does_51 (by decide) (fun c15 => ?_) (fun c15 => ?_)
  · have hf := it_f hf c15
    refine V_sub [(0, vR 9 l0), (1, vI l1), (2, vI l2)] [0, 1, 2] rfl ?_
    exact t_X9_does_b60 g f hf
  · have hf := it_t hf c15
    refine V_aload_n g 0 dX9_does_54 rfl ?_
    refine V_iload_n g 2 dX9_does_55 rfl ?_
    refine V_iload_n g 3 dX9_does_56 rfl ?_
    obtain ⟨z16, hf⟩ := nz_some hf
    obtain ⟨s17, hc, hf⟩ := bV_some hf
    refine cV0 g [vI l2, vI l3] [] s17 cf_X9_rises (t_X9_rises g.2.2.2.2.2.2.1 hc) (RC_own g rfl z16) z16 (by decide) q_1611 (Nat.le_of_ble_eq_true rfl) dX9_does_57 ?_ rfl
    refine V_sub [(0, vR 9 l0), (1, vI l1), (2, vI l2)] [0, 1, 2] rfl ?_
    exact t_X9_does_b60 g f hf
set_option maxRecDepth 20000 in
theorem t_X9_does_b37 {E : ET} {fu : Nat} {s' : St} {w' : Int32} (g : GX E "ThinSeriesModel" cX9_does 6 6) (f : FX E "does" (some .int) []) {s : St} {l0 : Nat} {l1 : Int32} {l2 : Int32} {l3 : Int32} {l4 : Int32} (hf : f_X9_does_b37 fu s l0 l1 l2 l3 l4 = some (s', w')) : V E 6 (QE E (s', .inl (some (vI w')))) s 37 [(0, vR 9 l0), (1, vI l1), (2, vI l2), (3, vI l3), (4, vI l4)] [] := by
  unfold f_X9_does_b37 at hf
  refine V_iload_n g 1 dX9_does_37 rfl ?_
  refine V_if_ne g 49 dX9_does_38 (by decide) (fun c12 => ?_) (fun c12 => ?_)
  · have hf := it_f hf c12
    refine V_sub [(0, vR 9 l0), (1, vI l1), (2, vI l2), (3, vI l3)] [0, 1, 2, 3] rfl ?_
    exact t_X9_does_b49 g f hf
  · have hf := it_t hf c12
    refine V_aload_n g 0 dX9_does_41 rfl ?_
    refine V_iload_n g 2 dX9_does_42 rfl ?_
    refine V_iload_n g 3 dX9_does_43 rfl ?_
    refine V_iload g 4 dX9_does_44 rfl ?_
    obtain ⟨z13, hf⟩ := nz_some hf
    obtain ⟨s14, hc, hf⟩ := bV_some hf
    refine cV0 g [vI l2, vI l3, vI l4] [] s14 cf_X9_puts (t_X9_puts g.2.2.2.2.2.2.1 hc) (RC_own g rfl z13) z13 (by decide) q_1607 (Nat.le_of_ble_eq_true rfl) dX9_does_46 ?_ rfl
    refine V_sub [(0, vR 9 l0), (1, vI l1), (2, vI l2), (3, vI l3)] [0, 1, 2, 3] rfl ?_
    exact t_X9_does_b49 g f hf
set_option maxRecDepth 20000 in
theorem t_X9_does_b16 {E : ET} {fu : Nat} {s' : St} {w' : Int32} (g : GX E "ThinSeriesModel" cX9_does 6 6) (f : FX E "does" (some .int) []) {s : St} {l0 : Nat} {l1 : Int32} {l2 : Int32} {l3 : Int32} {l4 : Int32} (hf : f_X9_does_b16 fu s l0 l1 l2 l3 l4 = some (s', w')) : V E 6 (QE E (s', .inl (some (vI w')))) s 16 [(0, vR 9 l0), (1, vI l1), (2, vI l2), (3, vI l3), (4, vI l4)] [] := by
  unfold f_X9_does_b16 at hf
  refine V_iload_n g 1 dX9_does_16 rfl ?_
  refine V_if_ne g 37 dX9_does_17 (by decide) (fun c6 => ?_) (fun c6 => ?_)
  · have hf := it_f hf c6
    exact t_X9_does_b37 g f hf
  · have hf := it_t hf c6
    refine V_aload_n g 0 dX9_does_20 rfl ?_
    refine V_iload_n g 2 dX9_does_21 rfl ?_
    refine V_iload_n g 3 dX9_does_22 rfl ?_
    obtain ⟨z7, hf⟩ := nz_some hf
    obtain ⟨s8, x9, hc, hf⟩ := bI_some hf
    refine cV1 g [vI l2, vI l3] [] s8 (vI x9) cf_X9_isLate (t_X9_isLate g.2.2.2.2.2.2.1 hc) (RC_own g rfl z7) z7 (by decide) q_1585 (Nat.le_of_ble_eq_true rfl) dX9_does_23 ?_ rfl
    refine V_if_eq g 37 dX9_does_26 (by decide) (fun c10 => ?_) (fun c10 => ?_)
    · have hf := it_t hf c10
      exact t_X9_does_b37 g f hf
    · have hf := it_f hf c10
      refine V_aload_n g 0 dX9_does_29 rfl ?_
      refine V_iload_n g 2 dX9_does_30 rfl ?_
      refine V_iload_n g 3 dX9_does_31 rfl ?_
      obtain ⟨s11, hc, hf⟩ := bV_some hf
      refine cV0 g [vI l2, vI l3] [] s11 cf_X9_isLateBy (t_X9_isLateBy g.2.2.2.2.2.2.1 hc) (RC_own g rfl z7) z7 (by decide) q_1603 (Nat.le_of_ble_eq_true rfl) dX9_does_32 ?_ rfl
      refine V_iconst (v := 2) g dX9_does_35 (by decide) ?_
      cases hf
      exact V_ireturn g f dX9_does_36
set_option maxRecDepth 20000 in
theorem t_X9_does {G : GT} {l : Launch} (hl : l.stackTraces = false) {fu : Nat} {s s' : St} {a0 : Nat} {a1 : Int32} {a2 : Int32} {a3 : Int32} {a4 : Int32} {w' : Int32} (hf : f_X9_does fu s a0 a1 a2 a3 a4 = some (s', w')) : MetG G l yX9_does (.code yX9_does cX9_does 6 (some .int)) 6 s [vR 9 a0, vI a1, vI a2, vI a3, vI a4] (s', .inl (some (vI w'))) := by
  refine MetG_of hl (by decide +kernel) (Nat.le_of_ble_eq_true rfl) (fun E g f eG eL => ?_)
  subst eG; subst eL
  have g : GX E "ThinSeriesModel" cX9_does 6 6 := g
  have f : FX E "does" (some .int) [] := f
  show V E 6 (QE E (s', .inl (some (vI w')))) s 0 [(0, vR 9 a0), (1, vI a1), (2, vI a2), (3, vI a3), (4, vI a4)] []
  unfold f_X9_does at hf
  refine V_iload_n g 1 dX9_does_0 rfl ?_
  refine V_iconst (v := 2) g dX9_does_1 (by decide) ?_
  refine V_icmp_ne g 16 dX9_does_2 (by decide) (fun c1 => ?_) (fun c1 => ?_)
  · have hf := it_f hf c1
    exact t_X9_does_b16 g f hf
  · have hf := it_t hf c1
    refine V_aload_n g 0 dX9_does_5 rfl ?_
    obtain ⟨z2, hf⟩ := nz_some hf
    refine V_getR g 9 a0 10 13 rfl (by decide) rfl rfl q_1243 z2 dX9_does_6 ?_
    refine V_iload_n g 2 dX9_does_9 rfl ?_
    obtain ⟨z3, hf⟩ := nz_some hf
    obtain ⟨h4, hf⟩ := ckf hf
    refine V_zald g z3 h4 dX9_does_10 ?_
    refine V_if_ne g 16 dX9_does_11 (by decide) (fun c5 => ?_) (fun c5 => ?_)
    · have hf := it_f hf c5
      exact t_X9_does_b16 g f hf
    · have hf := it_t hf c5
      refine V_iconst (v := 3) g dX9_does_14 (by decide) ?_
      cases hf
      exact V_ireturn g f dX9_does_15
set_option maxRecDepth 20000 in
theorem t_X9_ended_b15 {E : ET} {fu : Nat} {s' : St} {w' : Int32} (g : GX E "ThinSeriesModel" cX9_ended 1 0) (f : FX E "ended" (some .int) []) {s : St} {l0 : Nat} (hf : f_X9_ended_b15 fu s l0 = some (s', w')) : V E 1 (QE E (s', .inl (some (vI w')))) s 15 [(0, vR 9 l0)] [] := by
  unfold f_X9_ended_b15 at hf
  refine V_aload_n g 0 dX9_ended_15 rfl ?_
  obtain ⟨z4, hf⟩ := nz_some hf
  refine V_getI g 9 l0 31 rfl (by decide) rfl q_1264 z4 dX9_ended_16 ?_
  cases hf
  exact V_ireturn g f dX9_ended_19
set_option maxRecDepth 20000 in
theorem t_X9_ended {G : GT} {l : Launch} (hl : l.stackTraces = false) {fu : Nat} {s s' : St} {a0 : Nat} {w' : Int32} (hf : f_X9_ended fu s a0 = some (s', w')) : MetG G l yX9_ended (.code yX9_ended cX9_ended 1 (some .int)) 0 s [vR 9 a0] (s', .inl (some (vI w'))) := by
  refine MetG_of hl (by decide +kernel) (Nat.le_of_ble_eq_true rfl) (fun E g f eG eL => ?_)
  subst eG; subst eL
  have g : GX E "ThinSeriesModel" cX9_ended 1 0 := g
  have f : FX E "ended" (some .int) [] := f
  show V E 1 (QE E (s', .inl (some (vI w')))) s 0 [(0, vR 9 a0)] []
  unfold f_X9_ended at hf
  refine V_aload_n g 0 dX9_ended_0 rfl ?_
  obtain ⟨z1, hf⟩ := nz_some hf
  refine V_getI g 9 a0 31 rfl (by decide) rfl q_1264 z1 dX9_ended_1 ?_
  refine V_if_eq g 15 dX9_ended_4 (by decide) (fun c2 => ?_) (fun c2 => ?_)
  · have hf := it_t hf c2
    exact t_X9_ended_b15 g f hf
  · have hf := it_f hf c2
    refine V_aload_n g 0 dX9_ended_7 rfl ?_
    refine V_aload_n g 0 dX9_ended_8 rfl ?_
    refine V_getI g 9 a0 32 rfl (by decide) rfl q_1265 z1 dX9_ended_9 ?_
    obtain ⟨s3, es3, hf⟩ := lt_some hf
    refine V_putI g 9 a0 33 es3 rfl (by decide) rfl q_1266 z1 (Or.inl rfl) pf_9_33 dX9_ended_12 ?_
    exact t_X9_ended_b15 g f hf
set_option maxRecDepth 20000 in
theorem t_X9_fine {G : GT} {l : Launch} (hl : l.stackTraces = false) {fu : Nat} {s s' : St} {a0 : Nat} (hf : f_X9_fine fu s a0 = some s') : MetG G l yX9_fine (.code yX9_fine cX9_fine 1 none) 0 s [vR 9 a0] (s', .inl none) := by
  refine MetG_of hl (by decide +kernel) (Nat.le_of_ble_eq_true rfl) (fun E g f eG eL => ?_)
  subst eG; subst eL
  have g : GX E "ThinSeriesModel" cX9_fine 1 0 := g
  have f : FX E "fine" none [] := f
  show V E 1 (QE E (s', .inl none)) s 0 [(0, vR 9 a0)] []
  unfold f_X9_fine at hf
  refine V_aload_n g 0 dX9_fine_0 rfl ?_
  refine V_iconst (v := 0) g dX9_fine_1 (by decide) ?_
  obtain ⟨z1, hf⟩ := nz_some hf
  obtain ⟨s2, es2, hf⟩ := lt_some hf
  refine V_putI g 9 a0 40 es2 rfl (by decide) rfl q_1273 z1 (Or.inl rfl) pf_9_40 dX9_fine_2 ?_
  refine V_aload_n g 0 dX9_fine_5 rfl ?_
  refine V_iconst (v := 0) g dX9_fine_6 (by decide) ?_
  obtain ⟨s3, es3, hf⟩ := lt_some hf
  refine V_putI g 9 a0 41 es3 rfl (by decide) rfl q_1274 z1 (Or.inl rfl) pf_9_41 dX9_fine_7 ?_
  refine V_aload_n g 0 dX9_fine_10 rfl ?_
  refine V_iconst (v := (-1)) g dX9_fine_11 (by decide) ?_
  obtain ⟨s4, es4, hf⟩ := lt_some hf
  refine V_putI g 9 a0 42 es4 rfl (by decide) rfl q_1275 z1 (Or.inl rfl) pf_9_42 dX9_fine_12 ?_
  refine V_aload_n g 0 dX9_fine_15 rfl ?_
  refine V_iconst (v := (-1)) g dX9_fine_16 (by decide) ?_
  obtain ⟨s5, es5, hf⟩ := lt_some hf
  refine V_putI g 9 a0 43 es5 rfl (by decide) rfl q_1276 z1 (Or.inl rfl) pf_9_43 dX9_fine_17 ?_
  cases hf
  exact V_return g f dX9_fine_20
set_option maxRecDepth 20000 in
theorem t_X9_copies_b2 {E : ET} {fu : Nat} {s' : St} (g : GX E "ThinSeriesModel" cX9_copies 4 0) (f : FX E "copies" none []) : ∀ (n : Nat) (s : St) (l0 : Nat) (l1 : Nat) (l2 : Int32) (l3 : Int32), f_X9_copies_b2 fu n s l0 l1 l2 l3 = some s' → V E 4 (QE E (s', .inl none)) s 2 [(0, vR 10 l0), (1, vR 10 l1), (2, vI l2), (3, vI l3)] [] := by
  intro n
  induction n with
  | zero =>
    intro s l0 l1 l2 l3 hf
    unfold f_X9_copies_b2 at hf
    exact nomatch hf
  | succ n ih =>
    intro s l0 l1 l2 l3 hf
    unfold f_X9_copies_b2 at hf
    refine V_iload_n g 3 dX9_copies_2 rfl ?_
    refine V_iload_n g 2 dX9_copies_3 rfl ?_
    refine V_icmp_ge g 19 dX9_copies_4 (by decide) (fun c1 => ?_) (fun c1 => ?_)
    · have hf := it_t hf c1
      cases hf
      exact V_return g f dX9_copies_19
    · have hf := it_f hf c1
      refine V_aload_n g 0 dX9_copies_7 rfl ?_
      refine V_iload_n g 3 dX9_copies_8 rfl ?_
      refine V_aload_n g 1 dX9_copies_9 rfl ?_
      refine V_iload_n g 3 dX9_copies_10 rfl ?_
      obtain ⟨z2, hf⟩ := nz_some hf
      obtain ⟨h3, hf⟩ := ckf hf
      refine V_iald g z2 h3 dX9_copies_11 ?_
      obtain ⟨z4, hf⟩ := nz_some hf
      obtain ⟨h5, hf⟩ := ckf hf
      obtain ⟨s6, es6, hf⟩ := lt_some hf
      refine V_iast g es6 z4 h5 dX9_copies_12 ?_
      obtain ⟨x7, ex7, hf⟩ := lt_some hf
      refine V_iinc g 3 [(3, vI x7), (0, vR 10 l0), (1, vR 10 l1), (2, vI l2)] dX9_copies_13 rfl (by rw [ex7]; rfl) (by decide) rfl ?_
      refine V_goto g 2 dX9_copies_16 (by decide) ?_
      refine V_sub [(0, vR 10 l0), (1, vR 10 l1), (2, vI l2), (3, vI x7)] [1, 2, 3, 0] rfl ?_
      exact ih s6 l0 l1 l2 x7 hf
set_option maxRecDepth 20000 in
theorem t_X9_copies {G : GT} {l : Launch} (hl : l.stackTraces = false) {fu : Nat} {s s' : St} {a0 : Nat} {a1 : Nat} {a2 : Int32} (hf : f_X9_copies fu s a0 a1 a2 = some s') : MetG G l yX9_copies (.code yX9_copies cX9_copies 4 none) 0 s [vR 10 a0, vR 10 a1, vI a2] (s', .inl none) := by
  refine MetG_of hl (by decide +kernel) (Nat.le_of_ble_eq_true rfl) (fun E g f eG eL => ?_)
  subst eG; subst eL
  have g : GX E "ThinSeriesModel" cX9_copies 4 0 := g
  have f : FX E "copies" none [] := f
  show V E 4 (QE E (s', .inl none)) s 0 [(0, vR 10 a0), (1, vR 10 a1), (2, vI a2)] []
  unfold f_X9_copies at hf
  refine V_iconst (v := 0) g dX9_copies_0 (by decide) ?_
  refine V_istore_n g [(3, vI 0), (0, vR 10 a0), (1, vR 10 a1), (2, vI a2)] dX9_copies_1 rfl (by decide) rfl ?_
  refine V_sub [(0, vR 10 a0), (1, vR 10 a1), (2, vI a2), (3, vI 0)] [1, 2, 3, 0] rfl ?_
  exact t_X9_copies_b2 g f _ s a0 a1 a2 0 hf
set_option maxRecDepth 20000 in
theorem t_X9_laysAside_b95 {E : ET} {fu : Nat} {s' : St} (g : GX E "ThinSeriesModel" cX9_laysAside 2 1) (f : FX E "laysAside" none []) : ∀ (n : Nat) (s : St) (l0 : Nat) (l1 : Int32), f_X9_laysAside_b95 fu n s l0 l1 = some s' → V E 2 (QE E (s', .inl none)) s 95 [(0, vR 9 l0), (1, vI l1)] [] := by
  intro n
  induction n with
  | zero =>
    intro s l0 l1 hf
    unfold f_X9_laysAside_b95 at hf
    exact nomatch hf
  | succ n ih =>
    intro s l0 l1 hf
    unfold f_X9_laysAside_b95 at hf
    refine V_iload_n g 1 dX9_laysAside_95 rfl ?_
    refine V_bipush (v := 10) g dX9_laysAside_96 (by decide) ?_
    refine V_icmp_ge g 181 dX9_laysAside_98 (by decide) (fun c16 => ?_) (fun c16 => ?_)
    · have hf := it_t hf c16
      refine V_aload_n g 0 dX9_laysAside_181 rfl ?_
      obtain ⟨z17, hf⟩ := nz_some hf
      refine V_getR g 9 l0 50 10 rfl (by decide) rfl rfl q_1283 z17 dX9_laysAside_182 ?_
      refine V_bipush (v := 40) g dX9_laysAside_185 (by decide) ?_
      refine V_aload_n g 0 dX9_laysAside_187 rfl ?_
      refine V_getI g 9 l0 22 rfl (by decide) rfl q_1255 z17 dX9_laysAside_188 ?_
      obtain ⟨z18, hf⟩ := nz_some hf
      obtain ⟨h19, hf⟩ := ckf hf
      obtain ⟨s20, es20, hf⟩ := lt_some hf
      refine V_iast g es20 z18 h19 dX9_laysAside_191 ?_
      refine V_aload_n g 0 dX9_laysAside_192 rfl ?_
      refine V_getR g 9 l0 50 10 rfl (by decide) rfl rfl q_1283 z17 dX9_laysAside_193 ?_
      refine V_bipush (v := 41) g dX9_laysAside_196 (by decide) ?_
      refine V_aload_n g 0 dX9_laysAside_198 rfl ?_
      refine V_getI g 9 l0 15 rfl (by decide) rfl q_1248 z17 dX9_laysAside_199 ?_
      obtain ⟨z21, hf⟩ := nz_some hf
      obtain ⟨h22, hf⟩ := ckf hf
      obtain ⟨s23, es23, hf⟩ := lt_some hf
      refine V_iast g es23 z21 h22 dX9_laysAside_202 ?_
      refine V_aload_n g 0 dX9_laysAside_203 rfl ?_
      refine V_getR g 9 l0 50 10 rfl (by decide) rfl rfl q_1283 z17 dX9_laysAside_204 ?_
      refine V_bipush (v := 42) g dX9_laysAside_207 (by decide) ?_
      refine V_aload_n g 0 dX9_laysAside_209 rfl ?_
      refine V_getI g 9 l0 16 rfl (by decide) rfl q_1249 z17 dX9_laysAside_210 ?_
      obtain ⟨z24, hf⟩ := nz_some hf
      obtain ⟨h25, hf⟩ := ckf hf
      obtain ⟨s26, es26, hf⟩ := lt_some hf
      refine V_iast g es26 z24 h25 dX9_laysAside_213 ?_
      refine V_aload_n g 0 dX9_laysAside_214 rfl ?_
      refine V_getR g 9 l0 50 10 rfl (by decide) rfl rfl q_1283 z17 dX9_laysAside_215 ?_
      refine V_bipush (v := 43) g dX9_laysAside_218 (by decide) ?_
      refine V_aload_n g 0 dX9_laysAside_220 rfl ?_
      refine V_getI g 9 l0 18 rfl (by decide) rfl q_1251 z17 dX9_laysAside_221 ?_
      obtain ⟨z27, hf⟩ := nz_some hf
      obtain ⟨h28, hf⟩ := ckf hf
      obtain ⟨s29, es29, hf⟩ := lt_some hf
      refine V_iast g es29 z27 h28 dX9_laysAside_224 ?_
      cases hf
      exact V_return g f dX9_laysAside_225
    · have hf := it_f hf c16
      refine V_aload_n g 0 dX9_laysAside_101 rfl ?_
      obtain ⟨z30, hf⟩ := nz_some hf
      refine V_getR g 9 l0 49 13 rfl (by decide) rfl rfl q_1282 z30 dX9_laysAside_102 ?_
      refine V_iload_n g 1 dX9_laysAside_105 rfl ?_
      refine V_aload_n g 0 dX9_laysAside_106 rfl ?_
      refine V_getR g 9 l0 10 13 rfl (by decide) rfl rfl q_1243 z30 dX9_laysAside_107 ?_
      refine V_iload_n g 1 dX9_laysAside_110 rfl ?_
      obtain ⟨z31, hf⟩ := nz_some hf
      obtain ⟨h32, hf⟩ := ckf hf
      refine V_zald g z31 h32 dX9_laysAside_111 ?_
      obtain ⟨z33, hf⟩ := nz_some hf
      obtain ⟨h34, hf⟩ := ckf hf
      obtain ⟨s35, es35, hf⟩ := lt_some hf
      refine V_zast g es35 z33 h34 dX9_laysAside_112 ?_
      refine V_aload_n g 0 dX9_laysAside_113 rfl ?_
      refine V_getR g 9 l0 50 10 rfl (by decide) rfl rfl q_1283 z30 dX9_laysAside_114 ?_
      refine V_iconst (v := 4) g dX9_laysAside_117 (by decide) ?_
      refine V_iload_n g 1 dX9_laysAside_118 rfl ?_
      refine V_imul g dX9_laysAside_119 ?_
      refine V_aload_n g 0 dX9_laysAside_120 rfl ?_
      refine V_getR g 9 l0 11 10 rfl (by decide) rfl rfl q_1244 z30 dX9_laysAside_121 ?_
      refine V_iload_n g 1 dX9_laysAside_124 rfl ?_
      obtain ⟨z36, hf⟩ := nz_some hf
      obtain ⟨h37, hf⟩ := ckf hf
      refine V_iald g z36 h37 dX9_laysAside_125 ?_
      obtain ⟨z38, hf⟩ := nz_some hf
      obtain ⟨h39, hf⟩ := ckf hf
      obtain ⟨s40, es40, hf⟩ := lt_some hf
      refine V_iast g es40 z38 h39 dX9_laysAside_126 ?_
      refine V_aload_n g 0 dX9_laysAside_127 rfl ?_
      refine V_getR g 9 l0 50 10 rfl (by decide) rfl rfl q_1283 z30 dX9_laysAside_128 ?_
      refine V_iconst (v := 4) g dX9_laysAside_131 (by decide) ?_
      refine V_iload_n g 1 dX9_laysAside_132 rfl ?_
      refine V_imul g dX9_laysAside_133 ?_
      refine V_iconst (v := 1) g dX9_laysAside_134 (by decide) ?_
      refine V_iadd g dX9_laysAside_135 ?_
      refine V_aload_n g 0 dX9_laysAside_136 rfl ?_
      refine V_getR g 9 l0 12 10 rfl (by decide) rfl rfl q_1245 z30 dX9_laysAside_137 ?_
      refine V_iload_n g 1 dX9_laysAside_140 rfl ?_
      obtain ⟨z41, hf⟩ := nz_some hf
      obtain ⟨h42, hf⟩ := ckf hf
      refine V_iald g z41 h42 dX9_laysAside_141 ?_
      obtain ⟨z43, hf⟩ := nz_some hf
      obtain ⟨h44, hf⟩ := ckf hf
      obtain ⟨s45, es45, hf⟩ := lt_some hf
      refine V_iast g es45 z43 h44 dX9_laysAside_142 ?_
      refine V_aload_n g 0 dX9_laysAside_143 rfl ?_
      refine V_getR g 9 l0 50 10 rfl (by decide) rfl rfl q_1283 z30 dX9_laysAside_144 ?_
      refine V_iconst (v := 4) g dX9_laysAside_147 (by decide) ?_
      refine V_iload_n g 1 dX9_laysAside_148 rfl ?_
      refine V_imul g dX9_laysAside_149 ?_
      refine V_iconst (v := 2) g dX9_laysAside_150 (by decide) ?_
      refine V_iadd g dX9_laysAside_151 ?_
      refine V_aload_n g 0 dX9_laysAside_152 rfl ?_
      refine V_getR g 9 l0 13 10 rfl (by decide) rfl rfl q_1246 z30 dX9_laysAside_153 ?_
      refine V_iload_n g 1 dX9_laysAside_156 rfl ?_
      obtain ⟨z46, hf⟩ := nz_some hf
      obtain ⟨h47, hf⟩ := ckf hf
      refine V_iald g z46 h47 dX9_laysAside_157 ?_
      obtain ⟨z48, hf⟩ := nz_some hf
      obtain ⟨h49, hf⟩ := ckf hf
      obtain ⟨s50, es50, hf⟩ := lt_some hf
      refine V_iast g es50 z48 h49 dX9_laysAside_158 ?_
      refine V_aload_n g 0 dX9_laysAside_159 rfl ?_
      refine V_getR g 9 l0 50 10 rfl (by decide) rfl rfl q_1283 z30 dX9_laysAside_160 ?_
      refine V_iconst (v := 4) g dX9_laysAside_163 (by decide) ?_
      refine V_iload_n g 1 dX9_laysAside_164 rfl ?_
      refine V_imul g dX9_laysAside_165 ?_
      refine V_iconst (v := 3) g dX9_laysAside_166 (by decide) ?_
      refine V_iadd g dX9_laysAside_167 ?_
      refine V_aload_n g 0 dX9_laysAside_168 rfl ?_
      refine V_getR g 9 l0 14 10 rfl (by decide) rfl rfl q_1247 z30 dX9_laysAside_169 ?_
      refine V_iload_n g 1 dX9_laysAside_172 rfl ?_
      obtain ⟨z51, hf⟩ := nz_some hf
      obtain ⟨h52, hf⟩ := ckf hf
      refine V_iald g z51 h52 dX9_laysAside_173 ?_
      obtain ⟨z53, hf⟩ := nz_some hf
      obtain ⟨h54, hf⟩ := ckf hf
      obtain ⟨s55, es55, hf⟩ := lt_some hf
      refine V_iast g es55 z53 h54 dX9_laysAside_174 ?_
      obtain ⟨x56, ex56, hf⟩ := lt_some hf
      refine V_iinc g 1 [(1, vI x56), (0, vR 9 l0)] dX9_laysAside_175 rfl (by rw [ex56]; rfl) (by decide) rfl ?_
      refine V_goto g 95 dX9_laysAside_178 (by decide) ?_
      refine V_sub [(0, vR 9 l0), (1, vI x56)] [1, 0] rfl ?_
      exact ih s55 l0 x56 hf
set_option maxRecDepth 20000 in
theorem t_X9_laysAside_b0 {E : ET} {fu : Nat} {s' : St} (g : GX E "ThinSeriesModel" cX9_laysAside 2 1) (f : FX E "laysAside" none []) : ∀ (n : Nat) (s : St) (l0 : Nat), f_X9_laysAside_b0 fu n s l0 = some s' → V E 2 (QE E (s', .inl none)) s 0 [(0, vR 9 l0)] [] := by
  intro n
  induction n with
  | zero =>
    intro s l0 hf
    unfold f_X9_laysAside_b0 at hf
    exact nomatch hf
  | succ n ih =>
    intro s l0 hf
    unfold f_X9_laysAside_b0 at hf
    refine V_aload_n g 0 dX9_laysAside_0 rfl ?_
    obtain ⟨z1, hf⟩ := nz_some hf
    refine V_getR g 9 l0 46 10 rfl (by decide) rfl rfl q_1279 z1 dX9_laysAside_1 ?_
    obtain ⟨z2, hf⟩ := nz_some hf
    refine V_alen10 g z2 dX9_laysAside_4 ?_
    refine V_aload_n g 0 dX9_laysAside_5 rfl ?_
    refine V_getI g 9 l0 22 rfl (by decide) rfl q_1255 z1 dX9_laysAside_6 ?_
    refine V_icmp_ge g 48 dX9_laysAside_9 (by decide) (fun c3 => ?_) (fun c3 => ?_)
    · have hf := it_t hf c3
      refine V_aload_n g 0 dX9_laysAside_48 rfl ?_
      refine V_getR g 9 l0 46 10 rfl (by decide) rfl rfl q_1279 z1 dX9_laysAside_49 ?_
      refine V_aload_n g 0 dX9_laysAside_52 rfl ?_
      refine V_getR g 9 l0 19 10 rfl (by decide) rfl rfl q_1252 z1 dX9_laysAside_53 ?_
      refine V_aload_n g 0 dX9_laysAside_56 rfl ?_
      refine V_getI g 9 l0 22 rfl (by decide) rfl q_1255 z1 dX9_laysAside_57 ?_
      obtain ⟨s4, hc, hf⟩ := bV_some hf
      refine cS0 g [vR 10 (gR s 9 l0 46), vR 10 (gR s 9 l0 19), vI (gI s 9 l0 22)] [] s4 cf_X9_copies (t_X9_copies g.2.2.2.2.2.2.1 hc) (by decide) q_1696 (Nat.le_of_ble_eq_true rfl) dX9_laysAside_60 ?_ rfl
      refine V_aload_n g 0 dX9_laysAside_63 rfl ?_
      refine V_getR g 9 l0 47 10 rfl (by decide) rfl rfl q_1280 z1 dX9_laysAside_64 ?_
      refine V_aload_n g 0 dX9_laysAside_67 rfl ?_
      refine V_getR g 9 l0 20 10 rfl (by decide) rfl rfl q_1253 z1 dX9_laysAside_68 ?_
      refine V_aload_n g 0 dX9_laysAside_71 rfl ?_
      refine V_getI g 9 l0 22 rfl (by decide) rfl q_1255 z1 dX9_laysAside_72 ?_
      obtain ⟨s5, hc, hf⟩ := bV_some hf
      refine cS0 g [vR 10 (gR s4 9 l0 47), vR 10 (gR s4 9 l0 20), vI (gI s4 9 l0 22)] [] s5 cf_X9_copies (t_X9_copies g.2.2.2.2.2.2.1 hc) (by decide) q_1696 (Nat.le_of_ble_eq_true rfl) dX9_laysAside_75 ?_ rfl
      refine V_aload_n g 0 dX9_laysAside_78 rfl ?_
      refine V_getR g 9 l0 48 10 rfl (by decide) rfl rfl q_1281 z1 dX9_laysAside_79 ?_
      refine V_aload_n g 0 dX9_laysAside_82 rfl ?_
      refine V_getR g 9 l0 21 10 rfl (by decide) rfl rfl q_1254 z1 dX9_laysAside_83 ?_
      refine V_aload_n g 0 dX9_laysAside_86 rfl ?_
      refine V_getI g 9 l0 22 rfl (by decide) rfl q_1255 z1 dX9_laysAside_87 ?_
      obtain ⟨s6, hc, hf⟩ := bV_some hf
      refine cS0 g [vR 10 (gR s5 9 l0 48), vR 10 (gR s5 9 l0 21), vI (gI s5 9 l0 22)] [] s6 cf_X9_copies (t_X9_copies g.2.2.2.2.2.2.1 hc) (by decide) q_1696 (Nat.le_of_ble_eq_true rfl) dX9_laysAside_90 ?_ rfl
      refine V_iconst (v := 0) g dX9_laysAside_93 (by decide) ?_
      refine V_istore_n g [(1, vI 0), (0, vR 9 l0)] dX9_laysAside_94 rfl (by decide) rfl ?_
      refine V_sub [(0, vR 9 l0), (1, vI 0)] [1, 0] rfl ?_
      exact t_X9_laysAside_b95 g f _ s6 l0 0 hf
    · have hf := it_f hf c3
      refine V_aload_n g 0 dX9_laysAside_12 rfl ?_
      refine V_aload_n g 0 dX9_laysAside_13 rfl ?_
      refine V_getR g 9 l0 46 10 rfl (by decide) rfl rfl q_1279 z1 dX9_laysAside_14 ?_
      obtain ⟨s7, x8, hc, hf⟩ := bI_some hf
      refine cS1 g [vR 10 (gR s 9 l0 46)] [vR 9 l0] s7 (vR 10 x8) cf_X9_longer (t_X9_longer g.2.2.2.2.2.2.1 hc) (by decide) q_1650 (Nat.le_of_ble_eq_true rfl) dX9_laysAside_17 ?_ rfl
      obtain ⟨s9, es9, hf⟩ := lt_some hf
      refine V_putR g 9 l0 46 10 es9 rfl (by decide) rfl rfl q_1279 z1 (Or.inl rfl) pf_9_46 q_arr dX9_laysAside_20 ?_
      refine V_aload_n g 0 dX9_laysAside_23 rfl ?_
      refine V_aload_n g 0 dX9_laysAside_24 rfl ?_
      refine V_getR g 9 l0 47 10 rfl (by decide) rfl rfl q_1280 z1 dX9_laysAside_25 ?_
      obtain ⟨s10, x11, hc, hf⟩ := bI_some hf
      refine cS1 g [vR 10 (gR s9 9 l0 47)] [vR 9 l0] s10 (vR 10 x11) cf_X9_longer (t_X9_longer g.2.2.2.2.2.2.1 hc) (by decide) q_1650 (Nat.le_of_ble_eq_true rfl) dX9_laysAside_28 ?_ rfl
      obtain ⟨s12, es12, hf⟩ := lt_some hf
      refine V_putR g 9 l0 47 10 es12 rfl (by decide) rfl rfl q_1280 z1 (Or.inl rfl) pf_9_47 q_arr dX9_laysAside_31 ?_
      refine V_aload_n g 0 dX9_laysAside_34 rfl ?_
      refine V_aload_n g 0 dX9_laysAside_35 rfl ?_
      refine V_getR g 9 l0 48 10 rfl (by decide) rfl rfl q_1281 z1 dX9_laysAside_36 ?_
      obtain ⟨s13, x14, hc, hf⟩ := bI_some hf
      refine cS1 g [vR 10 (gR s12 9 l0 48)] [vR 9 l0] s13 (vR 10 x14) cf_X9_longer (t_X9_longer g.2.2.2.2.2.2.1 hc) (by decide) q_1650 (Nat.le_of_ble_eq_true rfl) dX9_laysAside_39 ?_ rfl
      obtain ⟨s15, es15, hf⟩ := lt_some hf
      refine V_putR g 9 l0 48 10 es15 rfl (by decide) rfl rfl q_1281 z1 (Or.inl rfl) pf_9_48 q_arr dX9_laysAside_42 ?_
      refine V_goto g 0 dX9_laysAside_45 (by decide) ?_
      exact ih s15 l0 hf
set_option maxRecDepth 20000 in
theorem t_X9_laysAside {G : GT} {l : Launch} (hl : l.stackTraces = false) {fu : Nat} {s s' : St} {a0 : Nat} (hf : f_X9_laysAside fu s a0 = some s') : MetG G l yX9_laysAside (.code yX9_laysAside cX9_laysAside 2 none) 1 s [vR 9 a0] (s', .inl none) := by
  refine MetG_of hl (by decide +kernel) (Nat.le_of_ble_eq_true rfl) (fun E g f eG eL => ?_)
  subst eG; subst eL
  have g : GX E "ThinSeriesModel" cX9_laysAside 2 1 := g
  have f : FX E "laysAside" none [] := f
  show V E 2 (QE E (s', .inl none)) s 0 [(0, vR 9 a0)] []
  unfold f_X9_laysAside at hf
  exact t_X9_laysAside_b0 g f _ s a0 hf
set_option maxRecDepth 20000 in
theorem t_X9_isMarked_b33 {E : ET} {fu : Nat} {s' : St} {w' : Int32} (g : GX E "ThinSeriesModel" cX9_isMarked 2 0) (f : FX E "isMarked" (some .boolean) []) {s : St} {t0 : Int32} (hf : f_X9_isMarked_b33 fu s t0 = some (s', w')) : V E 2 (QE E (s', .inl (some (vI w')))) s 33 [] [vI t0] := by
  unfold f_X9_isMarked_b33 at hf
  obtain ⟨h7, hf⟩ := ckf hf
  cases hf
  exact V_zreturn g f (zb_n h7) dX9_isMarked_33
set_option maxRecDepth 20000 in
theorem t_X9_isMarked_b32 {E : ET} {fu : Nat} {s' : St} {w' : Int32} (g : GX E "ThinSeriesModel" cX9_isMarked 2 0) (f : FX E "isMarked" (some .boolean) []) {s : St} (hf : f_X9_isMarked_b32 fu s = some (s', w')) : V E 2 (QE E (s', .inl (some (vI w')))) s 32 [] [] := by
  unfold f_X9_isMarked_b32 at hf
  refine V_iconst (v := 0) g dX9_isMarked_32 (by decide) ?_
  exact t_X9_isMarked_b33 g f hf
set_option maxRecDepth 20000 in
theorem t_X9_isMarked {G : GT} {l : Launch} (hl : l.stackTraces = false) {fu : Nat} {s s' : St} {a0 : Nat} {a1 : Int32} {w' : Int32} (hf : f_X9_isMarked fu s a0 a1 = some (s', w')) : MetG G l yX9_isMarked (.code yX9_isMarked cX9_isMarked 2 (some .boolean)) 0 s [vR 9 a0, vI a1] (s', .inl (some (vI w'))) := by
  refine MetG_of hl (by decide +kernel) (Nat.le_of_ble_eq_true rfl) (fun E g f eG eL => ?_)
  subst eG; subst eL
  have g : GX E "ThinSeriesModel" cX9_isMarked 2 0 := g
  have f : FX E "isMarked" (some .boolean) [] := f
  show V E 2 (QE E (s', .inl (some (vI w')))) s 0 [(0, vR 9 a0), (1, vI a1)] []
  unfold f_X9_isMarked at hf
  refine V_aload_n g 0 dX9_isMarked_0 rfl ?_
  obtain ⟨z1, hf⟩ := nz_some hf
  refine V_getI g 9 a0 31 rfl (by decide) rfl q_1264 z1 dX9_isMarked_1 ?_
  refine V_if_ne g 32 dX9_isMarked_4 (by decide) (fun c2 => ?_) (fun c2 => ?_)
  · have hf := it_f hf c2
    refine V_sub [] [] rfl ?_
    exact t_X9_isMarked_b32 g f hf
  · have hf := it_t hf c2
    refine V_aload_n g 0 dX9_isMarked_7 rfl ?_
    refine V_getI g 9 a0 27 rfl (by decide) rfl q_1260 z1 dX9_isMarked_8 ?_
    refine V_iconst (v := 3) g dX9_isMarked_11 (by decide) ?_
    refine V_icmp_ne g 32 dX9_isMarked_12 (by decide) (fun c3 => ?_) (fun c3 => ?_)
    · have hf := it_f hf c3
      refine V_sub [] [] rfl ?_
      exact t_X9_isMarked_b32 g f hf
    · have hf := it_t hf c3
      refine V_aload_n g 0 dX9_isMarked_15 rfl ?_
      refine V_getR g 9 a0 23 10 rfl (by decide) rfl rfl q_1256 z1 dX9_isMarked_16 ?_
      refine V_aload_n g 0 dX9_isMarked_19 rfl ?_
      refine V_getI g 9 a0 29 rfl (by decide) rfl q_1262 z1 dX9_isMarked_20 ?_
      obtain ⟨z4, hf⟩ := nz_some hf
      obtain ⟨h5, hf⟩ := ckf hf
      refine V_iald g z4 h5 dX9_isMarked_23 ?_
      refine V_iload_n g 1 dX9_isMarked_24 rfl ?_
      refine V_icmp_ne g 32 dX9_isMarked_25 (by decide) (fun c6 => ?_) (fun c6 => ?_)
      · have hf := it_f hf c6
        refine V_sub [] [] rfl ?_
        exact t_X9_isMarked_b32 g f hf
      · have hf := it_t hf c6
        refine V_iconst (v := 1) g dX9_isMarked_28 (by decide) ?_
        refine V_goto g 33 dX9_isMarked_29 (by decide) ?_
        refine V_sub [] [] rfl ?_
        exact t_X9_isMarked_b33 g f hf
set_option maxRecDepth 20000 in
theorem t_X9_pass_b11 {E : ET} {fu : Nat} {s' : St} (g : GX E "ThinSeriesModel" cX9_pass 1 2) (f : FX E "pass" none []) {s : St} (hf : f_X9_pass_b11 fu s = some s') : V E 1 (QE E (s', .inl none)) s 11 [] [] := by
  unfold f_X9_pass_b11 at hf
  cases hf
  exact V_return g f dX9_pass_11
set_option maxRecDepth 20000 in
theorem t_X9_pass {G : GT} {l : Launch} (hl : l.stackTraces = false) {fu : Nat} {s s' : St} {a0 : Nat} (hf : f_X9_pass fu s a0 = some s') : MetG G l yX9_pass (.code yX9_pass cX9_pass 1 none) 2 s [vR 9 a0] (s', .inl none) := by
  refine MetG_of hl (by decide +kernel) (Nat.le_of_ble_eq_true rfl) (fun E g f eG eL => ?_)
  subst eG; subst eL
  have g : GX E "ThinSeriesModel" cX9_pass 1 2 := g
  have f : FX E "pass" none [] := f
  show V E 1 (QE E (s', .inl none)) s 0 [(0, vR 9 a0)] []
  unfold f_X9_pass at hf
  refine V_aload_n g 0 dX9_pass_0 rfl ?_
  obtain ⟨z1, hf⟩ := nz_some hf
  refine V_getI g 9 a0 31 rfl (by decide) rfl q_1264 z1 dX9_pass_1 ?_
  refine V_if_ne g 11 dX9_pass_4 (by decide) (fun c2 => ?_) (fun c2 => ?_)
  · have hf := it_f hf c2
    refine V_sub [] [] rfl ?_
    exact t_X9_pass_b11 g f hf
  · have hf := it_t hf c2
    refine V_aload_n g 0 dX9_pass_7 rfl ?_
    obtain ⟨s3, hc, hf⟩ := bV_some hf
    refine cV0 g [] [] s3 cf_X9_stepOn (t_X9_stepOn g.2.2.2.2.2.2.1 hc) (RC_own g rfl z1) z1 (by decide) q_1462 (Nat.le_of_ble_eq_true rfl) dX9_pass_8 ?_ rfl
    refine V_sub [] [] rfl ?_
    exact t_X9_pass_b11 g f hf
set_option maxRecDepth 20000 in
theorem t_X9_wrong {G : GT} {l : Launch} (hl : l.stackTraces = false) {fu : Nat} {s s' : St} {a0 : Nat} {a1 : Int32} (hf : f_X9_wrong fu s a0 a1 = some s') : MetG G l yX9_wrong (.code yX9_wrong cX9_wrong 2 none) 0 s [vR 9 a0, vI a1] (s', .inl none) := by
  refine MetG_of hl (by decide +kernel) (Nat.le_of_ble_eq_true rfl) (fun E g f eG eL => ?_)
  subst eG; subst eL
  have g : GX E "ThinSeriesModel" cX9_wrong 2 0 := g
  have f : FX E "wrong" none [] := f
  show V E 2 (QE E (s', .inl none)) s 0 [(0, vR 9 a0), (1, vI a1)] []
  unfold f_X9_wrong at hf
  refine V_aload_n g 0 dX9_wrong_0 rfl ?_
  obtain ⟨z1, hf⟩ := nz_some hf
  refine V_getI g 9 a0 31 rfl (by decide) rfl q_1264 z1 dX9_wrong_1 ?_
  refine V_if_eq g 8 dX9_wrong_4 (by decide) (fun c2 => ?_) (fun c2 => ?_)
  · have hf := it_t hf c2
    refine V_aload_n g 0 dX9_wrong_8 rfl ?_
    refine V_iload_n g 1 dX9_wrong_9 rfl ?_
    obtain ⟨s3, es3, hf⟩ := lt_some hf
    refine V_putI g 9 a0 31 es3 rfl (by decide) rfl q_1264 z1 (Or.inl rfl) pf_9_31 dX9_wrong_10 ?_
    refine V_aload_n g 0 dX9_wrong_13 rfl ?_
    refine V_aload_n g 0 dX9_wrong_14 rfl ?_
    refine V_getI g 9 a0 29 rfl (by decide) rfl q_1262 z1 dX9_wrong_15 ?_
    obtain ⟨s4, es4, hf⟩ := lt_some hf
    refine V_putI g 9 a0 32 es4 rfl (by decide) rfl q_1265 z1 (Or.inl rfl) pf_9_32 dX9_wrong_18 ?_
    cases hf
    exact V_return g f dX9_wrong_21
  · have hf := it_f hf c2
    cases hf
    exact V_return g f dX9_wrong_7
set_option maxRecDepth 20000 in
theorem t_X9_mark_b13 {E : ET} {fu : Nat} {s' : St} (g : GX E "ThinSeriesModel" cX9_mark 2 3) (f : FX E "mark" none []) {s : St} {l0 : Nat} (hf : f_X9_mark_b13 fu s l0 = some s') : V E 2 (QE E (s', .inl none)) s 13 [(0, vR 9 l0)] [] := by
  unfold f_X9_mark_b13 at hf
  refine V_aload_n g 0 dX9_mark_13 rfl ?_
  obtain ⟨z6, hf⟩ := nz_some hf
  obtain ⟨s7, hc, hf⟩ := bV_some hf
  refine cV0 g [] [] s7 cf_X9_pass (t_X9_pass g.2.2.2.2.2.2.1 hc) (RC_own g rfl z6) z6 (by decide) q_1499 (Nat.le_of_ble_eq_true rfl) dX9_mark_14 ?_ rfl
  cases hf
  exact V_return g f dX9_mark_17
set_option maxRecDepth 20000 in
theorem t_X9_mark {G : GT} {l : Launch} (hl : l.stackTraces = false) {fu : Nat} {s s' : St} {a0 : Nat} {a1 : Int32} (hf : f_X9_mark fu s a0 a1 = some s') : MetG G l yX9_mark (.code yX9_mark cX9_mark 2 none) 3 s [vR 9 a0, vI a1] (s', .inl none) := by
  refine MetG_of hl (by decide +kernel) (Nat.le_of_ble_eq_true rfl) (fun E g f eG eL => ?_)
  subst eG; subst eL
  have g : GX E "ThinSeriesModel" cX9_mark 2 3 := g
  have f : FX E "mark" none [] := f
  show V E 2 (QE E (s', .inl none)) s 0 [(0, vR 9 a0), (1, vI a1)] []
  unfold f_X9_mark at hf
  refine V_aload_n g 0 dX9_mark_0 rfl ?_
  refine V_iload_n g 1 dX9_mark_1 rfl ?_
  obtain ⟨z1, hf⟩ := nz_some hf
  obtain ⟨s2, x3, hc, hf⟩ := bI_some hf
  refine cV1 g [vI a1] [] s2 (vI x3) cf_X9_isMarked (t_X9_isMarked g.2.2.2.2.2.2.1 hc) (RC_own g rfl z1) z1 (by decide) q_1532 (Nat.le_of_ble_eq_true rfl) dX9_mark_2 ?_ rfl
  refine V_if_ne g 13 dX9_mark_5 (by decide) (fun c4 => ?_) (fun c4 => ?_)
  · have hf := it_f hf c4
    refine V_sub [(0, vR 9 a0)] [0] rfl ?_
    exact t_X9_mark_b13 g f hf
  · have hf := it_t hf c4
    refine V_aload_n g 0 dX9_mark_8 rfl ?_
    refine V_iconst (v := 1) g dX9_mark_9 (by decide) ?_
    obtain ⟨s5, hc, hf⟩ := bV_some hf
    refine cV0 g [vI 1] [] s5 cf_X9_wrong (t_X9_wrong g.2.2.2.2.2.2.1 hc) (RC_own g rfl z1) z1 (by decide) q_1495 (Nat.le_of_ble_eq_true rfl) dX9_mark_10 ?_ rfl
    refine V_sub [(0, vR 9 a0)] [0] rfl ?_
    exact t_X9_mark_b13 g f hf
set_option maxRecDepth 20000 in
theorem t_X9_numberNow_b78 {E : ET} {fu : Nat} {s' : St} {w' : Int32} (g : GX E "ThinSeriesModel" cX9_numberNow 4 1) (f : FX E "numberNow" (some .int) []) {s : St} {t0 : Int32} (hf : f_X9_numberNow_b78 fu s t0 = some (s', w')) : V E 4 (QE E (s', .inl (some (vI w')))) s 78 [] [vI t0] := by
  unfold f_X9_numberNow_b78 at hf
  cases hf
  exact V_ireturn g f dX9_numberNow_78
set_option maxRecDepth 20000 in
theorem t_X9_numberNow_b61 {E : ET} {fu : Nat} {s' : St} {w' : Int32} (g : GX E "ThinSeriesModel" cX9_numberNow 4 1) (f : FX E "numberNow" (some .int) []) {s : St} {l0 : Nat} {l1 : Int32} (hf : f_X9_numberNow_b61 fu s l0 l1 = some (s', w')) : V E 4 (QE E (s', .inl (some (vI w')))) s 61 [(0, vR 9 l0), (1, vI l1)] [] := by
  unfold f_X9_numberNow_b61 at hf
  refine V_aload_n g 0 dX9_numberNow_61 rfl ?_
  obtain ⟨z11, hf⟩ := nz_some hf
  refine V_getI g 9 l0 31 rfl (by decide) rfl q_1264 z11 dX9_numberNow_62 ?_
  refine V_if_ne g 77 dX9_numberNow_65 (by decide) (fun c12 => ?_) (fun c12 => ?_)
  · have hf := it_f hf c12
    refine V_iconst (v := 0) g dX9_numberNow_77 (by decide) ?_
    refine V_sub [] [] rfl ?_
    exact t_X9_numberNow_b78 g f hf
  · have hf := it_t hf c12
    refine V_iload_n g 1 dX9_numberNow_68 rfl ?_
    refine V_aload_n g 0 dX9_numberNow_69 rfl ?_
    refine V_getI g 9 l0 28 rfl (by decide) rfl q_1261 z11 dX9_numberNow_70 ?_
    refine V_imul g dX9_numberNow_73 ?_
    refine V_goto g 78 dX9_numberNow_74 (by decide) ?_
    refine V_sub [] [] rfl ?_
    exact t_X9_numberNow_b78 g f hf
set_option maxRecDepth 20000 in
theorem t_X9_numberNow_b56 {E : ET} {fu : Nat} {s' : St} {w' : Int32} (g : GX E "ThinSeriesModel" cX9_numberNow 4 1) (f : FX E "numberNow" (some .int) []) {s : St} {l0 : Nat} {l1 : Int32} (hf : f_X9_numberNow_b56 fu s l0 l1 = some (s', w')) : V E 4 (QE E (s', .inl (some (vI w')))) s 56 [(0, vR 9 l0), (1, vI l1)] [] := by
  unfold f_X9_numberNow_b56 at hf
  refine V_aload_n g 0 dX9_numberNow_56 rfl ?_
  refine V_iconst (v := 2) g dX9_numberNow_57 (by decide) ?_
  obtain ⟨z9, hf⟩ := nz_some hf
  obtain ⟨s10, hc, hf⟩ := bV_some hf
  refine cV0 g [vI 2] [] s10 cf_X9_wrong (t_X9_wrong g.2.2.2.2.2.2.1 hc) (RC_own g rfl z9) z9 (by decide) q_1495 (Nat.le_of_ble_eq_true rfl) dX9_numberNow_58 ?_ rfl
  exact t_X9_numberNow_b61 g f hf
set_option maxRecDepth 20000 in
theorem t_X9_numberNow {G : GT} {l : Launch} (hl : l.stackTraces = false) {fu : Nat} {s s' : St} {a0 : Nat} {a1 : Int32} {a2 : Int32} {a3 : Int32} {w' : Int32} (hf : f_X9_numberNow fu s a0 a1 a2 a3 = some (s', w')) : MetG G l yX9_numberNow (.code yX9_numberNow cX9_numberNow 4 (some .int)) 1 s [vR 9 a0, vI a1, vI a2, vI a3] (s', .inl (some (vI w'))) := by
  refine MetG_of hl (by decide +kernel) (Nat.le_of_ble_eq_true rfl) (fun E g f eG eL => ?_)
  subst eG; subst eL
  have g : GX E "ThinSeriesModel" cX9_numberNow 4 1 := g
  have f : FX E "numberNow" (some .int) [] := f
  show V E 4 (QE E (s', .inl (some (vI w')))) s 0 [(0, vR 9 a0), (1, vI a1), (2, vI a2), (3, vI a3)] []
  unfold f_X9_numberNow at hf
  refine V_aload_n g 0 dX9_numberNow_0 rfl ?_
  obtain ⟨z1, hf⟩ := nz_some hf
  refine V_getI g 9 a0 31 rfl (by decide) rfl q_1264 z1 dX9_numberNow_1 ?_
  refine V_if_eq g 9 dX9_numberNow_4 (by decide) (fun c2 => ?_) (fun c2 => ?_)
  · have hf := it_t hf c2
    refine V_aload_n g 0 dX9_numberNow_9 rfl ?_
    refine V_getI g 9 a0 27 rfl (by decide) rfl q_1260 z1 dX9_numberNow_10 ?_
    refine V_iconst (v := 2) g dX9_numberNow_13 (by decide) ?_
    refine V_icmp_eq g 25 dX9_numberNow_14 (by decide) (fun c3 => ?_) (fun c3 => ?_)
    · have hf := it_t hf c3
      refine V_aload_n g 0 dX9_numberNow_25 rfl ?_
      refine V_getI g 9 a0 30 rfl (by decide) rfl q_1263 z1 dX9_numberNow_26 ?_
      refine V_aload_n g 0 dX9_numberNow_29 rfl ?_
      refine V_getI g 9 a0 29 rfl (by decide) rfl q_1262 z1 dX9_numberNow_30 ?_
      refine V_isub g dX9_numberNow_33 ?_
      refine V_bipush (v := 7) g dX9_numberNow_34 (by decide) ?_
      refine V_icmp_gt g 56 dX9_numberNow_36 (by decide) (fun c4 => ?_) (fun c4 => ?_)
      · have hf := it_t hf c4
        refine V_sub [(0, vR 9 a0), (1, vI a1)] [0, 1] rfl ?_
        exact t_X9_numberNow_b56 g f hf
      · have hf := it_f hf c4
        refine V_iload_n g 1 dX9_numberNow_39 rfl ?_
        refine V_aload_n g 0 dX9_numberNow_40 rfl ?_
        refine V_getI g 9 a0 28 rfl (by decide) rfl q_1261 z1 dX9_numberNow_41 ?_
        refine V_imul g dX9_numberNow_44 ?_
        refine V_i2l g dX9_numberNow_45 ?_
        refine V_iload_n g 2 dX9_numberNow_46 rfl ?_
        refine V_i2l g dX9_numberNow_47 ?_
        refine V_iload_n g 3 dX9_numberNow_48 rfl ?_
        refine V_i2l g dX9_numberNow_49 ?_
        obtain ⟨s5, x6, hc, hf⟩ := bI_some hf
        refine cS1 g [vJ (Int32.toInt64 (a1 * (gI s 9 a0 28))), vJ (Int32.toInt64 a2), vJ (Int32.toInt64 a3)] [] s5 (vI x6) cf_X9_isIn (t_X9_isIn g.2.2.2.2.2.2.1 hc) (by decide) q_1512 (Nat.le_of_ble_eq_true rfl) dX9_numberNow_50 ?_ rfl
        refine V_if_ne g 61 dX9_numberNow_53 (by decide) (fun c7 => ?_) (fun c7 => ?_)
        · have hf := it_f hf c7
          refine V_sub [(0, vR 9 a0), (1, vI a1)] [0, 1] rfl ?_
          exact t_X9_numberNow_b61 g f hf
        · have hf := it_t hf c7
          refine V_sub [(0, vR 9 a0), (1, vI a1)] [0, 1] rfl ?_
          exact t_X9_numberNow_b56 g f hf
    · have hf := it_f hf c3
      refine V_aload_n g 0 dX9_numberNow_17 rfl ?_
      refine V_iconst (v := 1) g dX9_numberNow_18 (by decide) ?_
      obtain ⟨s8, hc, hf⟩ := bV_some hf
      refine cV0 g [vI 1] [] s8 cf_X9_wrong (t_X9_wrong g.2.2.2.2.2.2.1 hc) (RC_own g rfl z1) z1 (by decide) q_1495 (Nat.le_of_ble_eq_true rfl) dX9_numberNow_19 ?_ rfl
      refine V_goto g 61 dX9_numberNow_22 (by decide) ?_
      refine V_sub [(0, vR 9 a0), (1, vI a1)] [0, 1] rfl ?_
      exact t_X9_numberNow_b61 g f hf
  · have hf := it_f hf c2
    refine V_iconst (v := 0) g dX9_numberNow_7 (by decide) ?_
    cases hf
    exact V_ireturn g f dX9_numberNow_8
set_option maxRecDepth 20000 in
theorem t_X9_readNumber {G : GT} {l : Launch} (hl : l.stackTraces = false) {fu : Nat} {s s' : St} {a0 : Nat} {a1 : Int32} {a2 : Int32} {w' : Int32} (hf : f_X9_readNumber fu s a0 a1 a2 = some (s', w')) : MetG G l yX9_readNumber (.code yX9_readNumber cX9_readNumber 4 (some .int)) 3 s [vR 9 a0, vI a1, vI a2] (s', .inl (some (vI w'))) := by
  refine MetG_of hl (by decide +kernel) (Nat.le_of_ble_eq_true rfl) (fun E g f eG eL => ?_)
  subst eG; subst eL
  have g : GX E "ThinSeriesModel" cX9_readNumber 4 3 := g
  have f : FX E "readNumber" (some .int) [] := f
  show V E 4 (QE E (s', .inl (some (vI w')))) s 0 [(0, vR 9 a0), (1, vI a1), (2, vI a2)] []
  unfold f_X9_readNumber at hf
  refine V_aload_n g 0 dX9_readNumber_0 rfl ?_
  refine V_iconst (v := 1) g dX9_readNumber_1 (by decide) ?_
  refine V_iload_n g 1 dX9_readNumber_2 rfl ?_
  refine V_iload_n g 2 dX9_readNumber_3 rfl ?_
  obtain ⟨z1, hf⟩ := nz_some hf
  obtain ⟨s2, x3, hc, hf⟩ := bI_some hf
  refine cV1 g [vI 1, vI a1, vI a2] [] s2 (vI x3) cf_X9_numberNow (t_X9_numberNow g.2.2.2.2.2.2.1 hc) (RC_own g rfl z1) z1 (by decide) q_1508 (Nat.le_of_ble_eq_true rfl) dX9_readNumber_4 ?_ rfl
  refine V_istore_n g [(3, vI x3), (0, vR 9 a0), (1, vI a1), (2, vI a2)] dX9_readNumber_7 rfl (by decide) rfl ?_
  refine V_aload_n g 1 dX9_readNumber_8 rfl ?_
  obtain ⟨s4, hc, hf⟩ := bV_some hf
  refine cV0 g [] [] s4 cf_X9_pass (t_X9_pass g.2.2.2.2.2.2.1 hc) (RC_own g rfl z1) z1 (by decide) q_1499 (Nat.le_of_ble_eq_true rfl) dX9_readNumber_9 ?_ rfl
  refine V_iload_n g 0 dX9_readNumber_12 rfl ?_
  cases hf
  exact V_ireturn g f dX9_readNumber_13
set_option maxRecDepth 20000 in
theorem t_X9_readSigned_b17 {E : ET} {fu : Nat} {s' : St} {w' : Int32} (g : GX E "ThinSeriesModel" cX9_readSigned 5 3) (f : FX E "readSigned" (some .int) []) {s : St} {l0 : Nat} {l1 : Int32} {l2 : Int32} {l3 : Int32} (hf : f_X9_readSigned_b17 fu s l0 l1 l2 l3 = some (s', w')) : V E 5 (QE E (s', .inl (some (vI w')))) s 17 [(0, vR 9 l0), (1, vI l1), (2, vI l2), (3, vI l3)] [] := by
  unfold f_X9_readSigned_b17 at hf
  refine V_aload_n g 0 dX9_readSigned_17 rfl ?_
  refine V_iload_n g 3 dX9_readSigned_18 rfl ?_
  refine V_iload_n g 1 dX9_readSigned_19 rfl ?_
  refine V_iload_n g 2 dX9_readSigned_20 rfl ?_
  obtain ⟨z6, hf⟩ := nz_some hf
  obtain ⟨s7, x8, hc, hf⟩ := bI_some hf
  refine cV1 g [vI l3, vI l1, vI l2] [] s7 (vI x8) cf_X9_numberNow (t_X9_numberNow g.2.2.2.2.2.2.1 hc) (RC_own g rfl z6) z6 (by decide) q_1508 (Nat.le_of_ble_eq_true rfl) dX9_readSigned_21 ?_ rfl
  refine V_istore g [(4, vI x8), (0, vR 9 l0), (1, vI l1), (2, vI l2), (3, vI l3)] dX9_readSigned_24 rfl (by decide) rfl ?_
  refine V_aload_n g 1 dX9_readSigned_26 rfl ?_
  obtain ⟨s9, hc, hf⟩ := bV_some hf
  refine cV0 g [] [] s9 cf_X9_pass (t_X9_pass g.2.2.2.2.2.2.1 hc) (RC_own g rfl z6) z6 (by decide) q_1499 (Nat.le_of_ble_eq_true rfl) dX9_readSigned_27 ?_ rfl
  refine V_iload g 0 dX9_readSigned_30 rfl ?_
  cases hf
  exact V_ireturn g f dX9_readSigned_32
set_option maxRecDepth 20000 in
theorem t_X9_readSigned {G : GT} {l : Launch} (hl : l.stackTraces = false) {fu : Nat} {s s' : St} {a0 : Nat} {a1 : Int32} {a2 : Int32} {w' : Int32} (hf : f_X9_readSigned fu s a0 a1 a2 = some (s', w')) : MetG G l yX9_readSigned (.code yX9_readSigned cX9_readSigned 5 (some .int)) 3 s [vR 9 a0, vI a1, vI a2] (s', .inl (some (vI w'))) := by
  refine MetG_of hl (by decide +kernel) (Nat.le_of_ble_eq_true rfl) (fun E g f eG eL => ?_)
  subst eG; subst eL
  have g : GX E "ThinSeriesModel" cX9_readSigned 5 3 := g
  have f : FX E "readSigned" (some .int) [] := f
  show V E 5 (QE E (s', .inl (some (vI w')))) s 0 [(0, vR 9 a0), (1, vI a1), (2, vI a2)] []
  unfold f_X9_readSigned at hf
  refine V_iconst (v := 1) g dX9_readSigned_0 (by decide) ?_
  refine V_istore_n g [(3, vI 1), (0, vR 9 a0), (1, vI a1), (2, vI a2)] dX9_readSigned_1 rfl (by decide) rfl ?_
  refine V_aload_n g 1 dX9_readSigned_2 rfl ?_
  refine V_bipush (v := 45) g dX9_readSigned_3 (by decide) ?_
  obtain ⟨z1, hf⟩ := nz_some hf
  obtain ⟨s2, x3, hc, hf⟩ := bI_some hf
  refine cV1 g [vI 45] [] s2 (vI x3) cf_X9_isMarked (t_X9_isMarked g.2.2.2.2.2.2.1 hc) (RC_own g rfl z1) z1 (by decide) q_1532 (Nat.le_of_ble_eq_true rfl) dX9_readSigned_5 ?_ rfl
  refine V_if_eq g 17 dX9_readSigned_8 (by decide) (fun c4 => ?_) (fun c4 => ?_)
  · have hf := it_t hf c4
    refine V_sub [(0, vR 9 a0), (1, vI a1), (2, vI a2), (3, vI 1)] [1, 2, 3, 0] rfl ?_
    exact t_X9_readSigned_b17 g f hf
  · have hf := it_f hf c4
    refine V_iconst (v := (-1)) g dX9_readSigned_11 (by decide) ?_
    refine V_istore_n g [(3, vI ((-1))), (0, vR 9 a0), (1, vI a1), (2, vI a2)] dX9_readSigned_12 rfl (by decide) rfl ?_
    refine V_aload_n g 1 dX9_readSigned_13 rfl ?_
    obtain ⟨s5, hc, hf⟩ := bV_some hf
    refine cV0 g [] [] s5 cf_X9_stepOn (t_X9_stepOn g.2.2.2.2.2.2.1 hc) (RC_own g rfl z1) z1 (by decide) q_1462 (Nat.le_of_ble_eq_true rfl) dX9_readSigned_14 ?_ rfl
    refine V_sub [(0, vR 9 a0), (1, vI a1), (2, vI a2), (3, vI ((-1)))] [1, 2, 3, 0] rfl ?_
    exact t_X9_readSigned_b17 g f hf
set_option maxRecDepth 20000 in
theorem t_X9_is_b75 {E : ET} {fu : Nat} {s' : St} {w' : Int32} (g : GX E "ThinSeriesModel" cX9_is 4 4) (f : FX E "is" (some .boolean) []) {k39 : St → Nat → Nat → Int32 → Int32 → Option (St × Int32)} (hk39 : ∀ (s : St) (l0 : Nat) (l1 : Nat) (l2 : Int32) (l3 : Int32), k39 s l0 l1 l2 l3 = some (s', w') → V E 4 (QE E (s', .inl (some (vI w')))) s 39 [(0, vR 9 l0), (1, vR 16 l1), (2, vI l2), (3, vI l3)] []) {s : St} {l0 : Nat} {l1 : Nat} {l3 : Int32} {t0 : Int32} (hf : f_X9_is_b75 fu k39 s l0 l1 l3 t0 = some (s', w')) : V E 4 (QE E (s', .inl (some (vI w')))) s 75 [(0, vR 9 l0), (1, vR 16 l1), (3, vI l3)] [vI t0] := by
  unfold f_X9_is_b75 at hf
  refine V_istore_n g [(2, vI t0), (0, vR 9 l0), (1, vR 16 l1), (3, vI l3)] dX9_is_75 rfl (by decide) rfl ?_
  obtain ⟨x19, ex19, hf⟩ := lt_some hf
  refine V_iinc g 3 [(3, vI x19), (2, vI t0), (0, vR 9 l0), (1, vR 16 l1)] dX9_is_76 rfl (by rw [ex19]; rfl) (by decide) rfl ?_
  refine V_goto g 39 dX9_is_79 (by decide) ?_
  refine V_sub [(0, vR 9 l0), (1, vR 16 l1), (2, vI t0), (3, vI x19)] [2, 3, 1, 0] rfl ?_
  exact hk39 s l0 l1 t0 x19 hf
set_option maxRecDepth 20000 in
theorem t_X9_is_b82 {E : ET} {fu : Nat} {s' : St} {w' : Int32} (g : GX E "ThinSeriesModel" cX9_is 4 4) (f : FX E "is" (some .boolean) []) {s : St} {l2 : Int32} (hf : f_X9_is_b82 fu s l2 = some (s', w')) : V E 4 (QE E (s', .inl (some (vI w')))) s 82 [(2, vI l2)] [] := by
  unfold f_X9_is_b82 at hf
  refine V_iload_n g 0 dX9_is_82 rfl ?_
  obtain ⟨h20, hf⟩ := ckf hf
  cases hf
  exact V_zreturn g f (zb_n h20) dX9_is_83
set_option maxRecDepth 20000 in
theorem t_X9_is_b39 {E : ET} {fu : Nat} {s' : St} {w' : Int32} (g : GX E "ThinSeriesModel" cX9_is 4 4) (f : FX E "is" (some .boolean) []) : ∀ (n : Nat) (s : St) (l0 : Nat) (l1 : Nat) (l2 : Int32) (l3 : Int32), f_X9_is_b39 fu n s l0 l1 l2 l3 = some (s', w') → V E 4 (QE E (s', .inl (some (vI w')))) s 39 [(0, vR 9 l0), (1, vR 16 l1), (2, vI l2), (3, vI l3)] [] := by
  intro n
  induction n with
  | zero =>
    intro s l0 l1 l2 l3 hf
    unfold f_X9_is_b39 at hf
    exact nomatch hf
  | succ n ih =>
    intro s l0 l1 l2 l3 hf
    unfold f_X9_is_b39 at hf
    refine V_iload_n g 2 dX9_is_39 rfl ?_
    refine V_if_eq g 82 dX9_is_40 (by decide) (fun c8 => ?_) (fun c8 => ?_)
    · have hf := it_t hf c8
      refine V_sub [(2, vI l2)] [2] rfl ?_
      exact t_X9_is_b82 g f hf
    · have hf := it_f hf c8
      refine V_iload_n g 3 dX9_is_43 rfl ?_
      refine V_aload_n g 1 dX9_is_44 rfl ?_
      obtain ⟨z9, hf⟩ := nz_some hf
      obtain ⟨s10, x11, hc, hf⟩ := bI_some hf
      refine cV1 g [] [vI l3] s10 (vI x11) cf_J0_length_8abf5 (t_J0_length_8abf5 g.2.2.2.2.2.2.1 hc) (RC_str g z9) z9 (by decide) q_1493 (Nat.le_of_ble_eq_true rfl) dX9_is_45 ?_ rfl
      refine V_icmp_ge g 82 dX9_is_48 (by decide) (fun c12 => ?_) (fun c12 => ?_)
      · have hf := it_t hf c12
        refine V_sub [(2, vI l2)] [2] rfl ?_
        exact t_X9_is_b82 g f hf
      · have hf := it_f hf c12
        refine V_aload_n g 1 dX9_is_51 rfl ?_
        refine V_iload_n g 3 dX9_is_52 rfl ?_
        obtain ⟨s13, x14, hc, hf⟩ := bI_some hf
        refine cV1 g [vI l3] [] s13 (vI x14) cf_J0_charAt_5068e (t_J0_charAt_5068e g.2.2.2.2.2.2.1 hc) (RC_str g z9) z9 (by decide) q_1494 (Nat.le_of_ble_eq_true rfl) dX9_is_53 ?_ rfl
        refine V_aload_n g 0 dX9_is_56 rfl ?_
        obtain ⟨z15, hf⟩ := nz_some hf
        refine V_getR g 9 l0 23 10 rfl (by decide) rfl rfl q_1256 z15 dX9_is_57 ?_
        refine V_aload_n g 0 dX9_is_60 rfl ?_
        refine V_getI g 9 l0 29 rfl (by decide) rfl q_1262 z15 dX9_is_61 ?_
        refine V_iload_n g 3 dX9_is_64 rfl ?_
        refine V_iadd g dX9_is_65 ?_
        obtain ⟨z16, hf⟩ := nz_some hf
        obtain ⟨h17, hf⟩ := ckf hf
        refine V_iald g z16 h17 dX9_is_66 ?_
        refine V_icmp_ne g 74 dX9_is_67 (by decide) (fun c18 => ?_) (fun c18 => ?_)
        · have hf := it_f hf c18
          refine V_iconst (v := 0) g dX9_is_74 (by decide) ?_
          refine V_sub [(0, vR 9 l0), (1, vR 16 l1), (3, vI l3)] [0, 1, 3] rfl ?_
          exact t_X9_is_b75 g f ih hf
        · have hf := it_t hf c18
          refine V_iconst (v := 1) g dX9_is_70 (by decide) ?_
          refine V_goto g 75 dX9_is_71 (by decide) ?_
          refine V_sub [(0, vR 9 l0), (1, vR 16 l1), (3, vI l3)] [0, 1, 3] rfl ?_
          exact t_X9_is_b75 g f ih hf
set_option maxRecDepth 20000 in
theorem t_X9_is_b36 {E : ET} {fu : Nat} {s' : St} {w' : Int32} (g : GX E "ThinSeriesModel" cX9_is 4 4) (f : FX E "is" (some .boolean) []) {s : St} {l0 : Nat} {l1 : Nat} {t0 : Int32} (hf : f_X9_is_b36 fu s l0 l1 t0 = some (s', w')) : V E 4 (QE E (s', .inl (some (vI w')))) s 36 [(0, vR 9 l0), (1, vR 16 l1)] [vI t0] := by
  unfold f_X9_is_b36 at hf
  refine V_istore_n g [(2, vI t0), (0, vR 9 l0), (1, vR 16 l1)] dX9_is_36 rfl (by decide) rfl ?_
  refine V_iconst (v := 0) g dX9_is_37 (by decide) ?_
  refine V_istore_n g [(3, vI 0), (2, vI t0), (0, vR 9 l0), (1, vR 16 l1)] dX9_is_38 rfl (by decide) rfl ?_
  refine V_sub [(0, vR 9 l0), (1, vR 16 l1), (2, vI t0), (3, vI 0)] [2, 3, 1, 0] rfl ?_
  exact t_X9_is_b39 g f _ s l0 l1 t0 0 hf
set_option maxRecDepth 20000 in
theorem t_X9_is_b35 {E : ET} {fu : Nat} {s' : St} {w' : Int32} (g : GX E "ThinSeriesModel" cX9_is 4 4) (f : FX E "is" (some .boolean) []) {s : St} {l0 : Nat} {l1 : Nat} (hf : f_X9_is_b35 fu s l0 l1 = some (s', w')) : V E 4 (QE E (s', .inl (some (vI w')))) s 35 [(0, vR 9 l0), (1, vR 16 l1)] [] := by
  unfold f_X9_is_b35 at hf
  refine V_iconst (v := 0) g dX9_is_35 (by decide) ?_
  exact t_X9_is_b36 g f hf
set_option maxRecDepth 20000 in
theorem t_X9_is {G : GT} {l : Launch} (hl : l.stackTraces = false) {fu : Nat} {s s' : St} {a0 : Nat} {a1 : Nat} {w' : Int32} (hf : f_X9_is fu s a0 a1 = some (s', w')) : MetG G l yX9_is (.code yX9_is cX9_is 4 (some .boolean)) 4 s [vR 9 a0, vR 16 a1] (s', .inl (some (vI w'))) := by
  refine MetG_of hl (by decide +kernel) (Nat.le_of_ble_eq_true rfl) (fun E g f eG eL => ?_)
  subst eG; subst eL
  have g : GX E "ThinSeriesModel" cX9_is 4 4 := g
  have f : FX E "is" (some .boolean) [] := f
  show V E 4 (QE E (s', .inl (some (vI w')))) s 0 [(0, vR 9 a0), (1, vR 16 a1)] []
  unfold f_X9_is at hf
  refine V_aload_n g 0 dX9_is_0 rfl ?_
  obtain ⟨z1, hf⟩ := nz_some hf
  refine V_getI g 9 a0 31 rfl (by decide) rfl q_1264 z1 dX9_is_1 ?_
  refine V_if_ne g 35 dX9_is_4 (by decide) (fun c2 => ?_) (fun c2 => ?_)
  · have hf := it_f hf c2
    exact t_X9_is_b35 g f hf
  · have hf := it_t hf c2
    refine V_aload_n g 0 dX9_is_7 rfl ?_
    refine V_getI g 9 a0 27 rfl (by decide) rfl q_1260 z1 dX9_is_8 ?_
    refine V_iconst (v := 1) g dX9_is_11 (by decide) ?_
    refine V_icmp_ne g 35 dX9_is_12 (by decide) (fun c3 => ?_) (fun c3 => ?_)
    · have hf := it_f hf c3
      exact t_X9_is_b35 g f hf
    · have hf := it_t hf c3
      refine V_aload_n g 1 dX9_is_15 rfl ?_
      obtain ⟨z4, hf⟩ := nz_some hf
      obtain ⟨s5, x6, hc, hf⟩ := bI_some hf
      refine cV1 g [] [] s5 (vI x6) cf_J0_length_8abf5 (t_J0_length_8abf5 g.2.2.2.2.2.2.1 hc) (RC_str g z4) z4 (by decide) q_1493 (Nat.le_of_ble_eq_true rfl) dX9_is_16 ?_ rfl
      refine V_aload_n g 0 dX9_is_19 rfl ?_
      refine V_getI g 9 a0 30 rfl (by decide) rfl q_1263 z1 dX9_is_20 ?_
      refine V_aload_n g 0 dX9_is_23 rfl ?_
      refine V_getI g 9 a0 29 rfl (by decide) rfl q_1262 z1 dX9_is_24 ?_
      refine V_isub g dX9_is_27 ?_
      refine V_icmp_ne g 35 dX9_is_28 (by decide) (fun c7 => ?_) (fun c7 => ?_)
      · have hf := it_f hf c7
        exact t_X9_is_b35 g f hf
      · have hf := it_t hf c7
        refine V_iconst (v := 1) g dX9_is_31 (by decide) ?_
        refine V_goto g 36 dX9_is_32 (by decide) ?_
        exact t_X9_is_b36 g f hf
