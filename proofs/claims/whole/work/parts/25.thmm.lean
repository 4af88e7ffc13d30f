set_option maxRecDepth 20000 in
theorem t_X9_why {G : GT} {l : Launch} (hl : l.stackTraces = false) {fu : Nat} {s s' : St} {a0 : Nat} {a1 : Int32} {w' : Int32} (hf : f_X9_why fu s a0 a1 = some (s', w')) : MetG G l yX9_why (.code yX9_why cX9_why 2 (some .int)) 1 s [vR 9 a0, vI a1] (s', .inl (some (vI w'))) := by
  refine MetG_of hl (by decide +kernel) (Nat.le_of_ble_eq_true rfl) (fun E g f eG eL => ?_)
  subst eG; subst eL
  have g : GX E "ThinSeriesModel" cX9_why 2 1 := g
  have f : FX E "why" (some .int) [] := f
  show V E 2 (QE E (s', .inl (some (vI w')))) s 0 [(0, vR 9 a0), (1, vI a1)] []
  unfold f_X9_why at hf
  refine V_aload_n g 0 dX9_why_0 rfl ?_
  refine V_iconst (v := 0) g dX9_why_1 (by decide) ?_
  obtain ⟨z1, hf⟩ := nz_some hf
  obtain ⟨s2, es2, hf⟩ := lt_some hf
  refine V_putI g 9 a0 3 es2 rfl (by decide) rfl q_1236 z1 (Or.inl rfl) pf_9_3 dX9_why_2 ?_
  refine V_iload_n g 1 dX9_why_5 rfl ?_
  by_cases c3 : a1 = 0
  · subst c3
    have hf := it_t hf rfl
    refine V_tableIn g 36 dX9_why_6 (by decide) (by decide) rfl (by decide) ?_
    refine V_aload_n g 0 dX9_why_36 rfl ?_
    refine V_getI g 9 a0 40 rfl (by decide) rfl q_1273 z1 dX9_why_37 ?_
    cases hf
    exact V_ireturn g f dX9_why_40
  · have hf := it_f hf c3
    by_cases c4 : a1 = 1
    · subst c4
      have hf := it_t hf rfl
      refine V_tableIn g 41 dX9_why_6 (by decide) (by decide) rfl (by decide) ?_
      refine V_aload_n g 0 dX9_why_41 rfl ?_
      refine V_getI g 9 a0 41 rfl (by decide) rfl q_1274 z1 dX9_why_42 ?_
      cases hf
      exact V_ireturn g f dX9_why_45
    · have hf := it_f hf c4
      by_cases c5 : a1 = 2
      · subst c5
        have hf := it_t hf rfl
        refine V_tableIn g 46 dX9_why_6 (by decide) (by decide) rfl (by decide) ?_
        refine V_aload_n g 0 dX9_why_46 rfl ?_
        refine V_getI g 9 a0 42 rfl (by decide) rfl q_1275 z1 dX9_why_47 ?_
        cases hf
        exact V_ireturn g f dX9_why_50
      · have hf := it_f hf c5
        by_cases c6 : a1 = 3
        · subst c6
          have hf := it_t hf rfl
          refine V_tableIn g 51 dX9_why_6 (by decide) (by decide) rfl (by decide) ?_
          refine V_aload_n g 0 dX9_why_51 rfl ?_
          refine V_getI g 9 a0 43 rfl (by decide) rfl q_1276 z1 dX9_why_52 ?_
          cases hf
          exact V_ireturn g f dX9_why_55
        · have hf := it_f hf c6
          refine V_tableOut g 56 dX9_why_6 (sw_out (fun v h1 h2 => ?_)) (by decide) ?_
          · rcases (show v = 0 ∨ v = 1 ∨ v = 2 ∨ v = 3 by omega) with rfl | rfl | rfl | rfl
            · exact c3
            · exact c4
            · exact c5
            · exact c6
          · skip
            refine V_aload_n g 0 dX9_why_56 rfl ?_
            refine V_iconst (v := 1) g dX9_why_57 (by decide) ?_
            obtain ⟨s7, x8, hc, hf⟩ := bI_some hf
            refine cV1 g [vI 1] [] s7 (vI x8) cf_X9_fail (t_X9_fail g.2.2.2.2.2.2.1 hc) (RC_own g rfl z1) z1 (by decide) q_1454 (Nat.le_of_ble_eq_true rfl) dX9_why_58 ?_ rfl
            cases hf
            exact V_ireturn g f dX9_why_61
set_option maxRecDepth 20000 in
theorem t_X9_bucketsBy_b28 {E : ET} {fu : Nat} {s' : St} {w' : Int32} (g : GX E "ThinSeriesModel" cX9_bucketsBy 7 4) (f : FX E "bucketsBy" (some .int) []) : ∀ (n : Nat) (s : St) (l0 : Nat) (l1 : Int32) (l2 : Int32) (l3 : Int32) (l4 : Int32) (l5 : Int32), f_X9_bucketsBy_b28 fu n s l0 l1 l2 l3 l4 l5 = some (s', w') → V E 7 (QE E (s', .inl (some (vI w')))) s 28 [(0, vR 9 l0), (1, vI l1), (2, vI l2), (3, vI l3), (4, vI l4), (5, vI l5)] [] := by
  intro n
  induction n with
  | zero =>
    intro s l0 l1 l2 l3 l4 l5 hf
    unfold f_X9_bucketsBy_b28 at hf
    exact nomatch hf
  | succ n ih =>
    intro s l0 l1 l2 l3 l4 l5 hf
    unfold f_X9_bucketsBy_b28 at hf
    refine V_iload g 5 dX9_bucketsBy_28 rfl ?_
    refine V_iload g 4 dX9_bucketsBy_30 rfl ?_
    refine V_icmp_ge g 90 dX9_bucketsBy_32 (by decide) (fun c8 => ?_) (fun c8 => ?_)
    · have hf := it_t hf c8
      refine V_iload_n g 3 dX9_bucketsBy_90 rfl ?_
      cases hf
      exact V_ireturn g f dX9_bucketsBy_91
    · have hf := it_f hf c8
      refine V_aload_n g 0 dX9_bucketsBy_35 rfl ?_
      refine V_iload_n g 2 dX9_bucketsBy_36 rfl ?_
      refine V_aload_n g 0 dX9_bucketsBy_37 rfl ?_
      obtain ⟨z9, hf⟩ := nz_some hf
      refine V_getR g 9 l0 20 10 rfl (by decide) rfl rfl q_1253 z9 dX9_bucketsBy_38 ?_
      refine V_iload g 5 dX9_bucketsBy_41 rfl ?_
      obtain ⟨z10, hf⟩ := nz_some hf
      obtain ⟨h11, hf⟩ := ckf hf
      refine V_iald g z10 h11 dX9_bucketsBy_43 ?_
      obtain ⟨s12, x13, hc, hf⟩ := bI_some hf
      refine cV1 g [vI l2, vI (gI s 10 (gR s 9 l0 20) (ix l5))] [] s12 (vI x13) cf_X9_tierBy (t_X9_tierBy g.2.2.2.2.2.2.1 hc) (RC_own g rfl z9) z9 (by decide) q_1653 (Nat.le_of_ble_eq_true rfl) dX9_bucketsBy_44 ?_ rfl
      refine V_istore g [(6, vI x13), (0, vR 9 l0), (1, vI l1), (2, vI l2), (3, vI l3), (4, vI l4), (5, vI l5)] dX9_bucketsBy_47 rfl (by decide) rfl ?_
      refine V_aload_n g 1 dX9_bucketsBy_49 rfl ?_
      refine V_iload_n g 2 dX9_bucketsBy_50 rfl ?_
      refine V_aload_n g 1 dX9_bucketsBy_51 rfl ?_
      refine V_getR g 9 l0 20 10 rfl (by decide) rfl rfl q_1253 z9 dX9_bucketsBy_52 ?_
      refine V_iload g 6 dX9_bucketsBy_55 rfl ?_
      obtain ⟨z14, hf⟩ := nz_some hf
      obtain ⟨h15, hf⟩ := ckf hf
      refine V_iald g z14 h15 dX9_bucketsBy_57 ?_
      refine V_i2l g dX9_bucketsBy_58 ?_
      refine V_aload_n g 1 dX9_bucketsBy_59 rfl ?_
      refine V_getR g 9 l0 4 10 rfl (by decide) rfl rfl q_1237 z9 dX9_bucketsBy_60 ?_
      refine V_iload g 0 dX9_bucketsBy_63 rfl ?_
      obtain ⟨z16, hf⟩ := nz_some hf
      obtain ⟨h17, hf⟩ := ckf hf
      refine V_iald g z16 h17 dX9_bucketsBy_65 ?_
      obtain ⟨s18, x19, hc, hf⟩ := bI_some hf
      refine cS1 g [vJ (Int32.toInt64 (gI s12 10 (gR s12 9 l0 20) (ix l5))), vI (gI s12 10 (gR s12 9 l0 4) (ix x13))] [vI l1, vR 9 l0] s18 (vI x19) cf_X9_multiple (t_X9_multiple g.2.2.2.2.2.2.1 hc) (by decide) q_1600 (Nat.le_of_ble_eq_true rfl) dX9_bucketsBy_66 ?_ rfl
      refine V_i2l g dX9_bucketsBy_69 ?_
      refine V_aload_n g 1 dX9_bucketsBy_70 rfl ?_
      refine V_getR g 9 l0 4 10 rfl (by decide) rfl rfl q_1237 z9 dX9_bucketsBy_71 ?_
      refine V_iload g 0 dX9_bucketsBy_74 rfl ?_
      obtain ⟨z20, hf⟩ := nz_some hf
      obtain ⟨h21, hf⟩ := ckf hf
      refine V_iald g z20 h21 dX9_bucketsBy_76 ?_
      refine V_i2l g dX9_bucketsBy_77 ?_
      refine V_ladd g dX9_bucketsBy_78 ?_
      obtain ⟨s22, x23, hc, hf⟩ := bI_some hf
      refine cV1 g [vI l1, vJ ((Int32.toInt64 x19) + (Int32.toInt64 (gI s18 10 (gR s18 9 l0 4) (ix x13))))] [] s22 (vI x23) cf_X9_placeOf (t_X9_placeOf g.2.2.2.2.2.2.1 hc) (RC_own g rfl z9) z9 (by decide) q_1632 (Nat.le_of_ble_eq_true rfl) dX9_bucketsBy_79 ?_ rfl
      refine V_istore g [(5, vI x23), (6, vI x13), (0, vR 9 l0), (1, vI l1), (2, vI l2), (3, vI l3), (4, vI l4)] dX9_bucketsBy_82 rfl (by decide) rfl ?_
      obtain ⟨x24, ex24, hf⟩ := lt_some hf
      refine V_iinc g 5 [(3, vI x24), (5, vI x23), (6, vI x13), (0, vR 9 l0), (1, vI l1), (2, vI l2), (4, vI l4)] dX9_bucketsBy_84 rfl (by rw [ex24]; rfl) (by decide) rfl ?_
      refine V_goto g 28 dX9_bucketsBy_87 (by decide) ?_
      refine V_sub [(0, vR 9 l0), (1, vI l1), (2, vI l2), (3, vI x24), (4, vI l4), (5, vI x23)] [3, 4, 5, 0, 6, 1] rfl ?_
      exact ih s22 l0 l1 l2 x24 l4 x23 hf
set_option maxRecDepth 20000 in
theorem t_X9_bucketsBy {G : GT} {l : Launch} (hl : l.stackTraces = false) {fu : Nat} {s s' : St} {a0 : Nat} {a1 : Int32} {a2 : Int32} {w' : Int32} (hf : f_X9_bucketsBy fu s a0 a1 a2 = some (s', w')) : MetG G l yX9_bucketsBy (.code yX9_bucketsBy cX9_bucketsBy 7 (some .int)) 4 s [vR 9 a0, vI a1, vI a2] (s', .inl (some (vI w'))) := by
  refine MetG_of hl (by decide +kernel) (Nat.le_of_ble_eq_true rfl) (fun E g f eG eL => ?_)
  subst eG; subst eL
  have g : GX E "ThinSeriesModel" cX9_bucketsBy 7 4 := g
  have f : FX E "bucketsBy" (some .int) [] := f
  show V E 7 (QE E (s', .inl (some (vI w')))) s 0 [(0, vR 9 a0), (1, vI a1), (2, vI a2)] []
  unfold f_X9_bucketsBy at hf
  refine V_iconst (v := 0) g dX9_bucketsBy_0 (by decide) ?_
  refine V_istore_n g [(3, vI 0), (0, vR 9 a0), (1, vI a1), (2, vI a2)] dX9_bucketsBy_1 rfl (by decide) rfl ?_
  refine V_aload_n g 1 dX9_bucketsBy_2 rfl ?_
  refine V_iload_n g 2 dX9_bucketsBy_3 rfl ?_
  obtain ⟨z1, hf⟩ := nz_some hf
  obtain ⟨s2, x3, hc, hf⟩ := bI_some hf
  refine cV1 g [vI a1] [] s2 (vI x3) cf_X9_behindOf (t_X9_behindOf g.2.2.2.2.2.2.1 hc) (RC_own g rfl z1) z1 (by decide) q_1636 (Nat.le_of_ble_eq_true rfl) dX9_bucketsBy_4 ?_ rfl
  refine V_istore g [(4, vI x3), (3, vI 0), (0, vR 9 a0), (1, vI a1), (2, vI a2)] dX9_bucketsBy_7 rfl (by decide) rfl ?_
  refine V_aload_n g 2 dX9_bucketsBy_9 rfl ?_
  refine V_iload_n g 3 dX9_bucketsBy_10 rfl ?_
  refine V_aload_n g 2 dX9_bucketsBy_11 rfl ?_
  refine V_iload_n g 4 dX9_bucketsBy_12 rfl ?_
  refine V_aload_n g 2 dX9_bucketsBy_13 rfl ?_
  refine V_getI g 9 a0 7 rfl (by decide) rfl q_1240 z1 dX9_bucketsBy_14 ?_
  refine V_iconst (v := 1) g dX9_bucketsBy_17 (by decide) ?_
  refine V_isub g dX9_bucketsBy_18 ?_
  obtain ⟨s4, x5, hc, hf⟩ := bI_some hf
  refine cV1 g [vI a2, vI ((gI s2 9 a0 7) - 1)] [vI a1, vR 9 a0] s4 (vI x5) cf_X9_seamBy (t_X9_seamBy g.2.2.2.2.2.2.1 hc) (RC_own g rfl z1) z1 (by decide) q_1593 (Nat.le_of_ble_eq_true rfl) dX9_bucketsBy_19 ?_ rfl
  refine V_i2l g dX9_bucketsBy_22 ?_
  obtain ⟨s6, x7, hc, hf⟩ := bI_some hf
  refine cV1 g [vI a1, vJ (Int32.toInt64 x5)] [] s6 (vI x7) cf_X9_placeOf (t_X9_placeOf g.2.2.2.2.2.2.1 hc) (RC_own g rfl z1) z1 (by decide) q_1632 (Nat.le_of_ble_eq_true rfl) dX9_bucketsBy_23 ?_ rfl
  refine V_istore g [(5, vI x7), (4, vI x3), (3, vI 0), (0, vR 9 a0), (1, vI a1), (2, vI a2)] dX9_bucketsBy_26 rfl (by decide) rfl ?_
  refine V_sub [(0, vR 9 a0), (1, vI a1), (2, vI a2), (3, vI 0), (4, vI x3), (5, vI x7)] [3, 4, 5, 2, 1, 0] rfl ?_
  exact t_X9_bucketsBy_b28 g f _ s6 a0 a1 a2 0 x3 x7 hf
set_option maxRecDepth 20000 in
theorem t_X9_movedBy_b53 {E : ET} {fu : Nat} {s' : St} {w' : Int32} (g : GX E "ThinSeriesModel" cX9_movedBy 6 5) (f : FX E "movedBy" (some .int) []) {k16 : St → Nat → Int32 → Int32 → Int32 → Int32 → Option (St × Int32)} (hk16 : ∀ (s : St) (l0 : Nat) (l2 : Int32) (l3 : Int32) (l4 : Int32) (l5 : Int32), k16 s l0 l2 l3 l4 l5 = some (s', w') → V E 6 (QE E (s', .inl (some (vI w')))) s 16 [(0, vR 9 l0), (2, vI l2), (3, vI l3), (4, vI l4), (5, vI l5)] []) {s : St} {l0 : Nat} {l2 : Int32} {l4 : Int32} {l5 : Int32} {t0 : Int32} {t1 : Int32} (hf : f_X9_movedBy_b53 fu k16 s l0 l2 l4 l5 t0 t1 = some (s', w')) : V E 6 (QE E (s', .inl (some (vI w')))) s 53 [(0, vR 9 l0), (2, vI l2), (4, vI l4), (5, vI l5)] [vI t0, vI t1] := by
  unfold f_X9_movedBy_b53 at hf
  refine V_iadd g dX9_movedBy_53 ?_
  obtain ⟨x13, ex13, hf⟩ := lt_some hf
  refine V_istore_n g [(3, vI x13), (0, vR 9 l0), (2, vI l2), (4, vI l4), (5, vI l5)] dX9_movedBy_54 ex13 (by decide) rfl ?_
  refine V_goto g 16 dX9_movedBy_55 (by decide) ?_
  refine V_sub [(0, vR 9 l0), (2, vI l2), (3, vI x13), (4, vI l4), (5, vI l5)] [1, 2, 0, 3, 4] rfl ?_
  exact hk16 s l0 l2 x13 l4 l5 hf
set_option maxRecDepth 20000 in
theorem t_X9_movedBy_b16 {E : ET} {fu : Nat} {s' : St} {w' : Int32} (g : GX E "ThinSeriesModel" cX9_movedBy 6 5) (f : FX E "movedBy" (some .int) []) : ∀ (n : Nat) (s : St) (l0 : Nat) (l2 : Int32) (l3 : Int32) (l4 : Int32) (l5 : Int32), f_X9_movedBy_b16 fu n s l0 l2 l3 l4 l5 = some (s', w') → V E 6 (QE E (s', .inl (some (vI w')))) s 16 [(0, vR 9 l0), (2, vI l2), (3, vI l3), (4, vI l4), (5, vI l5)] [] := by
  intro n
  induction n with
  | zero =>
    intro s l0 l2 l3 l4 l5 hf
    unfold f_X9_movedBy_b16 at hf
    exact nomatch hf
  | succ n ih =>
    intro s l0 l2 l3 l4 l5 hf
    unfold f_X9_movedBy_b16 at hf
    refine V_iload g 4 dX9_movedBy_16 rfl ?_
    refine V_iload g 3 dX9_movedBy_18 rfl ?_
    refine V_icmp_ge g 58 dX9_movedBy_20 (by decide) (fun c6 => ?_) (fun c6 => ?_)
    · have hf := it_t hf c6
      refine V_iload_n g 2 dX9_movedBy_58 rfl ?_
      cases hf
      exact V_ireturn g f dX9_movedBy_59
    · have hf := it_f hf c6
      refine V_aload_n g 0 dX9_movedBy_23 rfl ?_
      refine V_iload g 4 dX9_movedBy_24 rfl ?_
      obtain ⟨z7, hf⟩ := nz_some hf
      obtain ⟨s8, x9, hc, hf⟩ := bI_some hf
      refine cV1 g [vI l5] [] s8 (vI x9) cf_X9_bucketFrom (t_X9_bucketFrom g.2.2.2.2.2.2.1 hc) (RC_own g rfl z7) z7 (by decide) q_1665 (Nat.le_of_ble_eq_true rfl) dX9_movedBy_26 ?_ rfl
      refine V_istore g [(5, vI x9), (0, vR 9 l0), (2, vI l2), (3, vI l3), (4, vI l4)] dX9_movedBy_29 rfl (by decide) rfl ?_
      refine V_iload_n g 3 dX9_movedBy_31 rfl ?_
      refine V_aload_n g 1 dX9_movedBy_32 rfl ?_
      refine V_iload_n g 2 dX9_movedBy_33 rfl ?_
      refine V_aload_n g 1 dX9_movedBy_34 rfl ?_
      refine V_getI g 9 l0 52 rfl (by decide) rfl q_1285 z7 dX9_movedBy_35 ?_
      obtain ⟨s10, x11, hc, hf⟩ := bI_some hf
      refine cV1 g [vI l2, vI (gI s8 9 l0 52)] [vI l3] s10 (vI x11) cf_X9_tierBy (t_X9_tierBy g.2.2.2.2.2.2.1 hc) (RC_own g rfl z7) z7 (by decide) q_1653 (Nat.le_of_ble_eq_true rfl) dX9_movedBy_38 ?_ rfl
      refine V_aload_n g 1 dX9_movedBy_41 rfl ?_
      refine V_getI g 9 l0 51 rfl (by decide) rfl q_1284 z7 dX9_movedBy_42 ?_
      refine V_icmp_ne g 52 dX9_movedBy_45 (by decide) (fun c12 => ?_) (fun c12 => ?_)
      · have hf := it_f hf c12
        refine V_iconst (v := 1) g dX9_movedBy_52 (by decide) ?_
        refine V_sub [(0, vR 9 l0), (2, vI l2), (4, vI l4), (5, vI x9)] [1, 2, 4, 0] rfl ?_
        exact t_X9_movedBy_b53 g f ih hf
      · have hf := it_t hf c12
        refine V_iconst (v := 0) g dX9_movedBy_48 (by decide) ?_
        refine V_goto g 53 dX9_movedBy_49 (by decide) ?_
        refine V_sub [(0, vR 9 l0), (2, vI l2), (4, vI l4), (5, vI x9)] [1, 2, 4, 0] rfl ?_
        exact t_X9_movedBy_b53 g f ih hf
set_option maxRecDepth 20000 in
theorem t_X9_movedBy {G : GT} {l : Launch} (hl : l.stackTraces = false) {fu : Nat} {s s' : St} {a0 : Nat} {a1 : Int32} {a2 : Int32} {w' : Int32} (hf : f_X9_movedBy fu s a0 a1 a2 = some (s', w')) : MetG G l yX9_movedBy (.code yX9_movedBy cX9_movedBy 6 (some .int)) 5 s [vR 9 a0, vI a1, vI a2] (s', .inl (some (vI w'))) := by
  refine MetG_of hl (by decide +kernel) (Nat.le_of_ble_eq_true rfl) (fun E g f eG eL => ?_)
  subst eG; subst eL
  have g : GX E "ThinSeriesModel" cX9_movedBy 6 5 := g
  have f : FX E "movedBy" (some .int) [] := f
  show V E 6 (QE E (s', .inl (some (vI w')))) s 0 [(0, vR 9 a0), (1, vI a1), (2, vI a2)] []
  unfold f_X9_movedBy at hf
  refine V_iconst (v := 0) g dX9_movedBy_0 (by decide) ?_
  refine V_istore_n g [(3, vI 0), (0, vR 9 a0), (1, vI a1), (2, vI a2)] dX9_movedBy_1 rfl (by decide) rfl ?_
  refine V_aload_n g 1 dX9_movedBy_2 rfl ?_
  refine V_iload_n g 2 dX9_movedBy_3 rfl ?_
  obtain ⟨z1, hf⟩ := nz_some hf
  obtain ⟨s2, x3, hc, hf⟩ := bI_some hf
  refine cV1 g [vI a1] [] s2 (vI x3) cf_X9_behindOf (t_X9_behindOf g.2.2.2.2.2.2.1 hc) (RC_own g rfl z1) z1 (by decide) q_1636 (Nat.le_of_ble_eq_true rfl) dX9_movedBy_4 ?_ rfl
  refine V_istore g [(4, vI x3), (3, vI 0), (0, vR 9 a0), (1, vI a1), (2, vI a2)] dX9_movedBy_7 rfl (by decide) rfl ?_
  refine V_aload_n g 2 dX9_movedBy_9 rfl ?_
  refine V_iload_n g 3 dX9_movedBy_10 rfl ?_
  obtain ⟨s4, x5, hc, hf⟩ := bI_some hf
  refine cV1 g [vI a1] [] s4 (vI x5) cf_X9_firstOf (t_X9_firstOf g.2.2.2.2.2.2.1 hc) (RC_own g rfl z1) z1 (by decide) q_1627 (Nat.le_of_ble_eq_true rfl) dX9_movedBy_11 ?_ rfl
  refine V_istore g [(5, vI x5), (4, vI x3), (3, vI 0), (0, vR 9 a0), (1, vI a1), (2, vI a2)] dX9_movedBy_14 rfl (by decide) rfl ?_
  refine V_sub [(0, vR 9 a0), (2, vI a2), (3, vI 0), (4, vI x3), (5, vI x5)] [3, 5, 2, 1, 0] rfl ?_
  exact t_X9_movedBy_b16 g f _ s4 a0 a2 0 x3 x5 hf
set_option maxRecDepth 20000 in
theorem t_X9_would_b25 {E : ET} {fu : Nat} {s' : St} {w' : Int32} (g : GX E "ThinSeriesModel" cX9_would 5 6) (f : FX E "would" (some .int) []) {s : St} {l0 : Nat} (hf : f_X9_would_b25 fu s l0 = some (s', w')) : V E 5 (QE E (s', .inl (some (vI w')))) s 25 [(0, vR 9 l0)] [] := by
  unfold f_X9_would_b25 at hf
  refine V_aload_n g 0 dX9_would_25 rfl ?_
  refine V_iconst (v := 1) g dX9_would_26 (by decide) ?_
  obtain ⟨z30, hf⟩ := nz_some hf
  obtain ⟨s31, x32, hc, hf⟩ := bI_some hf
  refine cV1 g [vI 1] [] s31 (vI x32) cf_X9_fail (t_X9_fail g.2.2.2.2.2.2.1 hc) (RC_own g rfl z30) z30 (by decide) q_1454 (Nat.le_of_ble_eq_true rfl) dX9_would_27 ?_ rfl
  cases hf
  exact V_ireturn g f dX9_would_30
set_option maxRecDepth 20000 in
theorem t_X9_would_b110 {E : ET} {fu : Nat} {s' : St} {w' : Int32} (g : GX E "ThinSeriesModel" cX9_would 5 6) (f : FX E "would" (some .int) []) {s : St} {t0 : Int32} (hf : f_X9_would_b110 fu s t0 = some (s', w')) : V E 5 (QE E (s', .inl (some (vI w')))) s 110 [] [vI t0] := by
  unfold f_X9_would_b110 at hf
  cases hf
  exact V_ireturn g f dX9_would_110
set_option maxRecDepth 20000 in
theorem t_X9_would {G : GT} {l : Launch} (hl : l.stackTraces = false) {fu : Nat} {s s' : St} {a0 : Nat} {a1 : Int32} {a2 : Int32} {a3 : Int32} {w' : Int32} (hf : f_X9_would fu s a0 a1 a2 a3 = some (s', w')) : MetG G l yX9_would (.code yX9_would cX9_would 5 (some .int)) 6 s [vR 9 a0, vI a1, vI a2, vI a3] (s', .inl (some (vI w'))) := by
  refine MetG_of hl (by decide +kernel) (Nat.le_of_ble_eq_true rfl) (fun E g f eG eL => ?_)
  subst eG; subst eL
  have g : GX E "ThinSeriesModel" cX9_would 5 6 := g
  have f : FX E "would" (some .int) [] := f
  show V E 5 (QE E (s', .inl (some (vI w')))) s 0 [(0, vR 9 a0), (1, vI a1), (2, vI a2), (3, vI a3)] []
  unfold f_X9_would at hf
  refine V_aload_n g 0 dX9_would_0 rfl ?_
  refine V_iconst (v := 0) g dX9_would_1 (by decide) ?_
  obtain ⟨z1, hf⟩ := nz_some hf
  obtain ⟨s2, es2, hf⟩ := lt_some hf
  refine V_putI g 9 a0 3 es2 rfl (by decide) rfl q_1236 z1 (Or.inl rfl) pf_9_3 dX9_would_2 ?_
  refine V_aload_n g 0 dX9_would_5 rfl ?_
  refine V_iload_n g 1 dX9_would_6 rfl ?_
  obtain ⟨s3, x4, hc, hf⟩ := bI_some hf
  refine cV1 g [vI a1] [] s3 (vI x4) cf_X9_isSeries (t_X9_isSeries g.2.2.2.2.2.2.1 hc) (RC_own g rfl z1) z1 (by decide) q_1727 (Nat.le_of_ble_eq_true rfl) dX9_would_7 ?_ rfl
  refine V_if_eq g 25 dX9_would_10 (by decide) (fun c5 => ?_) (fun c5 => ?_)
  · have hf := it_t hf c5
    refine V_sub [(0, vR 9 a0)] [0] rfl ?_
    exact t_X9_would_b25 g f hf
  · have hf := it_f hf c5
    refine V_iload_n g 3 dX9_would_13 rfl ?_
    refine V_i2l g dX9_would_14 ?_
    refine V_lconst (v := 0) g dX9_would_15 (by decide) ?_
    refine V_ldc2 (v := 2) g q_1774 dX9_would_16 ?_
    obtain ⟨s6, x7, hc, hf⟩ := bI_some hf
    refine cS1 g [vJ (Int32.toInt64 a3), vJ 0, vJ 2] [] s6 (vI x7) cf_X9_isIn (t_X9_isIn g.2.2.2.2.2.2.1 hc) (by decide) q_1512 (Nat.le_of_ble_eq_true rfl) dX9_would_19 ?_ rfl
    refine V_if_ne g 31 dX9_would_22 (by decide) (fun c8 => ?_) (fun c8 => ?_)
    · have hf := it_f hf c8
      refine V_iload_n g 2 dX9_would_31 rfl ?_
      refine V_i2l g dX9_would_32 ?_
      obtain ⟨s9, x10, hc, hf⟩ := bI_some hf
      refine cS1 g [vJ (Int32.toInt64 a2)] [] s9 (vI x10) cf_X9_isTime (t_X9_isTime g.2.2.2.2.2.2.1 hc) (by decide) q_1571 (Nat.le_of_ble_eq_true rfl) dX9_would_33 ?_ rfl
      refine V_if_ne g 45 dX9_would_36 (by decide) (fun c11 => ?_) (fun c11 => ?_)
      · have hf := it_f hf c11
        refine V_aload_n g 0 dX9_would_45 rfl ?_
        refine V_getR g 9 a0 11 10 rfl (by decide) rfl rfl q_1244 z1 dX9_would_46 ?_
        refine V_iload_n g 1 dX9_would_49 rfl ?_
        obtain ⟨z12, hf⟩ := nz_some hf
        obtain ⟨h13, hf⟩ := ckf hf
        refine V_iald g z12 h13 dX9_would_50 ?_
        refine V_iload_n g 2 dX9_would_51 rfl ?_
        obtain ⟨s14, x15, hc, hf⟩ := bI_some hf
        refine cS1 g [vI (gI s9 10 (gR s9 9 a0 11) (ix a1)), vI a2] [] s14 (vI x15) cf_J9_max_7cf53 (t_J9_max_7cf53 g.2.2.2.2.2.2.1 hc) (by decide) q_1645 (Nat.le_of_ble_eq_true rfl) dX9_would_52 ?_ rfl
        refine V_istore g [(4, vI x15), (0, vR 9 a0), (1, vI a1), (2, vI a2), (3, vI a3)] dX9_would_55 rfl (by decide) rfl ?_
        refine V_iload_n g 4 dX9_would_57 rfl ?_
        refine V_if_ne g 71 dX9_would_58 (by decide) (fun c16 => ?_) (fun c16 => ?_)
        · have hf := it_f hf c16
          refine V_iload_n g 4 dX9_would_71 rfl ?_
          refine V_iconst (v := 1) g dX9_would_72 (by decide) ?_
          refine V_icmp_ne g 103 dX9_would_73 (by decide) (fun c17 => ?_) (fun c17 => ?_)
          · have hf := it_f hf c17
            refine V_aload_n g 1 dX9_would_103 rfl ?_
            refine V_iload_n g 2 dX9_would_104 rfl ?_
            refine V_iload g 0 dX9_would_105 rfl ?_
            obtain ⟨s18, x19, hc, hf⟩ := bI_some hf
            refine cV1 g [vI a1, vI x15] [] s18 (vI x19) cf_X9_movedBy (t_X9_movedBy g.2.2.2.2.2.2.1 hc) (RC_own g rfl z1) z1 (by decide) q_1825 (Nat.le_of_ble_eq_true rfl) dX9_would_107 ?_ rfl
            refine V_sub [] [] rfl ?_
            exact t_X9_would_b110 g f hf
          · have hf := it_t hf c17
            refine V_aload_n g 1 dX9_would_76 rfl ?_
            refine V_iload_n g 2 dX9_would_77 rfl ?_
            refine V_aload_n g 1 dX9_would_78 rfl ?_
            refine V_iload g 0 dX9_would_79 rfl ?_
            refine V_aload_n g 1 dX9_would_81 rfl ?_
            refine V_getI g 9 a0 7 rfl (by decide) rfl q_1240 z1 dX9_would_82 ?_
            refine V_iconst (v := 1) g dX9_would_85 (by decide) ?_
            refine V_isub g dX9_would_86 ?_
            obtain ⟨s20, x21, hc, hf⟩ := bI_some hf
            refine cV1 g [vI x15, vI ((gI s14 9 a0 7) - 1)] [vI a1, vR 9 a0] s20 (vI x21) cf_X9_seamBy (t_X9_seamBy g.2.2.2.2.2.2.1 hc) (RC_own g rfl z1) z1 (by decide) q_1593 (Nat.le_of_ble_eq_true rfl) dX9_would_87 ?_ rfl
            refine V_i2l g dX9_would_90 ?_
            obtain ⟨s22, x23, hc, hf⟩ := bI_some hf
            refine cV1 g [vI a1, vJ (Int32.toInt64 x21)] [] s22 (vI x23) cf_X9_placeOf (t_X9_placeOf g.2.2.2.2.2.2.1 hc) (RC_own g rfl z1) z1 (by decide) q_1632 (Nat.le_of_ble_eq_true rfl) dX9_would_91 ?_ rfl
            refine V_aload_n g 1 dX9_would_94 rfl ?_
            refine V_iload_n g 2 dX9_would_95 rfl ?_
            obtain ⟨s24, x25, hc, hf⟩ := bI_some hf
            refine cV1 g [vI a1] [vI x23] s24 (vI x25) cf_X9_firstOf (t_X9_firstOf g.2.2.2.2.2.2.1 hc) (RC_own g rfl z1) z1 (by decide) q_1627 (Nat.le_of_ble_eq_true rfl) dX9_would_96 ?_ rfl
            refine V_isub g dX9_would_99 ?_
            refine V_goto g 110 dX9_would_100 (by decide) ?_
            refine V_sub [] [] rfl ?_
            exact t_X9_would_b110 g f hf
        · have hf := it_t hf c16
          refine V_aload_n g 1 dX9_would_61 rfl ?_
          refine V_iload_n g 2 dX9_would_62 rfl ?_
          refine V_iload g 0 dX9_would_63 rfl ?_
          obtain ⟨s26, x27, hc, hf⟩ := bI_some hf
          refine cV1 g [vI a1, vI x15] [] s26 (vI x27) cf_X9_bucketsBy (t_X9_bucketsBy g.2.2.2.2.2.2.1 hc) (RC_own g rfl z1) z1 (by decide) q_1821 (Nat.le_of_ble_eq_true rfl) dX9_would_65 ?_ rfl
          refine V_goto g 110 dX9_would_68 (by decide) ?_
          refine V_sub [] [] rfl ?_
          exact t_X9_would_b110 g f hf
      · have hf := it_t hf c11
        refine V_aload_n g 0 dX9_would_39 rfl ?_
        refine V_iconst (v := 2) g dX9_would_40 (by decide) ?_
        obtain ⟨s28, x29, hc, hf⟩ := bI_some hf
        refine cV1 g [vI 2] [] s28 (vI x29) cf_X9_fail (t_X9_fail g.2.2.2.2.2.2.1 hc) (RC_own g rfl z1) z1 (by decide) q_1454 (Nat.le_of_ble_eq_true rfl) dX9_would_41 ?_ rfl
        cases hf
        exact V_ireturn g f dX9_would_44
    · have hf := it_t hf c8
      refine V_sub [(0, vR 9 a0)] [0] rfl ?_
      exact t_X9_would_b25 g f hf
