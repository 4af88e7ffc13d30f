set_option maxRecDepth 20000 in
theorem t_L_alarms {G : GT} {l : Launch} (hl : l.stackTraces = false) {fu : Nat} {s s' : St} {a0 : Nat} {a1 : Int32} {a2 : Int32} {a3 : Nat} {w' : Int32} (hf : f_L_alarms fu s a0 a1 a2 a3 = some (s', w')) : MetG G l yL_alarms (.codeWith yL_alarms cL_alarms 5 (some .int) [(0, 10, 13, 21)]) 8 s [vR 8 a0, vI a1, vI a2, vR 11 a3] (s', .inl (some (vI w'))) := by
  refine MetG_ofW hl (by decide +kernel) (Nat.le_of_ble_eq_true rfl) (fun E g f eG eL => ?_)
  subst eG; subst eL
  have g : GX E "ThinSeriesLaw" cL_alarms 5 8 := g
  have f : FX E "alarms" (some .int) (tableOf [(0, 10, 13, 21)]) := f
  show V E 5 (QE E (s', .inl (some (vI w')))) s 0 [(0, vR 8 a0), (1, vI a1), (2, vI a2), (3, vR 11 a3)] []
  unfold f_L_alarms at hf
  refine V_aload_n g 3 dL_alarms_0 rfl ?_
  refine V_iconst (v := 0) g dL_alarms_1 (by decide) ?_
  refine V_aload_n g 0 dL_alarms_2 rfl ?_
  refine V_iload_n g 1 dL_alarms_3 rfl ?_
  refine V_iload_n g 2 dL_alarms_4 rfl ?_
  obtain ⟨z1, hf⟩ := nz_some hf
  rcases bX_some hf with ⟨s2, e3, hc, hf⟩ | ⟨s2, x4, hc, hf⟩
  · by_cases c5 : e3 = 1
    · subst c5
      have hf := it_t hf rfl
      refine cVX g [vI a1, vI a2] [vI 0, vR 11 a3] s2 "java/util/NoSuchElementException" cf_X8_alarms (t_X8_alarms g.2.2.2.2.2.2.1 hc) (RC_own g rfl z1) z1 (by decide) q_1132 (Nat.le_of_ble_eq_true rfl) dL_alarms_5 ?_ rfl
      refine VX_catch g f (by decide) (by decide) q_962 q_972 (fun q9 => ?_)
      show V E 5 _ s2 13 [(0, vR 8 a0), (1, vI a1), (2, vI a2), (3, vR 11 a3)] [vO (.ref q9)]
      refine V_astoreO g [(4, vO ((.ref q9))), (0, vR 8 a0), (1, vI a1), (2, vI a2), (3, vR 11 a3)] dL_alarms_13 (by decide) rfl ?_
      refine V_iconst (v := 1) g dL_alarms_15 (by decide) ?_
      cases hf
      exact V_ireturn g f dL_alarms_16
    · have hf := it_f hf c5
      exact nomatch hf
  · refine cV1 g [vI a1, vI a2] [vI 0, vR 11 a3] s2 (vI x4) cf_X8_alarms (t_X8_alarms g.2.2.2.2.2.2.1 hc) (RC_own g rfl z1) z1 (by decide) q_1132 (Nat.le_of_ble_eq_true rfl) dL_alarms_5 ?_ rfl
    refine V_i2l g dL_alarms_8 ?_
    obtain ⟨z6, hf⟩ := nz_some hf
    obtain ⟨h7, hf⟩ := ckf hf
    obtain ⟨s8, es8, hf⟩ := lt_some hf
    refine V_last g es8 z6 h7 dL_alarms_9 ?_
    refine V_goto g 17 dL_alarms_10 (by decide) ?_
    refine V_iconst (v := 0) g dL_alarms_17 (by decide) ?_
    cases hf
    exact V_ireturn g f dL_alarms_18
set_option maxRecDepth 20000 in
theorem t_L_at {G : GT} {l : Launch} (hl : l.stackTraces = false) {fu : Nat} {s s' : St} {a0 : Nat} {a1 : Int32} {a2 : Int32} {a3 : Int32} {a4 : Nat} {w' : Int32} (hf : f_L_at fu s a0 a1 a2 a3 a4 = some (s', w')) : MetG G l yL_at (.codeWith yL_at cL_at 6 (some .int) [(0, 12, 15, 21)]) 8 s [vR 8 a0, vI a1, vI a2, vI a3, vR 11 a4] (s', .inl (some (vI w'))) := by
  refine MetG_ofW hl (by decide +kernel) (Nat.le_of_ble_eq_true rfl) (fun E g f eG eL => ?_)
  subst eG; subst eL
  have g : GX E "ThinSeriesLaw" cL_at 6 8 := g
  have f : FX E "at" (some .int) (tableOf [(0, 12, 15, 21)]) := f
  show V E 6 (QE E (s', .inl (some (vI w')))) s 0 [(0, vR 8 a0), (1, vI a1), (2, vI a2), (3, vI a3), (4, vR 11 a4)] []
  unfold f_L_at at hf
  refine V_aload g 4 dL_at_0 rfl ?_
  refine V_iconst (v := 0) g dL_at_2 (by decide) ?_
  refine V_aload_n g 0 dL_at_3 rfl ?_
  refine V_iload_n g 1 dL_at_4 rfl ?_
  refine V_iload_n g 2 dL_at_5 rfl ?_
  refine V_iload_n g 3 dL_at_6 rfl ?_
  obtain ⟨z1, hf⟩ := nz_some hf
  rcases bX_some hf with ⟨s2, e3, hc, hf⟩ | ⟨s2, x4, hc, hf⟩
  · by_cases c5 : e3 = 1
    · subst c5
      have hf := it_t hf rfl
      refine cVX g [vI a1, vI a2, vI a3] [vI 0, vR 11 a4] s2 "java/util/NoSuchElementException" cf_X8_at (t_X8_at g.2.2.2.2.2.2.1 hc) (RC_own g rfl z1) z1 (by decide) q_1075 (Nat.le_of_ble_eq_true rfl) dL_at_7 ?_ rfl
      refine VX_catch g f (by decide) (by decide) q_962 q_972 (fun q9 => ?_)
      show V E 6 _ s2 15 [(0, vR 8 a0), (1, vI a1), (2, vI a2), (3, vI a3), (4, vR 11 a4)] [vO (.ref q9)]
      refine V_astoreO g [(5, vO ((.ref q9))), (0, vR 8 a0), (1, vI a1), (2, vI a2), (3, vI a3), (4, vR 11 a4)] dL_at_15 (by decide) rfl ?_
      refine V_iconst (v := 1) g dL_at_17 (by decide) ?_
      cases hf
      exact V_ireturn g f dL_at_18
    · have hf := it_f hf c5
      exact nomatch hf
  · refine cV1 g [vI a1, vI a2, vI a3] [vI 0, vR 11 a4] s2 (vI x4) cf_X8_at (t_X8_at g.2.2.2.2.2.2.1 hc) (RC_own g rfl z1) z1 (by decide) q_1075 (Nat.le_of_ble_eq_true rfl) dL_at_7 ?_ rfl
    refine V_i2l g dL_at_10 ?_
    obtain ⟨z6, hf⟩ := nz_some hf
    obtain ⟨h7, hf⟩ := ckf hf
    obtain ⟨s8, es8, hf⟩ := lt_some hf
    refine V_last g es8 z6 h7 dL_at_11 ?_
    refine V_goto g 19 dL_at_12 (by decide) ?_
    refine V_iconst (v := 0) g dL_at_19 (by decide) ?_
    cases hf
    exact V_ireturn g f dL_at_20
set_option maxRecDepth 20000 in
theorem t_L_bar {G : GT} {l : Launch} (hl : l.stackTraces = false) {fu : Nat} {s s' : St} {a0 : Nat} {a1 : Int32} {a2 : Int32} {a3 : Int32} {a4 : Int32} {a5 : Nat} {w' : Int32} (hf : f_L_bar fu s a0 a1 a2 a3 a4 a5 = some (s', w')) : MetG G l yL_bar (.codeWith yL_bar cL_bar 7 (some .int) [(0, 13, 16, 21), (0, 13, 20, 13)]) 8 s [vR 8 a0, vI a1, vI a2, vI a3, vI a4, vR 11 a5] (s', .inl (some (vI w'))) := by
  refine MetG_ofW hl (by decide +kernel) (Nat.le_of_ble_eq_true rfl) (fun E g f eG eL => ?_)
  subst eG; subst eL
  have g : GX E "ThinSeriesLaw" cL_bar 7 8 := g
  have f : FX E "bar" (some .int) (tableOf [(0, 13, 16, 21), (0, 13, 20, 13)]) := f
  have hnc := g.2.2.2.2.2.2.2.1.2.2.2.2
  show V E 7 (QE E (s', .inl (some (vI w')))) s 0 [(0, vR 8 a0), (1, vI a1), (2, vI a2), (3, vI a3), (4, vI a4), (5, vR 11 a5)] []
  unfold f_L_bar at hf
  refine V_aload g 5 dL_bar_0 rfl ?_
  refine V_iconst (v := 0) g dL_bar_2 (by decide) ?_
  refine V_aload_n g 0 dL_bar_3 rfl ?_
  refine V_iload_n g 1 dL_bar_4 rfl ?_
  refine V_iload_n g 2 dL_bar_5 rfl ?_
  refine V_iload_n g 3 dL_bar_6 rfl ?_
  refine V_iload g 4 dL_bar_7 rfl ?_
  obtain ⟨z1, hf⟩ := nz_some hf
  rcases bX_some hf with ⟨s2, e3, hc, hf⟩ | ⟨s2, x4, hc, hf⟩
  · by_cases c5 : e3 = 1
    · subst c5
      have hf := it_t hf rfl
      refine cVX g [vI a1, vI a2, vI a3, vI a4] [vI 0, vR 11 a5] s2 "java/util/NoSuchElementException" cf_X8_bar (t_X8_bar g.2.2.2.2.2.2.1 hc) (RC_own g rfl z1) z1 (by decide) q_1118 (Nat.le_of_ble_eq_true rfl) dL_bar_9 ?_ rfl
      refine VX_catch g f (by decide) (by decide) q_962 q_972 (fun q9 => ?_)
      show V E 7 _ s2 16 [(0, vR 8 a0), (1, vI a1), (2, vI a2), (3, vI a3), (4, vI a4), (5, vR 11 a5)] [vO (.ref q9)]
      refine V_astoreO g [(6, vO ((.ref q9))), (0, vR 8 a0), (1, vI a1), (2, vI a2), (3, vI a3), (4, vI a4), (5, vR 11 a5)] dL_bar_16 (by decide) rfl ?_
      refine V_iconst (v := 1) g dL_bar_18 (by decide) ?_
      cases hf
      exact V_ireturn g f dL_bar_19
    · have hf := it_f hf c5
      by_cases c6 : e3 = 2
      · subst c6
        have hf := it_t hf rfl
        refine cVX g [vI a1, vI a2, vI a3, vI a4] [vI 0, vR 11 a5] s2 "java/lang/IllegalArgumentException" cf_X8_bar (t_X8_bar g.2.2.2.2.2.2.1 hc) (RC_own g rfl z1) z1 (by decide) q_1118 (Nat.le_of_ble_eq_true rfl) dL_bar_9 ?_ rfl
        refine VX_catch2 g f (by decide) q_962 hnc (by decide) (by decide) q_611 q_618 (fun q9 => ?_)
        show V E 7 _ s2 20 [(0, vR 8 a0), (1, vI a1), (2, vI a2), (3, vI a3), (4, vI a4), (5, vR 11 a5)] [vO (.ref q9)]
        refine V_astoreO g [(6, vO ((.ref q9))), (0, vR 8 a0), (1, vI a1), (2, vI a2), (3, vI a3), (4, vI a4), (5, vR 11 a5)] dL_bar_20 (by decide) rfl ?_
        refine V_iconst (v := 2) g dL_bar_22 (by decide) ?_
        cases hf
        exact V_ireturn g f dL_bar_23
      · have hf := it_f hf c6
        exact nomatch hf
  · refine cV1 g [vI a1, vI a2, vI a3, vI a4] [vI 0, vR 11 a5] s2 (vJ x4) cf_X8_bar (t_X8_bar g.2.2.2.2.2.2.1 hc) (RC_own g rfl z1) z1 (by decide) q_1118 (Nat.le_of_ble_eq_true rfl) dL_bar_9 ?_ rfl
    obtain ⟨z7, hf⟩ := nz_some hf
    obtain ⟨h8, hf⟩ := ckf hf
    obtain ⟨s9, es9, hf⟩ := lt_some hf
    refine V_last g es9 z7 h8 dL_bar_12 ?_
    refine V_goto g 24 dL_bar_13 (by decide) ?_
    refine V_iconst (v := 0) g dL_bar_24 (by decide) ?_
    cases hf
    exact V_ireturn g f dL_bar_25
set_option maxRecDepth 20000 in
theorem t_L_batch {G : GT} {l : Launch} (hl : l.stackTraces = false) {fu : Nat} {s s' : St} {a0 : Nat} {a1 : Int32} {a2 : Nat} {w' : Int32} (hf : f_L_batch fu s a0 a1 a2 = some (s', w')) : MetG G l yL_batch (.codeWith yL_batch cL_batch 4 (some .int) [(0, 9, 12, 13)]) 9 s [vR 8 a0, vI a1, vR 11 a2] (s', .inl (some (vI w'))) := by
  refine MetG_ofW hl (by decide +kernel) (Nat.le_of_ble_eq_true rfl) (fun E g f eG eL => ?_)
  subst eG; subst eL
  have g : GX E "ThinSeriesLaw" cL_batch 4 9 := g
  have f : FX E "batch" (some .int) (tableOf [(0, 9, 12, 13)]) := f
  show V E 4 (QE E (s', .inl (some (vI w')))) s 0 [(0, vR 8 a0), (1, vI a1), (2, vR 11 a2)] []
  unfold f_L_batch at hf
  refine V_aload_n g 2 dL_batch_0 rfl ?_
  refine V_iconst (v := 0) g dL_batch_1 (by decide) ?_
  refine V_aload_n g 0 dL_batch_2 rfl ?_
  refine V_iload_n g 1 dL_batch_3 rfl ?_
  obtain ⟨z1, hf⟩ := nz_some hf
  rcases bX_some hf with ⟨s2, e3, hc, hf⟩ | ⟨s2, x4, hc, hf⟩
  · by_cases c5 : e3 = 2
    · subst c5
      have hf := it_t hf rfl
      refine cVX g [vI a1] [vI 0, vR 11 a2] s2 "java/lang/IllegalArgumentException" cf_X8_batch (t_X8_batch g.2.2.2.2.2.2.1 hc) (RC_own g rfl z1) z1 (by decide) q_920 (Nat.le_of_ble_eq_true rfl) dL_batch_4 ?_ rfl
      refine VX_catch g f (by decide) (by decide) q_611 q_618 (fun q9 => ?_)
      show V E 4 _ s2 12 [(0, vR 8 a0), (1, vI a1), (2, vR 11 a2)] [vO (.ref q9)]
      refine V_astoreO_n g [(3, vO ((.ref q9))), (0, vR 8 a0), (1, vI a1), (2, vR 11 a2)] dL_batch_12 (by decide) rfl ?_
      refine V_iconst (v := 1) g dL_batch_13 (by decide) ?_
      cases hf
      exact V_ireturn g f dL_batch_14
    · have hf := it_f hf c5
      exact nomatch hf
  · refine cV1 g [vI a1] [vI 0, vR 11 a2] s2 (vI x4) cf_X8_batch (t_X8_batch g.2.2.2.2.2.2.1 hc) (RC_own g rfl z1) z1 (by decide) q_920 (Nat.le_of_ble_eq_true rfl) dL_batch_4 ?_ rfl
    refine V_i2l g dL_batch_7 ?_
    obtain ⟨z6, hf⟩ := nz_some hf
    obtain ⟨h7, hf⟩ := ckf hf
    obtain ⟨s8, es8, hf⟩ := lt_some hf
    refine V_last g es8 z6 h7 dL_batch_8 ?_
    refine V_goto g 15 dL_batch_9 (by decide) ?_
    refine V_iconst (v := 0) g dL_batch_15 (by decide) ?_
    cases hf
    exact V_ireturn g f dL_batch_16
set_option maxRecDepth 20000 in
theorem t_L_both {G : GT} {l : Launch} (hl : l.stackTraces = false) {fu : Nat} {s s' : St} {a0 : Nat} {a1 : Int32} {a2 : Int32} {a3 : Int32} {a4 : Nat} {w' : Int32} (hf : f_L_both fu s a0 a1 a2 a3 a4 = some (s', w')) : MetG G l yL_both (.codeWith yL_both cL_both 6 (some .int) [(0, 12, 15, 21)]) 8 s [vR 8 a0, vI a1, vI a2, vI a3, vR 11 a4] (s', .inl (some (vI w'))) := by
  refine MetG_ofW hl (by decide +kernel) (Nat.le_of_ble_eq_true rfl) (fun E g f eG eL => ?_)
  subst eG; subst eL
  have g : GX E "ThinSeriesLaw" cL_both 6 8 := g
  have f : FX E "both" (some .int) (tableOf [(0, 12, 15, 21)]) := f
  show V E 6 (QE E (s', .inl (some (vI w')))) s 0 [(0, vR 8 a0), (1, vI a1), (2, vI a2), (3, vI a3), (4, vR 11 a4)] []
  unfold f_L_both at hf
  refine V_aload g 4 dL_both_0 rfl ?_
  refine V_iconst (v := 0) g dL_both_2 (by decide) ?_
  refine V_aload_n g 0 dL_both_3 rfl ?_
  refine V_iload_n g 1 dL_both_4 rfl ?_
  refine V_iload_n g 2 dL_both_5 rfl ?_
  refine V_iload_n g 3 dL_both_6 rfl ?_
  obtain ⟨z1, hf⟩ := nz_some hf
  rcases bX_some hf with ⟨s2, e3, hc, hf⟩ | ⟨s2, x4, hc, hf⟩
  · by_cases c5 : e3 = 1
    · subst c5
      have hf := it_t hf rfl
      refine cVX g [vI a1, vI a2, vI a3] [vI 0, vR 11 a4] s2 "java/util/NoSuchElementException" cf_X8_both (t_X8_both g.2.2.2.2.2.2.1 hc) (RC_own g rfl z1) z1 (by decide) q_1198 (Nat.le_of_ble_eq_true rfl) dL_both_7 ?_ rfl
      refine VX_catch g f (by decide) (by decide) q_962 q_972 (fun q9 => ?_)
      show V E 6 _ s2 15 [(0, vR 8 a0), (1, vI a1), (2, vI a2), (3, vI a3), (4, vR 11 a4)] [vO (.ref q9)]
      refine V_astoreO g [(5, vO ((.ref q9))), (0, vR 8 a0), (1, vI a1), (2, vI a2), (3, vI a3), (4, vR 11 a4)] dL_both_15 (by decide) rfl ?_
      refine V_iconst (v := 1) g dL_both_17 (by decide) ?_
      cases hf
      exact V_ireturn g f dL_both_18
    · have hf := it_f hf c5
      exact nomatch hf
  · refine cV1 g [vI a1, vI a2, vI a3] [vI 0, vR 11 a4] s2 (vI x4) cf_X8_both (t_X8_both g.2.2.2.2.2.2.1 hc) (RC_own g rfl z1) z1 (by decide) q_1198 (Nat.le_of_ble_eq_true rfl) dL_both_7 ?_ rfl
    refine V_i2l g dL_both_10 ?_
    obtain ⟨z6, hf⟩ := nz_some hf
    obtain ⟨h7, hf⟩ := ckf hf
    obtain ⟨s8, es8, hf⟩ := lt_some hf
    refine V_last g es8 z6 h7 dL_both_11 ?_
    refine V_goto g 19 dL_both_12 (by decide) ?_
    refine V_iconst (v := 0) g dL_both_19 (by decide) ?_
    cases hf
    exact V_ireturn g f dL_both_20
set_option maxRecDepth 20000 in
theorem t_L_bucket {G : GT} {l : Launch} (hl : l.stackTraces = false) {fu : Nat} {s s' : St} {a0 : Nat} {a1 : Int32} {a2 : Int32} {a3 : Int32} {a4 : Int32} {a5 : Nat} {w' : Int32} (hf : f_L_bucket fu s a0 a1 a2 a3 a4 a5 = some (s', w')) : MetG G l yL_bucket (.codeWith yL_bucket cL_bucket 7 (some .int) [(0, 13, 16, 21)]) 8 s [vR 8 a0, vI a1, vI a2, vI a3, vI a4, vR 11 a5] (s', .inl (some (vI w'))) := by
  refine MetG_ofW hl (by decide +kernel) (Nat.le_of_ble_eq_true rfl) (fun E g f eG eL => ?_)
  subst eG; subst eL
  have g : GX E "ThinSeriesLaw" cL_bucket 7 8 := g
  have f : FX E "bucket" (some .int) (tableOf [(0, 13, 16, 21)]) := f
  show V E 7 (QE E (s', .inl (some (vI w')))) s 0 [(0, vR 8 a0), (1, vI a1), (2, vI a2), (3, vI a3), (4, vI a4), (5, vR 11 a5)] []
  unfold f_L_bucket at hf
  refine V_aload g 5 dL_bucket_0 rfl ?_
  refine V_iconst (v := 0) g dL_bucket_2 (by decide) ?_
  refine V_aload_n g 0 dL_bucket_3 rfl ?_
  refine V_iload_n g 1 dL_bucket_4 rfl ?_
  refine V_iload_n g 2 dL_bucket_5 rfl ?_
  refine V_iload_n g 3 dL_bucket_6 rfl ?_
  refine V_iload g 4 dL_bucket_7 rfl ?_
  obtain ⟨z1, hf⟩ := nz_some hf
  rcases bX_some hf with ⟨s2, e3, hc, hf⟩ | ⟨s2, x4, hc, hf⟩
  · by_cases c5 : e3 = 1
    · subst c5
      have hf := it_t hf rfl
      refine cVX g [vI a1, vI a2, vI a3, vI a4] [vI 0, vR 11 a5] s2 "java/util/NoSuchElementException" cf_X8_bucket (t_X8_bucket g.2.2.2.2.2.2.1 hc) (RC_own g rfl z1) z1 (by decide) q_1053 (Nat.le_of_ble_eq_true rfl) dL_bucket_9 ?_ rfl
      refine VX_catch g f (by decide) (by decide) q_962 q_972 (fun q9 => ?_)
      show V E 7 _ s2 16 [(0, vR 8 a0), (1, vI a1), (2, vI a2), (3, vI a3), (4, vI a4), (5, vR 11 a5)] [vO (.ref q9)]
      refine V_astoreO g [(6, vO ((.ref q9))), (0, vR 8 a0), (1, vI a1), (2, vI a2), (3, vI a3), (4, vI a4), (5, vR 11 a5)] dL_bucket_16 (by decide) rfl ?_
      refine V_iconst (v := 1) g dL_bucket_18 (by decide) ?_
      cases hf
      exact V_ireturn g f dL_bucket_19
    · have hf := it_f hf c5
      exact nomatch hf
  · refine cV1 g [vI a1, vI a2, vI a3, vI a4] [vI 0, vR 11 a5] s2 (vJ x4) cf_X8_bucket (t_X8_bucket g.2.2.2.2.2.2.1 hc) (RC_own g rfl z1) z1 (by decide) q_1053 (Nat.le_of_ble_eq_true rfl) dL_bucket_9 ?_ rfl
    obtain ⟨z6, hf⟩ := nz_some hf
    obtain ⟨h7, hf⟩ := ckf hf
    obtain ⟨s8, es8, hf⟩ := lt_some hf
    refine V_last g es8 z6 h7 dL_bucket_12 ?_
    refine V_goto g 20 dL_bucket_13 (by decide) ?_
    refine V_iconst (v := 0) g dL_bucket_20 (by decide) ?_
    cases hf
    exact V_ireturn g f dL_bucket_21
set_option maxRecDepth 20000 in
theorem t_L_buckets {G : GT} {l : Launch} (hl : l.stackTraces = false) {fu : Nat} {s s' : St} {a0 : Nat} {a1 : Int32} {a2 : Int32} {a3 : Nat} {w' : Int32} (hf : f_L_buckets fu s a0 a1 a2 a3 = some (s', w')) : MetG G l yL_buckets (.codeWith yL_buckets cL_buckets 5 (some .int) [(0, 10, 13, 21)]) 8 s [vR 8 a0, vI a1, vI a2, vR 11 a3] (s', .inl (some (vI w'))) := by
  refine MetG_ofW hl (by decide +kernel) (Nat.le_of_ble_eq_true rfl) (fun E g f eG eL => ?_)
  subst eG; subst eL
  have g : GX E "ThinSeriesLaw" cL_buckets 5 8 := g
  have f : FX E "buckets" (some .int) (tableOf [(0, 10, 13, 21)]) := f
  show V E 5 (QE E (s', .inl (some (vI w')))) s 0 [(0, vR 8 a0), (1, vI a1), (2, vI a2), (3, vR 11 a3)] []
  unfold f_L_buckets at hf
  refine V_aload_n g 3 dL_buckets_0 rfl ?_
  refine V_iconst (v := 0) g dL_buckets_1 (by decide) ?_
  refine V_aload_n g 0 dL_buckets_2 rfl ?_
  refine V_iload_n g 1 dL_buckets_3 rfl ?_
  refine V_iload_n g 2 dL_buckets_4 rfl ?_
  obtain ⟨z1, hf⟩ := nz_some hf
  rcases bX_some hf with ⟨s2, e3, hc, hf⟩ | ⟨s2, x4, hc, hf⟩
  · by_cases c5 : e3 = 1
    · subst c5
      have hf := it_t hf rfl
      refine cVX g [vI a1, vI a2] [vI 0, vR 11 a3] s2 "java/util/NoSuchElementException" cf_X8_buckets (t_X8_buckets g.2.2.2.2.2.2.1 hc) (RC_own g rfl z1) z1 (by decide) q_1038 (Nat.le_of_ble_eq_true rfl) dL_buckets_5 ?_ rfl
      refine VX_catch g f (by decide) (by decide) q_962 q_972 (fun q9 => ?_)
      show V E 5 _ s2 13 [(0, vR 8 a0), (1, vI a1), (2, vI a2), (3, vR 11 a3)] [vO (.ref q9)]
      refine V_astoreO g [(4, vO ((.ref q9))), (0, vR 8 a0), (1, vI a1), (2, vI a2), (3, vR 11 a3)] dL_buckets_13 (by decide) rfl ?_
      refine V_iconst (v := 1) g dL_buckets_15 (by decide) ?_
      cases hf
      exact V_ireturn g f dL_buckets_16
    · have hf := it_f hf c5
      exact nomatch hf
  · refine cV1 g [vI a1, vI a2] [vI 0, vR 11 a3] s2 (vI x4) cf_X8_buckets (t_X8_buckets g.2.2.2.2.2.2.1 hc) (RC_own g rfl z1) z1 (by decide) q_1038 (Nat.le_of_ble_eq_true rfl) dL_buckets_5 ?_ rfl
    refine V_i2l g dL_buckets_8 ?_
    obtain ⟨z6, hf⟩ := nz_some hf
    obtain ⟨h7, hf⟩ := ckf hf
    obtain ⟨s8, es8, hf⟩ := lt_some hf
    refine V_last g es8 z6 h7 dL_buckets_9 ?_
    refine V_goto g 17 dL_buckets_10 (by decide) ?_
    refine V_iconst (v := 0) g dL_buckets_17 (by decide) ?_
    cases hf
    exact V_ireturn g f dL_buckets_18
set_option maxRecDepth 20000 in
theorem t_L_count {G : GT} {l : Launch} (hl : l.stackTraces = false) {fu : Nat} {s s' : St} {a0 : Nat} {a1 : Int32} {a2 : Nat} {w' : Int32} (hf : f_L_count fu s a0 a1 a2 = some (s', w')) : MetG G l yL_count (.codeWith yL_count cL_count 4 (some .int) [(0, 9, 12, 21)]) 7 s [vR 8 a0, vI a1, vR 11 a2] (s', .inl (some (vI w'))) := by
  refine MetG_ofW hl (by decide +kernel) (Nat.le_of_ble_eq_true rfl) (fun E g f eG eL => ?_)
  subst eG; subst eL
  have g : GX E "ThinSeriesLaw" cL_count 4 7 := g
  have f : FX E "count" (some .int) (tableOf [(0, 9, 12, 21)]) := f
  show V E 4 (QE E (s', .inl (some (vI w')))) s 0 [(0, vR 8 a0), (1, vI a1), (2, vR 11 a2)] []
  unfold f_L_count at hf
  refine V_aload_n g 2 dL_count_0 rfl ?_
  refine V_iconst (v := 0) g dL_count_1 (by decide) ?_
  refine V_aload_n g 0 dL_count_2 rfl ?_
  refine V_iload_n g 1 dL_count_3 rfl ?_
  obtain ⟨z1, hf⟩ := nz_some hf
  rcases bX_some hf with ⟨s2, e3, hc, hf⟩ | ⟨s2, x4, hc, hf⟩
  · by_cases c5 : e3 = 1
    · subst c5
      have hf := it_t hf rfl
      refine cVX g [vI a1] [vI 0, vR 11 a2] s2 "java/util/NoSuchElementException" cf_X8_count (t_X8_count g.2.2.2.2.2.2.1 hc) (RC_own g rfl z1) z1 (by decide) q_989 (Nat.le_of_ble_eq_true rfl) dL_count_4 ?_ rfl
      refine VX_catch g f (by decide) (by decide) q_962 q_972 (fun q9 => ?_)
      show V E 4 _ s2 12 [(0, vR 8 a0), (1, vI a1), (2, vR 11 a2)] [vO (.ref q9)]
      refine V_astoreO_n g [(3, vO ((.ref q9))), (0, vR 8 a0), (1, vI a1), (2, vR 11 a2)] dL_count_12 (by decide) rfl ?_
      refine V_iconst (v := 1) g dL_count_13 (by decide) ?_
      cases hf
      exact V_ireturn g f dL_count_14
    · have hf := it_f hf c5
      exact nomatch hf
  · refine cV1 g [vI a1] [vI 0, vR 11 a2] s2 (vI x4) cf_X8_count (t_X8_count g.2.2.2.2.2.2.1 hc) (RC_own g rfl z1) z1 (by decide) q_989 (Nat.le_of_ble_eq_true rfl) dL_count_4 ?_ rfl
    refine V_i2l g dL_count_7 ?_
    obtain ⟨z6, hf⟩ := nz_some hf
    obtain ⟨h7, hf⟩ := ckf hf
    obtain ⟨s8, es8, hf⟩ := lt_some hf
    refine V_last g es8 z6 h7 dL_count_8 ?_
    refine V_goto g 15 dL_count_9 (by decide) ?_
    refine V_iconst (v := 0) g dL_count_15 (by decide) ?_
    cases hf
    exact V_ireturn g f dL_count_16
set_option maxRecDepth 20000 in
theorem t_L_gap {G : GT} {l : Launch} (hl : l.stackTraces = false) {fu : Nat} {s s' : St} {a0 : Nat} {a1 : Int32} {a2 : Int32} {a3 : Int32} {a4 : Int32} {a5 : Nat} {w' : Int32} (hf : f_L_gap fu s a0 a1 a2 a3 a4 a5 = some (s', w')) : MetG G l yL_gap (.codeWith yL_gap cL_gap 7 (some .int) [(0, 14, 17, 21)]) 8 s [vR 8 a0, vI a1, vI a2, vI a3, vI a4, vR 11 a5] (s', .inl (some (vI w'))) := by
  refine MetG_ofW hl (by decide +kernel) (Nat.le_of_ble_eq_true rfl) (fun E g f eG eL => ?_)
  subst eG; subst eL
  have g : GX E "ThinSeriesLaw" cL_gap 7 8 := g
  have f : FX E "gap" (some .int) (tableOf [(0, 14, 17, 21)]) := f
  show V E 7 (QE E (s', .inl (some (vI w')))) s 0 [(0, vR 8 a0), (1, vI a1), (2, vI a2), (3, vI a3), (4, vI a4), (5, vR 11 a5)] []
  unfold f_L_gap at hf
  refine V_aload g 5 dL_gap_0 rfl ?_
  refine V_iconst (v := 0) g dL_gap_2 (by decide) ?_
  refine V_aload_n g 0 dL_gap_3 rfl ?_
  refine V_iload_n g 1 dL_gap_4 rfl ?_
  refine V_iload_n g 2 dL_gap_5 rfl ?_
  refine V_iload_n g 3 dL_gap_6 rfl ?_
  refine V_iload g 4 dL_gap_7 rfl ?_
  obtain ⟨z1, hf⟩ := nz_some hf
  rcases bX_some hf with ⟨s2, e3, hc, hf⟩ | ⟨s2, x4, hc, hf⟩
  · by_cases c5 : e3 = 1
    · subst c5
      have hf := it_t hf rfl
      refine cVX g [vI a1, vI a2, vI a3, vI a4] [vI 0, vR 11 a5] s2 "java/util/NoSuchElementException" cf_X8_gap (t_X8_gap g.2.2.2.2.2.2.1 hc) (RC_own g rfl z1) z1 (by decide) q_1109 (Nat.le_of_ble_eq_true rfl) dL_gap_9 ?_ rfl
      refine VX_catch g f (by decide) (by decide) q_962 q_972 (fun q9 => ?_)
      show V E 7 _ s2 17 [(0, vR 8 a0), (1, vI a1), (2, vI a2), (3, vI a3), (4, vI a4), (5, vR 11 a5)] [vO (.ref q9)]
      refine V_astoreO g [(6, vO ((.ref q9))), (0, vR 8 a0), (1, vI a1), (2, vI a2), (3, vI a3), (4, vI a4), (5, vR 11 a5)] dL_gap_17 (by decide) rfl ?_
      refine V_iconst (v := 1) g dL_gap_19 (by decide) ?_
      cases hf
      exact V_ireturn g f dL_gap_20
    · have hf := it_f hf c5
      exact nomatch hf
  · refine cV1 g [vI a1, vI a2, vI a3, vI a4] [vI 0, vR 11 a5] s2 (vI x4) cf_X8_gap (t_X8_gap g.2.2.2.2.2.2.1 hc) (RC_own g rfl z1) z1 (by decide) q_1109 (Nat.le_of_ble_eq_true rfl) dL_gap_9 ?_ rfl
    refine V_i2l g dL_gap_12 ?_
    obtain ⟨z6, hf⟩ := nz_some hf
    obtain ⟨h7, hf⟩ := ckf hf
    obtain ⟨s8, es8, hf⟩ := lt_some hf
    refine V_last g es8 z6 h7 dL_gap_13 ?_
    refine V_goto g 21 dL_gap_14 (by decide) ?_
    refine V_iconst (v := 0) g dL_gap_21 (by decide) ?_
    cases hf
    exact V_ireturn g f dL_gap_22
set_option maxRecDepth 20000 in
theorem t_L_of {G : GT} {l : Launch} (hl : l.stackTraces = false) {fu : Nat} {s s' : St} {a0 : Nat} {a1 : Int32} {a2 : Int32} {a3 : Nat} {w' : Int32} (hf : f_L_of fu s a0 a1 a2 a3 = some (s', w')) : MetG G l yL_of (.codeWith yL_of cL_of 5 (some .int) [(0, 9, 12, 21)]) 8 s [vR 8 a0, vI a1, vI a2, vR 11 a3] (s', .inl (some (vI w'))) := by
  refine MetG_ofW hl (by decide +kernel) (Nat.le_of_ble_eq_true rfl) (fun E g f eG eL => ?_)
  subst eG; subst eL
  have g : GX E "ThinSeriesLaw" cL_of 5 8 := g
  have f : FX E "of" (some .int) (tableOf [(0, 9, 12, 21)]) := f
  show V E 5 (QE E (s', .inl (some (vI w')))) s 0 [(0, vR 8 a0), (1, vI a1), (2, vI a2), (3, vR 11 a3)] []
  unfold f_L_of at hf
  refine V_aload_n g 3 dL_of_0 rfl ?_
  refine V_iconst (v := 0) g dL_of_1 (by decide) ?_
  refine V_aload_n g 0 dL_of_2 rfl ?_
  refine V_iload_n g 1 dL_of_3 rfl ?_
  refine V_iload_n g 2 dL_of_4 rfl ?_
  obtain ⟨z1, hf⟩ := nz_some hf
  rcases bX_some hf with ⟨s2, e3, hc, hf⟩ | ⟨s2, x4, hc, hf⟩
  · by_cases c5 : e3 = 1
    · subst c5
      have hf := it_t hf rfl
      refine cVX g [vI a1, vI a2] [vI 0, vR 11 a3] s2 "java/util/NoSuchElementException" cf_X8_of (t_X8_of g.2.2.2.2.2.2.1 hc) (RC_own g rfl z1) z1 (by decide) q_1020 (Nat.le_of_ble_eq_true rfl) dL_of_5 ?_ rfl
      refine VX_catch g f (by decide) (by decide) q_962 q_972 (fun q9 => ?_)
      show V E 5 _ s2 12 [(0, vR 8 a0), (1, vI a1), (2, vI a2), (3, vR 11 a3)] [vO (.ref q9)]
      refine V_astoreO g [(4, vO ((.ref q9))), (0, vR 8 a0), (1, vI a1), (2, vI a2), (3, vR 11 a3)] dL_of_12 (by decide) rfl ?_
      refine V_iconst (v := 1) g dL_of_14 (by decide) ?_
      cases hf
      exact V_ireturn g f dL_of_15
    · have hf := it_f hf c5
      exact nomatch hf
  · refine cV1 g [vI a1, vI a2] [vI 0, vR 11 a3] s2 (vJ x4) cf_X8_of (t_X8_of g.2.2.2.2.2.2.1 hc) (RC_own g rfl z1) z1 (by decide) q_1020 (Nat.le_of_ble_eq_true rfl) dL_of_5 ?_ rfl
    obtain ⟨z6, hf⟩ := nz_some hf
    obtain ⟨h7, hf⟩ := ckf hf
    obtain ⟨s8, es8, hf⟩ := lt_some hf
    refine V_last g es8 z6 h7 dL_of_8 ?_
    refine V_goto g 16 dL_of_9 (by decide) ?_
    refine V_iconst (v := 0) g dL_of_16 (by decide) ?_
    cases hf
    exact V_ireturn g f dL_of_17
set_option maxRecDepth 20000 in
theorem t_L_seam {G : GT} {l : Launch} (hl : l.stackTraces = false) {fu : Nat} {s s' : St} {a0 : Nat} {a1 : Int32} {a2 : Int32} {a3 : Nat} {w' : Int32} (hf : f_L_seam fu s a0 a1 a2 a3 = some (s', w')) : MetG G l yL_seam (.codeWith yL_seam cL_seam 5 (some .int) [(0, 10, 13, 21)]) 8 s [vR 8 a0, vI a1, vI a2, vR 11 a3] (s', .inl (some (vI w'))) := by
  refine MetG_ofW hl (by decide +kernel) (Nat.le_of_ble_eq_true rfl) (fun E g f eG eL => ?_)
  subst eG; subst eL
  have g : GX E "ThinSeriesLaw" cL_seam 5 8 := g
  have f : FX E "seam" (some .int) (tableOf [(0, 10, 13, 21)]) := f
  show V E 5 (QE E (s', .inl (some (vI w')))) s 0 [(0, vR 8 a0), (1, vI a1), (2, vI a2), (3, vR 11 a3)] []
  unfold f_L_seam at hf
  refine V_aload_n g 3 dL_seam_0 rfl ?_
  refine V_iconst (v := 0) g dL_seam_1 (by decide) ?_
  refine V_aload_n g 0 dL_seam_2 rfl ?_
  refine V_iload_n g 1 dL_seam_3 rfl ?_
  refine V_iload_n g 2 dL_seam_4 rfl ?_
  obtain ⟨z1, hf⟩ := nz_some hf
  rcases bX_some hf with ⟨s2, e3, hc, hf⟩ | ⟨s2, x4, hc, hf⟩
  · by_cases c5 : e3 = 1
    · subst c5
      have hf := it_t hf rfl
      refine cVX g [vI a1, vI a2] [vI 0, vR 11 a3] s2 "java/util/NoSuchElementException" cf_X8_seam (t_X8_seam g.2.2.2.2.2.2.1 hc) (RC_own g rfl z1) z1 (by decide) q_1031 (Nat.le_of_ble_eq_true rfl) dL_seam_5 ?_ rfl
      refine VX_catch g f (by decide) (by decide) q_962 q_972 (fun q9 => ?_)
      show V E 5 _ s2 13 [(0, vR 8 a0), (1, vI a1), (2, vI a2), (3, vR 11 a3)] [vO (.ref q9)]
      refine V_astoreO g [(4, vO ((.ref q9))), (0, vR 8 a0), (1, vI a1), (2, vI a2), (3, vR 11 a3)] dL_seam_13 (by decide) rfl ?_
      refine V_iconst (v := 1) g dL_seam_15 (by decide) ?_
      cases hf
      exact V_ireturn g f dL_seam_16
    · have hf := it_f hf c5
      exact nomatch hf
  · refine cV1 g [vI a1, vI a2] [vI 0, vR 11 a3] s2 (vI x4) cf_X8_seam (t_X8_seam g.2.2.2.2.2.2.1 hc) (RC_own g rfl z1) z1 (by decide) q_1031 (Nat.le_of_ble_eq_true rfl) dL_seam_5 ?_ rfl
    refine V_i2l g dL_seam_8 ?_
    obtain ⟨z6, hf⟩ := nz_some hf
    obtain ⟨h7, hf⟩ := ckf hf
    obtain ⟨s8, es8, hf⟩ := lt_some hf
    refine V_last g es8 z6 h7 dL_seam_9 ?_
    refine V_goto g 17 dL_seam_10 (by decide) ?_
    refine V_iconst (v := 0) g dL_seam_17 (by decide) ?_
    cases hf
    exact V_ireturn g f dL_seam_18
set_option maxRecDepth 20000 in
theorem t_L_tell {G : GT} {l : Launch} (hl : l.stackTraces = false) {fu : Nat} {s s' : St} {a0 : Nat} {a1 : Int32} {a2 : Nat} {w' : Int32} (hf : f_L_tell fu s a0 a1 a2 = some (s', w')) : MetG G l yL_tell (.codeWith yL_tell cL_tell 4 (some .int) [(0, 9, 12, 13)]) 50 s [vR 8 a0, vI a1, vR 11 a2] (s', .inl (some (vI w'))) := by
  refine MetG_ofW hl (by decide +kernel) (Nat.le_of_ble_eq_true rfl) (fun E g f eG eL => ?_)
  subst eG; subst eL
  have g : GX E "ThinSeriesLaw" cL_tell 4 50 := g
  have f : FX E "tell" (some .int) (tableOf [(0, 9, 12, 13)]) := f
  show V E 4 (QE E (s', .inl (some (vI w')))) s 0 [(0, vR 8 a0), (1, vI a1), (2, vR 11 a2)] []
  unfold f_L_tell at hf
  refine V_aload_n g 2 dL_tell_0 rfl ?_
  refine V_iconst (v := 0) g dL_tell_1 (by decide) ?_
  refine V_aload_n g 0 dL_tell_2 rfl ?_
  refine V_iload_n g 1 dL_tell_3 rfl ?_
  obtain ⟨z1, hf⟩ := nz_some hf
  rcases bX_some hf with ⟨s2, e3, hc, hf⟩ | ⟨s2, x4, hc, hf⟩
  · by_cases c5 : e3 = 2
    · subst c5
      have hf := it_t hf rfl
      refine cVX g [vI a1] [vI 0, vR 11 a2] s2 "java/lang/IllegalArgumentException" cf_X8_tell (t_X8_tell g.2.2.2.2.2.2.1 hc) (RC_own g rfl z1) z1 (by decide) q_612 (Nat.le_of_ble_eq_true rfl) dL_tell_4 ?_ rfl
      refine VX_catch g f (by decide) (by decide) q_611 q_618 (fun q9 => ?_)
      show V E 4 _ s2 12 [(0, vR 8 a0), (1, vI a1), (2, vR 11 a2)] [vO (.ref q9)]
      refine V_astoreO_n g [(3, vO ((.ref q9))), (0, vR 8 a0), (1, vI a1), (2, vR 11 a2)] dL_tell_12 (by decide) rfl ?_
      refine V_iconst (v := 1) g dL_tell_13 (by decide) ?_
      cases hf
      exact V_ireturn g f dL_tell_14
    · have hf := it_f hf c5
      exact nomatch hf
  · refine cV1 g [vI a1] [vI 0, vR 11 a2] s2 (vI x4) cf_X8_tell (t_X8_tell g.2.2.2.2.2.2.1 hc) (RC_own g rfl z1) z1 (by decide) q_612 (Nat.le_of_ble_eq_true rfl) dL_tell_4 ?_ rfl
    refine V_i2l g dL_tell_7 ?_
    obtain ⟨z6, hf⟩ := nz_some hf
    obtain ⟨h7, hf⟩ := ckf hf
    obtain ⟨s8, es8, hf⟩ := lt_some hf
    refine V_last g es8 z6 h7 dL_tell_8 ?_
    refine V_goto g 15 dL_tell_9 (by decide) ?_
    refine V_iconst (v := 0) g dL_tell_15 (by decide) ?_
    cases hf
    exact V_ireturn g f dL_tell_16
set_option maxRecDepth 20000 in
theorem t_L_tier {G : GT} {l : Launch} (hl : l.stackTraces = false) {fu : Nat} {s s' : St} {a0 : Nat} {a1 : Int32} {a2 : Int32} {a3 : Nat} {w' : Int32} (hf : f_L_tier fu s a0 a1 a2 a3 = some (s', w')) : MetG G l yL_tier (.codeWith yL_tier cL_tier 5 (some .int) [(0, 10, 13, 21)]) 8 s [vR 8 a0, vI a1, vI a2, vR 11 a3] (s', .inl (some (vI w'))) := by
  refine MetG_ofW hl (by decide +kernel) (Nat.le_of_ble_eq_true rfl) (fun E g f eG eL => ?_)
  subst eG; subst eL
  have g : GX E "ThinSeriesLaw" cL_tier 5 8 := g
  have f : FX E "tier" (some .int) (tableOf [(0, 10, 13, 21)]) := f
  show V E 5 (QE E (s', .inl (some (vI w')))) s 0 [(0, vR 8 a0), (1, vI a1), (2, vI a2), (3, vR 11 a3)] []
  unfold f_L_tier at hf
  refine V_aload_n g 3 dL_tier_0 rfl ?_
  refine V_iconst (v := 0) g dL_tier_1 (by decide) ?_
  refine V_aload_n g 0 dL_tier_2 rfl ?_
  refine V_iload_n g 1 dL_tier_3 rfl ?_
  refine V_iload_n g 2 dL_tier_4 rfl ?_
  obtain ⟨z1, hf⟩ := nz_some hf
  rcases bX_some hf with ⟨s2, e3, hc, hf⟩ | ⟨s2, x4, hc, hf⟩
  · by_cases c5 : e3 = 1
    · subst c5
      have hf := it_t hf rfl
      refine cVX g [vI a1, vI a2] [vI 0, vR 11 a3] s2 "java/util/NoSuchElementException" cf_X8_tier (t_X8_tier g.2.2.2.2.2.2.1 hc) (RC_own g rfl z1) z1 (by decide) q_1000 (Nat.le_of_ble_eq_true rfl) dL_tier_5 ?_ rfl
      refine VX_catch g f (by decide) (by decide) q_962 q_972 (fun q9 => ?_)
      show V E 5 _ s2 13 [(0, vR 8 a0), (1, vI a1), (2, vI a2), (3, vR 11 a3)] [vO (.ref q9)]
      refine V_astoreO g [(4, vO ((.ref q9))), (0, vR 8 a0), (1, vI a1), (2, vI a2), (3, vR 11 a3)] dL_tier_13 (by decide) rfl ?_
      refine V_iconst (v := 1) g dL_tier_15 (by decide) ?_
      cases hf
      exact V_ireturn g f dL_tier_16
    · have hf := it_f hf c5
      exact nomatch hf
  · refine cV1 g [vI a1, vI a2] [vI 0, vR 11 a3] s2 (vI x4) cf_X8_tier (t_X8_tier g.2.2.2.2.2.2.1 hc) (RC_own g rfl z1) z1 (by decide) q_1000 (Nat.le_of_ble_eq_true rfl) dL_tier_5 ?_ rfl
    refine V_i2l g dL_tier_8 ?_
    obtain ⟨z6, hf⟩ := nz_some hf
    obtain ⟨h7, hf⟩ := ckf hf
    obtain ⟨s8, es8, hf⟩ := lt_some hf
    refine V_last g es8 z6 h7 dL_tier_9 ?_
    refine V_goto g 17 dL_tier_10 (by decide) ?_
    refine V_iconst (v := 0) g dL_tier_17 (by decide) ?_
    cases hf
    exact V_ireturn g f dL_tier_18
set_option maxRecDepth 20000 in
theorem t_L_total {G : GT} {l : Launch} (hl : l.stackTraces = false) {fu : Nat} {s s' : St} {a0 : Nat} {a1 : Int32} {a2 : Int32} {a3 : Int32} {a4 : Int32} {a5 : Nat} {w' : Int32} (hf : f_L_total fu s a0 a1 a2 a3 a4 a5 = some (s', w')) : MetG G l yL_total (.codeWith yL_total cL_total 7 (some .int) [(0, 13, 16, 21), (0, 13, 20, 13)]) 8 s [vR 8 a0, vI a1, vI a2, vI a3, vI a4, vR 11 a5] (s', .inl (some (vI w'))) := by
  refine MetG_ofW hl (by decide +kernel) (Nat.le_of_ble_eq_true rfl) (fun E g f eG eL => ?_)
  subst eG; subst eL
  have g : GX E "ThinSeriesLaw" cL_total 7 8 := g
  have f : FX E "total" (some .int) (tableOf [(0, 13, 16, 21), (0, 13, 20, 13)]) := f
  have hnc := g.2.2.2.2.2.2.2.1.2.2.2.2
  show V E 7 (QE E (s', .inl (some (vI w')))) s 0 [(0, vR 8 a0), (1, vI a1), (2, vI a2), (3, vI a3), (4, vI a4), (5, vR 11 a5)] []
  unfold f_L_total at hf
  refine V_aload g 5 dL_total_0 rfl ?_
  refine V_iconst (v := 0) g dL_total_2 (by decide) ?_
  refine V_aload_n g 0 dL_total_3 rfl ?_
  refine V_iload_n g 1 dL_total_4 rfl ?_
  refine V_iload_n g 2 dL_total_5 rfl ?_
  refine V_iload_n g 3 dL_total_6 rfl ?_
  refine V_iload g 4 dL_total_7 rfl ?_
  obtain ⟨z1, hf⟩ := nz_some hf
  rcases bX_some hf with ⟨s2, e3, hc, hf⟩ | ⟨s2, x4, hc, hf⟩
  · by_cases c5 : e3 = 1
    · subst c5
      have hf := it_t hf rfl
      refine cVX g [vI a1, vI a2, vI a3, vI a4] [vI 0, vR 11 a5] s2 "java/util/NoSuchElementException" cf_X8_total (t_X8_total g.2.2.2.2.2.2.1 hc) (RC_own g rfl z1) z1 (by decide) q_1088 (Nat.le_of_ble_eq_true rfl) dL_total_9 ?_ rfl
      refine VX_catch g f (by decide) (by decide) q_962 q_972 (fun q9 => ?_)
      show V E 7 _ s2 16 [(0, vR 8 a0), (1, vI a1), (2, vI a2), (3, vI a3), (4, vI a4), (5, vR 11 a5)] [vO (.ref q9)]
      refine V_astoreO g [(6, vO ((.ref q9))), (0, vR 8 a0), (1, vI a1), (2, vI a2), (3, vI a3), (4, vI a4), (5, vR 11 a5)] dL_total_16 (by decide) rfl ?_
      refine V_iconst (v := 1) g dL_total_18 (by decide) ?_
      cases hf
      exact V_ireturn g f dL_total_19
    · have hf := it_f hf c5
      by_cases c6 : e3 = 2
      · subst c6
        have hf := it_t hf rfl
        refine cVX g [vI a1, vI a2, vI a3, vI a4] [vI 0, vR 11 a5] s2 "java/lang/IllegalArgumentException" cf_X8_total (t_X8_total g.2.2.2.2.2.2.1 hc) (RC_own g rfl z1) z1 (by decide) q_1088 (Nat.le_of_ble_eq_true rfl) dL_total_9 ?_ rfl
        refine VX_catch2 g f (by decide) q_962 hnc (by decide) (by decide) q_611 q_618 (fun q9 => ?_)
        show V E 7 _ s2 20 [(0, vR 8 a0), (1, vI a1), (2, vI a2), (3, vI a3), (4, vI a4), (5, vR 11 a5)] [vO (.ref q9)]
        refine V_astoreO g [(6, vO ((.ref q9))), (0, vR 8 a0), (1, vI a1), (2, vI a2), (3, vI a3), (4, vI a4), (5, vR 11 a5)] dL_total_20 (by decide) rfl ?_
        refine V_iconst (v := 2) g dL_total_22 (by decide) ?_
        cases hf
        exact V_ireturn g f dL_total_23
      · have hf := it_f hf c6
        exact nomatch hf
  · refine cV1 g [vI a1, vI a2, vI a3, vI a4] [vI 0, vR 11 a5] s2 (vJ x4) cf_X8_total (t_X8_total g.2.2.2.2.2.2.1 hc) (RC_own g rfl z1) z1 (by decide) q_1088 (Nat.le_of_ble_eq_true rfl) dL_total_9 ?_ rfl
    obtain ⟨z7, hf⟩ := nz_some hf
    obtain ⟨h8, hf⟩ := ckf hf
    obtain ⟨s9, es9, hf⟩ := lt_some hf
    refine V_last g es9 z7 h8 dL_total_12 ?_
    refine V_goto g 24 dL_total_13 (by decide) ?_
    refine V_iconst (v := 0) g dL_total_24 (by decide) ?_
    cases hf
    exact V_ireturn g f dL_total_25
set_option maxRecDepth 20000 in
theorem t_L_trend {G : GT} {l : Launch} (hl : l.stackTraces = false) {fu : Nat} {s s' : St} {a0 : Nat} {a1 : Int32} {a2 : Int32} {a3 : Int32} {a4 : Nat} {w' : Int32} (hf : f_L_trend fu s a0 a1 a2 a3 a4 = some (s', w')) : MetG G l yL_trend (.codeWith yL_trend cL_trend 6 (some .int) [(0, 11, 14, 21)]) 8 s [vR 8 a0, vI a1, vI a2, vI a3, vR 11 a4] (s', .inl (some (vI w'))) := by
  refine MetG_ofW hl (by decide +kernel) (Nat.le_of_ble_eq_true rfl) (fun E g f eG eL => ?_)
  subst eG; subst eL
  have g : GX E "ThinSeriesLaw" cL_trend 6 8 := g
  have f : FX E "trend" (some .int) (tableOf [(0, 11, 14, 21)]) := f
  show V E 6 (QE E (s', .inl (some (vI w')))) s 0 [(0, vR 8 a0), (1, vI a1), (2, vI a2), (3, vI a3), (4, vR 11 a4)] []
  unfold f_L_trend at hf
  refine V_aload g 4 dL_trend_0 rfl ?_
  refine V_iconst (v := 0) g dL_trend_2 (by decide) ?_
  refine V_aload_n g 0 dL_trend_3 rfl ?_
  refine V_iload_n g 1 dL_trend_4 rfl ?_
  refine V_iload_n g 2 dL_trend_5 rfl ?_
  refine V_iload_n g 3 dL_trend_6 rfl ?_
  obtain ⟨z1, hf⟩ := nz_some hf
  rcases bX_some hf with ⟨s2, e3, hc, hf⟩ | ⟨s2, x4, hc, hf⟩
  · by_cases c5 : e3 = 1
    · subst c5
      have hf := it_t hf rfl
      refine cVX g [vI a1, vI a2, vI a3] [vI 0, vR 11 a4] s2 "java/util/NoSuchElementException" cf_X8_trend (t_X8_trend g.2.2.2.2.2.2.1 hc) (RC_own g rfl z1) z1 (by decide) q_1185 (Nat.le_of_ble_eq_true rfl) dL_trend_7 ?_ rfl
      refine VX_catch g f (by decide) (by decide) q_962 q_972 (fun q9 => ?_)
      show V E 6 _ s2 14 [(0, vR 8 a0), (1, vI a1), (2, vI a2), (3, vI a3), (4, vR 11 a4)] [vO (.ref q9)]
      refine V_astoreO g [(5, vO ((.ref q9))), (0, vR 8 a0), (1, vI a1), (2, vI a2), (3, vI a3), (4, vR 11 a4)] dL_trend_14 (by decide) rfl ?_
      refine V_iconst (v := 1) g dL_trend_16 (by decide) ?_
      cases hf
      exact V_ireturn g f dL_trend_17
    · have hf := it_f hf c5
      exact nomatch hf
  · refine cV1 g [vI a1, vI a2, vI a3] [vI 0, vR 11 a4] s2 (vJ x4) cf_X8_trend (t_X8_trend g.2.2.2.2.2.2.1 hc) (RC_own g rfl z1) z1 (by decide) q_1185 (Nat.le_of_ble_eq_true rfl) dL_trend_7 ?_ rfl
    obtain ⟨z6, hf⟩ := nz_some hf
    obtain ⟨h7, hf⟩ := ckf hf
    obtain ⟨s8, es8, hf⟩ := lt_some hf
    refine V_last g es8 z6 h7 dL_trend_10 ?_
    refine V_goto g 18 dL_trend_11 (by decide) ?_
    refine V_iconst (v := 0) g dL_trend_18 (by decide) ?_
    cases hf
    exact V_ireturn g f dL_trend_19
set_option maxRecDepth 20000 in
theorem t_L_until {G : GT} {l : Launch} (hl : l.stackTraces = false) {fu : Nat} {s s' : St} {a0 : Nat} {a1 : Int32} {a2 : Int32} {a3 : Int32} {a4 : Nat} {w' : Int32} (hf : f_L_until fu s a0 a1 a2 a3 a4 = some (s', w')) : MetG G l yL_until (.codeWith yL_until cL_until 6 (some .int) [(0, 12, 15, 21), (0, 12, 19, 13)]) 8 s [vR 8 a0, vI a1, vI a2, vI a3, vR 11 a4] (s', .inl (some (vI w'))) := by
  refine MetG_ofW hl (by decide +kernel) (Nat.le_of_ble_eq_true rfl) (fun E g f eG eL => ?_)
  subst eG; subst eL
  have g : GX E "ThinSeriesLaw" cL_until 6 8 := g
  have f : FX E "until" (some .int) (tableOf [(0, 12, 15, 21), (0, 12, 19, 13)]) := f
  have hnc := g.2.2.2.2.2.2.2.1.2.2.2.2
  show V E 6 (QE E (s', .inl (some (vI w')))) s 0 [(0, vR 8 a0), (1, vI a1), (2, vI a2), (3, vI a3), (4, vR 11 a4)] []
  unfold f_L_until at hf
  refine V_aload g 4 dL_until_0 rfl ?_
  refine V_iconst (v := 0) g dL_until_2 (by decide) ?_
  refine V_aload_n g 0 dL_until_3 rfl ?_
  refine V_iload_n g 1 dL_until_4 rfl ?_
  refine V_iload_n g 2 dL_until_5 rfl ?_
  refine V_iload_n g 3 dL_until_6 rfl ?_
  obtain ⟨z1, hf⟩ := nz_some hf
  rcases bX_some hf with ⟨s2, e3, hc, hf⟩ | ⟨s2, x4, hc, hf⟩
  · by_cases c5 : e3 = 1
    · subst c5
      have hf := it_t hf rfl
      refine cVX g [vI a1, vI a2, vI a3] [vI 0, vR 11 a4] s2 "java/util/NoSuchElementException" cf_X8_until (t_X8_until g.2.2.2.2.2.2.1 hc) (RC_own g rfl z1) z1 (by decide) q_1170 (Nat.le_of_ble_eq_true rfl) dL_until_7 ?_ rfl
      refine VX_catch g f (by decide) (by decide) q_962 q_972 (fun q9 => ?_)
      show V E 6 _ s2 15 [(0, vR 8 a0), (1, vI a1), (2, vI a2), (3, vI a3), (4, vR 11 a4)] [vO (.ref q9)]
      refine V_astoreO g [(5, vO ((.ref q9))), (0, vR 8 a0), (1, vI a1), (2, vI a2), (3, vI a3), (4, vR 11 a4)] dL_until_15 (by decide) rfl ?_
      refine V_iconst (v := 1) g dL_until_17 (by decide) ?_
      cases hf
      exact V_ireturn g f dL_until_18
    · have hf := it_f hf c5
      by_cases c6 : e3 = 2
      · subst c6
        have hf := it_t hf rfl
        refine cVX g [vI a1, vI a2, vI a3] [vI 0, vR 11 a4] s2 "java/lang/IllegalArgumentException" cf_X8_until (t_X8_until g.2.2.2.2.2.2.1 hc) (RC_own g rfl z1) z1 (by decide) q_1170 (Nat.le_of_ble_eq_true rfl) dL_until_7 ?_ rfl
        refine VX_catch2 g f (by decide) q_962 hnc (by decide) (by decide) q_611 q_618 (fun q9 => ?_)
        show V E 6 _ s2 19 [(0, vR 8 a0), (1, vI a1), (2, vI a2), (3, vI a3), (4, vR 11 a4)] [vO (.ref q9)]
        refine V_astoreO g [(5, vO ((.ref q9))), (0, vR 8 a0), (1, vI a1), (2, vI a2), (3, vI a3), (4, vR 11 a4)] dL_until_19 (by decide) rfl ?_
        refine V_iconst (v := 2) g dL_until_21 (by decide) ?_
        cases hf
        exact V_ireturn g f dL_until_22
      · have hf := it_f hf c6
        exact nomatch hf
  · refine cV1 g [vI a1, vI a2, vI a3] [vI 0, vR 11 a4] s2 (vI x4) cf_X8_until (t_X8_until g.2.2.2.2.2.2.1 hc) (RC_own g rfl z1) z1 (by decide) q_1170 (Nat.le_of_ble_eq_true rfl) dL_until_7 ?_ rfl
    refine V_i2l g dL_until_10 ?_
    obtain ⟨z7, hf⟩ := nz_some hf
    obtain ⟨h8, hf⟩ := ckf hf
    obtain ⟨s9, es9, hf⟩ := lt_some hf
    refine V_last g es9 z7 h8 dL_until_11 ?_
    refine V_goto g 23 dL_until_12 (by decide) ?_
    refine V_iconst (v := 0) g dL_until_23 (by decide) ?_
    cases hf
    exact V_ireturn g f dL_until_24
set_option maxRecDepth 20000 in
theorem t_L_used {G : GT} {l : Launch} (hl : l.stackTraces = false) {fu : Nat} {s s' : St} {a0 : Nat} {a1 : Int32} {a2 : Nat} {w' : Int32} (hf : f_L_used fu s a0 a1 a2 = some (s', w')) : MetG G l yL_used (.codeWith yL_used cL_used 4 (some .int) [(0, 9, 12, 21)]) 7 s [vR 8 a0, vI a1, vR 11 a2] (s', .inl (some (vI w'))) := by
  refine MetG_ofW hl (by decide +kernel) (Nat.le_of_ble_eq_true rfl) (fun E g f eG eL => ?_)
  subst eG; subst eL
  have g : GX E "ThinSeriesLaw" cL_used 4 7 := g
  have f : FX E "used" (some .int) (tableOf [(0, 9, 12, 21)]) := f
  show V E 4 (QE E (s', .inl (some (vI w')))) s 0 [(0, vR 8 a0), (1, vI a1), (2, vR 11 a2)] []
  unfold f_L_used at hf
  refine V_aload_n g 2 dL_used_0 rfl ?_
  refine V_iconst (v := 0) g dL_used_1 (by decide) ?_
  refine V_aload_n g 0 dL_used_2 rfl ?_
  refine V_iload_n g 1 dL_used_3 rfl ?_
  obtain ⟨z1, hf⟩ := nz_some hf
  rcases bX_some hf with ⟨s2, e3, hc, hf⟩ | ⟨s2, x4, hc, hf⟩
  · by_cases c5 : e3 = 1
    · subst c5
      have hf := it_t hf rfl
      refine cVX g [vI a1] [vI 0, vR 11 a2] s2 "java/util/NoSuchElementException" cf_X8_used (t_X8_used g.2.2.2.2.2.2.1 hc) (RC_own g rfl z1) z1 (by decide) q_1012 (Nat.le_of_ble_eq_true rfl) dL_used_4 ?_ rfl
      refine VX_catch g f (by decide) (by decide) q_962 q_972 (fun q9 => ?_)
      show V E 4 _ s2 12 [(0, vR 8 a0), (1, vI a1), (2, vR 11 a2)] [vO (.ref q9)]
      refine V_astoreO_n g [(3, vO ((.ref q9))), (0, vR 8 a0), (1, vI a1), (2, vR 11 a2)] dL_used_12 (by decide) rfl ?_
      refine V_iconst (v := 1) g dL_used_13 (by decide) ?_
      cases hf
      exact V_ireturn g f dL_used_14
    · have hf := it_f hf c5
      exact nomatch hf
  · refine cV1 g [vI a1] [vI 0, vR 11 a2] s2 (vI x4) cf_X8_used (t_X8_used g.2.2.2.2.2.2.1 hc) (RC_own g rfl z1) z1 (by decide) q_1012 (Nat.le_of_ble_eq_true rfl) dL_used_4 ?_ rfl
    refine V_i2l g dL_used_7 ?_
    obtain ⟨z6, hf⟩ := nz_some hf
    obtain ⟨h7, hf⟩ := ckf hf
    obtain ⟨s8, es8, hf⟩ := lt_some hf
    refine V_last g es8 z6 h7 dL_used_8 ?_
    refine V_goto g 15 dL_used_9 (by decide) ?_
    refine V_iconst (v := 0) g dL_used_15 (by decide) ?_
    cases hf
    exact V_ireturn g f dL_used_16
set_option maxRecDepth 20000 in
theorem t_L_why {G : GT} {l : Launch} (hl : l.stackTraces = false) {fu : Nat} {s s' : St} {a0 : Nat} {a1 : Int32} {a2 : Nat} {w' : Int32} (hf : f_L_why fu s a0 a1 a2 = some (s', w')) : MetG G l yL_why (.codeWith yL_why cL_why 4 (some .int) [(0, 9, 12, 21)]) 8 s [vR 8 a0, vI a1, vR 11 a2] (s', .inl (some (vI w'))) := by
  refine MetG_ofW hl (by decide +kernel) (Nat.le_of_ble_eq_true rfl) (fun E g f eG eL => ?_)
  subst eG; subst eL
  have g : GX E "ThinSeriesLaw" cL_why 4 8 := g
  have f : FX E "why" (some .int) (tableOf [(0, 9, 12, 21)]) := f
  show V E 4 (QE E (s', .inl (some (vI w')))) s 0 [(0, vR 8 a0), (1, vI a1), (2, vR 11 a2)] []
  unfold f_L_why at hf
  refine V_aload_n g 2 dL_why_0 rfl ?_
  refine V_iconst (v := 0) g dL_why_1 (by decide) ?_
  refine V_aload_n g 0 dL_why_2 rfl ?_
  refine V_iload_n g 1 dL_why_3 rfl ?_
  obtain ⟨z1, hf⟩ := nz_some hf
  rcases bX_some hf with ⟨s2, e3, hc, hf⟩ | ⟨s2, x4, hc, hf⟩
  · by_cases c5 : e3 = 1
    · subst c5
      have hf := it_t hf rfl
      refine cVX g [vI a1] [vI 0, vR 11 a2] s2 "java/util/NoSuchElementException" cf_X8_why (t_X8_why g.2.2.2.2.2.2.1 hc) (RC_own g rfl z1) z1 (by decide) q_963 (Nat.le_of_ble_eq_true rfl) dL_why_4 ?_ rfl
      refine VX_catch g f (by decide) (by decide) q_962 q_972 (fun q9 => ?_)
      show V E 4 _ s2 12 [(0, vR 8 a0), (1, vI a1), (2, vR 11 a2)] [vO (.ref q9)]
      refine V_astoreO_n g [(3, vO ((.ref q9))), (0, vR 8 a0), (1, vI a1), (2, vR 11 a2)] dL_why_12 (by decide) rfl ?_
      refine V_iconst (v := 1) g dL_why_13 (by decide) ?_
      cases hf
      exact V_ireturn g f dL_why_14
    · have hf := it_f hf c5
      exact nomatch hf
  · refine cV1 g [vI a1] [vI 0, vR 11 a2] s2 (vI x4) cf_X8_why (t_X8_why g.2.2.2.2.2.2.1 hc) (RC_own g rfl z1) z1 (by decide) q_963 (Nat.le_of_ble_eq_true rfl) dL_why_4 ?_ rfl
    refine V_i2l g dL_why_7 ?_
    obtain ⟨z6, hf⟩ := nz_some hf
    obtain ⟨h7, hf⟩ := ckf hf
    obtain ⟨s8, es8, hf⟩ := lt_some hf
    refine V_last g es8 z6 h7 dL_why_8 ?_
    refine V_goto g 15 dL_why_9 (by decide) ?_
    refine V_iconst (v := 0) g dL_why_15 (by decide) ?_
    cases hf
    exact V_ireturn g f dL_why_16
set_option maxRecDepth 20000 in
theorem t_L_would {G : GT} {l : Launch} (hl : l.stackTraces = false) {fu : Nat} {s s' : St} {a0 : Nat} {a1 : Int32} {a2 : Int32} {a3 : Int32} {a4 : Nat} {w' : Int32} (hf : f_L_would fu s a0 a1 a2 a3 a4 = some (s', w')) : MetG G l yL_would (.codeWith yL_would cL_would 6 (some .int) [(0, 12, 15, 21), (0, 12, 19, 13)]) 8 s [vR 8 a0, vI a1, vI a2, vI a3, vR 11 a4] (s', .inl (some (vI w'))) := by
  refine MetG_ofW hl (by decide +kernel) (Nat.le_of_ble_eq_true rfl) (fun E g f eG eL => ?_)
  subst eG; subst eL
  have g : GX E "ThinSeriesLaw" cL_would 6 8 := g
  have f : FX E "would" (some .int) (tableOf [(0, 12, 15, 21), (0, 12, 19, 13)]) := f
  have hnc := g.2.2.2.2.2.2.2.1.2.2.2.2
  show V E 6 (QE E (s', .inl (some (vI w')))) s 0 [(0, vR 8 a0), (1, vI a1), (2, vI a2), (3, vI a3), (4, vR 11 a4)] []
  unfold f_L_would at hf
  refine V_aload g 4 dL_would_0 rfl ?_
  refine V_iconst (v := 0) g dL_would_2 (by decide) ?_
  refine V_aload_n g 0 dL_would_3 rfl ?_
  refine V_iload_n g 1 dL_would_4 rfl ?_
  refine V_iload_n g 2 dL_would_5 rfl ?_
  refine V_iload_n g 3 dL_would_6 rfl ?_
  obtain ⟨z1, hf⟩ := nz_some hf
  rcases bX_some hf with ⟨s2, e3, hc, hf⟩ | ⟨s2, x4, hc, hf⟩
  · by_cases c5 : e3 = 1
    · subst c5
      have hf := it_t hf rfl
      refine cVX g [vI a1, vI a2, vI a3] [vI 0, vR 11 a4] s2 "java/util/NoSuchElementException" cf_X8_would (t_X8_would g.2.2.2.2.2.2.1 hc) (RC_own g rfl z1) z1 (by decide) q_1159 (Nat.le_of_ble_eq_true rfl) dL_would_7 ?_ rfl
      refine VX_catch g f (by decide) (by decide) q_962 q_972 (fun q9 => ?_)
      show V E 6 _ s2 15 [(0, vR 8 a0), (1, vI a1), (2, vI a2), (3, vI a3), (4, vR 11 a4)] [vO (.ref q9)]
      refine V_astoreO g [(5, vO ((.ref q9))), (0, vR 8 a0), (1, vI a1), (2, vI a2), (3, vI a3), (4, vR 11 a4)] dL_would_15 (by decide) rfl ?_
      refine V_iconst (v := 1) g dL_would_17 (by decide) ?_
      cases hf
      exact V_ireturn g f dL_would_18
    · have hf := it_f hf c5
      by_cases c6 : e3 = 2
      · subst c6
        have hf := it_t hf rfl
        refine cVX g [vI a1, vI a2, vI a3] [vI 0, vR 11 a4] s2 "java/lang/IllegalArgumentException" cf_X8_would (t_X8_would g.2.2.2.2.2.2.1 hc) (RC_own g rfl z1) z1 (by decide) q_1159 (Nat.le_of_ble_eq_true rfl) dL_would_7 ?_ rfl
        refine VX_catch2 g f (by decide) q_962 hnc (by decide) (by decide) q_611 q_618 (fun q9 => ?_)
        show V E 6 _ s2 19 [(0, vR 8 a0), (1, vI a1), (2, vI a2), (3, vI a3), (4, vR 11 a4)] [vO (.ref q9)]
        refine V_astoreO g [(5, vO ((.ref q9))), (0, vR 8 a0), (1, vI a1), (2, vI a2), (3, vI a3), (4, vR 11 a4)] dL_would_19 (by decide) rfl ?_
        refine V_iconst (v := 2) g dL_would_21 (by decide) ?_
        cases hf
        exact V_ireturn g f dL_would_22
      · have hf := it_f hf c6
        exact nomatch hf
  · refine cV1 g [vI a1, vI a2, vI a3] [vI 0, vR 11 a4] s2 (vI x4) cf_X8_would (t_X8_would g.2.2.2.2.2.2.1 hc) (RC_own g rfl z1) z1 (by decide) q_1159 (Nat.le_of_ble_eq_true rfl) dL_would_7 ?_ rfl
    refine V_i2l g dL_would_10 ?_
    obtain ⟨z7, hf⟩ := nz_some hf
    obtain ⟨h8, hf⟩ := ckf hf
    obtain ⟨s9, es9, hf⟩ := lt_some hf
    refine V_last g es9 z7 h8 dL_would_11 ?_
    refine V_goto g 23 dL_would_12 (by decide) ?_
    refine V_iconst (v := 0) g dL_would_23 (by decide) ?_
    cases hf
    exact V_ireturn g f dL_would_24
