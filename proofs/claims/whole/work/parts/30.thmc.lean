set_option maxRecDepth 20000 in
theorem t_X8_why {G : GT} {l : Launch} (hl : l.stackTraces = false) {fu : Nat} {s s' : St} {a0 : Nat} {a1 : Int32} {w' : Nat ⊕ Int32} (hf : f_X8_why fu s a0 a1 = some (s', w')) : MetG G l yX8_why (.code yX8_why cX8_why 2 (some .int)) 7 s [vR 8 a0, vI a1] (s', rI w') := by
  refine MetG_of hl (by decide +kernel) (Nat.le_of_ble_eq_true rfl) (fun E g f eG eL => ?_)
  subst eG; subst eL
  have g : GX E "ThinSeries" cX8_why 2 7 := g
  have f : FX E "why" (some .int) [] := f
  show V E 2 (QE E (s', rI w')) s 0 [(0, vR 8 a0), (1, vI a1)] []
  unfold f_X8_why at hf
  refine V_iload_n g 1 dX8_why_0 rfl ?_
  refine V_iconst (v := 3) g dX8_why_1 (by decide) ?_
  rcases bX_some hf with ⟨s1, e2, hc, hf⟩ | ⟨s1, x3, hc, hf⟩
  · cases hf
    refine cSX g [vI a1, vI 3] [] _ (exN e2) cf_X8_needWhat (t_X8_needWhat g.2.2.2.2.2.2.1 hc) (by decide) q_967 (Nat.le_of_ble_eq_true rfl) dX8_why_2 ?_ rfl
    exact VX_out g f
  · refine cS0 g [vI a1, vI 3] [] s1 cf_X8_needWhat (t_X8_needWhat g.2.2.2.2.2.2.1 hc) (by decide) q_967 (Nat.le_of_ble_eq_true rfl) dX8_why_2 ?_ rfl
    refine V_aload_n g 0 dX8_why_5 rfl ?_
    obtain ⟨z4, hf⟩ := nz_some hf
    refine V_getR g 8 a0 11 10 rfl (by decide) rfl rfl q_323 z4 dX8_why_6 ?_
    refine V_iload_n g 1 dX8_why_9 rfl ?_
    obtain ⟨z5, hf⟩ := nz_some hf
    obtain ⟨h6, hf⟩ := ckf hf
    refine V_iald g z5 h6 dX8_why_10 ?_
    cases hf
    exact V_ireturn g f dX8_why_11
set_option maxRecDepth 20000 in
theorem t_X5_foresee_b135 {E : ET} {fu : Nat} {s' : St} (g : GX E "ThinSeries$Series" cX5_foresee 10 3) (f : FX E "foresee" none []) {k26 : St → Nat → Nat → Int32 → Int32 → Int32 → Int32 → Int32 → Option (St)} (hk26 : ∀ (s : St) (l0 : Nat) (l2 : Nat) (l3 : Int32) (l4 : Int32) (l5 : Int32) (l6 : Int32) (l7 : Int32), k26 s l0 l2 l3 l4 l5 l6 l7 = some s' → V E 10 (QE E (s', .inl none)) s 26 [(0, vR 5 l0), (2, vR 10 l2), (3, vI l3), (4, vI l4), (5, vI l5), (6, vI l6), (7, vI l7)] []) {s : St} {l0 : Nat} {l2 : Nat} {l3 : Int32} {l4 : Int32} {l5 : Int32} {l6 : Int32} {l7 : Int32} (hf : f_X5_foresee_b135 fu k26 s l0 l2 l3 l4 l5 l6 l7 = some s') : V E 10 (QE E (s', .inl none)) s 135 [(0, vR 5 l0), (2, vR 10 l2), (3, vI l3), (4, vI l4), (5, vI l5), (6, vI l6), (7, vI l7)] [] := by
  unfold f_X5_foresee_b135 at hf
  obtain ⟨x40, ex40, hf⟩ := lt_some hf
  refine V_iinc g 6 [(7, vI x40), (0, vR 5 l0), (2, vR 10 l2), (3, vI l3), (4, vI l4), (5, vI l5), (6, vI l6)] dX5_foresee_135 rfl (by rw [ex40]; rfl) (by decide) rfl ?_
  refine V_goto g 26 dX5_foresee_138 (by decide) ?_
  refine V_sub [(0, vR 5 l0), (2, vR 10 l2), (3, vI l3), (4, vI l4), (5, vI l5), (6, vI l6), (7, vI x40)] [1, 2, 3, 4, 5, 6, 0] rfl ?_
  exact hk26 s l0 l2 l3 l4 l5 l6 x40 hf
set_option maxRecDepth 20000 in
theorem t_X5_foresee_b131 {E : ET} {fu : Nat} {s' : St} (g : GX E "ThinSeries$Series" cX5_foresee 10 3) (f : FX E "foresee" none []) {k26 : St → Nat → Nat → Int32 → Int32 → Int32 → Int32 → Int32 → Option (St)} (hk26 : ∀ (s : St) (l0 : Nat) (l2 : Nat) (l3 : Int32) (l4 : Int32) (l5 : Int32) (l6 : Int32) (l7 : Int32), k26 s l0 l2 l3 l4 l5 l6 l7 = some s' → V E 10 (QE E (s', .inl none)) s 26 [(0, vR 5 l0), (2, vR 10 l2), (3, vI l3), (4, vI l4), (5, vI l5), (6, vI l6), (7, vI l7)] []) {s : St} {l0 : Nat} {l2 : Nat} {l3 : Int32} {l4 : Int32} {l5 : Int32} {l7 : Int32} {l9 : Int32} (hf : f_X5_foresee_b131 fu k26 s l0 l2 l3 l4 l5 l7 l9 = some s') : V E 10 (QE E (s', .inl none)) s 131 [(0, vR 5 l0), (2, vR 10 l2), (3, vI l3), (4, vI l4), (5, vI l5), (7, vI l7), (9, vI l9)] [] := by
  unfold f_X5_foresee_b131 at hf
  refine V_iload g 6 dX5_foresee_131 rfl ?_
  refine V_istore g [(6, vI l9), (0, vR 5 l0), (2, vR 10 l2), (3, vI l3), (4, vI l4), (5, vI l5), (7, vI l7), (9, vI l9)] dX5_foresee_133 rfl (by decide) rfl ?_
  refine V_sub [(0, vR 5 l0), (2, vR 10 l2), (3, vI l3), (4, vI l4), (5, vI l5), (6, vI l9), (7, vI l7)] [1, 2, 3, 4, 5, 0, 6] rfl ?_
  exact t_X5_foresee_b135 g f hk26 hf
set_option maxRecDepth 20000 in
theorem t_X5_foresee_b128 {E : ET} {fu : Nat} {s' : St} (g : GX E "ThinSeries$Series" cX5_foresee 10 3) (f : FX E "foresee" none []) {k26 : St → Nat → Nat → Int32 → Int32 → Int32 → Int32 → Int32 → Option (St)} (hk26 : ∀ (s : St) (l0 : Nat) (l2 : Nat) (l3 : Int32) (l4 : Int32) (l5 : Int32) (l6 : Int32) (l7 : Int32), k26 s l0 l2 l3 l4 l5 l6 l7 = some s' → V E 10 (QE E (s', .inl none)) s 26 [(0, vR 5 l0), (2, vR 10 l2), (3, vI l3), (4, vI l4), (5, vI l5), (6, vI l6), (7, vI l7)] []) {s : St} {l0 : Nat} {l2 : Nat} {l3 : Int32} {l4 : Int32} {l5 : Int32} {l7 : Int32} {l9 : Int32} (hf : f_X5_foresee_b128 fu k26 s l0 l2 l3 l4 l5 l7 l9 = some s') : V E 10 (QE E (s', .inl none)) s 128 [(0, vR 5 l0), (2, vR 10 l2), (3, vI l3), (4, vI l4), (5, vI l5), (7, vI l7), (9, vI l9)] [] := by
  unfold f_X5_foresee_b128 at hf
  obtain ⟨x39, ex39, hf⟩ := lt_some hf
  refine V_iinc g 2 [(3, vI x39), (0, vR 5 l0), (2, vR 10 l2), (4, vI l4), (5, vI l5), (7, vI l7), (9, vI l9)] dX5_foresee_128 rfl (by rw [ex39]; rfl) (by decide) rfl ?_
  refine V_sub [(0, vR 5 l0), (2, vR 10 l2), (3, vI x39), (4, vI l4), (5, vI l5), (7, vI l7), (9, vI l9)] [1, 2, 0, 3, 4, 5, 6] rfl ?_
  exact t_X5_foresee_b131 g f hk26 hf
set_option maxRecDepth 20000 in
theorem t_X5_foresee_b74 {E : ET} {fu : Nat} {s' : St} (g : GX E "ThinSeries$Series" cX5_foresee 10 3) (f : FX E "foresee" none []) {k26 : St → Nat → Nat → Int32 → Int32 → Int32 → Int32 → Int32 → Option (St)} (hk26 : ∀ (s : St) (l0 : Nat) (l2 : Nat) (l3 : Int32) (l4 : Int32) (l5 : Int32) (l6 : Int32) (l7 : Int32), k26 s l0 l2 l3 l4 l5 l6 l7 = some s' → V E 10 (QE E (s', .inl none)) s 26 [(0, vR 5 l0), (2, vR 10 l2), (3, vI l3), (4, vI l4), (5, vI l5), (6, vI l6), (7, vI l7)] []) {s : St} {l0 : Nat} {l2 : Nat} {l3 : Int32} {l4 : Int32} {l5 : Int32} {l6 : Int32} {l7 : Int32} {l8 : Int32} (hf : f_X5_foresee_b74 fu k26 s l0 l2 l3 l4 l5 l6 l7 l8 = some s') : V E 10 (QE E (s', .inl none)) s 74 [(0, vR 5 l0), (2, vR 10 l2), (3, vI l3), (4, vI l4), (5, vI l5), (6, vI l6), (7, vI l7), (8, vI l8)] [] := by
  unfold f_X5_foresee_b74 at hf
  refine V_iload g 7 dX5_foresee_74 rfl ?_
  refine V_iconst (v := (-1)) g dX5_foresee_76 (by decide) ?_
  refine V_icmp_ne g 95 dX5_foresee_77 (by decide) (fun c24 => ?_) (fun c24 => ?_)
  · have hf := it_f hf c24
    refine V_aload_n g 0 dX5_foresee_95 rfl ?_
    obtain ⟨z25, hf⟩ := nz_some hf
    refine V_getR g 5 l0 3 10 rfl (by decide) rfl rfl q_445 z25 dX5_foresee_96 ?_
    refine V_iload g 6 dX5_foresee_99 rfl ?_
    obtain ⟨z26, hf⟩ := nz_some hf
    obtain ⟨h27, hf⟩ := ckf hf
    refine V_iald g z26 h27 dX5_foresee_101 ?_
    refine V_aload_n g 0 dX5_foresee_102 rfl ?_
    refine V_getR g 5 l0 0 2 rfl (by decide) rfl rfl q_441 z25 dX5_foresee_103 ?_
    obtain ⟨z28, hf⟩ := nz_some hf
    refine V_getR g 2 (gR s 5 l0 0) 0 10 rfl (by decide) rfl rfl q_287 z28 dX5_foresee_106 ?_
    refine V_iload g 7 dX5_foresee_109 rfl ?_
    obtain ⟨z29, hf⟩ := nz_some hf
    obtain ⟨h30, hf⟩ := ckf hf
    refine V_iald g z29 h30 dX5_foresee_111 ?_
    obtain ⟨s31, x32, hc, hf⟩ := bI_some hf
    refine cN1 g [vI (gI s 10 (gR s 5 l0 3) (ix l7)), vI (gI s 10 (gR s 2 (gR s 5 l0 0) 0) (ix l8))] [] s31 (vI x32) cf_X8_multipleUpTo (t_X8_multipleUpTo g.2.2.2.2.2.2.1 hc) (by decide) q_519 (Nat.le_of_ble_eq_true rfl) dX5_foresee_112 ?_ rfl
    refine V_istore g [(9, vI x32), (0, vR 5 l0), (2, vR 10 l2), (3, vI l3), (4, vI l4), (5, vI l5), (6, vI l6), (7, vI l7), (8, vI l8)] dX5_foresee_115 rfl (by decide) rfl ?_
    refine V_iload_n g 3 dX5_foresee_117 rfl ?_
    refine V_if_eq g 128 dX5_foresee_118 (by decide) (fun c33 => ?_) (fun c33 => ?_)
    · have hf := it_t hf c33
      refine V_sub [(0, vR 5 l0), (2, vR 10 l2), (3, vI l3), (4, vI l4), (5, vI l5), (7, vI l7), (9, vI x32)] [1, 2, 3, 4, 5, 7, 0] rfl ?_
      exact t_X5_foresee_b128 g f hk26 hf
    · have hf := it_f hf c33
      refine V_iload g 0 dX5_foresee_121 rfl ?_
      refine V_iload g 6 dX5_foresee_123 rfl ?_
      refine V_icmp_eq g 131 dX5_foresee_125 (by decide) (fun c34 => ?_) (fun c34 => ?_)
      · have hf := it_t hf c34
        refine V_sub [(0, vR 5 l0), (2, vR 10 l2), (3, vI l3), (4, vI l4), (5, vI l5), (7, vI l7), (9, vI x32)] [1, 2, 3, 4, 5, 7, 0] rfl ?_
        exact t_X5_foresee_b131 g f hk26 hf
      · have hf := it_f hf c34
        refine V_sub [(0, vR 5 l0), (2, vR 10 l2), (3, vI l3), (4, vI l4), (5, vI l5), (7, vI l7), (9, vI x32)] [1, 2, 3, 4, 5, 7, 0] rfl ?_
        exact t_X5_foresee_b128 g f hk26 hf
  · have hf := it_t hf c24
    refine V_iload g 3 dX5_foresee_80 rfl ?_
    refine V_aload_n g 0 dX5_foresee_82 rfl ?_
    obtain ⟨z35, hf⟩ := nz_some hf
    refine V_getR g 5 l0 4 10 rfl (by decide) rfl rfl q_448 z35 dX5_foresee_83 ?_
    refine V_iload g 6 dX5_foresee_86 rfl ?_
    obtain ⟨z36, hf⟩ := nz_some hf
    obtain ⟨h37, hf⟩ := ckf hf
    refine V_iald g z36 h37 dX5_foresee_88 ?_
    refine V_iadd g dX5_foresee_89 ?_
    obtain ⟨x38, ex38, hf⟩ := lt_some hf
    refine V_istore g [(4, vI x38), (0, vR 5 l0), (2, vR 10 l2), (3, vI l3), (5, vI l5), (6, vI l6), (7, vI l7), (8, vI l8)] dX5_foresee_90 ex38 (by decide) rfl ?_
    refine V_goto g 135 dX5_foresee_92 (by decide) ?_
    refine V_sub [(0, vR 5 l0), (2, vR 10 l2), (3, vI l3), (4, vI x38), (5, vI l5), (6, vI l6), (7, vI l7)] [1, 2, 3, 0, 4, 5, 6] rfl ?_
    exact t_X5_foresee_b135 g f hk26 hf
set_option maxRecDepth 20000 in
theorem t_X5_foresee_b26 {E : ET} {fu : Nat} {s' : St} (g : GX E "ThinSeries$Series" cX5_foresee 10 3) (f : FX E "foresee" none []) : ∀ (n : Nat) (s : St) (l0 : Nat) (l2 : Nat) (l3 : Int32) (l4 : Int32) (l5 : Int32) (l6 : Int32) (l7 : Int32), f_X5_foresee_b26 fu n s l0 l2 l3 l4 l5 l6 l7 = some s' → V E 10 (QE E (s', .inl none)) s 26 [(0, vR 5 l0), (2, vR 10 l2), (3, vI l3), (4, vI l4), (5, vI l5), (6, vI l6), (7, vI l7)] [] := by
  intro n
  induction n with
  | zero =>
    intro s l0 l2 l3 l4 l5 l6 l7 hf
    unfold f_X5_foresee_b26 at hf
    exact nomatch hf
  | succ n ih =>
    intro s l0 l2 l3 l4 l5 l6 l7 hf
    unfold f_X5_foresee_b26 at hf
    refine V_iload g 6 dX5_foresee_26 rfl ?_
    refine V_aload_n g 0 dX5_foresee_28 rfl ?_
    obtain ⟨z4, hf⟩ := nz_some hf
    refine V_getI g 5 l0 8 rfl (by decide) rfl q_456 z4 dX5_foresee_29 ?_
    refine V_icmp_ge g 141 dX5_foresee_32 (by decide) (fun c5 => ?_) (fun c5 => ?_)
    · have hf := it_t hf c5
      refine V_aload_n g 1 dX5_foresee_141 rfl ?_
      refine V_iconst (v := 0) g dX5_foresee_142 (by decide) ?_
      refine V_iload_n g 2 dX5_foresee_143 rfl ?_
      obtain ⟨z6, hf⟩ := nz_some hf
      obtain ⟨h7, hf⟩ := ckf hf
      obtain ⟨s8, es8, hf⟩ := lt_some hf
      refine V_iast g es8 z6 h7 dX5_foresee_144 ?_
      refine V_aload_n g 1 dX5_foresee_145 rfl ?_
      refine V_iconst (v := 1) g dX5_foresee_146 (by decide) ?_
      refine V_iload g 3 dX5_foresee_147 rfl ?_
      obtain ⟨h9, hf⟩ := ckf hf
      obtain ⟨s10, es10, hf⟩ := lt_some hf
      refine V_iast g es10 z6 h9 dX5_foresee_149 ?_
      refine V_aload_n g 1 dX5_foresee_150 rfl ?_
      refine V_iconst (v := 2) g dX5_foresee_151 (by decide) ?_
      refine V_iload g 4 dX5_foresee_152 rfl ?_
      obtain ⟨h11, hf⟩ := ckf hf
      obtain ⟨s12, es12, hf⟩ := lt_some hf
      refine V_iast g es12 z6 h11 dX5_foresee_154 ?_
      cases hf
      exact V_return g f dX5_foresee_155
    · have hf := it_f hf c5
      refine V_aload_n g 0 dX5_foresee_35 rfl ?_
      refine V_getR g 5 l0 0 2 rfl (by decide) rfl rfl q_441 z4 dX5_foresee_36 ?_
      refine V_aload_n g 0 dX5_foresee_39 rfl ?_
      refine V_getR g 5 l0 2 10 rfl (by decide) rfl rfl q_444 z4 dX5_foresee_40 ?_
      refine V_aload_n g 0 dX5_foresee_43 rfl ?_
      refine V_getR g 5 l0 3 10 rfl (by decide) rfl rfl q_445 z4 dX5_foresee_44 ?_
      refine V_iload g 6 dX5_foresee_47 rfl ?_
      obtain ⟨z13, hf⟩ := nz_some hf
      obtain ⟨h14, hf⟩ := ckf hf
      refine V_iald g z13 h14 dX5_foresee_49 ?_
      obtain ⟨z15, hf⟩ := nz_some hf
      obtain ⟨s16, x17, hc, hf⟩ := bI_some hf
      refine cV1 g [vR 10 (gR s 5 l0 2), vI (gI s 10 (gR s 5 l0 3) (ix l7))] [] s16 (vI x17) cf_X2_tierUnder (t_X2_tierUnder g.2.2.2.2.2.2.1 hc) (RC_own g rfl z15) z15 (by decide) q_515 (Nat.le_of_ble_eq_true rfl) dX5_foresee_50 ?_ rfl
      refine V_istore g [(8, vI x17), (0, vR 5 l0), (2, vR 10 l2), (3, vI l3), (4, vI l4), (5, vI l5), (6, vI l6), (7, vI l7)] dX5_foresee_53 rfl (by decide) rfl ?_
      refine V_iload g 0 dX5_foresee_55 rfl ?_
      refine V_aload_n g 1 dX5_foresee_57 rfl ?_
      refine V_aload_n g 1 dX5_foresee_58 rfl ?_
      refine V_getR g 5 l0 3 10 rfl (by decide) rfl rfl q_445 z4 dX5_foresee_59 ?_
      refine V_iload g 7 dX5_foresee_62 rfl ?_
      obtain ⟨z18, hf⟩ := nz_some hf
      obtain ⟨h19, hf⟩ := ckf hf
      refine V_iald g z18 h19 dX5_foresee_64 ?_
      obtain ⟨s20, x21, hc, hf⟩ := bI_some hf
      refine cV1 g [vI (gI s16 10 (gR s16 5 l0 3) (ix l7))] [vI x17] s20 (vI x21) cf_X5_tierOf (t_X5_tierOf g.2.2.2.2.2.2.1 hc) (RC_own g rfl z4) z4 (by decide) q_511 (Nat.le_of_ble_eq_true rfl) dX5_foresee_65 ?_ rfl
      refine V_icmp_eq g 74 dX5_foresee_68 (by decide) (fun c22 => ?_) (fun c22 => ?_)
      · have hf := it_t hf c22
        refine V_sub [(0, vR 5 l0), (2, vR 10 l2), (3, vI l3), (4, vI l4), (5, vI l5), (6, vI l6), (7, vI l7), (8, vI x17)] [1, 2, 3, 4, 5, 6, 7, 0] rfl ?_
        exact t_X5_foresee_b74 g f ih hf
      · have hf := it_f hf c22
        obtain ⟨x23, ex23, hf⟩ := lt_some hf
        refine V_iinc g 5 [(5, vI x23), (8, vI x17), (0, vR 5 l0), (2, vR 10 l2), (3, vI l3), (4, vI l4), (6, vI l6), (7, vI l7)] dX5_foresee_71 rfl (by rw [ex23]; rfl) (by decide) rfl ?_
        refine V_sub [(0, vR 5 l0), (2, vR 10 l2), (3, vI l3), (4, vI l4), (5, vI x23), (6, vI l6), (7, vI l7), (8, vI x17)] [2, 3, 4, 5, 0, 6, 7, 1] rfl ?_
        exact t_X5_foresee_b74 g f ih hf
set_option maxRecDepth 20000 in
theorem t_X5_foresee {G : GT} {l : Launch} (hl : l.stackTraces = false) {fu : Nat} {s s' : St} {a0 : Nat} {a1 : Int32} {a2 : Nat} (hf : f_X5_foresee fu s a0 a1 a2 = some s') : MetG G l yX5_foresee (.code yX5_foresee cX5_foresee 10 none) 3 s [vR 5 a0, vI a1, vR 10 a2] (s', .inl none) := by
  refine MetG_of hl (by decide +kernel) (Nat.le_of_ble_eq_true rfl) (fun E g f eG eL => ?_)
  subst eG; subst eL
  have g : GX E "ThinSeries$Series" cX5_foresee 10 3 := g
  have f : FX E "foresee" none [] := f
  show V E 10 (QE E (s', .inl none)) s 0 [(0, vR 5 a0), (1, vI a1), (2, vR 10 a2)] []
  unfold f_X5_foresee at hf
  refine V_aload_n g 0 dX5_foresee_0 rfl ?_
  obtain ⟨z1, hf⟩ := nz_some hf
  refine V_getR g 5 a0 0 2 rfl (by decide) rfl rfl q_441 z1 dX5_foresee_1 ?_
  refine V_iload_n g 1 dX5_foresee_4 rfl ?_
  refine V_aload_n g 0 dX5_foresee_5 rfl ?_
  refine V_getR g 5 a0 2 10 rfl (by decide) rfl rfl q_444 z1 dX5_foresee_6 ?_
  obtain ⟨z2, hf⟩ := nz_some hf
  obtain ⟨s3, hc, hf⟩ := bV_some hf
  refine cV0 g [vI a1, vR 10 (gR s 5 a0 2)] [] s3 cf_X2_findSeams (t_X2_findSeams g.2.2.2.2.2.2.1 hc) (RC_own g rfl z2) z2 (by decide) q_503 (Nat.le_of_ble_eq_true rfl) dX5_foresee_9 ?_ rfl
  refine V_iconst (v := 0) g dX5_foresee_12 (by decide) ?_
  refine V_istore_n g [(3, vI 0), (0, vR 5 a0), (1, vI a1), (2, vR 10 a2)] dX5_foresee_13 rfl (by decide) rfl ?_
  refine V_iconst (v := 0) g dX5_foresee_14 (by decide) ?_
  refine V_istore g [(4, vI 0), (3, vI 0), (0, vR 5 a0), (1, vI a1), (2, vR 10 a2)] dX5_foresee_15 rfl (by decide) rfl ?_
  refine V_iconst (v := 0) g dX5_foresee_17 (by decide) ?_
  refine V_istore g [(5, vI 0), (4, vI 0), (3, vI 0), (0, vR 5 a0), (1, vI a1), (2, vR 10 a2)] dX5_foresee_18 rfl (by decide) rfl ?_
  refine V_iconst (v := 0) g dX5_foresee_20 (by decide) ?_
  refine V_istore g [(6, vI 0), (5, vI 0), (4, vI 0), (3, vI 0), (0, vR 5 a0), (1, vI a1), (2, vR 10 a2)] dX5_foresee_21 rfl (by decide) rfl ?_
  refine V_iconst (v := 0) g dX5_foresee_23 (by decide) ?_
  refine V_istore g [(7, vI 0), (6, vI 0), (5, vI 0), (4, vI 0), (3, vI 0), (0, vR 5 a0), (1, vI a1), (2, vR 10 a2)] dX5_foresee_24 rfl (by decide) rfl ?_
  refine V_sub [(0, vR 5 a0), (2, vR 10 a2), (3, vI 0), (4, vI 0), (5, vI 0), (6, vI 0), (7, vI 0)] [5, 7, 4, 3, 2, 1, 0] rfl ?_
  exact t_X5_foresee_b26 g f _ s3 a0 a2 0 0 0 0 0 hf
set_option maxRecDepth 20000 in
theorem t_X8_would {G : GT} {l : Launch} (hl : l.stackTraces = false) {fu : Nat} {s s' : St} {a0 : Nat} {a1 : Int32} {a2 : Int32} {a3 : Int32} {w' : Nat ⊕ Int32} (hf : f_X8_would fu s a0 a1 a2 a3 = some (s', w')) : MetG G l yX8_would (.code yX8_would cX8_would 5 (some .int)) 7 s [vR 8 a0, vI a1, vI a2, vI a3] (s', rI w') := by
  refine MetG_of hl (by decide +kernel) (Nat.le_of_ble_eq_true rfl) (fun E g f eG eL => ?_)
  subst eG; subst eL
  have g : GX E "ThinSeries" cX8_would 5 7 := g
  have f : FX E "would" (some .int) [] := f
  show V E 5 (QE E (s', rI w')) s 0 [(0, vR 8 a0), (1, vI a1), (2, vI a2), (3, vI a3)] []
  unfold f_X8_would at hf
  refine V_aload_n g 0 dX8_would_0 rfl ?_
  refine V_iload_n g 1 dX8_would_1 rfl ?_
  obtain ⟨z1, hf⟩ := nz_some hf
  rcases bX_some hf with ⟨s2, e3, hc, hf⟩ | ⟨s2, x4, hc, hf⟩
  · cases hf
    refine cVX g [vI a1] [] _ (exN e3) cf_X8_known (t_X8_known g.2.2.2.2.2.2.1 hc) (RC_own g rfl z1) z1 (by decide) q_1024 (Nat.le_of_ble_eq_true rfl) dX8_would_2 ?_ rfl
    exact VX_out g f
  · refine cV1 g [vI a1] [] s2 (vR 5 x4) cf_X8_known (t_X8_known g.2.2.2.2.2.2.1 hc) (RC_own g rfl z1) z1 (by decide) q_1024 (Nat.le_of_ble_eq_true rfl) dX8_would_2 ?_ rfl
    refine V_astore g [(4, vR 5 x4), (0, vR 8 a0), (1, vI a1), (2, vI a2), (3, vI a3)] dX8_would_5 rfl (by decide) rfl ?_
    refine V_iload_n g 4 dX8_would_7 rfl ?_
    refine V_iconst (v := 2) g dX8_would_8 (by decide) ?_
    rcases bX_some hf with ⟨s5, e6, hc, hf⟩ | ⟨s5, x7, hc, hf⟩
    · cases hf
      refine cSX g [vI a3, vI 2] [] _ (exN e6) cf_X8_needWhat (t_X8_needWhat g.2.2.2.2.2.2.1 hc) (by decide) q_967 (Nat.le_of_ble_eq_true rfl) dX8_would_9 ?_ rfl
      exact VX_out g f
    · refine cS0 g [vI a3, vI 2] [] s5 cf_X8_needWhat (t_X8_needWhat g.2.2.2.2.2.2.1 hc) (by decide) q_967 (Nat.le_of_ble_eq_true rfl) dX8_would_9 ?_ rfl
      refine V_iload_n g 3 dX8_would_12 rfl ?_
      refine V_i2l g dX8_would_13 ?_
      obtain ⟨s8, x9, hc, hf⟩ := bI_some hf
      refine cS1 g [vJ (Int32.toInt64 a2)] [] s8 (vI x9) cf_X8_isTime (t_X8_isTime g.2.2.2.2.2.2.1 hc) (by decide) q_389 (Nat.le_of_ble_eq_true rfl) dX8_would_14 ?_ rfl
      refine V_if_ne g 31 dX8_would_17 (by decide) (fun c10 => ?_) (fun c10 => ?_)
      · have hf := it_f hf c10
        refine V_aload g 0 dX8_would_31 rfl ?_
        refine V_iload_n g 3 dX8_would_33 rfl ?_
        refine V_aload_n g 1 dX8_would_34 rfl ?_
        refine V_getR g 8 a0 4 4 rfl (by decide) rfl rfl q_316 z1 dX8_would_35 ?_
        obtain ⟨z11, hf⟩ := nz_some hf
        refine V_getR g 4 (gR s8 8 a0 4) 1 10 rfl (by decide) rfl rfl q_217 z11 dX8_would_38 ?_
        refine V_iload_n g 2 dX8_would_41 rfl ?_
        obtain ⟨z12, hf⟩ := nz_some hf
        obtain ⟨h13, hf⟩ := ckf hf
        refine V_iald g z12 h13 dX8_would_42 ?_
        obtain ⟨s14, x15, hc, hf⟩ := bI_some hf
        refine cS1 g [vI a2, vI (gI s8 10 (gR s8 4 (gR s8 8 a0 4) 1) (ix a1))] [vR 5 x4] s14 (vI x15) cf_J9_max_7cf53 (t_J9_max_7cf53 g.2.2.2.2.2.2.1 hc) (by decide) q_425 (Nat.le_of_ble_eq_true rfl) dX8_would_43 ?_ rfl
        refine V_aload_n g 1 dX8_would_46 rfl ?_
        refine V_getR g 8 a0 9 10 rfl (by decide) rfl rfl q_321 z1 dX8_would_47 ?_
        obtain ⟨z16, hf⟩ := nz_some hf
        obtain ⟨s17, hc, hf⟩ := bV_some hf
        refine cV0 g [vI x15, vR 10 (gR s14 8 a0 9)] [] s17 cf_X5_foresee (t_X5_foresee g.2.2.2.2.2.2.1 hc) (RC_own g rfl z16) z16 (by decide) q_1163 (Nat.le_of_ble_eq_true rfl) dX8_would_50 ?_ rfl
        refine V_aload_n g 1 dX8_would_53 rfl ?_
        refine V_getR g 8 a0 9 10 rfl (by decide) rfl rfl q_321 z1 dX8_would_54 ?_
        refine V_iload_n g 4 dX8_would_57 rfl ?_
        obtain ⟨z18, hf⟩ := nz_some hf
        obtain ⟨h19, hf⟩ := ckf hf
        refine V_iald g z18 h19 dX8_would_58 ?_
        cases hf
        exact V_ireturn g f dX8_would_59
      · have hf := it_t hf c10
        obtain ⟨h20, hf⟩ := ckf hf
        cases hf
        exact thI (j := 21) g f (rm_of h20) q_616 q_106 (by decide) rfl (by decide) (Nat.le_of_ble_eq_true rfl) ⟨⟨dX8_would_20, dX8_would_23⟩, Or.inr ⟨dX8_would_24, dX8_would_27, dX8_would_30⟩⟩
