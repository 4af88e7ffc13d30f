set_option maxRecDepth 20000 in
theorem t_J9_max_7cf53_b10 {E : ET} {fu : Nat} {s' : St} {w' : Int32} (g : GX E "java/lang/Math" cJ9_max_7cf53 2 0) (f : FX E "max" (some .int) []) {s : St} {t0 : Int32} (hf : f_J9_max_7cf53_b10 fu s t0 = some (s', w')) : V E 2 (QE E (s', .inl (some (vI w')))) s 10 [] [vI t0] := by
  unfold f_J9_max_7cf53_b10 at hf
  cases hf
  exact V_ireturn g f dJ9_max_7cf53_10
set_option maxRecDepth 20000 in
theorem t_J9_max_7cf53 {G : GT} {l : Launch} (hl : l.stackTraces = false) {fu : Nat} {s s' : St} {a0 : Int32} {a1 : Int32} {w' : Int32} (hf : f_J9_max_7cf53 fu s a0 a1 = some (s', w')) : MetG G l yJ9_max_7cf53 (.code yJ9_max_7cf53 cJ9_max_7cf53 2 (some .int)) 0 s [vI a0, vI a1] (s', .inl (some (vI w'))) := by
  refine MetG_of hl (by decide +kernel) (Nat.le_of_ble_eq_true rfl) (fun E g f eG eL => ?_)
  subst eG; subst eL
  have g : GX E "java/lang/Math" cJ9_max_7cf53 2 0 := g
  have f : FX E "max" (some .int) [] := f
  show V E 2 (QE E (s', .inl (some (vI w')))) s 0 [(0, vI a0), (1, vI a1)] []
  unfold f_J9_max_7cf53 at hf
  refine V_iload_n g 0 dJ9_max_7cf53_0 rfl ?_
  refine V_iload_n g 1 dJ9_max_7cf53_1 rfl ?_
  refine V_icmp_lt g 9 dJ9_max_7cf53_2 (by decide) (fun c1 => ?_) (fun c1 => ?_)
  · have hf := it_t hf c1
    refine V_iload_n g 1 dJ9_max_7cf53_9 rfl ?_
    refine V_sub [] [] rfl ?_
    exact t_J9_max_7cf53_b10 g f hf
  · have hf := it_f hf c1
    refine V_iload_n g 0 dJ9_max_7cf53_5 rfl ?_
    refine V_goto g 10 dJ9_max_7cf53_6 (by decide) ?_
    refine V_sub [] [] rfl ?_
    exact t_J9_max_7cf53_b10 g f hf
set_option maxRecDepth 20000 in
theorem t_J9_min_7cf53_b10 {E : ET} {fu : Nat} {s' : St} {w' : Int32} (g : GX E "java/lang/Math" cJ9_min_7cf53 2 0) (f : FX E "min" (some .int) []) {s : St} {t0 : Int32} (hf : f_J9_min_7cf53_b10 fu s t0 = some (s', w')) : V E 2 (QE E (s', .inl (some (vI w')))) s 10 [] [vI t0] := by
  unfold f_J9_min_7cf53_b10 at hf
  cases hf
  exact V_ireturn g f dJ9_min_7cf53_10
set_option maxRecDepth 20000 in
theorem t_J9_min_7cf53 {G : GT} {l : Launch} (hl : l.stackTraces = false) {fu : Nat} {s s' : St} {a0 : Int32} {a1 : Int32} {w' : Int32} (hf : f_J9_min_7cf53 fu s a0 a1 = some (s', w')) : MetG G l yJ9_min_7cf53 (.code yJ9_min_7cf53 cJ9_min_7cf53 2 (some .int)) 0 s [vI a0, vI a1] (s', .inl (some (vI w'))) := by
  refine MetG_of hl (by decide +kernel) (Nat.le_of_ble_eq_true rfl) (fun E g f eG eL => ?_)
  subst eG; subst eL
  have g : GX E "java/lang/Math" cJ9_min_7cf53 2 0 := g
  have f : FX E "min" (some .int) [] := f
  show V E 2 (QE E (s', .inl (some (vI w')))) s 0 [(0, vI a0), (1, vI a1)] []
  unfold f_J9_min_7cf53 at hf
  refine V_iload_n g 0 dJ9_min_7cf53_0 rfl ?_
  refine V_iload_n g 1 dJ9_min_7cf53_1 rfl ?_
  refine V_icmp_gt g 9 dJ9_min_7cf53_2 (by decide) (fun c1 => ?_) (fun c1 => ?_)
  · have hf := it_t hf c1
    refine V_iload_n g 1 dJ9_min_7cf53_9 rfl ?_
    refine V_sub [] [] rfl ?_
    exact t_J9_min_7cf53_b10 g f hf
  · have hf := it_f hf c1
    refine V_iload_n g 0 dJ9_min_7cf53_5 rfl ?_
    refine V_goto g 10 dJ9_min_7cf53_6 (by decide) ?_
    refine V_sub [] [] rfl ?_
    exact t_J9_min_7cf53_b10 g f hf
set_option maxRecDepth 20000 in
theorem t_J9_floorMod_7cf53_b18 {E : ET} {fu : Nat} {s' : St} {w' : Int32} (g : GX E "java/lang/Math" cJ9_floorMod_7cf53 3 0) (f : FX E "floorMod" (some .int) []) {s : St} {l2 : Int32} (hf : f_J9_floorMod_7cf53_b18 fu s l2 = some (s', w')) : V E 3 (QE E (s', .inl (some (vI w')))) s 18 [(2, vI l2)] [] := by
  unfold f_J9_floorMod_7cf53_b18 at hf
  refine V_iload_n g 0 dJ9_floorMod_7cf53_18 rfl ?_
  cases hf
  exact V_ireturn g f dJ9_floorMod_7cf53_19
set_option maxRecDepth 20000 in
theorem t_J9_floorMod_7cf53 {G : GT} {l : Launch} (hl : l.stackTraces = false) {fu : Nat} {s s' : St} {a0 : Int32} {a1 : Int32} {w' : Int32} (hf : f_J9_floorMod_7cf53 fu s a0 a1 = some (s', w')) : MetG G l yJ9_floorMod_7cf53 (.code yJ9_floorMod_7cf53 cJ9_floorMod_7cf53 3 (some .int)) 0 s [vI a0, vI a1] (s', .inl (some (vI w'))) := by
  refine MetG_of hl (by decide +kernel) (Nat.le_of_ble_eq_true rfl) (fun E g f eG eL => ?_)
  subst eG; subst eL
  have g : GX E "java/lang/Math" cJ9_floorMod_7cf53 3 0 := g
  have f : FX E "floorMod" (some .int) [] := f
  show V E 3 (QE E (s', .inl (some (vI w')))) s 0 [(0, vI a0), (1, vI a1)] []
  unfold f_J9_floorMod_7cf53 at hf
  refine V_iload_n g 0 dJ9_floorMod_7cf53_0 rfl ?_
  refine V_iload_n g 1 dJ9_floorMod_7cf53_1 rfl ?_
  obtain ⟨h1, hf⟩ := d0_some hf
  refine V_irem g dJ9_floorMod_7cf53_2 h1 ?_
  obtain ⟨x2, ex2, hf⟩ := lt_some hf
  refine V_istore_n g [(2, vI x2), (0, vI a0), (1, vI a1)] dJ9_floorMod_7cf53_3 ex2 (by decide) rfl ?_
  refine V_iload_n g 1 dJ9_floorMod_7cf53_4 rfl ?_
  refine V_iload_n g 2 dJ9_floorMod_7cf53_5 rfl ?_
  refine V_ixor g dJ9_floorMod_7cf53_6 ?_
  refine V_if_ge g 18 dJ9_floorMod_7cf53_7 (by decide) (fun c3 => ?_) (fun c3 => ?_)
  · have hf := it_t hf c3
    refine V_sub [(2, vI x2)] [0] rfl ?_
    exact t_J9_floorMod_7cf53_b18 g f hf
  · have hf := it_f hf c3
    refine V_iload_n g 0 dJ9_floorMod_7cf53_10 rfl ?_
    refine V_if_eq g 18 dJ9_floorMod_7cf53_11 (by decide) (fun c4 => ?_) (fun c4 => ?_)
    · have hf := it_t hf c4
      refine V_sub [(2, vI x2)] [0] rfl ?_
      exact t_J9_floorMod_7cf53_b18 g f hf
    · have hf := it_f hf c4
      refine V_iload_n g 0 dJ9_floorMod_7cf53_14 rfl ?_
      refine V_iload_n g 2 dJ9_floorMod_7cf53_15 rfl ?_
      refine V_iadd g dJ9_floorMod_7cf53_16 ?_
      cases hf
      exact V_ireturn g f dJ9_floorMod_7cf53_17
set_option maxRecDepth 20000 in
theorem t_J7_copyOf_59c91 {G : GT} {l : Launch} (hl : l.stackTraces = false) {fu : Nat} {s s' : St} {a0 : Nat} {a1 : Int32} {w' : Nat} (hf : f_J7_copyOf_59c91 fu s a0 a1 = some (s', w')) : MetG G l yJ7_copyOf_59c91 (.code yJ7_copyOf_59c91 cJ7_copyOf_59c91 3 (some (.array .int))) 1 s [vR 10 a0, vI a1] (s', .inl (some (vR 10 w'))) := by
  refine MetG_of hl (by decide +kernel) (Nat.le_of_ble_eq_true rfl) (fun E g f eG eL => ?_)
  subst eG; subst eL
  have g : GX E "java/util/Arrays" cJ7_copyOf_59c91 3 1 := g
  have f : FX E "copyOf" (some (.array .int)) [] := f
  show V E 3 (QE E (s', .inl (some (vR 10 w')))) s 0 [(0, vR 10 a0), (1, vI a1)] []
  unfold f_J7_copyOf_59c91 at hf
  refine V_iload_n g 1 dJ7_copyOf_59c91_0 rfl ?_
  refine V_aload_n g 0 dJ7_copyOf_59c91_1 rfl ?_
  obtain ⟨z1, hf⟩ := nz_some hf
  refine V_alen10 g z1 dJ7_copyOf_59c91_2 ?_
  refine V_icmp_ne g 14 dJ7_copyOf_59c91_3 (by decide) (fun c2 => ?_) (fun c2 => ?_)
  · have hf := it_f hf c2
    refine V_iload_n g 1 dJ7_copyOf_59c91_14 rfl ?_
    obtain ⟨h3, hf⟩ := ckf hf
    obtain ⟨s4, es4, hf⟩ := lt_some hf
    obtain ⟨h5, hf⟩ := ckf hf
    refine V_new10 g es4 q_207 h3 (rm_of h5) dJ7_copyOf_59c91_15 ?_
    obtain ⟨x6, ex6, hf⟩ := lt_some hf
    have z7 : ¬ x6 = 0 := by rw [ex6]; exact Nat.succ_ne_zero _
    refine V_astore_n g [(2, vR 10 x6), (0, vR 10 a0), (1, vI a1)] dJ7_copyOf_59c91_17 ex6 (by decide) rfl ?_
    refine V_aload_n g 1 dJ7_copyOf_59c91_18 rfl ?_
    refine V_iconst (v := 0) g dJ7_copyOf_59c91_19 (by decide) ?_
    refine V_aload_n g 0 dJ7_copyOf_59c91_20 rfl ?_
    refine V_iconst (v := 0) g dJ7_copyOf_59c91_21 (by decide) ?_
    refine V_aload_n g 1 dJ7_copyOf_59c91_22 rfl ?_
    refine V_alen10 g z1 dJ7_copyOf_59c91_23 ?_
    refine V_iload_n g 2 dJ7_copyOf_59c91_24 rfl ?_
    obtain ⟨s8, x9, hc, hf⟩ := bI_some hf
    refine cS1 g [vI (nI (gL s4 10 a0)), vI a1] [vI 0, vR 10 x6, vI 0, vR 10 a0] s8 (vI x9) cf_J9_min_7cf53 (t_J9_min_7cf53 g.2.2.2.2.2.2.1 hc) (by decide) q_559 (Nat.le_of_ble_eq_true rfl) dJ7_copyOf_59c91_25 ?_ rfl
    obtain ⟨h10, hf⟩ := ckf hf
    obtain ⟨h11, hf⟩ := ckf hf
    obtain ⟨s12, es12, hf⟩ := lt_some hf
    refine V_copy10 g es12 (by decide) z1 z7 h10 h11 q_560 q_510 q_509 q_114 (Nat.le_of_ble_eq_true rfl) dJ7_copyOf_59c91_28 ?_
    refine V_aload_n g 0 dJ7_copyOf_59c91_31 rfl ?_
    cases hf
    exact V_areturn g f (Or.inr ⟨_, rfl⟩) dJ7_copyOf_59c91_32
  · have hf := it_t hf c2
    refine V_aload_n g 0 dJ7_copyOf_59c91_6 rfl ?_
    exact nomatch hf
set_option maxRecDepth 20000 in
theorem t_J7_copyOf_c38d5 {G : GT} {l : Launch} (hl : l.stackTraces = false) {fu : Nat} {s s' : St} {a0 : Nat} {a1 : Int32} {w' : Nat} (hf : f_J7_copyOf_c38d5 fu s a0 a1 = some (s', w')) : MetG G l yJ7_copyOf_c38d5 (.code yJ7_copyOf_c38d5 cJ7_copyOf_c38d5 3 (some (.array .long))) 1 s [vR 11 a0, vI a1] (s', .inl (some (vR 11 w'))) := by
  refine MetG_of hl (by decide +kernel) (Nat.le_of_ble_eq_true rfl) (fun E g f eG eL => ?_)
  subst eG; subst eL
  have g : GX E "java/util/Arrays" cJ7_copyOf_c38d5 3 1 := g
  have f : FX E "copyOf" (some (.array .long)) [] := f
  show V E 3 (QE E (s', .inl (some (vR 11 w')))) s 0 [(0, vR 11 a0), (1, vI a1)] []
  unfold f_J7_copyOf_c38d5 at hf
  refine V_iload_n g 1 dJ7_copyOf_c38d5_0 rfl ?_
  refine V_aload_n g 0 dJ7_copyOf_c38d5_1 rfl ?_
  obtain ⟨z1, hf⟩ := nz_some hf
  refine V_alen11 g z1 dJ7_copyOf_c38d5_2 ?_
  refine V_icmp_ne g 14 dJ7_copyOf_c38d5_3 (by decide) (fun c2 => ?_) (fun c2 => ?_)
  · have hf := it_f hf c2
    refine V_iload_n g 1 dJ7_copyOf_c38d5_14 rfl ?_
    obtain ⟨h3, hf⟩ := ckf hf
    obtain ⟨s4, es4, hf⟩ := lt_some hf
    obtain ⟨h5, hf⟩ := ckf hf
    refine V_new11 g es4 q_485 h3 (rm_of h5) dJ7_copyOf_c38d5_15 ?_
    obtain ⟨x6, ex6, hf⟩ := lt_some hf
    have z7 : ¬ x6 = 0 := by rw [ex6]; exact Nat.succ_ne_zero _
    refine V_astore_n g [(2, vR 11 x6), (0, vR 11 a0), (1, vI a1)] dJ7_copyOf_c38d5_17 ex6 (by decide) rfl ?_
    refine V_aload_n g 1 dJ7_copyOf_c38d5_18 rfl ?_
    refine V_iconst (v := 0) g dJ7_copyOf_c38d5_19 (by decide) ?_
    refine V_aload_n g 0 dJ7_copyOf_c38d5_20 rfl ?_
    refine V_iconst (v := 0) g dJ7_copyOf_c38d5_21 (by decide) ?_
    refine V_aload_n g 1 dJ7_copyOf_c38d5_22 rfl ?_
    refine V_alen11 g z1 dJ7_copyOf_c38d5_23 ?_
    refine V_iload_n g 2 dJ7_copyOf_c38d5_24 rfl ?_
    obtain ⟨s8, x9, hc, hf⟩ := bI_some hf
    refine cS1 g [vI (nI (gL s4 11 a0)), vI a1] [vI 0, vR 11 x6, vI 0, vR 11 a0] s8 (vI x9) cf_J9_min_7cf53 (t_J9_min_7cf53 g.2.2.2.2.2.2.1 hc) (by decide) q_559 (Nat.le_of_ble_eq_true rfl) dJ7_copyOf_c38d5_25 ?_ rfl
    obtain ⟨h10, hf⟩ := ckf hf
    obtain ⟨h11, hf⟩ := ckf hf
    obtain ⟨s12, es12, hf⟩ := lt_some hf
    refine V_copy11 g es12 (by decide) z1 z7 h10 h11 q_560 q_510 q_509 q_114 (Nat.le_of_ble_eq_true rfl) dJ7_copyOf_c38d5_28 ?_
    refine V_aload_n g 0 dJ7_copyOf_c38d5_31 rfl ?_
    cases hf
    exact V_areturn g f (Or.inr ⟨_, rfl⟩) dJ7_copyOf_c38d5_32
  · have hf := it_t hf c2
    refine V_aload_n g 0 dJ7_copyOf_c38d5_6 rfl ?_
    exact nomatch hf
set_option maxRecDepth 20000 in
theorem t_J9_floorDiv_f86c9_b27 {E : ET} {fu : Nat} {s' : St} {w' : Int64} (g : GX E "java/lang/Math" cJ9_floorDiv_f86c9 6 0) (f : FX E "floorDiv" (some .long) []) {s : St} {l4 : Int64} (hf : f_J9_floorDiv_f86c9_b27 fu s l4 = some (s', w')) : V E 6 (QE E (s', .inl (some (vJ w')))) s 27 [(4, vJ l4)] [] := by
  unfold f_J9_floorDiv_f86c9_b27 at hf
  refine V_lload g 0 dJ9_floorDiv_f86c9_27 rfl ?_
  cases hf
  exact V_lreturn g f dJ9_floorDiv_f86c9_29
set_option maxRecDepth 20000 in
theorem t_J9_floorDiv_f86c9 {G : GT} {l : Launch} (hl : l.stackTraces = false) {fu : Nat} {s s' : St} {a0 : Int64} {a1 : Int64} {w' : Int64} (hf : f_J9_floorDiv_f86c9 fu s a0 a1 = some (s', w')) : MetG G l yJ9_floorDiv_f86c9 (.code yJ9_floorDiv_f86c9 cJ9_floorDiv_f86c9 6 (some .long)) 0 s [vJ a0, vJ a1] (s', .inl (some (vJ w'))) := by
  refine MetG_of hl (by decide +kernel) (Nat.le_of_ble_eq_true rfl) (fun E g f eG eL => ?_)
  subst eG; subst eL
  have g : GX E "java/lang/Math" cJ9_floorDiv_f86c9 6 0 := g
  have f : FX E "floorDiv" (some .long) [] := f
  show V E 6 (QE E (s', .inl (some (vJ w')))) s 0 [(0, vJ a0), (2, vJ a1)] []
  unfold f_J9_floorDiv_f86c9 at hf
  refine V_lload_n g 0 dJ9_floorDiv_f86c9_0 rfl ?_
  refine V_lload_n g 1 dJ9_floorDiv_f86c9_1 rfl ?_
  obtain ⟨h1, hf⟩ := d0_some hf
  refine V_ldiv g dJ9_floorDiv_f86c9_2 h1 ?_
  obtain ⟨x2, ex2, hf⟩ := lt_some hf
  refine V_lstore g [(4, vJ x2), (0, vJ a0), (2, vJ a1)] dJ9_floorDiv_f86c9_3 ex2 (by decide) rfl ?_
  refine V_lload_n g 1 dJ9_floorDiv_f86c9_5 rfl ?_
  refine V_lload_n g 2 dJ9_floorDiv_f86c9_6 rfl ?_
  refine V_lxor g dJ9_floorDiv_f86c9_7 ?_
  refine V_lconst (v := 0) g dJ9_floorDiv_f86c9_8 (by decide) ?_
  refine V_lcmp g dJ9_floorDiv_f86c9_9 ?_
  refine V_if_ge g 27 dJ9_floorDiv_f86c9_10 (by decide) (fun c3 => ?_) (fun c3 => ?_)
  · have hf := it_t hf c3
    refine V_sub [(4, vJ x2)] [0] rfl ?_
    exact t_J9_floorDiv_f86c9_b27 g f hf
  · have hf := it_f hf c3
    refine V_lload g 0 dJ9_floorDiv_f86c9_13 rfl ?_
    refine V_lload_n g 2 dJ9_floorDiv_f86c9_15 rfl ?_
    refine V_lmul g dJ9_floorDiv_f86c9_16 ?_
    refine V_lload_n g 1 dJ9_floorDiv_f86c9_17 rfl ?_
    refine V_lcmp g dJ9_floorDiv_f86c9_18 ?_
    refine V_if_eq g 27 dJ9_floorDiv_f86c9_19 (by decide) (fun c4 => ?_) (fun c4 => ?_)
    · have hf := it_t hf c4
      refine V_sub [(4, vJ x2)] [0] rfl ?_
      exact t_J9_floorDiv_f86c9_b27 g f hf
    · have hf := it_f hf c4
      refine V_lload g 0 dJ9_floorDiv_f86c9_22 rfl ?_
      refine V_lconst (v := 1) g dJ9_floorDiv_f86c9_24 (by decide) ?_
      refine V_lsub g dJ9_floorDiv_f86c9_25 ?_
      cases hf
      exact V_lreturn g f dJ9_floorDiv_f86c9_26
set_option maxRecDepth 20000 in
theorem t_J0_isLatin1_aae02_b18 {E : ET} {fu : Nat} {s' : St} {w' : Int32} (g : GX E "java/lang/String" cJ0_isLatin1_aae02 1 0) (f : FX E "isLatin1" (some .boolean) []) {s : St} {t0 : Int32} (hf : f_J0_isLatin1_aae02_b18 fu s t0 = some (s', w')) : V E 1 (QE E (s', .inl (some (vI w')))) s 18 [] [vI t0] := by
  unfold f_J0_isLatin1_aae02_b18 at hf
  obtain ⟨h4, hf⟩ := ckf hf
  cases hf
  exact V_zreturn g f (zb_n h4) dJ0_isLatin1_aae02_18
set_option maxRecDepth 20000 in
theorem t_J0_isLatin1_aae02_b17 {E : ET} {fu : Nat} {s' : St} {w' : Int32} (g : GX E "java/lang/String" cJ0_isLatin1_aae02 1 0) (f : FX E "isLatin1" (some .boolean) []) {s : St} (hf : f_J0_isLatin1_aae02_b17 fu s = some (s', w')) : V E 1 (QE E (s', .inl (some (vI w')))) s 17 [] [] := by
  unfold f_J0_isLatin1_aae02_b17 at hf
  refine V_iconst (v := 0) g dJ0_isLatin1_aae02_17 (by decide) ?_
  exact t_J0_isLatin1_aae02_b18 g f hf
set_option maxRecDepth 20000 in
theorem t_J0_isLatin1_aae02 {G : GT} {l : Launch} (hl : l.stackTraces = false) {fu : Nat} {s s' : St} {a0 : Nat} {w' : Int32} (hf : f_J0_isLatin1_aae02 fu s a0 = some (s', w')) : MetG G l yJ0_isLatin1_aae02 (.code yJ0_isLatin1_aae02 cJ0_isLatin1_aae02 1 (some .boolean)) 0 s [vR 16 a0] (s', .inl (some (vI w'))) := by
  refine MetG_of hl (by decide +kernel) (Nat.le_of_ble_eq_true rfl) (fun E g f eG eL => ?_)
  subst eG; subst eL
  have g : GX E "java/lang/String" cJ0_isLatin1_aae02 1 0 := g
  have f : FX E "isLatin1" (some .boolean) [] := f
  show V E 1 (QE E (s', .inl (some (vI w')))) s 0 [(0, vR 16 a0)] []
  unfold f_J0_isLatin1_aae02 at hf
  refine V_getsI g q_726 dJ0_isLatin1_aae02_0 ?_
  refine V_if_eq g 17 dJ0_isLatin1_aae02_3 (by decide) (fun c1 => ?_) (fun c1 => ?_)
  · have hf := it_t hf c1
    refine V_sub [] [] rfl ?_
    exact t_J0_isLatin1_aae02_b17 g f hf
  · have hf := it_f hf c1
    refine V_aload_n g 0 dJ0_isLatin1_aae02_6 rfl ?_
    obtain ⟨z2, hf⟩ := nz_some hf
    refine V_strC g z2 q_1862 dJ0_isLatin1_aae02_7 ?_
    refine V_if_ne g 17 dJ0_isLatin1_aae02_10 (by decide) (fun c3 => ?_) (fun c3 => ?_)
    · have hf := it_f hf c3
      refine V_sub [] [] rfl ?_
      exact t_J0_isLatin1_aae02_b17 g f hf
    · have hf := it_t hf c3
      refine V_iconst (v := 1) g dJ0_isLatin1_aae02_13 (by decide) ?_
      refine V_goto g 18 dJ0_isLatin1_aae02_14 (by decide) ?_
      refine V_sub [] [] rfl ?_
      exact t_J0_isLatin1_aae02_b18 g f hf
set_option maxRecDepth 20000 in
theorem t_J3_checkIndex_8e157_b9 {E : ET} {fu : Nat} {s' : St} {w' : Int32} (g : GX E "jdk/internal/util/Preconditions" cJ3_checkIndex_8e157 3 0) (f : FX E "checkIndex" (some .int) []) {s : St} {l0 : Int32} {l1 : Int32} (hf : f_J3_checkIndex_8e157_b9 fu s l0 l1 = some (s', w')) : V E 3 (QE E (s', .inl (some (vI w')))) s 9 [(0, vI l0), (1, vI l1)] [] := by
  unfold f_J3_checkIndex_8e157_b9 at hf
  exact nomatch hf
set_option maxRecDepth 20000 in
theorem t_J3_checkIndex_8e157 {G : GT} {l : Launch} (hl : l.stackTraces = false) {fu : Nat} {s s' : St} {a0 : Int32} {a1 : Int32} {a2 : Value} {w' : Int32} (hf : f_J3_checkIndex_8e157 fu s a0 a1 = some (s', w')) : MetG G l yJ3_checkIndex_8e157 (.code yJ3_checkIndex_8e157 cJ3_checkIndex_8e157 3 (some .int)) 0 s [vI a0, vI a1, vO a2] (s', .inl (some (vI w'))) := by
  refine MetG_of hl (by decide +kernel) (Nat.le_of_ble_eq_true rfl) (fun E g f eG eL => ?_)
  subst eG; subst eL
  have g : GX E "jdk/internal/util/Preconditions" cJ3_checkIndex_8e157 3 0 := g
  have f : FX E "checkIndex" (some .int) [] := f
  show V E 3 (QE E (s', .inl (some (vI w')))) s 0 [(0, vI a0), (1, vI a1), (2, vO a2)] []
  unfold f_J3_checkIndex_8e157 at hf
  refine V_iload_n g 0 dJ3_checkIndex_8e157_0 rfl ?_
  refine V_if_lt g 9 dJ3_checkIndex_8e157_1 (by decide) (fun c1 => ?_) (fun c1 => ?_)
  · have hf := it_t hf c1
    refine V_sub [(0, vI a0), (1, vI a1)] [0, 1] rfl ?_
    exact t_J3_checkIndex_8e157_b9 g f hf
  · have hf := it_f hf c1
    refine V_iload_n g 0 dJ3_checkIndex_8e157_4 rfl ?_
    refine V_iload_n g 1 dJ3_checkIndex_8e157_5 rfl ?_
    refine V_icmp_lt g 16 dJ3_checkIndex_8e157_6 (by decide) (fun c2 => ?_) (fun c2 => ?_)
    · have hf := it_t hf c2
      refine V_iload_n g 0 dJ3_checkIndex_8e157_16 rfl ?_
      cases hf
      exact V_ireturn g f dJ3_checkIndex_8e157_17
    · have hf := it_f hf c2
      refine V_sub [(0, vI a0), (1, vI a1)] [0, 1] rfl ?_
      exact t_J3_checkIndex_8e157_b9 g f hf
set_option maxRecDepth 20000 in
theorem t_J0_checkIndex_df160 {G : GT} {l : Launch} (hl : l.stackTraces = false) {fu : Nat} {s s' : St} {a0 : Int32} {a1 : Int32} (hf : f_J0_checkIndex_df160 fu s a0 a1 = some s') : MetG G l yJ0_checkIndex_df160 (.code yJ0_checkIndex_df160 cJ0_checkIndex_df160 2 none) 1 s [vI a0, vI a1] (s', .inl none) := by
  refine MetG_of hl (by decide +kernel) (Nat.le_of_ble_eq_true rfl) (fun E g f eG eL => ?_)
  subst eG; subst eL
  have g : GX E "java/lang/String" cJ0_checkIndex_df160 2 1 := g
  have f : FX E "checkIndex" none [] := f
  show V E 2 (QE E (s', .inl none)) s 0 [(0, vI a0), (1, vI a1)] []
  unfold f_J0_checkIndex_df160 at hf
  refine V_iload_n g 0 dJ0_checkIndex_df160_0 rfl ?_
  refine V_iload_n g 1 dJ0_checkIndex_df160_1 rfl ?_
  refine V_getsO g q_765 dJ0_checkIndex_df160_2 (fun v1 => ?_)
  obtain ⟨s2, x3, hc, hf⟩ := bI_some hf
  refine cS1 g [vI a0, vI a1, vO v1] [] s2 (vI x3) cf_J3_checkIndex_8e157 (t_J3_checkIndex_8e157 g.2.2.2.2.2.2.1 hc) (by decide) q_816 (Nat.le_of_ble_eq_true rfl) dJ0_checkIndex_df160_5 ?_ rfl
  refine V_pop g dJ0_checkIndex_df160_8 rfl ?_
  cases hf
  exact V_return g f dJ0_checkIndex_df160_9
set_option maxRecDepth 20000 in
theorem t_J1_charAt_3b067 {G : GT} {l : Launch} (hl : l.stackTraces = false) {fu : Nat} {s s' : St} {a0 : Nat} {a1 : Int32} {w' : Int32} (hf : f_J1_charAt_3b067 fu s a0 a1 = some (s', w')) : MetG G l yJ1_charAt_3b067 (.code yJ1_charAt_3b067 cJ1_charAt_3b067 2 (some .char)) 2 s [vR 18 a0, vI a1] (s', .inl (some (vI w'))) := by
  refine MetG_of hl (by decide +kernel) (Nat.le_of_ble_eq_true rfl) (fun E g f eG eL => ?_)
  subst eG; subst eL
  have g : GX E "java/lang/StringLatin1" cJ1_charAt_3b067 2 2 := g
  have f : FX E "charAt" (some .char) [] := f
  show V E 2 (QE E (s', .inl (some (vI w')))) s 0 [(0, vR 18 a0), (1, vI a1)] []
  unfold f_J1_charAt_3b067 at hf
  refine V_iload_n g 1 dJ1_charAt_3b067_0 rfl ?_
  refine V_aload_n g 0 dJ1_charAt_3b067_1 rfl ?_
  obtain ⟨z1, hf⟩ := nz_some hf
  refine V_alen18 g z1 dJ1_charAt_3b067_2 ?_
  obtain ⟨s2, hc, hf⟩ := bV_some hf
  refine cS0 g [vI a1, vI (nI (sL a0))] [] s2 cf_J0_checkIndex_df160 (t_J0_checkIndex_df160 g.2.2.2.2.2.2.1 hc) (by decide) q_813 (Nat.le_of_ble_eq_true rfl) dJ1_charAt_3b067_3 ?_ rfl
  refine V_aload_n g 0 dJ1_charAt_3b067_6 rfl ?_
  refine V_iload_n g 1 dJ1_charAt_3b067_7 rfl ?_
  obtain ⟨h3, hf⟩ := ckf hf
  refine V_bald18 g z1 h3 dJ1_charAt_3b067_8 ?_
  refine V_sipush (v := 255) g dJ1_charAt_3b067_9 (by decide) ?_
  refine V_iand g dJ1_charAt_3b067_12 ?_
  refine V_i2c g dJ1_charAt_3b067_13 ?_
  obtain ⟨h4, hf⟩ := ckf hf
  cases hf
  exact V_zreturn g f (of_decide_eq_true h4) dJ1_charAt_3b067_14
set_option maxRecDepth 20000 in
theorem t_J0_charAt_5068e {G : GT} {l : Launch} (hl : l.stackTraces = false) {fu : Nat} {s s' : St} {a0 : Nat} {a1 : Int32} {w' : Int32} (hf : f_J0_charAt_5068e fu s a0 a1 = some (s', w')) : MetG G l yJ0_charAt_5068e (.code yJ0_charAt_5068e cJ0_charAt_5068e 2 (some .char)) 3 s [vR 16 a0, vI a1] (s', .inl (some (vI w'))) := by
  refine MetG_of hl (by decide +kernel) (Nat.le_of_ble_eq_true rfl) (fun E g f eG eL => ?_)
  subst eG; subst eL
  have g : GX E "java/lang/String" cJ0_charAt_5068e 2 3 := g
  have f : FX E "charAt" (some .char) [] := f
  show V E 2 (QE E (s', .inl (some (vI w')))) s 0 [(0, vR 16 a0), (1, vI a1)] []
  unfold f_J0_charAt_5068e at hf
  refine V_aload_n g 0 dJ0_charAt_5068e_0 rfl ?_
  obtain ⟨z1, hf⟩ := nz_some hf
  obtain ⟨s2, x3, hc, hf⟩ := bI_some hf
  refine cV1 g [] [] s2 (vI x3) cf_J0_isLatin1_aae02 (t_J0_isLatin1_aae02 g.2.2.2.2.2.2.1 hc) (RC_str g z1) z1 (by decide) q_722 (Nat.le_of_ble_eq_true rfl) dJ0_charAt_5068e_1 ?_ rfl
  refine V_if_eq g 16 dJ0_charAt_5068e_4 (by decide) (fun c4 => ?_) (fun c4 => ?_)
  · have hf := it_t hf c4
    refine V_aload_n g 0 dJ0_charAt_5068e_16 rfl ?_
    refine V_strV g z1 q_1863 dJ0_charAt_5068e_17 ?_
    refine V_iload_n g 1 dJ0_charAt_5068e_20 rfl ?_
    exact nomatch hf
  · have hf := it_f hf c4
    refine V_aload_n g 0 dJ0_charAt_5068e_7 rfl ?_
    refine V_strV g z1 q_1863 dJ0_charAt_5068e_8 ?_
    refine V_iload_n g 1 dJ0_charAt_5068e_11 rfl ?_
    obtain ⟨s5, x6, hc, hf⟩ := bI_some hf
    refine cS1 g [vR 18 a0, vI a1] [] s5 (vI x6) cf_J1_charAt_3b067 (t_J1_charAt_3b067 g.2.2.2.2.2.2.1 hc) (by decide) q_810 (Nat.le_of_ble_eq_true rfl) dJ0_charAt_5068e_12 ?_ rfl
    obtain ⟨h7, hf⟩ := ckf hf
    cases hf
    exact V_zreturn g f (of_decide_eq_true h7) dJ0_charAt_5068e_15
set_option maxRecDepth 20000 in
theorem t_J0_coder_7d493_b14 {E : ET} {fu : Nat} {s' : St} {w' : Int32} (g : GX E "java/lang/String" cJ0_coder_7d493 1 0) (f : FX E "coder" (some .byte) []) {s : St} {t0 : Int32} (hf : f_J0_coder_7d493_b14 fu s t0 = some (s', w')) : V E 1 (QE E (s', .inl (some (vI w')))) s 14 [] [vI t0] := by
  unfold f_J0_coder_7d493_b14 at hf
  obtain ⟨h3, hf⟩ := ckf hf
  cases hf
  exact V_zreturn g f (of_decide_eq_true h3) dJ0_coder_7d493_14
set_option maxRecDepth 20000 in
theorem t_J0_coder_7d493 {G : GT} {l : Launch} (hl : l.stackTraces = false) {fu : Nat} {s s' : St} {a0 : Nat} {w' : Int32} (hf : f_J0_coder_7d493 fu s a0 = some (s', w')) : MetG G l yJ0_coder_7d493 (.code yJ0_coder_7d493 cJ0_coder_7d493 1 (some .byte)) 0 s [vR 16 a0] (s', .inl (some (vI w'))) := by
  refine MetG_of hl (by decide +kernel) (Nat.le_of_ble_eq_true rfl) (fun E g f eG eL => ?_)
  subst eG; subst eL
  have g : GX E "java/lang/String" cJ0_coder_7d493 1 0 := g
  have f : FX E "coder" (some .byte) [] := f
  show V E 1 (QE E (s', .inl (some (vI w')))) s 0 [(0, vR 16 a0)] []
  unfold f_J0_coder_7d493 at hf
  refine V_getsI g q_726 dJ0_coder_7d493_0 ?_
  refine V_if_eq g 13 dJ0_coder_7d493_3 (by decide) (fun c1 => ?_) (fun c1 => ?_)
  · have hf := it_t hf c1
    refine V_iconst (v := 1) g dJ0_coder_7d493_13 (by decide) ?_
    refine V_sub [] [] rfl ?_
    exact t_J0_coder_7d493_b14 g f hf
  · have hf := it_f hf c1
    refine V_aload_n g 0 dJ0_coder_7d493_6 rfl ?_
    obtain ⟨z2, hf⟩ := nz_some hf
    refine V_strC g z2 q_1862 dJ0_coder_7d493_7 ?_
    refine V_goto g 14 dJ0_coder_7d493_10 (by decide) ?_
    refine V_sub [] [] rfl ?_
    exact t_J0_coder_7d493_b14 g f hf
set_option maxRecDepth 20000 in
theorem t_J0_length_8abf5 {G : GT} {l : Launch} (hl : l.stackTraces = false) {fu : Nat} {s s' : St} {a0 : Nat} {w' : Int32} (hf : f_J0_length_8abf5 fu s a0 = some (s', w')) : MetG G l yJ0_length_8abf5 (.code yJ0_length_8abf5 cJ0_length_8abf5 1 (some .int)) 1 s [vR 16 a0] (s', .inl (some (vI w'))) := by
  refine MetG_of hl (by decide +kernel) (Nat.le_of_ble_eq_true rfl) (fun E g f eG eL => ?_)
  subst eG; subst eL
  have g : GX E "java/lang/String" cJ0_length_8abf5 1 1 := g
  have f : FX E "length" (some .int) [] := f
  show V E 1 (QE E (s', .inl (some (vI w')))) s 0 [(0, vR 16 a0)] []
  unfold f_J0_length_8abf5 at hf
  refine V_aload_n g 0 dJ0_length_8abf5_0 rfl ?_
  obtain ⟨z1, hf⟩ := nz_some hf
  refine V_strV g z1 q_1863 dJ0_length_8abf5_1 ?_
  refine V_alen18 g z1 dJ0_length_8abf5_4 ?_
  refine V_aload_n g 0 dJ0_length_8abf5_5 rfl ?_
  obtain ⟨s2, x3, hc, hf⟩ := bI_some hf
  refine cV1 g [] [vI (nI (sL a0))] s2 (vI x3) cf_J0_coder_7d493 (t_J0_coder_7d493 g.2.2.2.2.2.2.1 hc) (RC_str g z1) z1 (by decide) q_732 (Nat.le_of_ble_eq_true rfl) dJ0_length_8abf5_6 ?_ rfl
  refine V_ishr g dJ0_length_8abf5_9 ?_
  cases hf
  exact V_ireturn g f dJ0_length_8abf5_10
set_option maxRecDepth 20000 in
theorem t_J1_canEncode_9a6ad_b16 {E : ET} {fu : Nat} {s' : St} {w' : Int32} (g : GX E "java/lang/StringLatin1" cJ1_canEncode_9a6ad 1 0) (f : FX E "canEncode" (some .boolean) []) {s : St} {t0 : Int32} (hf : f_J1_canEncode_9a6ad_b16 fu s t0 = some (s', w')) : V E 1 (QE E (s', .inl (some (vI w')))) s 16 [] [vI t0] := by
  unfold f_J1_canEncode_9a6ad_b16 at hf
  obtain ⟨h3, hf⟩ := ckf hf
  cases hf
  exact V_zreturn g f (zb_n h3) dJ1_canEncode_9a6ad_16
set_option maxRecDepth 20000 in
theorem t_J1_canEncode_9a6ad_b15 {E : ET} {fu : Nat} {s' : St} {w' : Int32} (g : GX E "java/lang/StringLatin1" cJ1_canEncode_9a6ad 1 0) (f : FX E "canEncode" (some .boolean) []) {s : St} (hf : f_J1_canEncode_9a6ad_b15 fu s = some (s', w')) : V E 1 (QE E (s', .inl (some (vI w')))) s 15 [] [] := by
  unfold f_J1_canEncode_9a6ad_b15 at hf
  refine V_iconst (v := 0) g dJ1_canEncode_9a6ad_15 (by decide) ?_
  exact t_J1_canEncode_9a6ad_b16 g f hf
set_option maxRecDepth 20000 in
theorem t_J1_canEncode_9a6ad {G : GT} {l : Launch} (hl : l.stackTraces = false) {fu : Nat} {s s' : St} {a0 : Int32} {w' : Int32} (hf : f_J1_canEncode_9a6ad fu s a0 = some (s', w')) : MetG G l yJ1_canEncode_9a6ad (.code yJ1_canEncode_9a6ad cJ1_canEncode_9a6ad 1 (some .boolean)) 0 s [vI a0] (s', .inl (some (vI w'))) := by
  refine MetG_of hl (by decide +kernel) (Nat.le_of_ble_eq_true rfl) (fun E g f eG eL => ?_)
  subst eG; subst eL
  have g : GX E "java/lang/StringLatin1" cJ1_canEncode_9a6ad 1 0 := g
  have f : FX E "canEncode" (some .boolean) [] := f
  show V E 1 (QE E (s', .inl (some (vI w')))) s 0 [(0, vI a0)] []
  unfold f_J1_canEncode_9a6ad at hf
  refine V_iload_n g 0 dJ1_canEncode_9a6ad_0 rfl ?_
  refine V_if_lt g 15 dJ1_canEncode_9a6ad_1 (by decide) (fun c1 => ?_) (fun c1 => ?_)
  · have hf := it_t hf c1
    refine V_sub [] [] rfl ?_
    exact t_J1_canEncode_9a6ad_b15 g f hf
  · have hf := it_f hf c1
    refine V_iload_n g 0 dJ1_canEncode_9a6ad_4 rfl ?_
    refine V_sipush (v := 255) g dJ1_canEncode_9a6ad_5 (by decide) ?_
    refine V_icmp_gt g 15 dJ1_canEncode_9a6ad_8 (by decide) (fun c2 => ?_) (fun c2 => ?_)
    · have hf := it_t hf c2
      refine V_sub [] [] rfl ?_
      exact t_J1_canEncode_9a6ad_b15 g f hf
    · have hf := it_f hf c2
      refine V_iconst (v := 1) g dJ1_canEncode_9a6ad_11 (by decide) ?_
      refine V_goto g 16 dJ1_canEncode_9a6ad_12 (by decide) ?_
      refine V_sub [] [] rfl ?_
      exact t_J1_canEncode_9a6ad_b16 g f hf
set_option maxRecDepth 20000 in
theorem t_J1_indexOfChar_4cfef_b7 {E : ET} {fu : Nat} {s' : St} {w' : Int32} (g : GX E "java/lang/StringLatin1" cJ1_indexOfChar_4cfef 6 0) (f : FX E "indexOfChar" (some .int) []) : ∀ (n : Nat) (s : St) (l0 : Nat) (l3 : Int32) (l4 : Int32) (l5 : Int32), f_J1_indexOfChar_4cfef_b7 fu n s l0 l3 l4 l5 = some (s', w') → V E 6 (QE E (s', .inl (some (vI w')))) s 7 [(0, vR 18 l0), (3, vI l3), (4, vI l4), (5, vI l5)] [] := by
  intro n
  induction n with
  | zero =>
    intro s l0 l3 l4 l5 hf
    unfold f_J1_indexOfChar_4cfef_b7 at hf
    exact nomatch hf
  | succ n ih =>
    intro s l0 l3 l4 l5 hf
    unfold f_J1_indexOfChar_4cfef_b7 at hf
    refine V_iload g 3 dJ1_indexOfChar_4cfef_7 rfl ?_
    refine V_iload_n g 1 dJ1_indexOfChar_4cfef_9 rfl ?_
    refine V_icmp_ge g 31 dJ1_indexOfChar_4cfef_10 (by decide) (fun c2 => ?_) (fun c2 => ?_)
    · have hf := it_t hf c2
      refine V_iconst (v := (-1)) g dJ1_indexOfChar_4cfef_31 (by decide) ?_
      cases hf
      exact V_ireturn g f dJ1_indexOfChar_4cfef_32
    · have hf := it_f hf c2
      refine V_aload_n g 0 dJ1_indexOfChar_4cfef_13 rfl ?_
      refine V_iload g 3 dJ1_indexOfChar_4cfef_14 rfl ?_
      obtain ⟨z3, hf⟩ := nz_some hf
      obtain ⟨h4, hf⟩ := ckf hf
      refine V_bald18 g z3 h4 dJ1_indexOfChar_4cfef_16 ?_
      refine V_iload g 2 dJ1_indexOfChar_4cfef_17 rfl ?_
      refine V_icmp_ne g 25 dJ1_indexOfChar_4cfef_19 (by decide) (fun c5 => ?_) (fun c5 => ?_)
      · have hf := it_f hf c5
        obtain ⟨x6, ex6, hf⟩ := lt_some hf
        refine V_iinc g 3 [(5, vI x6), (0, vR 18 l0), (3, vI l3), (4, vI l4)] dJ1_indexOfChar_4cfef_25 rfl (by rw [ex6]; rfl) (by decide) rfl ?_
        refine V_goto g 7 dJ1_indexOfChar_4cfef_28 (by decide) ?_
        refine V_sub [(0, vR 18 l0), (3, vI l3), (4, vI l4), (5, vI x6)] [1, 2, 3, 0] rfl ?_
        exact ih s l0 l3 l4 x6 hf
      · have hf := it_t hf c5
        refine V_iload g 3 dJ1_indexOfChar_4cfef_22 rfl ?_
        cases hf
        exact V_ireturn g f dJ1_indexOfChar_4cfef_24
set_option maxRecDepth 20000 in
theorem t_J1_indexOfChar_4cfef {G : GT} {l : Launch} (hl : l.stackTraces = false) {fu : Nat} {s s' : St} {a0 : Nat} {a1 : Int32} {a2 : Int32} {a3 : Int32} {w' : Int32} (hf : f_J1_indexOfChar_4cfef fu s a0 a1 a2 a3 = some (s', w')) : MetG G l yJ1_indexOfChar_4cfef (.code yJ1_indexOfChar_4cfef cJ1_indexOfChar_4cfef 6 (some .int)) 0 s [vR 18 a0, vI a1, vI a2, vI a3] (s', .inl (some (vI w'))) := by
  refine MetG_of hl (by decide +kernel) (Nat.le_of_ble_eq_true rfl) (fun E g f eG eL => ?_)
  subst eG; subst eL
  have g : GX E "java/lang/StringLatin1" cJ1_indexOfChar_4cfef 6 0 := g
  have f : FX E "indexOfChar" (some .int) [] := f
  show V E 6 (QE E (s', .inl (some (vI w')))) s 0 [(0, vR 18 a0), (1, vI a1), (2, vI a2), (3, vI a3)] []
  unfold f_J1_indexOfChar_4cfef at hf
  refine V_iload_n g 1 dJ1_indexOfChar_4cfef_0 rfl ?_
  refine V_i2b g dJ1_indexOfChar_4cfef_1 ?_
  obtain ⟨x1, ex1, hf⟩ := lt_some hf
  refine V_istore g [(4, vI x1), (0, vR 18 a0), (1, vI a1), (2, vI a2), (3, vI a3)] dJ1_indexOfChar_4cfef_2 ex1 (by decide) rfl ?_
  refine V_iload_n g 3 dJ1_indexOfChar_4cfef_4 rfl ?_
  refine V_istore g [(5, vI a2), (4, vI x1), (0, vR 18 a0), (1, vI a1), (2, vI a2), (3, vI a3)] dJ1_indexOfChar_4cfef_5 rfl (by decide) rfl ?_
  refine V_sub [(0, vR 18 a0), (3, vI a3), (4, vI x1), (5, vI a2)] [2, 5, 1, 0] rfl ?_
  exact t_J1_indexOfChar_4cfef_b7 g f _ s a0 a3 x1 a2 hf
set_option maxRecDepth 20000 in
theorem t_J1_indexOf_4cfef {G : GT} {l : Launch} (hl : l.stackTraces = false) {fu : Nat} {s s' : St} {a0 : Nat} {a1 : Int32} {a2 : Int32} {a3 : Int32} {w' : Int32} (hf : f_J1_indexOf_4cfef fu s a0 a1 a2 a3 = some (s', w')) : MetG G l yJ1_indexOf_4cfef (.code yJ1_indexOf_4cfef cJ1_indexOf_4cfef 4 (some .int)) 1 s [vR 18 a0, vI a1, vI a2, vI a3] (s', .inl (some (vI w'))) := by
  refine MetG_of hl (by decide +kernel) (Nat.le_of_ble_eq_true rfl) (fun E g f eG eL => ?_)
  subst eG; subst eL
  have g : GX E "java/lang/StringLatin1" cJ1_indexOf_4cfef 4 1 := g
  have f : FX E "indexOf" (some .int) [] := f
  show V E 4 (QE E (s', .inl (some (vI w')))) s 0 [(0, vR 18 a0), (1, vI a1), (2, vI a2), (3, vI a3)] []
  unfold f_J1_indexOf_4cfef at hf
  refine V_iload_n g 1 dJ1_indexOf_4cfef_0 rfl ?_
  obtain ⟨s1, x2, hc, hf⟩ := bI_some hf
  refine cS1 g [vI a1] [] s1 (vI x2) cf_J1_canEncode_9a6ad (t_J1_canEncode_9a6ad g.2.2.2.2.2.2.1 hc) (by decide) q_739 (Nat.le_of_ble_eq_true rfl) dJ1_indexOf_4cfef_1 ?_ rfl
  refine V_if_ne g 9 dJ1_indexOf_4cfef_4 (by decide) (fun c3 => ?_) (fun c3 => ?_)
  · have hf := it_f hf c3
    refine V_iload_n g 2 dJ1_indexOf_4cfef_9 rfl ?_
    refine V_iconst (v := 0) g dJ1_indexOf_4cfef_10 (by decide) ?_
    obtain ⟨s4, x5, hc, hf⟩ := bI_some hf
    refine cS1 g [vI a2, vI 0] [] s4 (vI x5) cf_J9_max_7cf53 (t_J9_max_7cf53 g.2.2.2.2.2.2.1 hc) (by decide) q_742 (Nat.le_of_ble_eq_true rfl) dJ1_indexOf_4cfef_11 ?_ rfl
    refine V_istore_n g [(2, vI x5), (0, vR 18 a0), (1, vI a1), (3, vI a3)] dJ1_indexOf_4cfef_14 rfl (by decide) rfl ?_
    refine V_iload_n g 3 dJ1_indexOf_4cfef_15 rfl ?_
    refine V_aload_n g 1 dJ1_indexOf_4cfef_16 rfl ?_
    obtain ⟨z6, hf⟩ := nz_some hf
    refine V_alen18 g z6 dJ1_indexOf_4cfef_17 ?_
    obtain ⟨s7, x8, hc, hf⟩ := bI_some hf
    refine cS1 g [vI a3, vI (nI (sL a0))] [] s7 (vI x8) cf_J9_min_7cf53 (t_J9_min_7cf53 g.2.2.2.2.2.2.1 hc) (by decide) q_743 (Nat.le_of_ble_eq_true rfl) dJ1_indexOf_4cfef_18 ?_ rfl
    refine V_istore_n g [(3, vI x8), (2, vI x5), (0, vR 18 a0), (1, vI a1)] dJ1_indexOf_4cfef_21 rfl (by decide) rfl ?_
    refine V_iload_n g 1 dJ1_indexOf_4cfef_22 rfl ?_
    refine V_iload_n g 0 dJ1_indexOf_4cfef_23 rfl ?_
    refine V_icmp_lt g 29 dJ1_indexOf_4cfef_24 (by decide) (fun c9 => ?_) (fun c9 => ?_)
    · have hf := it_t hf c9
      refine V_aload_n g 2 dJ1_indexOf_4cfef_29 rfl ?_
      refine V_iload_n g 3 dJ1_indexOf_4cfef_30 rfl ?_
      refine V_iload_n g 1 dJ1_indexOf_4cfef_31 rfl ?_
      refine V_iload_n g 0 dJ1_indexOf_4cfef_32 rfl ?_
      obtain ⟨s10, x11, hc, hf⟩ := bI_some hf
      refine cS1 g [vR 18 a0, vI a1, vI x5, vI x8] [] s10 (vI x11) cf_J1_indexOfChar_4cfef (t_J1_indexOfChar_4cfef g.2.2.2.2.2.2.1 hc) (by decide) q_744 (Nat.le_of_ble_eq_true rfl) dJ1_indexOf_4cfef_33 ?_ rfl
      cases hf
      exact V_ireturn g f dJ1_indexOf_4cfef_36
    · have hf := it_f hf c9
      refine V_iconst (v := (-1)) g dJ1_indexOf_4cfef_27 (by decide) ?_
      cases hf
      exact V_ireturn g f dJ1_indexOf_4cfef_28
  · have hf := it_t hf c3
    refine V_iconst (v := (-1)) g dJ1_indexOf_4cfef_7 (by decide) ?_
    cases hf
    exact V_ireturn g f dJ1_indexOf_4cfef_8
set_option maxRecDepth 20000 in
theorem t_J0_indexOf_7cf53_b36 {E : ET} {fu : Nat} {s' : St} {w' : Int32} (g : GX E "java/lang/String" cJ0_indexOf_7cf53 3 2) (f : FX E "indexOf" (some .int) []) {s : St} {t0 : Int32} (hf : f_J0_indexOf_7cf53_b36 fu s t0 = some (s', w')) : V E 3 (QE E (s', .inl (some (vI w')))) s 36 [] [vI t0] := by
  unfold f_J0_indexOf_7cf53_b36 at hf
  cases hf
  exact V_ireturn g f dJ0_indexOf_7cf53_36
set_option maxRecDepth 20000 in
theorem t_J0_indexOf_7cf53 {G : GT} {l : Launch} (hl : l.stackTraces = false) {fu : Nat} {s s' : St} {a0 : Nat} {a1 : Int32} {a2 : Int32} {w' : Int32} (hf : f_J0_indexOf_7cf53 fu s a0 a1 a2 = some (s', w')) : MetG G l yJ0_indexOf_7cf53 (.code yJ0_indexOf_7cf53 cJ0_indexOf_7cf53 3 (some .int)) 2 s [vR 16 a0, vI a1, vI a2] (s', .inl (some (vI w'))) := by
  refine MetG_of hl (by decide +kernel) (Nat.le_of_ble_eq_true rfl) (fun E g f eG eL => ?_)
  subst eG; subst eL
  have g : GX E "java/lang/String" cJ0_indexOf_7cf53 3 2 := g
  have f : FX E "indexOf" (some .int) [] := f
  show V E 3 (QE E (s', .inl (some (vI w')))) s 0 [(0, vR 16 a0), (1, vI a1), (2, vI a2)] []
  unfold f_J0_indexOf_7cf53 at hf
  refine V_aload_n g 0 dJ0_indexOf_7cf53_0 rfl ?_
  obtain ⟨z1, hf⟩ := nz_some hf
  obtain ⟨s2, x3, hc, hf⟩ := bI_some hf
  refine cV1 g [] [] s2 (vI x3) cf_J0_isLatin1_aae02 (t_J0_isLatin1_aae02 g.2.2.2.2.2.2.1 hc) (RC_str g z1) z1 (by decide) q_722 (Nat.le_of_ble_eq_true rfl) dJ0_indexOf_7cf53_1 ?_ rfl
  refine V_if_eq g 23 dJ0_indexOf_7cf53_4 (by decide) (fun c4 => ?_) (fun c4 => ?_)
  · have hf := it_t hf c4
    refine V_aload_n g 0 dJ0_indexOf_7cf53_23 rfl ?_
    refine V_strV g z1 q_1863 dJ0_indexOf_7cf53_24 ?_
    refine V_iload_n g 1 dJ0_indexOf_7cf53_27 rfl ?_
    refine V_iload_n g 2 dJ0_indexOf_7cf53_28 rfl ?_
    refine V_aload_n g 0 dJ0_indexOf_7cf53_29 rfl ?_
    obtain ⟨s5, x6, hc, hf⟩ := bI_some hf
    refine cV1 g [] [vI a2, vI a1, vR 18 a0] s5 (vI x6) cf_J0_length_8abf5 (t_J0_length_8abf5 g.2.2.2.2.2.2.1 hc) (RC_str g z1) z1 (by decide) q_728 (Nat.le_of_ble_eq_true rfl) dJ0_indexOf_7cf53_30 ?_ rfl
    exact nomatch hf
  · have hf := it_f hf c4
    refine V_aload_n g 0 dJ0_indexOf_7cf53_7 rfl ?_
    refine V_strV g z1 q_1863 dJ0_indexOf_7cf53_8 ?_
    refine V_iload_n g 1 dJ0_indexOf_7cf53_11 rfl ?_
    refine V_iload_n g 2 dJ0_indexOf_7cf53_12 rfl ?_
    refine V_aload_n g 0 dJ0_indexOf_7cf53_13 rfl ?_
    obtain ⟨s7, x8, hc, hf⟩ := bI_some hf
    refine cV1 g [] [vI a2, vI a1, vR 18 a0] s7 (vI x8) cf_J0_length_8abf5 (t_J0_length_8abf5 g.2.2.2.2.2.2.1 hc) (RC_str g z1) z1 (by decide) q_728 (Nat.le_of_ble_eq_true rfl) dJ0_indexOf_7cf53_14 ?_ rfl
    obtain ⟨s9, x10, hc, hf⟩ := bI_some hf
    refine cS1 g [vR 18 a0, vI a1, vI a2, vI x8] [] s9 (vI x10) cf_J1_indexOf_4cfef (t_J1_indexOf_4cfef g.2.2.2.2.2.2.1 hc) (by decide) q_736 (Nat.le_of_ble_eq_true rfl) dJ0_indexOf_7cf53_17 ?_ rfl
    refine V_goto g 36 dJ0_indexOf_7cf53_20 (by decide) ?_
    refine V_sub [] [] rfl ?_
    exact t_J0_indexOf_7cf53_b36 g f hf
set_option maxRecDepth 20000 in
theorem t_J0_indexOf_0f7a4 {G : GT} {l : Launch} (hl : l.stackTraces = false) {fu : Nat} {s s' : St} {a0 : Nat} {a1 : Int32} {w' : Int32} (hf : f_J0_indexOf_0f7a4 fu s a0 a1 = some (s', w')) : MetG G l yJ0_indexOf_0f7a4 (.code yJ0_indexOf_0f7a4 cJ0_indexOf_0f7a4 2 (some .int)) 3 s [vR 16 a0, vI a1] (s', .inl (some (vI w'))) := by
  refine MetG_of hl (by decide +kernel) (Nat.le_of_ble_eq_true rfl) (fun E g f eG eL => ?_)
  subst eG; subst eL
  have g : GX E "java/lang/String" cJ0_indexOf_0f7a4 2 3 := g
  have f : FX E "indexOf" (some .int) [] := f
  show V E 2 (QE E (s', .inl (some (vI w')))) s 0 [(0, vR 16 a0), (1, vI a1)] []
  unfold f_J0_indexOf_0f7a4 at hf
  refine V_aload_n g 0 dJ0_indexOf_0f7a4_0 rfl ?_
  refine V_iload_n g 1 dJ0_indexOf_0f7a4_1 rfl ?_
  refine V_iconst (v := 0) g dJ0_indexOf_0f7a4_2 (by decide) ?_
  obtain ⟨z1, hf⟩ := nz_some hf
  obtain ⟨s2, x3, hc, hf⟩ := bI_some hf
  refine cV1 g [vI a1, vI 0] [] s2 (vI x3) cf_J0_indexOf_7cf53 (t_J0_indexOf_7cf53 g.2.2.2.2.2.2.1 hc) (RC_str g z1) z1 (by decide) q_718 (Nat.le_of_ble_eq_true rfl) dJ0_indexOf_0f7a4_3 ?_ rfl
  cases hf
  exact V_ireturn g f dJ0_indexOf_0f7a4_6
set_option maxRecDepth 20000 in
theorem t_J9_abs_0f7a4_b10 {E : ET} {fu : Nat} {s' : St} {w' : Int32} (g : GX E "java/lang/Math" cJ9_abs_0f7a4 1 0) (f : FX E "abs" (some .int) []) {s : St} {t0 : Int32} (hf : f_J9_abs_0f7a4_b10 fu s t0 = some (s', w')) : V E 1 (QE E (s', .inl (some (vI w')))) s 10 [] [vI t0] := by
  unfold f_J9_abs_0f7a4_b10 at hf
  cases hf
  exact V_ireturn g f dJ9_abs_0f7a4_10
set_option maxRecDepth 20000 in
theorem t_J9_abs_0f7a4 {G : GT} {l : Launch} (hl : l.stackTraces = false) {fu : Nat} {s s' : St} {a0 : Int32} {w' : Int32} (hf : f_J9_abs_0f7a4 fu s a0 = some (s', w')) : MetG G l yJ9_abs_0f7a4 (.code yJ9_abs_0f7a4 cJ9_abs_0f7a4 1 (some .int)) 0 s [vI a0] (s', .inl (some (vI w'))) := by
  refine MetG_of hl (by decide +kernel) (Nat.le_of_ble_eq_true rfl) (fun E g f eG eL => ?_)
  subst eG; subst eL
  have g : GX E "java/lang/Math" cJ9_abs_0f7a4 1 0 := g
  have f : FX E "abs" (some .int) [] := f
  show V E 1 (QE E (s', .inl (some (vI w')))) s 0 [(0, vI a0)] []
  unfold f_J9_abs_0f7a4 at hf
  refine V_iload_n g 0 dJ9_abs_0f7a4_0 rfl ?_
  refine V_if_ge g 9 dJ9_abs_0f7a4_1 (by decide) (fun c1 => ?_) (fun c1 => ?_)
  · have hf := it_t hf c1
    refine V_iload_n g 0 dJ9_abs_0f7a4_9 rfl ?_
    refine V_sub [] [] rfl ?_
    exact t_J9_abs_0f7a4_b10 g f hf
  · have hf := it_f hf c1
    refine V_iload_n g 0 dJ9_abs_0f7a4_4 rfl ?_
    refine V_ineg g dJ9_abs_0f7a4_5 ?_
    refine V_goto g 10 dJ9_abs_0f7a4_6 (by decide) ?_
    refine V_sub [] [] rfl ?_
    exact t_J9_abs_0f7a4_b10 g f hf
set_option maxRecDepth 20000 in
theorem t_J9_max_f86c9_b11 {E : ET} {fu : Nat} {s' : St} {w' : Int64} (g : GX E "java/lang/Math" cJ9_max_f86c9 4 0) (f : FX E "max" (some .long) []) {s : St} {t0 : Int64} (hf : f_J9_max_f86c9_b11 fu s t0 = some (s', w')) : V E 4 (QE E (s', .inl (some (vJ w')))) s 11 [] [vJ t0] := by
  unfold f_J9_max_f86c9_b11 at hf
  cases hf
  exact V_lreturn g f dJ9_max_f86c9_11
set_option maxRecDepth 20000 in
theorem t_J9_max_f86c9 {G : GT} {l : Launch} (hl : l.stackTraces = false) {fu : Nat} {s s' : St} {a0 : Int64} {a1 : Int64} {w' : Int64} (hf : f_J9_max_f86c9 fu s a0 a1 = some (s', w')) : MetG G l yJ9_max_f86c9 (.code yJ9_max_f86c9 cJ9_max_f86c9 4 (some .long)) 0 s [vJ a0, vJ a1] (s', .inl (some (vJ w'))) := by
  refine MetG_of hl (by decide +kernel) (Nat.le_of_ble_eq_true rfl) (fun E g f eG eL => ?_)
  subst eG; subst eL
  have g : GX E "java/lang/Math" cJ9_max_f86c9 4 0 := g
  have f : FX E "max" (some .long) [] := f
  show V E 4 (QE E (s', .inl (some (vJ w')))) s 0 [(0, vJ a0), (2, vJ a1)] []
  unfold f_J9_max_f86c9 at hf
  refine V_lload_n g 0 dJ9_max_f86c9_0 rfl ?_
  refine V_lload_n g 1 dJ9_max_f86c9_1 rfl ?_
  refine V_lcmp g dJ9_max_f86c9_2 ?_
  refine V_if_lt g 10 dJ9_max_f86c9_3 (by decide) (fun c1 => ?_) (fun c1 => ?_)
  · have hf := it_t hf c1
    refine V_lload_n g 1 dJ9_max_f86c9_10 rfl ?_
    refine V_sub [] [] rfl ?_
    exact t_J9_max_f86c9_b11 g f hf
  · have hf := it_f hf c1
    refine V_lload_n g 0 dJ9_max_f86c9_6 rfl ?_
    refine V_goto g 11 dJ9_max_f86c9_7 (by decide) ?_
    refine V_sub [] [] rfl ?_
    exact t_J9_max_f86c9_b11 g f hf
set_option maxRecDepth 20000 in
theorem t_J9_min_f86c9_b11 {E : ET} {fu : Nat} {s' : St} {w' : Int64} (g : GX E "java/lang/Math" cJ9_min_f86c9 4 0) (f : FX E "min" (some .long) []) {s : St} {t0 : Int64} (hf : f_J9_min_f86c9_b11 fu s t0 = some (s', w')) : V E 4 (QE E (s', .inl (some (vJ w')))) s 11 [] [vJ t0] := by
  unfold f_J9_min_f86c9_b11 at hf
  cases hf
  exact V_lreturn g f dJ9_min_f86c9_11
set_option maxRecDepth 20000 in
theorem t_J9_min_f86c9 {G : GT} {l : Launch} (hl : l.stackTraces = false) {fu : Nat} {s s' : St} {a0 : Int64} {a1 : Int64} {w' : Int64} (hf : f_J9_min_f86c9 fu s a0 a1 = some (s', w')) : MetG G l yJ9_min_f86c9 (.code yJ9_min_f86c9 cJ9_min_f86c9 4 (some .long)) 0 s [vJ a0, vJ a1] (s', .inl (some (vJ w'))) := by
  refine MetG_of hl (by decide +kernel) (Nat.le_of_ble_eq_true rfl) (fun E g f eG eL => ?_)
  subst eG; subst eL
  have g : GX E "java/lang/Math" cJ9_min_f86c9 4 0 := g
  have f : FX E "min" (some .long) [] := f
  show V E 4 (QE E (s', .inl (some (vJ w')))) s 0 [(0, vJ a0), (2, vJ a1)] []
  unfold f_J9_min_f86c9 at hf
  refine V_lload_n g 0 dJ9_min_f86c9_0 rfl ?_
  refine V_lload_n g 1 dJ9_min_f86c9_1 rfl ?_
  refine V_lcmp g dJ9_min_f86c9_2 ?_
  refine V_if_gt g 10 dJ9_min_f86c9_3 (by decide) (fun c1 => ?_) (fun c1 => ?_)
  · have hf := it_t hf c1
    refine V_lload_n g 1 dJ9_min_f86c9_10 rfl ?_
    refine V_sub [] [] rfl ?_
    exact t_J9_min_f86c9_b11 g f hf
  · have hf := it_f hf c1
    refine V_lload_n g 0 dJ9_min_f86c9_6 rfl ?_
    refine V_goto g 11 dJ9_min_f86c9_7 (by decide) ?_
    refine V_sub [] [] rfl ?_
    exact t_J9_min_f86c9_b11 g f hf
