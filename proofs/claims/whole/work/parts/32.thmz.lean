set_option maxRecDepth 20000 in
theorem t_L_law_b1839 {E : ET} {fu : Nat} {s' : St} {Q : State → Prop} {xs : Nat → Int32} {L : Nat} (g : GX E "ThinSeriesLaw" cL_law 8 51) (hX : va_X (E.G.2.2.2 19 1) L xs E.s E.s.heap) (hb0 : E.G.2.2.2 19 1 < E.G.1) (hlr : law_end E Q s') {k23 : St → Nat → Nat → Nat → Int32 → Option (St × Int32)} (hk23 : ∀ (s : St) (l1 : Nat) (l2 : Nat) (l3 : Nat) (l4 : Int32), k23 s l1 l2 l3 l4 = some (s', 1) → V E 8 Q s 23 [(0, vR 19 1), (1, vR 8 l1), (2, vR 9 l2), (3, vR 11 l3), (4, vI l4)] []) {s : St} {l1 : Nat} {l2 : Nat} {l3 : Nat} {l4 : Int32} (hf : f_L_law_b1839 fu xs L k23 s l1 l2 l3 l4 = some (s', 1)) : V E 8 Q s 1839 [(0, vR 19 1), (1, vR 8 l1), (2, vR 9 l2), (3, vR 11 l3), (4, vI l4)] [] := by
  unfold f_L_law_b1839 at hf
  obtain ⟨x443, ex443, hf⟩ := lt_some hf
  refine V_iinc g 4 [(4, vI x443), (0, vR 19 1), (1, vR 8 l1), (2, vR 9 l2), (3, vR 11 l3)] dL_law_1839 rfl (by rw [ex443]; rfl) (by decide) rfl ?_
  refine V_goto g 23 dL_law_1842 (by decide) ?_
  refine V_sub [(0, vR 19 1), (1, vR 8 l1), (2, vR 9 l2), (3, vR 11 l3), (4, vI x443)] [1, 2, 3, 4, 0] rfl ?_
  exact hk23 s l1 l2 l3 x443 hf
set_option maxRecDepth 20000 in
theorem t_L_law_b156 {E : ET} {fu : Nat} {s' : St} {Q : State → Prop} {xs : Nat → Int32} {L : Nat} (g : GX E "ThinSeriesLaw" cL_law 8 51) (hX : va_X (E.G.2.2.2 19 1) L xs E.s E.s.heap) (hb0 : E.G.2.2.2 19 1 < E.G.1) (hlr : law_end E Q s') {k23 : St → Nat → Nat → Nat → Int32 → Option (St × Int32)} (hk23 : ∀ (s : St) (l1 : Nat) (l2 : Nat) (l3 : Nat) (l4 : Int32), k23 s l1 l2 l3 l4 = some (s', 1) → V E 8 Q s 23 [(0, vR 19 1), (1, vR 8 l1), (2, vR 9 l2), (3, vR 11 l3), (4, vI l4)] []) {s : St} {l1 : Nat} {l2 : Nat} {l3 : Nat} {l4 : Int32} (hf : f_L_law_b156 fu xs L k23 s l1 l2 l3 l4 = some (s', 1)) : V E 8 Q s 156 [(0, vR 19 1), (1, vR 8 l1), (2, vR 9 l2), (3, vR 11 l3), (4, vI l4)] [] := by
  unfold f_L_law_b156 at hf
  refine V_aload_n g 1 dL_law_156 rfl ?_
  refine V_aload_n g 0 dL_law_157 rfl ?_
  refine V_iload g 4 dL_law_158 rfl ?_
  refine V_iconst (v := 1) g dL_law_160 (by decide) ?_
  refine V_iadd g dL_law_161 ?_
  obtain ⟨h44, hf⟩ := ckf hf
  refine V_sld g hX hb0 h44 dL_law_162 ?_
  refine V_aload_n g 0 dL_law_163 rfl ?_
  refine V_iload g 4 dL_law_164 rfl ?_
  refine V_iconst (v := 2) g dL_law_166 (by decide) ?_
  refine V_iadd g dL_law_167 ?_
  obtain ⟨h45, hf⟩ := ckf hf
  refine V_sld g hX hb0 h45 dL_law_168 ?_
  refine V_aload_n g 0 dL_law_169 rfl ?_
  refine V_iload g 4 dL_law_170 rfl ?_
  refine V_iconst (v := 3) g dL_law_172 (by decide) ?_
  refine V_iadd g dL_law_173 ?_
  obtain ⟨h46, hf⟩ := ckf hf
  refine V_sld g hX hb0 h46 dL_law_174 ?_
  refine V_aload_n g 0 dL_law_175 rfl ?_
  refine V_iload g 4 dL_law_176 rfl ?_
  refine V_iconst (v := 4) g dL_law_178 (by decide) ?_
  refine V_iadd g dL_law_179 ?_
  obtain ⟨h47, hf⟩ := ckf hf
  refine V_sld g hX hb0 h47 dL_law_180 ?_
  refine V_aload_n g 0 dL_law_181 rfl ?_
  refine V_iload g 4 dL_law_182 rfl ?_
  refine V_iconst (v := 5) g dL_law_184 (by decide) ?_
  refine V_iadd g dL_law_185 ?_
  obtain ⟨h48, hf⟩ := ckf hf
  refine V_sld g hX hb0 h48 dL_law_186 ?_
  obtain ⟨z49, hf⟩ := nz_some hf
  obtain ⟨s50, x51, hc, hf⟩ := bI_some hf
  refine cV1 g [vI (xs (ix (l4 + 1))), vI (xs (ix (l4 + 2))), vI (xs (ix (l4 + 3))), vI (xs (ix (l4 + 4))), vI (xs (ix (l4 + 5)))] [] s50 (vI x51) cf_X8_feed (t_X8_feed g.2.2.2.2.2.2.1 hc) (RC_own g rfl z49) z49 (by decide) q_370 (Nat.le_of_ble_eq_true rfl) dL_law_187 ?_ rfl
  refine V_aload_n g 2 dL_law_190 rfl ?_
  refine V_aload_n g 0 dL_law_191 rfl ?_
  refine V_iload g 4 dL_law_192 rfl ?_
  refine V_iconst (v := 1) g dL_law_194 (by decide) ?_
  refine V_iadd g dL_law_195 ?_
  obtain ⟨h52, hf⟩ := ckf hf
  refine V_sld g hX hb0 h52 dL_law_196 ?_
  refine V_aload_n g 0 dL_law_197 rfl ?_
  refine V_iload g 4 dL_law_198 rfl ?_
  refine V_iconst (v := 2) g dL_law_200 (by decide) ?_
  refine V_iadd g dL_law_201 ?_
  obtain ⟨h53, hf⟩ := ckf hf
  refine V_sld g hX hb0 h53 dL_law_202 ?_
  refine V_aload_n g 0 dL_law_203 rfl ?_
  refine V_iload g 4 dL_law_204 rfl ?_
  refine V_iconst (v := 3) g dL_law_206 (by decide) ?_
  refine V_iadd g dL_law_207 ?_
  obtain ⟨h54, hf⟩ := ckf hf
  refine V_sld g hX hb0 h54 dL_law_208 ?_
  refine V_aload_n g 0 dL_law_209 rfl ?_
  refine V_iload g 4 dL_law_210 rfl ?_
  refine V_iconst (v := 4) g dL_law_212 (by decide) ?_
  refine V_iadd g dL_law_213 ?_
  obtain ⟨h55, hf⟩ := ckf hf
  refine V_sld g hX hb0 h55 dL_law_214 ?_
  refine V_aload_n g 0 dL_law_215 rfl ?_
  refine V_iload g 4 dL_law_216 rfl ?_
  refine V_iconst (v := 5) g dL_law_218 (by decide) ?_
  refine V_iadd g dL_law_219 ?_
  obtain ⟨h56, hf⟩ := ckf hf
  refine V_sld g hX hb0 h56 dL_law_220 ?_
  obtain ⟨z57, hf⟩ := nz_some hf
  obtain ⟨s58, x59, hc, hf⟩ := bI_some hf
  refine cV1 g [vI (xs (ix (l4 + 1))), vI (xs (ix (l4 + 2))), vI (xs (ix (l4 + 3))), vI (xs (ix (l4 + 4))), vI (xs (ix (l4 + 5)))] [vI x51] s58 (vI x59) cf_X9_feed (t_X9_feed g.2.2.2.2.2.2.1 hc) (RC_own g rfl z57) z57 (by decide) q_1446 (Nat.le_of_ble_eq_true rfl) dL_law_221 ?_ rfl
  refine V_icmp_eq g 1839 dL_law_224 (by decide) (fun c60 => ?_) (fun c60 => ?_)
  · have hf := it_t hf c60
    exact t_L_law_b1839 g hX hb0 hlr hk23 hf
  · have hf := it_f hf c60
    refine V_iconst (v := 0) g dL_law_227 (by decide) ?_
    exact law_ret g hlr hf dL_law_228
set_option maxRecDepth 20000 in
theorem t_L_law_b282 {E : ET} {fu : Nat} {s' : St} {Q : State → Prop} {xs : Nat → Int32} {L : Nat} (g : GX E "ThinSeriesLaw" cL_law 8 51) (hX : va_X (E.G.2.2.2 19 1) L xs E.s E.s.heap) (hb0 : E.G.2.2.2 19 1 < E.G.1) (hlr : law_end E Q s') {k23 : St → Nat → Nat → Nat → Int32 → Option (St × Int32)} (hk23 : ∀ (s : St) (l1 : Nat) (l2 : Nat) (l3 : Nat) (l4 : Int32), k23 s l1 l2 l3 l4 = some (s', 1) → V E 8 Q s 23 [(0, vR 19 1), (1, vR 8 l1), (2, vR 9 l2), (3, vR 11 l3), (4, vI l4)] []) {s : St} {l1 : Nat} {l2 : Nat} {l3 : Nat} {l4 : Int32} (hf : f_L_law_b282 fu xs L k23 s l1 l2 l3 l4 = some (s', 1)) : V E 8 Q s 282 [(0, vR 19 1), (1, vR 8 l1), (2, vR 9 l2), (3, vR 11 l3), (4, vI l4)] [] := by
  unfold f_L_law_b282 at hf
  refine V_goto g 1839 dL_law_282 (by decide) ?_
  exact t_L_law_b1839 g hX hb0 hlr hk23 hf
set_option maxRecDepth 20000 in
theorem t_L_law_b229 {E : ET} {fu : Nat} {s' : St} {Q : State → Prop} {xs : Nat → Int32} {L : Nat} (g : GX E "ThinSeriesLaw" cL_law 8 51) (hX : va_X (E.G.2.2.2 19 1) L xs E.s E.s.heap) (hb0 : E.G.2.2.2 19 1 < E.G.1) (hlr : law_end E Q s') {k23 : St → Nat → Nat → Nat → Int32 → Option (St × Int32)} (hk23 : ∀ (s : St) (l1 : Nat) (l2 : Nat) (l3 : Nat) (l4 : Int32), k23 s l1 l2 l3 l4 = some (s', 1) → V E 8 Q s 23 [(0, vR 19 1), (1, vR 8 l1), (2, vR 9 l2), (3, vR 11 l3), (4, vI l4)] []) {s : St} {l1 : Nat} {l2 : Nat} {l3 : Nat} {l4 : Int32} (hf : f_L_law_b229 fu xs L k23 s l1 l2 l3 l4 = some (s', 1)) : V E 8 Q s 229 [(0, vR 19 1), (1, vR 8 l1), (2, vR 9 l2), (3, vR 11 l3), (4, vI l4)] [] := by
  unfold f_L_law_b229 at hf
  refine V_aload_n g 1 dL_law_229 rfl ?_
  refine V_aload_n g 0 dL_law_230 rfl ?_
  refine V_iload g 4 dL_law_231 rfl ?_
  refine V_iconst (v := 1) g dL_law_233 (by decide) ?_
  refine V_iadd g dL_law_234 ?_
  obtain ⟨h61, hf⟩ := ckf hf
  refine V_sld g hX hb0 h61 dL_law_235 ?_
  refine V_aload_n g 3 dL_law_236 rfl ?_
  obtain ⟨s62, x63, hc, hf⟩ := bI_some hf
  refine cW1 g [vR 8 l1, vI (xs (ix (l4 + 1))), vR 11 l3] [] s62 (vI x63) cf_L_tell (t_L_tell g.2.2.2.2.2.2.1 hc) (by decide) q_608 (Nat.le_of_ble_eq_true rfl) dL_law_237 ?_ rfl
  refine V_istore g [(5, vI x63), (0, vR 19 1), (1, vR 8 l1), (2, vR 9 l2), (3, vR 11 l3), (4, vI l4)] dL_law_240 rfl (by decide) rfl ?_
  refine V_aload_n g 3 dL_law_242 rfl ?_
  refine V_aload_n g 1 dL_law_243 rfl ?_
  refine V_iload g 5 dL_law_244 rfl ?_
  refine V_iconst (v := 1) g dL_law_246 (by decide) ?_
  refine V_iadd g dL_law_247 ?_
  obtain ⟨h64, hf⟩ := ckf hf
  refine V_sld g hX hb0 h64 dL_law_248 ?_
  obtain ⟨z65, hf⟩ := nz_some hf
  obtain ⟨s66, x67, hc, hf⟩ := bI_some hf
  refine cV1 g [vI (xs (ix (l4 + 1)))] [] s66 (vI x67) cf_X9_tell (t_X9_tell g.2.2.2.2.2.2.1 hc) (RC_own g rfl z65) z65 (by decide) q_1450 (Nat.le_of_ble_eq_true rfl) dL_law_249 ?_ rfl
  refine V_istore g [(6, vI x67), (5, vI x63), (0, vR 19 1), (1, vR 8 l1), (2, vR 9 l2), (3, vR 11 l3), (4, vI l4)] dL_law_252 rfl (by decide) rfl ?_
  refine V_aload_n g 4 dL_law_254 rfl ?_
  obtain ⟨s68, x69, hc, hf⟩ := bI_some hf
  refine cV1 g [] [] s68 (vI x69) cf_X9_thrown (t_X9_thrown g.2.2.2.2.2.2.1 hc) (RC_own g rfl z65) z65 (by decide) q_1442 (Nat.le_of_ble_eq_true rfl) dL_law_255 ?_ rfl
  refine V_iload g 1 dL_law_258 rfl ?_
  refine V_icmp_eq g 265 dL_law_260 (by decide) (fun c70 => ?_) (fun c70 => ?_)
  · have hf := it_t hf c70
    refine V_iload g 1 dL_law_265 rfl ?_
    refine V_if_ne g 282 dL_law_267 (by decide) (fun c71 => ?_) (fun c71 => ?_)
    · have hf := it_f hf c71
      refine V_sub [(0, vR 19 1), (1, vR 8 l1), (2, vR 9 l2), (3, vR 11 l3), (4, vI l4)] [2, 3, 4, 5, 6] rfl ?_
      exact t_L_law_b282 g hX hb0 hlr hk23 hf
    · have hf := it_t hf c71
      refine V_aload_n g 5 dL_law_270 rfl ?_
      refine V_iconst (v := 0) g dL_law_271 (by decide) ?_
      obtain ⟨z72, hf⟩ := nz_some hf
      obtain ⟨h73, hf⟩ := ckf hf
      refine V_lald g z72 h73 dL_law_272 ?_
      refine V_iload g 0 dL_law_273 rfl ?_
      refine V_i2l g dL_law_275 ?_
      refine V_lcmp g dL_law_276 ?_
      refine V_if_eq g 282 dL_law_277 (by decide) (fun c74 => ?_) (fun c74 => ?_)
      · have hf := it_t hf c74
        refine V_sub [(0, vR 19 1), (1, vR 8 l1), (2, vR 9 l2), (3, vR 11 l3), (4, vI l4)] [2, 3, 4, 5, 6] rfl ?_
        exact t_L_law_b282 g hX hb0 hlr hk23 hf
      · have hf := it_f hf c74
        refine V_iconst (v := 0) g dL_law_280 (by decide) ?_
        exact law_ret g hlr hf dL_law_281
  · have hf := it_f hf c70
    refine V_iconst (v := 0) g dL_law_263 (by decide) ?_
    exact law_ret g hlr hf dL_law_264
set_option maxRecDepth 20000 in
theorem t_L_law_b338 {E : ET} {fu : Nat} {s' : St} {Q : State → Prop} {xs : Nat → Int32} {L : Nat} (g : GX E "ThinSeriesLaw" cL_law 8 51) (hX : va_X (E.G.2.2.2 19 1) L xs E.s E.s.heap) (hb0 : E.G.2.2.2 19 1 < E.G.1) (hlr : law_end E Q s') {k23 : St → Nat → Nat → Nat → Int32 → Option (St × Int32)} (hk23 : ∀ (s : St) (l1 : Nat) (l2 : Nat) (l3 : Nat) (l4 : Int32), k23 s l1 l2 l3 l4 = some (s', 1) → V E 8 Q s 23 [(0, vR 19 1), (1, vR 8 l1), (2, vR 9 l2), (3, vR 11 l3), (4, vI l4)] []) {s : St} {l1 : Nat} {l2 : Nat} {l3 : Nat} {l4 : Int32} (hf : f_L_law_b338 fu xs L k23 s l1 l2 l3 l4 = some (s', 1)) : V E 8 Q s 338 [(0, vR 19 1), (1, vR 8 l1), (2, vR 9 l2), (3, vR 11 l3), (4, vI l4)] [] := by
  unfold f_L_law_b338 at hf
  refine V_goto g 1839 dL_law_338 (by decide) ?_
  exact t_L_law_b1839 g hX hb0 hlr hk23 hf
set_option maxRecDepth 20000 in
theorem t_L_law_b285 {E : ET} {fu : Nat} {s' : St} {Q : State → Prop} {xs : Nat → Int32} {L : Nat} (g : GX E "ThinSeriesLaw" cL_law 8 51) (hX : va_X (E.G.2.2.2 19 1) L xs E.s E.s.heap) (hb0 : E.G.2.2.2 19 1 < E.G.1) (hlr : law_end E Q s') {k23 : St → Nat → Nat → Nat → Int32 → Option (St × Int32)} (hk23 : ∀ (s : St) (l1 : Nat) (l2 : Nat) (l3 : Nat) (l4 : Int32), k23 s l1 l2 l3 l4 = some (s', 1) → V E 8 Q s 23 [(0, vR 19 1), (1, vR 8 l1), (2, vR 9 l2), (3, vR 11 l3), (4, vI l4)] []) {s : St} {l1 : Nat} {l2 : Nat} {l3 : Nat} {l4 : Int32} (hf : f_L_law_b285 fu xs L k23 s l1 l2 l3 l4 = some (s', 1)) : V E 8 Q s 285 [(0, vR 19 1), (1, vR 8 l1), (2, vR 9 l2), (3, vR 11 l3), (4, vI l4)] [] := by
  unfold f_L_law_b285 at hf
  refine V_aload_n g 1 dL_law_285 rfl ?_
  refine V_aload_n g 0 dL_law_286 rfl ?_
  refine V_iload g 4 dL_law_287 rfl ?_
  refine V_iconst (v := 1) g dL_law_289 (by decide) ?_
  refine V_iadd g dL_law_290 ?_
  obtain ⟨h75, hf⟩ := ckf hf
  refine V_sld g hX hb0 h75 dL_law_291 ?_
  refine V_aload_n g 3 dL_law_292 rfl ?_
  obtain ⟨s76, x77, hc, hf⟩ := bI_some hf
  refine cW1 g [vR 8 l1, vI (xs (ix (l4 + 1))), vR 11 l3] [] s76 (vI x77) cf_L_batch (t_L_batch g.2.2.2.2.2.2.1 hc) (by decide) q_917 (Nat.le_of_ble_eq_true rfl) dL_law_293 ?_ rfl
  refine V_istore g [(5, vI x77), (0, vR 19 1), (1, vR 8 l1), (2, vR 9 l2), (3, vR 11 l3), (4, vI l4)] dL_law_296 rfl (by decide) rfl ?_
  refine V_aload_n g 3 dL_law_298 rfl ?_
  refine V_aload_n g 1 dL_law_299 rfl ?_
  refine V_iload g 5 dL_law_300 rfl ?_
  refine V_iconst (v := 1) g dL_law_302 (by decide) ?_
  refine V_iadd g dL_law_303 ?_
  obtain ⟨h78, hf⟩ := ckf hf
  refine V_sld g hX hb0 h78 dL_law_304 ?_
  obtain ⟨z79, hf⟩ := nz_some hf
  obtain ⟨s80, x81, hc, hf⟩ := bI_some hf
  refine cV1 g [vI (xs (ix (l4 + 1)))] [] s80 (vI x81) cf_X9_batch (t_X9_batch g.2.2.2.2.2.2.1 hc) (RC_own g rfl z79) z79 (by decide) q_1682 (Nat.le_of_ble_eq_true rfl) dL_law_305 ?_ rfl
  refine V_istore g [(6, vI x81), (5, vI x77), (0, vR 19 1), (1, vR 8 l1), (2, vR 9 l2), (3, vR 11 l3), (4, vI l4)] dL_law_308 rfl (by decide) rfl ?_
  refine V_aload_n g 4 dL_law_310 rfl ?_
  obtain ⟨s82, x83, hc, hf⟩ := bI_some hf
  refine cV1 g [] [] s82 (vI x83) cf_X9_thrown (t_X9_thrown g.2.2.2.2.2.2.1 hc) (RC_own g rfl z79) z79 (by decide) q_1442 (Nat.le_of_ble_eq_true rfl) dL_law_311 ?_ rfl
  refine V_iload g 1 dL_law_314 rfl ?_
  refine V_icmp_eq g 321 dL_law_316 (by decide) (fun c84 => ?_) (fun c84 => ?_)
  · have hf := it_t hf c84
    refine V_iload g 1 dL_law_321 rfl ?_
    refine V_if_ne g 338 dL_law_323 (by decide) (fun c85 => ?_) (fun c85 => ?_)
    · have hf := it_f hf c85
      refine V_sub [(0, vR 19 1), (1, vR 8 l1), (2, vR 9 l2), (3, vR 11 l3), (4, vI l4)] [2, 3, 4, 5, 6] rfl ?_
      exact t_L_law_b338 g hX hb0 hlr hk23 hf
    · have hf := it_t hf c85
      refine V_aload_n g 5 dL_law_326 rfl ?_
      refine V_iconst (v := 0) g dL_law_327 (by decide) ?_
      obtain ⟨z86, hf⟩ := nz_some hf
      obtain ⟨h87, hf⟩ := ckf hf
      refine V_lald g z86 h87 dL_law_328 ?_
      refine V_iload g 0 dL_law_329 rfl ?_
      refine V_i2l g dL_law_331 ?_
      refine V_lcmp g dL_law_332 ?_
      refine V_if_eq g 338 dL_law_333 (by decide) (fun c88 => ?_) (fun c88 => ?_)
      · have hf := it_t hf c88
        refine V_sub [(0, vR 19 1), (1, vR 8 l1), (2, vR 9 l2), (3, vR 11 l3), (4, vI l4)] [2, 3, 4, 5, 6] rfl ?_
        exact t_L_law_b338 g hX hb0 hlr hk23 hf
      · have hf := it_f hf c88
        refine V_iconst (v := 0) g dL_law_336 (by decide) ?_
        exact law_ret g hlr hf dL_law_337
  · have hf := it_f hf c84
    refine V_iconst (v := 0) g dL_law_319 (by decide) ?_
    exact law_ret g hlr hf dL_law_320
set_option maxRecDepth 20000 in
theorem t_L_law_b341 {E : ET} {fu : Nat} {s' : St} {Q : State → Prop} {xs : Nat → Int32} {L : Nat} (g : GX E "ThinSeriesLaw" cL_law 8 51) (hX : va_X (E.G.2.2.2 19 1) L xs E.s E.s.heap) (hb0 : E.G.2.2.2 19 1 < E.G.1) (hlr : law_end E Q s') {k23 : St → Nat → Nat → Nat → Int32 → Option (St × Int32)} (hk23 : ∀ (s : St) (l1 : Nat) (l2 : Nat) (l3 : Nat) (l4 : Int32), k23 s l1 l2 l3 l4 = some (s', 1) → V E 8 Q s 23 [(0, vR 19 1), (1, vR 8 l1), (2, vR 9 l2), (3, vR 11 l3), (4, vI l4)] []) {s : St} {l1 : Nat} {l2 : Nat} {l3 : Nat} {l4 : Int32} (hf : f_L_law_b341 fu xs L k23 s l1 l2 l3 l4 = some (s', 1)) : V E 8 Q s 341 [(0, vR 19 1), (1, vR 8 l1), (2, vR 9 l2), (3, vR 11 l3), (4, vI l4)] [] := by
  unfold f_L_law_b341 at hf
  refine V_aload_n g 1 dL_law_341 rfl ?_
  obtain ⟨z89, hf⟩ := nz_some hf
  obtain ⟨s90, x91, hc, hf⟩ := bI_some hf
  refine cV1 g [] [] s90 (vI x91) cf_X8_fault (t_X8_fault g.2.2.2.2.2.2.1 hc) (RC_own g rfl z89) z89 (by decide) q_378 (Nat.le_of_ble_eq_true rfl) dL_law_342 ?_ rfl
  refine V_aload_n g 2 dL_law_345 rfl ?_
  obtain ⟨z92, hf⟩ := nz_some hf
  obtain ⟨s93, x94, hc, hf⟩ := bI_some hf
  refine cV1 g [] [vI x91] s93 (vI x94) cf_X9_fault (t_X9_fault g.2.2.2.2.2.2.1 hc) (RC_own g rfl z92) z92 (by decide) q_1555 (Nat.le_of_ble_eq_true rfl) dL_law_346 ?_ rfl
  refine V_icmp_eq g 1839 dL_law_349 (by decide) (fun c95 => ?_) (fun c95 => ?_)
  · have hf := it_t hf c95
    exact t_L_law_b1839 g hX hb0 hlr hk23 hf
  · have hf := it_f hf c95
    refine V_iconst (v := 0) g dL_law_352 (by decide) ?_
    exact law_ret g hlr hf dL_law_353
set_option maxRecDepth 20000 in
theorem t_L_law_b354 {E : ET} {fu : Nat} {s' : St} {Q : State → Prop} {xs : Nat → Int32} {L : Nat} (g : GX E "ThinSeriesLaw" cL_law 8 51) (hX : va_X (E.G.2.2.2 19 1) L xs E.s E.s.heap) (hb0 : E.G.2.2.2 19 1 < E.G.1) (hlr : law_end E Q s') {k23 : St → Nat → Nat → Nat → Int32 → Option (St × Int32)} (hk23 : ∀ (s : St) (l1 : Nat) (l2 : Nat) (l3 : Nat) (l4 : Int32), k23 s l1 l2 l3 l4 = some (s', 1) → V E 8 Q s 23 [(0, vR 19 1), (1, vR 8 l1), (2, vR 9 l2), (3, vR 11 l3), (4, vI l4)] []) {s : St} {l1 : Nat} {l2 : Nat} {l3 : Nat} {l4 : Int32} (hf : f_L_law_b354 fu xs L k23 s l1 l2 l3 l4 = some (s', 1)) : V E 8 Q s 354 [(0, vR 19 1), (1, vR 8 l1), (2, vR 9 l2), (3, vR 11 l3), (4, vI l4)] [] := by
  unfold f_L_law_b354 at hf
  refine V_aload_n g 1 dL_law_354 rfl ?_
  refine V_aload_n g 0 dL_law_355 rfl ?_
  refine V_iload g 4 dL_law_356 rfl ?_
  refine V_iconst (v := 1) g dL_law_358 (by decide) ?_
  refine V_iadd g dL_law_359 ?_
  obtain ⟨h96, hf⟩ := ckf hf
  refine V_sld g hX hb0 h96 dL_law_360 ?_
  refine V_aload_n g 0 dL_law_361 rfl ?_
  refine V_iload g 4 dL_law_362 rfl ?_
  refine V_iconst (v := 2) g dL_law_364 (by decide) ?_
  refine V_iadd g dL_law_365 ?_
  obtain ⟨h97, hf⟩ := ckf hf
  refine V_sld g hX hb0 h97 dL_law_366 ?_
  refine V_aload_n g 0 dL_law_367 rfl ?_
  refine V_iload g 4 dL_law_368 rfl ?_
  refine V_iconst (v := 3) g dL_law_370 (by decide) ?_
  refine V_iadd g dL_law_371 ?_
  obtain ⟨h98, hf⟩ := ckf hf
  refine V_sld g hX hb0 h98 dL_law_372 ?_
  obtain ⟨z99, hf⟩ := nz_some hf
  obtain ⟨s100, x101, hc, hf⟩ := bI_some hf
  refine cV1 g [vI (xs (ix (l4 + 1))), vI (xs (ix (l4 + 2))), vI (xs (ix (l4 + 3)))] [] s100 (vI x101) cf_X8_put (t_X8_put g.2.2.2.2.2.2.1 hc) (RC_own g rfl z99) z99 (by decide) q_382 (Nat.le_of_ble_eq_true rfl) dL_law_373 ?_ rfl
  refine V_aload_n g 2 dL_law_376 rfl ?_
  refine V_aload_n g 0 dL_law_377 rfl ?_
  refine V_iload g 4 dL_law_378 rfl ?_
  refine V_iconst (v := 1) g dL_law_380 (by decide) ?_
  refine V_iadd g dL_law_381 ?_
  obtain ⟨h102, hf⟩ := ckf hf
  refine V_sld g hX hb0 h102 dL_law_382 ?_
  refine V_aload_n g 0 dL_law_383 rfl ?_
  refine V_iload g 4 dL_law_384 rfl ?_
  refine V_iconst (v := 2) g dL_law_386 (by decide) ?_
  refine V_iadd g dL_law_387 ?_
  obtain ⟨h103, hf⟩ := ckf hf
  refine V_sld g hX hb0 h103 dL_law_388 ?_
  refine V_aload_n g 0 dL_law_389 rfl ?_
  refine V_iload g 4 dL_law_390 rfl ?_
  refine V_iconst (v := 3) g dL_law_392 (by decide) ?_
  refine V_iadd g dL_law_393 ?_
  obtain ⟨h104, hf⟩ := ckf hf
  refine V_sld g hX hb0 h104 dL_law_394 ?_
  obtain ⟨z105, hf⟩ := nz_some hf
  obtain ⟨s106, x107, hc, hf⟩ := bI_some hf
  refine cV1 g [vI (xs (ix (l4 + 1))), vI (xs (ix (l4 + 2))), vI (xs (ix (l4 + 3)))] [vI x101] s106 (vI x107) cf_X9_put (t_X9_put g.2.2.2.2.2.2.1 hc) (RC_own g rfl z105) z105 (by decide) q_1559 (Nat.le_of_ble_eq_true rfl) dL_law_395 ?_ rfl
  refine V_icmp_eq g 1839 dL_law_398 (by decide) (fun c108 => ?_) (fun c108 => ?_)
  · have hf := it_t hf c108
    exact t_L_law_b1839 g hX hb0 hlr hk23 hf
  · have hf := it_f hf c108
    refine V_iconst (v := 0) g dL_law_401 (by decide) ?_
    exact law_ret g hlr hf dL_law_402
set_option maxRecDepth 20000 in
theorem t_L_law_b403 {E : ET} {fu : Nat} {s' : St} {Q : State → Prop} {xs : Nat → Int32} {L : Nat} (g : GX E "ThinSeriesLaw" cL_law 8 51) (hX : va_X (E.G.2.2.2 19 1) L xs E.s E.s.heap) (hb0 : E.G.2.2.2 19 1 < E.G.1) (hlr : law_end E Q s') {k23 : St → Nat → Nat → Nat → Int32 → Option (St × Int32)} (hk23 : ∀ (s : St) (l1 : Nat) (l2 : Nat) (l3 : Nat) (l4 : Int32), k23 s l1 l2 l3 l4 = some (s', 1) → V E 8 Q s 23 [(0, vR 19 1), (1, vR 8 l1), (2, vR 9 l2), (3, vR 11 l3), (4, vI l4)] []) {s : St} {l1 : Nat} {l2 : Nat} {l3 : Nat} {l4 : Int32} (hf : f_L_law_b403 fu xs L k23 s l1 l2 l3 l4 = some (s', 1)) : V E 8 Q s 403 [(0, vR 19 1), (1, vR 8 l1), (2, vR 9 l2), (3, vR 11 l3), (4, vI l4)] [] := by
  unfold f_L_law_b403 at hf
  refine V_aload_n g 1 dL_law_403 rfl ?_
  refine V_aload_n g 0 dL_law_404 rfl ?_
  refine V_iload g 4 dL_law_405 rfl ?_
  refine V_iconst (v := 1) g dL_law_407 (by decide) ?_
  refine V_iadd g dL_law_408 ?_
  obtain ⟨h109, hf⟩ := ckf hf
  refine V_sld g hX hb0 h109 dL_law_409 ?_
  refine V_aload_n g 0 dL_law_410 rfl ?_
  refine V_iload g 4 dL_law_411 rfl ?_
  refine V_iconst (v := 2) g dL_law_413 (by decide) ?_
  refine V_iadd g dL_law_414 ?_
  obtain ⟨h110, hf⟩ := ckf hf
  refine V_sld g hX hb0 h110 dL_law_415 ?_
  obtain ⟨z111, hf⟩ := nz_some hf
  obtain ⟨s112, x113, hc, hf⟩ := bI_some hf
  refine cV1 g [vI (xs (ix (l4 + 1))), vI (xs (ix (l4 + 2)))] [] s112 (vI x113) cf_X8_tick (t_X8_tick g.2.2.2.2.2.2.1 hc) (RC_own g rfl z111) z111 (by decide) q_574 (Nat.le_of_ble_eq_true rfl) dL_law_416 ?_ rfl
  refine V_aload_n g 2 dL_law_419 rfl ?_
  refine V_aload_n g 0 dL_law_420 rfl ?_
  refine V_iload g 4 dL_law_421 rfl ?_
  refine V_iconst (v := 1) g dL_law_423 (by decide) ?_
  refine V_iadd g dL_law_424 ?_
  obtain ⟨h114, hf⟩ := ckf hf
  refine V_sld g hX hb0 h114 dL_law_425 ?_
  refine V_aload_n g 0 dL_law_426 rfl ?_
  refine V_iload g 4 dL_law_427 rfl ?_
  refine V_iconst (v := 2) g dL_law_429 (by decide) ?_
  refine V_iadd g dL_law_430 ?_
  obtain ⟨h115, hf⟩ := ckf hf
  refine V_sld g hX hb0 h115 dL_law_431 ?_
  obtain ⟨z116, hf⟩ := nz_some hf
  obtain ⟨s117, x118, hc, hf⟩ := bI_some hf
  refine cV1 g [vI (xs (ix (l4 + 1))), vI (xs (ix (l4 + 2)))] [vI x113] s117 (vI x118) cf_X9_tick (t_X9_tick g.2.2.2.2.2.2.1 hc) (RC_own g rfl z116) z116 (by decide) q_1657 (Nat.le_of_ble_eq_true rfl) dL_law_432 ?_ rfl
  refine V_icmp_eq g 1839 dL_law_435 (by decide) (fun c119 => ?_) (fun c119 => ?_)
  · have hf := it_t hf c119
    exact t_L_law_b1839 g hX hb0 hlr hk23 hf
  · have hf := it_f hf c119
    refine V_iconst (v := 0) g dL_law_438 (by decide) ?_
    exact law_ret g hlr hf dL_law_439
set_option maxRecDepth 20000 in
theorem t_L_law_b440 {E : ET} {fu : Nat} {s' : St} {Q : State → Prop} {xs : Nat → Int32} {L : Nat} (g : GX E "ThinSeriesLaw" cL_law 8 51) (hX : va_X (E.G.2.2.2 19 1) L xs E.s E.s.heap) (hb0 : E.G.2.2.2 19 1 < E.G.1) (hlr : law_end E Q s') {k23 : St → Nat → Nat → Nat → Int32 → Option (St × Int32)} (hk23 : ∀ (s : St) (l1 : Nat) (l2 : Nat) (l3 : Nat) (l4 : Int32), k23 s l1 l2 l3 l4 = some (s', 1) → V E 8 Q s 23 [(0, vR 19 1), (1, vR 8 l1), (2, vR 9 l2), (3, vR 11 l3), (4, vI l4)] []) {s : St} {l1 : Nat} {l2 : Nat} {l3 : Nat} {l4 : Int32} (hf : f_L_law_b440 fu xs L k23 s l1 l2 l3 l4 = some (s', 1)) : V E 8 Q s 440 [(0, vR 19 1), (1, vR 8 l1), (2, vR 9 l2), (3, vR 11 l3), (4, vI l4)] [] := by
  unfold f_L_law_b440 at hf
  refine V_aload_n g 1 dL_law_440 rfl ?_
  refine V_aload_n g 0 dL_law_441 rfl ?_
  refine V_iload g 4 dL_law_442 rfl ?_
  refine V_iconst (v := 1) g dL_law_444 (by decide) ?_
  refine V_iadd g dL_law_445 ?_
  obtain ⟨h120, hf⟩ := ckf hf
  refine V_sld g hX hb0 h120 dL_law_446 ?_
  obtain ⟨z121, hf⟩ := nz_some hf
  obtain ⟨s122, x123, hc, hf⟩ := bI_some hf
  refine cV1 g [vI (xs (ix (l4 + 1)))] [] s122 (vI x123) cf_X8_drop (t_X8_drop g.2.2.2.2.2.2.1 hc) (RC_own g rfl z121) z121 (by decide) q_578 (Nat.le_of_ble_eq_true rfl) dL_law_447 ?_ rfl
  refine V_aload_n g 2 dL_law_450 rfl ?_
  refine V_aload_n g 0 dL_law_451 rfl ?_
  refine V_iload g 4 dL_law_452 rfl ?_
  refine V_iconst (v := 1) g dL_law_454 (by decide) ?_
  refine V_iadd g dL_law_455 ?_
  obtain ⟨h124, hf⟩ := ckf hf
  refine V_sld g hX hb0 h124 dL_law_456 ?_
  obtain ⟨z125, hf⟩ := nz_some hf
  obtain ⟨s126, x127, hc, hf⟩ := bI_some hf
  refine cV1 g [vI (xs (ix (l4 + 1)))] [vI x123] s126 (vI x127) cf_X9_drop (t_X9_drop g.2.2.2.2.2.2.1 hc) (RC_own g rfl z125) z125 (by decide) q_1669 (Nat.le_of_ble_eq_true rfl) dL_law_457 ?_ rfl
  refine V_icmp_eq g 1839 dL_law_460 (by decide) (fun c128 => ?_) (fun c128 => ?_)
  · have hf := it_t hf c128
    exact t_L_law_b1839 g hX hb0 hlr hk23 hf
  · have hf := it_f hf c128
    refine V_iconst (v := 0) g dL_law_463 (by decide) ?_
    exact law_ret g hlr hf dL_law_464
set_option maxRecDepth 20000 in
theorem t_L_law_b465 {E : ET} {fu : Nat} {s' : St} {Q : State → Prop} {xs : Nat → Int32} {L : Nat} (g : GX E "ThinSeriesLaw" cL_law 8 51) (hX : va_X (E.G.2.2.2 19 1) L xs E.s E.s.heap) (hb0 : E.G.2.2.2 19 1 < E.G.1) (hlr : law_end E Q s') {k23 : St → Nat → Nat → Nat → Int32 → Option (St × Int32)} (hk23 : ∀ (s : St) (l1 : Nat) (l2 : Nat) (l3 : Nat) (l4 : Int32), k23 s l1 l2 l3 l4 = some (s', 1) → V E 8 Q s 23 [(0, vR 19 1), (1, vR 8 l1), (2, vR 9 l2), (3, vR 11 l3), (4, vI l4)] []) {s : St} {l1 : Nat} {l2 : Nat} {l3 : Nat} {l4 : Int32} (hf : f_L_law_b465 fu xs L k23 s l1 l2 l3 l4 = some (s', 1)) : V E 8 Q s 465 [(0, vR 19 1), (1, vR 8 l1), (2, vR 9 l2), (3, vR 11 l3), (4, vI l4)] [] := by
  unfold f_L_law_b465 at hf
  refine V_aload_n g 1 dL_law_465 rfl ?_
  refine V_aload_n g 0 dL_law_466 rfl ?_
  refine V_iload g 4 dL_law_467 rfl ?_
  refine V_iconst (v := 1) g dL_law_469 (by decide) ?_
  refine V_iadd g dL_law_470 ?_
  obtain ⟨h129, hf⟩ := ckf hf
  refine V_sld g hX hb0 h129 dL_law_471 ?_
  refine V_aload_n g 0 dL_law_472 rfl ?_
  refine V_iload g 4 dL_law_473 rfl ?_
  refine V_iconst (v := 2) g dL_law_475 (by decide) ?_
  refine V_iadd g dL_law_476 ?_
  obtain ⟨h130, hf⟩ := ckf hf
  refine V_sld g hX hb0 h130 dL_law_477 ?_
  refine V_aload_n g 0 dL_law_478 rfl ?_
  refine V_iload g 4 dL_law_479 rfl ?_
  refine V_iconst (v := 3) g dL_law_481 (by decide) ?_
  refine V_iadd g dL_law_482 ?_
  obtain ⟨h131, hf⟩ := ckf hf
  refine V_sld g hX hb0 h131 dL_law_483 ?_
  refine V_aload_n g 0 dL_law_484 rfl ?_
  refine V_iload g 4 dL_law_485 rfl ?_
  refine V_iconst (v := 4) g dL_law_487 (by decide) ?_
  refine V_iadd g dL_law_488 ?_
  obtain ⟨h132, hf⟩ := ckf hf
  refine V_sld g hX hb0 h132 dL_law_489 ?_
  refine V_aload_n g 0 dL_law_490 rfl ?_
  refine V_iload g 4 dL_law_491 rfl ?_
  refine V_iconst (v := 5) g dL_law_493 (by decide) ?_
  refine V_iadd g dL_law_494 ?_
  obtain ⟨h133, hf⟩ := ckf hf
  refine V_sld g hX hb0 h133 dL_law_495 ?_
  refine V_aload_n g 0 dL_law_496 rfl ?_
  refine V_iload g 4 dL_law_497 rfl ?_
  refine V_bipush (v := 6) g dL_law_499 (by decide) ?_
  refine V_iadd g dL_law_501 ?_
  obtain ⟨h134, hf⟩ := ckf hf
  refine V_sld g hX hb0 h134 dL_law_502 ?_
  obtain ⟨z135, hf⟩ := nz_some hf
  obtain ⟨s136, x137, hc, hf⟩ := bI_some hf
  refine cV1 g [vI (xs (ix (l4 + 1))), vI (xs (ix (l4 + 2))), vI (xs (ix (l4 + 3))), vI (xs (ix (l4 + 4))), vI (xs (ix (l4 + 5))), vI (xs (ix (l4 + 6)))] [] s136 (vI x137) cf_X8_sheet (t_X8_sheet g.2.2.2.2.2.2.1 hc) (RC_own g rfl z135) z135 (by decide) q_600 (Nat.le_of_ble_eq_true rfl) dL_law_503 ?_ rfl
  refine V_aload_n g 2 dL_law_506 rfl ?_
  refine V_aload_n g 0 dL_law_507 rfl ?_
  refine V_iload g 4 dL_law_508 rfl ?_
  refine V_iconst (v := 1) g dL_law_510 (by decide) ?_
  refine V_iadd g dL_law_511 ?_
  obtain ⟨h138, hf⟩ := ckf hf
  refine V_sld g hX hb0 h138 dL_law_512 ?_
  refine V_aload_n g 0 dL_law_513 rfl ?_
  refine V_iload g 4 dL_law_514 rfl ?_
  refine V_iconst (v := 2) g dL_law_516 (by decide) ?_
  refine V_iadd g dL_law_517 ?_
  obtain ⟨h139, hf⟩ := ckf hf
  refine V_sld g hX hb0 h139 dL_law_518 ?_
  refine V_aload_n g 0 dL_law_519 rfl ?_
  refine V_iload g 4 dL_law_520 rfl ?_
  refine V_iconst (v := 3) g dL_law_522 (by decide) ?_
  refine V_iadd g dL_law_523 ?_
  obtain ⟨h140, hf⟩ := ckf hf
  refine V_sld g hX hb0 h140 dL_law_524 ?_
  refine V_aload_n g 0 dL_law_525 rfl ?_
  refine V_iload g 4 dL_law_526 rfl ?_
  refine V_iconst (v := 4) g dL_law_528 (by decide) ?_
  refine V_iadd g dL_law_529 ?_
  obtain ⟨h141, hf⟩ := ckf hf
  refine V_sld g hX hb0 h141 dL_law_530 ?_
  refine V_aload_n g 0 dL_law_531 rfl ?_
  refine V_iload g 4 dL_law_532 rfl ?_
  refine V_iconst (v := 5) g dL_law_534 (by decide) ?_
  refine V_iadd g dL_law_535 ?_
  obtain ⟨h142, hf⟩ := ckf hf
  refine V_sld g hX hb0 h142 dL_law_536 ?_
  refine V_aload_n g 0 dL_law_537 rfl ?_
  refine V_iload g 4 dL_law_538 rfl ?_
  refine V_bipush (v := 6) g dL_law_540 (by decide) ?_
  refine V_iadd g dL_law_542 ?_
  obtain ⟨h143, hf⟩ := ckf hf
  refine V_sld g hX hb0 h143 dL_law_543 ?_
  obtain ⟨z144, hf⟩ := nz_some hf
  obtain ⟨s145, x146, hc, hf⟩ := bI_some hf
  refine cV1 g [vI (xs (ix (l4 + 1))), vI (xs (ix (l4 + 2))), vI (xs (ix (l4 + 3))), vI (xs (ix (l4 + 4))), vI (xs (ix (l4 + 5))), vI (xs (ix (l4 + 6)))] [vI x137] s145 (vI x146) cf_X9_sheet (t_X9_sheet g.2.2.2.2.2.2.1 hc) (RC_own g rfl z144) z144 (by decide) q_1673 (Nat.le_of_ble_eq_true rfl) dL_law_544 ?_ rfl
  refine V_icmp_eq g 1839 dL_law_547 (by decide) (fun c147 => ?_) (fun c147 => ?_)
  · have hf := it_t hf c147
    exact t_L_law_b1839 g hX hb0 hlr hk23 hf
  · have hf := it_f hf c147
    refine V_iconst (v := 0) g dL_law_550 (by decide) ?_
    exact law_ret g hlr hf dL_law_551
set_option maxRecDepth 20000 in
theorem t_L_law_b605 {E : ET} {fu : Nat} {s' : St} {Q : State → Prop} {xs : Nat → Int32} {L : Nat} (g : GX E "ThinSeriesLaw" cL_law 8 51) (hX : va_X (E.G.2.2.2 19 1) L xs E.s E.s.heap) (hb0 : E.G.2.2.2 19 1 < E.G.1) (hlr : law_end E Q s') {k23 : St → Nat → Nat → Nat → Int32 → Option (St × Int32)} (hk23 : ∀ (s : St) (l1 : Nat) (l2 : Nat) (l3 : Nat) (l4 : Int32), k23 s l1 l2 l3 l4 = some (s', 1) → V E 8 Q s 23 [(0, vR 19 1), (1, vR 8 l1), (2, vR 9 l2), (3, vR 11 l3), (4, vI l4)] []) {s : St} {l1 : Nat} {l2 : Nat} {l3 : Nat} {l4 : Int32} (hf : f_L_law_b605 fu xs L k23 s l1 l2 l3 l4 = some (s', 1)) : V E 8 Q s 605 [(0, vR 19 1), (1, vR 8 l1), (2, vR 9 l2), (3, vR 11 l3), (4, vI l4)] [] := by
  unfold f_L_law_b605 at hf
  refine V_goto g 1839 dL_law_605 (by decide) ?_
  exact t_L_law_b1839 g hX hb0 hlr hk23 hf
set_option maxRecDepth 20000 in
theorem t_L_law_b552 {E : ET} {fu : Nat} {s' : St} {Q : State → Prop} {xs : Nat → Int32} {L : Nat} (g : GX E "ThinSeriesLaw" cL_law 8 51) (hX : va_X (E.G.2.2.2 19 1) L xs E.s E.s.heap) (hb0 : E.G.2.2.2 19 1 < E.G.1) (hlr : law_end E Q s') {k23 : St → Nat → Nat → Nat → Int32 → Option (St × Int32)} (hk23 : ∀ (s : St) (l1 : Nat) (l2 : Nat) (l3 : Nat) (l4 : Int32), k23 s l1 l2 l3 l4 = some (s', 1) → V E 8 Q s 23 [(0, vR 19 1), (1, vR 8 l1), (2, vR 9 l2), (3, vR 11 l3), (4, vI l4)] []) {s : St} {l1 : Nat} {l2 : Nat} {l3 : Nat} {l4 : Int32} (hf : f_L_law_b552 fu xs L k23 s l1 l2 l3 l4 = some (s', 1)) : V E 8 Q s 552 [(0, vR 19 1), (1, vR 8 l1), (2, vR 9 l2), (3, vR 11 l3), (4, vI l4)] [] := by
  unfold f_L_law_b552 at hf
  refine V_aload_n g 1 dL_law_552 rfl ?_
  refine V_aload_n g 0 dL_law_553 rfl ?_
  refine V_iload g 4 dL_law_554 rfl ?_
  refine V_iconst (v := 1) g dL_law_556 (by decide) ?_
  refine V_iadd g dL_law_557 ?_
  obtain ⟨h148, hf⟩ := ckf hf
  refine V_sld g hX hb0 h148 dL_law_558 ?_
  refine V_aload_n g 3 dL_law_559 rfl ?_
  obtain ⟨s149, x150, hc, hf⟩ := bI_some hf
  refine cW1 g [vR 8 l1, vI (xs (ix (l4 + 1))), vR 11 l3] [] s149 (vI x150) cf_L_why (t_L_why g.2.2.2.2.2.2.1 hc) (by decide) q_959 (Nat.le_of_ble_eq_true rfl) dL_law_560 ?_ rfl
  refine V_istore g [(5, vI x150), (0, vR 19 1), (1, vR 8 l1), (2, vR 9 l2), (3, vR 11 l3), (4, vI l4)] dL_law_563 rfl (by decide) rfl ?_
  refine V_aload_n g 3 dL_law_565 rfl ?_
  refine V_aload_n g 1 dL_law_566 rfl ?_
  refine V_iload g 5 dL_law_567 rfl ?_
  refine V_iconst (v := 1) g dL_law_569 (by decide) ?_
  refine V_iadd g dL_law_570 ?_
  obtain ⟨h151, hf⟩ := ckf hf
  refine V_sld g hX hb0 h151 dL_law_571 ?_
  obtain ⟨z152, hf⟩ := nz_some hf
  obtain ⟨s153, x154, hc, hf⟩ := bI_some hf
  refine cV1 g [vI (xs (ix (l4 + 1)))] [] s153 (vI x154) cf_X9_why (t_X9_why g.2.2.2.2.2.2.1 hc) (RC_own g rfl z152) z152 (by decide) q_1678 (Nat.le_of_ble_eq_true rfl) dL_law_572 ?_ rfl
  refine V_istore g [(6, vI x154), (5, vI x150), (0, vR 19 1), (1, vR 8 l1), (2, vR 9 l2), (3, vR 11 l3), (4, vI l4)] dL_law_575 rfl (by decide) rfl ?_
  refine V_aload_n g 4 dL_law_577 rfl ?_
  obtain ⟨s155, x156, hc, hf⟩ := bI_some hf
  refine cV1 g [] [] s155 (vI x156) cf_X9_thrown (t_X9_thrown g.2.2.2.2.2.2.1 hc) (RC_own g rfl z152) z152 (by decide) q_1442 (Nat.le_of_ble_eq_true rfl) dL_law_578 ?_ rfl
  refine V_iload g 1 dL_law_581 rfl ?_
  refine V_icmp_eq g 588 dL_law_583 (by decide) (fun c157 => ?_) (fun c157 => ?_)
  · have hf := it_t hf c157
    refine V_iload g 1 dL_law_588 rfl ?_
    refine V_if_ne g 605 dL_law_590 (by decide) (fun c158 => ?_) (fun c158 => ?_)
    · have hf := it_f hf c158
      refine V_sub [(0, vR 19 1), (1, vR 8 l1), (2, vR 9 l2), (3, vR 11 l3), (4, vI l4)] [2, 3, 4, 5, 6] rfl ?_
      exact t_L_law_b605 g hX hb0 hlr hk23 hf
    · have hf := it_t hf c158
      refine V_aload_n g 5 dL_law_593 rfl ?_
      refine V_iconst (v := 0) g dL_law_594 (by decide) ?_
      obtain ⟨z159, hf⟩ := nz_some hf
      obtain ⟨h160, hf⟩ := ckf hf
      refine V_lald g z159 h160 dL_law_595 ?_
      refine V_iload g 0 dL_law_596 rfl ?_
      refine V_i2l g dL_law_598 ?_
      refine V_lcmp g dL_law_599 ?_
      refine V_if_eq g 605 dL_law_600 (by decide) (fun c161 => ?_) (fun c161 => ?_)
      · have hf := it_t hf c161
        refine V_sub [(0, vR 19 1), (1, vR 8 l1), (2, vR 9 l2), (3, vR 11 l3), (4, vI l4)] [2, 3, 4, 5, 6] rfl ?_
        exact t_L_law_b605 g hX hb0 hlr hk23 hf
      · have hf := it_f hf c161
        refine V_iconst (v := 0) g dL_law_603 (by decide) ?_
        exact law_ret g hlr hf dL_law_604
  · have hf := it_f hf c157
    refine V_iconst (v := 0) g dL_law_586 (by decide) ?_
    exact law_ret g hlr hf dL_law_587
set_option maxRecDepth 20000 in
theorem t_L_law_b661 {E : ET} {fu : Nat} {s' : St} {Q : State → Prop} {xs : Nat → Int32} {L : Nat} (g : GX E "ThinSeriesLaw" cL_law 8 51) (hX : va_X (E.G.2.2.2 19 1) L xs E.s E.s.heap) (hb0 : E.G.2.2.2 19 1 < E.G.1) (hlr : law_end E Q s') {k23 : St → Nat → Nat → Nat → Int32 → Option (St × Int32)} (hk23 : ∀ (s : St) (l1 : Nat) (l2 : Nat) (l3 : Nat) (l4 : Int32), k23 s l1 l2 l3 l4 = some (s', 1) → V E 8 Q s 23 [(0, vR 19 1), (1, vR 8 l1), (2, vR 9 l2), (3, vR 11 l3), (4, vI l4)] []) {s : St} {l1 : Nat} {l2 : Nat} {l3 : Nat} {l4 : Int32} (hf : f_L_law_b661 fu xs L k23 s l1 l2 l3 l4 = some (s', 1)) : V E 8 Q s 661 [(0, vR 19 1), (1, vR 8 l1), (2, vR 9 l2), (3, vR 11 l3), (4, vI l4)] [] := by
  unfold f_L_law_b661 at hf
  refine V_goto g 1839 dL_law_661 (by decide) ?_
  exact t_L_law_b1839 g hX hb0 hlr hk23 hf
set_option maxRecDepth 20000 in
theorem t_L_law_b608 {E : ET} {fu : Nat} {s' : St} {Q : State → Prop} {xs : Nat → Int32} {L : Nat} (g : GX E "ThinSeriesLaw" cL_law 8 51) (hX : va_X (E.G.2.2.2 19 1) L xs E.s E.s.heap) (hb0 : E.G.2.2.2 19 1 < E.G.1) (hlr : law_end E Q s') {k23 : St → Nat → Nat → Nat → Int32 → Option (St × Int32)} (hk23 : ∀ (s : St) (l1 : Nat) (l2 : Nat) (l3 : Nat) (l4 : Int32), k23 s l1 l2 l3 l4 = some (s', 1) → V E 8 Q s 23 [(0, vR 19 1), (1, vR 8 l1), (2, vR 9 l2), (3, vR 11 l3), (4, vI l4)] []) {s : St} {l1 : Nat} {l2 : Nat} {l3 : Nat} {l4 : Int32} (hf : f_L_law_b608 fu xs L k23 s l1 l2 l3 l4 = some (s', 1)) : V E 8 Q s 608 [(0, vR 19 1), (1, vR 8 l1), (2, vR 9 l2), (3, vR 11 l3), (4, vI l4)] [] := by
  unfold f_L_law_b608 at hf
  refine V_aload_n g 1 dL_law_608 rfl ?_
  refine V_aload_n g 0 dL_law_609 rfl ?_
  refine V_iload g 4 dL_law_610 rfl ?_
  refine V_iconst (v := 1) g dL_law_612 (by decide) ?_
  refine V_iadd g dL_law_613 ?_
  obtain ⟨h162, hf⟩ := ckf hf
  refine V_sld g hX hb0 h162 dL_law_614 ?_
  refine V_aload_n g 3 dL_law_615 rfl ?_
  obtain ⟨s163, x164, hc, hf⟩ := bI_some hf
  refine cW1 g [vR 8 l1, vI (xs (ix (l4 + 1))), vR 11 l3] [] s163 (vI x164) cf_L_count (t_L_count g.2.2.2.2.2.2.1 hc) (by decide) q_986 (Nat.le_of_ble_eq_true rfl) dL_law_616 ?_ rfl
  refine V_istore g [(5, vI x164), (0, vR 19 1), (1, vR 8 l1), (2, vR 9 l2), (3, vR 11 l3), (4, vI l4)] dL_law_619 rfl (by decide) rfl ?_
  refine V_aload_n g 3 dL_law_621 rfl ?_
  refine V_aload_n g 1 dL_law_622 rfl ?_
  refine V_iload g 5 dL_law_623 rfl ?_
  refine V_iconst (v := 1) g dL_law_625 (by decide) ?_
  refine V_iadd g dL_law_626 ?_
  obtain ⟨h165, hf⟩ := ckf hf
  refine V_sld g hX hb0 h165 dL_law_627 ?_
  obtain ⟨z166, hf⟩ := nz_some hf
  obtain ⟨s167, x168, hc, hf⟩ := bI_some hf
  refine cV1 g [vI (xs (ix (l4 + 1)))] [] s167 (vI x168) cf_X9_count (t_X9_count g.2.2.2.2.2.2.1 hc) (RC_own g rfl z166) z166 (by decide) q_1707 (Nat.le_of_ble_eq_true rfl) dL_law_628 ?_ rfl
  refine V_istore g [(6, vI x168), (5, vI x164), (0, vR 19 1), (1, vR 8 l1), (2, vR 9 l2), (3, vR 11 l3), (4, vI l4)] dL_law_631 rfl (by decide) rfl ?_
  refine V_aload_n g 4 dL_law_633 rfl ?_
  obtain ⟨s169, x170, hc, hf⟩ := bI_some hf
  refine cV1 g [] [] s169 (vI x170) cf_X9_thrown (t_X9_thrown g.2.2.2.2.2.2.1 hc) (RC_own g rfl z166) z166 (by decide) q_1442 (Nat.le_of_ble_eq_true rfl) dL_law_634 ?_ rfl
  refine V_iload g 1 dL_law_637 rfl ?_
  refine V_icmp_eq g 644 dL_law_639 (by decide) (fun c171 => ?_) (fun c171 => ?_)
  · have hf := it_t hf c171
    refine V_iload g 1 dL_law_644 rfl ?_
    refine V_if_ne g 661 dL_law_646 (by decide) (fun c172 => ?_) (fun c172 => ?_)
    · have hf := it_f hf c172
      refine V_sub [(0, vR 19 1), (1, vR 8 l1), (2, vR 9 l2), (3, vR 11 l3), (4, vI l4)] [2, 3, 4, 5, 6] rfl ?_
      exact t_L_law_b661 g hX hb0 hlr hk23 hf
    · have hf := it_t hf c172
      refine V_aload_n g 5 dL_law_649 rfl ?_
      refine V_iconst (v := 0) g dL_law_650 (by decide) ?_
      obtain ⟨z173, hf⟩ := nz_some hf
      obtain ⟨h174, hf⟩ := ckf hf
      refine V_lald g z173 h174 dL_law_651 ?_
      refine V_iload g 0 dL_law_652 rfl ?_
      refine V_i2l g dL_law_654 ?_
      refine V_lcmp g dL_law_655 ?_
      refine V_if_eq g 661 dL_law_656 (by decide) (fun c175 => ?_) (fun c175 => ?_)
      · have hf := it_t hf c175
        refine V_sub [(0, vR 19 1), (1, vR 8 l1), (2, vR 9 l2), (3, vR 11 l3), (4, vI l4)] [2, 3, 4, 5, 6] rfl ?_
        exact t_L_law_b661 g hX hb0 hlr hk23 hf
      · have hf := it_f hf c175
        refine V_iconst (v := 0) g dL_law_659 (by decide) ?_
        exact law_ret g hlr hf dL_law_660
  · have hf := it_f hf c171
    refine V_iconst (v := 0) g dL_law_642 (by decide) ?_
    exact law_ret g hlr hf dL_law_643
set_option maxRecDepth 20000 in
theorem t_L_law_b729 {E : ET} {fu : Nat} {s' : St} {Q : State → Prop} {xs : Nat → Int32} {L : Nat} (g : GX E "ThinSeriesLaw" cL_law 8 51) (hX : va_X (E.G.2.2.2 19 1) L xs E.s E.s.heap) (hb0 : E.G.2.2.2 19 1 < E.G.1) (hlr : law_end E Q s') {k23 : St → Nat → Nat → Nat → Int32 → Option (St × Int32)} (hk23 : ∀ (s : St) (l1 : Nat) (l2 : Nat) (l3 : Nat) (l4 : Int32), k23 s l1 l2 l3 l4 = some (s', 1) → V E 8 Q s 23 [(0, vR 19 1), (1, vR 8 l1), (2, vR 9 l2), (3, vR 11 l3), (4, vI l4)] []) {s : St} {l1 : Nat} {l2 : Nat} {l3 : Nat} {l4 : Int32} (hf : f_L_law_b729 fu xs L k23 s l1 l2 l3 l4 = some (s', 1)) : V E 8 Q s 729 [(0, vR 19 1), (1, vR 8 l1), (2, vR 9 l2), (3, vR 11 l3), (4, vI l4)] [] := by
  unfold f_L_law_b729 at hf
  refine V_goto g 1839 dL_law_729 (by decide) ?_
  exact t_L_law_b1839 g hX hb0 hlr hk23 hf
set_option maxRecDepth 20000 in
theorem t_L_law_b664 {E : ET} {fu : Nat} {s' : St} {Q : State → Prop} {xs : Nat → Int32} {L : Nat} (g : GX E "ThinSeriesLaw" cL_law 8 51) (hX : va_X (E.G.2.2.2 19 1) L xs E.s E.s.heap) (hb0 : E.G.2.2.2 19 1 < E.G.1) (hlr : law_end E Q s') {k23 : St → Nat → Nat → Nat → Int32 → Option (St × Int32)} (hk23 : ∀ (s : St) (l1 : Nat) (l2 : Nat) (l3 : Nat) (l4 : Int32), k23 s l1 l2 l3 l4 = some (s', 1) → V E 8 Q s 23 [(0, vR 19 1), (1, vR 8 l1), (2, vR 9 l2), (3, vR 11 l3), (4, vI l4)] []) {s : St} {l1 : Nat} {l2 : Nat} {l3 : Nat} {l4 : Int32} (hf : f_L_law_b664 fu xs L k23 s l1 l2 l3 l4 = some (s', 1)) : V E 8 Q s 664 [(0, vR 19 1), (1, vR 8 l1), (2, vR 9 l2), (3, vR 11 l3), (4, vI l4)] [] := by
  unfold f_L_law_b664 at hf
  refine V_aload_n g 1 dL_law_664 rfl ?_
  refine V_aload_n g 0 dL_law_665 rfl ?_
  refine V_iload g 4 dL_law_666 rfl ?_
  refine V_iconst (v := 1) g dL_law_668 (by decide) ?_
  refine V_iadd g dL_law_669 ?_
  obtain ⟨h176, hf⟩ := ckf hf
  refine V_sld g hX hb0 h176 dL_law_670 ?_
  refine V_aload_n g 0 dL_law_671 rfl ?_
  refine V_iload g 4 dL_law_672 rfl ?_
  refine V_iconst (v := 2) g dL_law_674 (by decide) ?_
  refine V_iadd g dL_law_675 ?_
  obtain ⟨h177, hf⟩ := ckf hf
  refine V_sld g hX hb0 h177 dL_law_676 ?_
  refine V_aload_n g 3 dL_law_677 rfl ?_
  obtain ⟨s178, x179, hc, hf⟩ := bI_some hf
  refine cW1 g [vR 8 l1, vI (xs (ix (l4 + 1))), vI (xs (ix (l4 + 2))), vR 11 l3] [] s178 (vI x179) cf_L_tier (t_L_tier g.2.2.2.2.2.2.1 hc) (by decide) q_997 (Nat.le_of_ble_eq_true rfl) dL_law_678 ?_ rfl
  refine V_istore g [(5, vI x179), (0, vR 19 1), (1, vR 8 l1), (2, vR 9 l2), (3, vR 11 l3), (4, vI l4)] dL_law_681 rfl (by decide) rfl ?_
  refine V_aload_n g 3 dL_law_683 rfl ?_
  refine V_aload_n g 1 dL_law_684 rfl ?_
  refine V_iload g 5 dL_law_685 rfl ?_
  refine V_iconst (v := 1) g dL_law_687 (by decide) ?_
  refine V_iadd g dL_law_688 ?_
  obtain ⟨h180, hf⟩ := ckf hf
  refine V_sld g hX hb0 h180 dL_law_689 ?_
  refine V_aload_n g 1 dL_law_690 rfl ?_
  refine V_iload g 5 dL_law_691 rfl ?_
  refine V_iconst (v := 2) g dL_law_693 (by decide) ?_
  refine V_iadd g dL_law_694 ?_
  obtain ⟨h181, hf⟩ := ckf hf
  refine V_sld g hX hb0 h181 dL_law_695 ?_
  obtain ⟨z182, hf⟩ := nz_some hf
  obtain ⟨s183, x184, hc, hf⟩ := bI_some hf
  refine cV1 g [vI (xs (ix (l4 + 1))), vI (xs (ix (l4 + 2)))] [] s183 (vI x184) cf_X9_tier (t_X9_tier g.2.2.2.2.2.2.1 hc) (RC_own g rfl z182) z182 (by decide) q_1711 (Nat.le_of_ble_eq_true rfl) dL_law_696 ?_ rfl
  refine V_istore g [(6, vI x184), (5, vI x179), (0, vR 19 1), (1, vR 8 l1), (2, vR 9 l2), (3, vR 11 l3), (4, vI l4)] dL_law_699 rfl (by decide) rfl ?_
  refine V_aload_n g 4 dL_law_701 rfl ?_
  obtain ⟨s185, x186, hc, hf⟩ := bI_some hf
  refine cV1 g [] [] s185 (vI x186) cf_X9_thrown (t_X9_thrown g.2.2.2.2.2.2.1 hc) (RC_own g rfl z182) z182 (by decide) q_1442 (Nat.le_of_ble_eq_true rfl) dL_law_702 ?_ rfl
  refine V_iload g 1 dL_law_705 rfl ?_
  refine V_icmp_eq g 712 dL_law_707 (by decide) (fun c187 => ?_) (fun c187 => ?_)
  · have hf := it_t hf c187
    refine V_iload g 1 dL_law_712 rfl ?_
    refine V_if_ne g 729 dL_law_714 (by decide) (fun c188 => ?_) (fun c188 => ?_)
    · have hf := it_f hf c188
      refine V_sub [(0, vR 19 1), (1, vR 8 l1), (2, vR 9 l2), (3, vR 11 l3), (4, vI l4)] [2, 3, 4, 5, 6] rfl ?_
      exact t_L_law_b729 g hX hb0 hlr hk23 hf
    · have hf := it_t hf c188
      refine V_aload_n g 5 dL_law_717 rfl ?_
      refine V_iconst (v := 0) g dL_law_718 (by decide) ?_
      obtain ⟨z189, hf⟩ := nz_some hf
      obtain ⟨h190, hf⟩ := ckf hf
      refine V_lald g z189 h190 dL_law_719 ?_
      refine V_iload g 0 dL_law_720 rfl ?_
      refine V_i2l g dL_law_722 ?_
      refine V_lcmp g dL_law_723 ?_
      refine V_if_eq g 729 dL_law_724 (by decide) (fun c191 => ?_) (fun c191 => ?_)
      · have hf := it_t hf c191
        refine V_sub [(0, vR 19 1), (1, vR 8 l1), (2, vR 9 l2), (3, vR 11 l3), (4, vI l4)] [2, 3, 4, 5, 6] rfl ?_
        exact t_L_law_b729 g hX hb0 hlr hk23 hf
      · have hf := it_f hf c191
        refine V_iconst (v := 0) g dL_law_727 (by decide) ?_
        exact law_ret g hlr hf dL_law_728
  · have hf := it_f hf c187
    refine V_iconst (v := 0) g dL_law_710 (by decide) ?_
    exact law_ret g hlr hf dL_law_711
set_option maxRecDepth 20000 in
theorem t_L_law_b785 {E : ET} {fu : Nat} {s' : St} {Q : State → Prop} {xs : Nat → Int32} {L : Nat} (g : GX E "ThinSeriesLaw" cL_law 8 51) (hX : va_X (E.G.2.2.2 19 1) L xs E.s E.s.heap) (hb0 : E.G.2.2.2 19 1 < E.G.1) (hlr : law_end E Q s') {k23 : St → Nat → Nat → Nat → Int32 → Option (St × Int32)} (hk23 : ∀ (s : St) (l1 : Nat) (l2 : Nat) (l3 : Nat) (l4 : Int32), k23 s l1 l2 l3 l4 = some (s', 1) → V E 8 Q s 23 [(0, vR 19 1), (1, vR 8 l1), (2, vR 9 l2), (3, vR 11 l3), (4, vI l4)] []) {s : St} {l1 : Nat} {l2 : Nat} {l3 : Nat} {l4 : Int32} (hf : f_L_law_b785 fu xs L k23 s l1 l2 l3 l4 = some (s', 1)) : V E 8 Q s 785 [(0, vR 19 1), (1, vR 8 l1), (2, vR 9 l2), (3, vR 11 l3), (4, vI l4)] [] := by
  unfold f_L_law_b785 at hf
  refine V_goto g 1839 dL_law_785 (by decide) ?_
  exact t_L_law_b1839 g hX hb0 hlr hk23 hf
set_option maxRecDepth 20000 in
theorem t_L_law_b732 {E : ET} {fu : Nat} {s' : St} {Q : State → Prop} {xs : Nat → Int32} {L : Nat} (g : GX E "ThinSeriesLaw" cL_law 8 51) (hX : va_X (E.G.2.2.2 19 1) L xs E.s E.s.heap) (hb0 : E.G.2.2.2 19 1 < E.G.1) (hlr : law_end E Q s') {k23 : St → Nat → Nat → Nat → Int32 → Option (St × Int32)} (hk23 : ∀ (s : St) (l1 : Nat) (l2 : Nat) (l3 : Nat) (l4 : Int32), k23 s l1 l2 l3 l4 = some (s', 1) → V E 8 Q s 23 [(0, vR 19 1), (1, vR 8 l1), (2, vR 9 l2), (3, vR 11 l3), (4, vI l4)] []) {s : St} {l1 : Nat} {l2 : Nat} {l3 : Nat} {l4 : Int32} (hf : f_L_law_b732 fu xs L k23 s l1 l2 l3 l4 = some (s', 1)) : V E 8 Q s 732 [(0, vR 19 1), (1, vR 8 l1), (2, vR 9 l2), (3, vR 11 l3), (4, vI l4)] [] := by
  unfold f_L_law_b732 at hf
  refine V_aload_n g 1 dL_law_732 rfl ?_
  refine V_aload_n g 0 dL_law_733 rfl ?_
  refine V_iload g 4 dL_law_734 rfl ?_
  refine V_iconst (v := 1) g dL_law_736 (by decide) ?_
  refine V_iadd g dL_law_737 ?_
  obtain ⟨h192, hf⟩ := ckf hf
  refine V_sld g hX hb0 h192 dL_law_738 ?_
  refine V_aload_n g 3 dL_law_739 rfl ?_
  obtain ⟨s193, x194, hc, hf⟩ := bI_some hf
  refine cW1 g [vR 8 l1, vI (xs (ix (l4 + 1))), vR 11 l3] [] s193 (vI x194) cf_L_used (t_L_used g.2.2.2.2.2.2.1 hc) (by decide) q_1009 (Nat.le_of_ble_eq_true rfl) dL_law_740 ?_ rfl
  refine V_istore g [(5, vI x194), (0, vR 19 1), (1, vR 8 l1), (2, vR 9 l2), (3, vR 11 l3), (4, vI l4)] dL_law_743 rfl (by decide) rfl ?_
  refine V_aload_n g 3 dL_law_745 rfl ?_
  refine V_aload_n g 1 dL_law_746 rfl ?_
  refine V_iload g 5 dL_law_747 rfl ?_
  refine V_iconst (v := 1) g dL_law_749 (by decide) ?_
  refine V_iadd g dL_law_750 ?_
  obtain ⟨h195, hf⟩ := ckf hf
  refine V_sld g hX hb0 h195 dL_law_751 ?_
  obtain ⟨z196, hf⟩ := nz_some hf
  obtain ⟨s197, x198, hc, hf⟩ := bI_some hf
  refine cV1 g [vI (xs (ix (l4 + 1)))] [] s197 (vI x198) cf_X9_used (t_X9_used g.2.2.2.2.2.2.1 hc) (RC_own g rfl z196) z196 (by decide) q_1719 (Nat.le_of_ble_eq_true rfl) dL_law_752 ?_ rfl
  refine V_istore g [(6, vI x198), (5, vI x194), (0, vR 19 1), (1, vR 8 l1), (2, vR 9 l2), (3, vR 11 l3), (4, vI l4)] dL_law_755 rfl (by decide) rfl ?_
  refine V_aload_n g 4 dL_law_757 rfl ?_
  obtain ⟨s199, x200, hc, hf⟩ := bI_some hf
  refine cV1 g [] [] s199 (vI x200) cf_X9_thrown (t_X9_thrown g.2.2.2.2.2.2.1 hc) (RC_own g rfl z196) z196 (by decide) q_1442 (Nat.le_of_ble_eq_true rfl) dL_law_758 ?_ rfl
  refine V_iload g 1 dL_law_761 rfl ?_
  refine V_icmp_eq g 768 dL_law_763 (by decide) (fun c201 => ?_) (fun c201 => ?_)
  · have hf := it_t hf c201
    refine V_iload g 1 dL_law_768 rfl ?_
    refine V_if_ne g 785 dL_law_770 (by decide) (fun c202 => ?_) (fun c202 => ?_)
    · have hf := it_f hf c202
      refine V_sub [(0, vR 19 1), (1, vR 8 l1), (2, vR 9 l2), (3, vR 11 l3), (4, vI l4)] [2, 3, 4, 5, 6] rfl ?_
      exact t_L_law_b785 g hX hb0 hlr hk23 hf
    · have hf := it_t hf c202
      refine V_aload_n g 5 dL_law_773 rfl ?_
      refine V_iconst (v := 0) g dL_law_774 (by decide) ?_
      obtain ⟨z203, hf⟩ := nz_some hf
      obtain ⟨h204, hf⟩ := ckf hf
      refine V_lald g z203 h204 dL_law_775 ?_
      refine V_iload g 0 dL_law_776 rfl ?_
      refine V_i2l g dL_law_778 ?_
      refine V_lcmp g dL_law_779 ?_
      refine V_if_eq g 785 dL_law_780 (by decide) (fun c205 => ?_) (fun c205 => ?_)
      · have hf := it_t hf c205
        refine V_sub [(0, vR 19 1), (1, vR 8 l1), (2, vR 9 l2), (3, vR 11 l3), (4, vI l4)] [2, 3, 4, 5, 6] rfl ?_
        exact t_L_law_b785 g hX hb0 hlr hk23 hf
      · have hf := it_f hf c205
        refine V_iconst (v := 0) g dL_law_783 (by decide) ?_
        exact law_ret g hlr hf dL_law_784
  · have hf := it_f hf c201
    refine V_iconst (v := 0) g dL_law_766 (by decide) ?_
    exact law_ret g hlr hf dL_law_767
set_option maxRecDepth 20000 in
theorem t_L_law_b852 {E : ET} {fu : Nat} {s' : St} {Q : State → Prop} {xs : Nat → Int32} {L : Nat} (g : GX E "ThinSeriesLaw" cL_law 8 51) (hX : va_X (E.G.2.2.2 19 1) L xs E.s E.s.heap) (hb0 : E.G.2.2.2 19 1 < E.G.1) (hlr : law_end E Q s') {k23 : St → Nat → Nat → Nat → Int32 → Option (St × Int32)} (hk23 : ∀ (s : St) (l1 : Nat) (l2 : Nat) (l3 : Nat) (l4 : Int32), k23 s l1 l2 l3 l4 = some (s', 1) → V E 8 Q s 23 [(0, vR 19 1), (1, vR 8 l1), (2, vR 9 l2), (3, vR 11 l3), (4, vI l4)] []) {s : St} {l1 : Nat} {l2 : Nat} {l3 : Nat} {l4 : Int32} (hf : f_L_law_b852 fu xs L k23 s l1 l2 l3 l4 = some (s', 1)) : V E 8 Q s 852 [(0, vR 19 1), (1, vR 8 l1), (2, vR 9 l2), (3, vR 11 l3), (4, vI l4)] [] := by
  unfold f_L_law_b852 at hf
  refine V_goto g 1839 dL_law_852 (by decide) ?_
  exact t_L_law_b1839 g hX hb0 hlr hk23 hf
set_option maxRecDepth 20000 in
theorem t_L_law_b788 {E : ET} {fu : Nat} {s' : St} {Q : State → Prop} {xs : Nat → Int32} {L : Nat} (g : GX E "ThinSeriesLaw" cL_law 8 51) (hX : va_X (E.G.2.2.2 19 1) L xs E.s E.s.heap) (hb0 : E.G.2.2.2 19 1 < E.G.1) (hlr : law_end E Q s') {k23 : St → Nat → Nat → Nat → Int32 → Option (St × Int32)} (hk23 : ∀ (s : St) (l1 : Nat) (l2 : Nat) (l3 : Nat) (l4 : Int32), k23 s l1 l2 l3 l4 = some (s', 1) → V E 8 Q s 23 [(0, vR 19 1), (1, vR 8 l1), (2, vR 9 l2), (3, vR 11 l3), (4, vI l4)] []) {s : St} {l1 : Nat} {l2 : Nat} {l3 : Nat} {l4 : Int32} (hf : f_L_law_b788 fu xs L k23 s l1 l2 l3 l4 = some (s', 1)) : V E 8 Q s 788 [(0, vR 19 1), (1, vR 8 l1), (2, vR 9 l2), (3, vR 11 l3), (4, vI l4)] [] := by
  unfold f_L_law_b788 at hf
  refine V_aload_n g 1 dL_law_788 rfl ?_
  refine V_aload_n g 0 dL_law_789 rfl ?_
  refine V_iload g 4 dL_law_790 rfl ?_
  refine V_iconst (v := 1) g dL_law_792 (by decide) ?_
  refine V_iadd g dL_law_793 ?_
  obtain ⟨h206, hf⟩ := ckf hf
  refine V_sld g hX hb0 h206 dL_law_794 ?_
  refine V_aload_n g 0 dL_law_795 rfl ?_
  refine V_iload g 4 dL_law_796 rfl ?_
  refine V_iconst (v := 2) g dL_law_798 (by decide) ?_
  refine V_iadd g dL_law_799 ?_
  obtain ⟨h207, hf⟩ := ckf hf
  refine V_sld g hX hb0 h207 dL_law_800 ?_
  refine V_aload_n g 3 dL_law_801 rfl ?_
  obtain ⟨s208, x209, hc, hf⟩ := bI_some hf
  refine cW1 g [vR 8 l1, vI (xs (ix (l4 + 1))), vI (xs (ix (l4 + 2))), vR 11 l3] [] s208 (vI x209) cf_L_of (t_L_of g.2.2.2.2.2.2.1 hc) (by decide) q_1017 (Nat.le_of_ble_eq_true rfl) dL_law_802 ?_ rfl
  refine V_istore g [(5, vI x209), (0, vR 19 1), (1, vR 8 l1), (2, vR 9 l2), (3, vR 11 l3), (4, vI l4)] dL_law_805 rfl (by decide) rfl ?_
  refine V_aload_n g 3 dL_law_807 rfl ?_
  refine V_aload_n g 1 dL_law_808 rfl ?_
  refine V_iload g 5 dL_law_809 rfl ?_
  refine V_iconst (v := 1) g dL_law_811 (by decide) ?_
  refine V_iadd g dL_law_812 ?_
  obtain ⟨h210, hf⟩ := ckf hf
  refine V_sld g hX hb0 h210 dL_law_813 ?_
  refine V_aload_n g 1 dL_law_814 rfl ?_
  refine V_iload g 5 dL_law_815 rfl ?_
  refine V_iconst (v := 2) g dL_law_817 (by decide) ?_
  refine V_iadd g dL_law_818 ?_
  obtain ⟨h211, hf⟩ := ckf hf
  refine V_sld g hX hb0 h211 dL_law_819 ?_
  obtain ⟨z212, hf⟩ := nz_some hf
  obtain ⟨s213, x214, hc, hf⟩ := bI_some hf
  refine cV1 g [vI (xs (ix (l4 + 1))), vI (xs (ix (l4 + 2)))] [] s213 (vJ x214) cf_X9_of (t_X9_of g.2.2.2.2.2.2.1 hc) (RC_own g rfl z212) z212 (by decide) q_1723 (Nat.le_of_ble_eq_true rfl) dL_law_820 ?_ rfl
  refine V_lstore g [(6, vJ x214), (5, vI x209), (0, vR 19 1), (1, vR 8 l1), (2, vR 9 l2), (3, vR 11 l3), (4, vI l4)] dL_law_823 rfl (by decide) rfl ?_
  refine V_aload_n g 4 dL_law_825 rfl ?_
  obtain ⟨s215, x216, hc, hf⟩ := bI_some hf
  refine cV1 g [] [] s215 (vI x216) cf_X9_thrown (t_X9_thrown g.2.2.2.2.2.2.1 hc) (RC_own g rfl z212) z212 (by decide) q_1442 (Nat.le_of_ble_eq_true rfl) dL_law_826 ?_ rfl
  refine V_iload g 1 dL_law_829 rfl ?_
  refine V_icmp_eq g 836 dL_law_831 (by decide) (fun c217 => ?_) (fun c217 => ?_)
  · have hf := it_t hf c217
    refine V_iload g 1 dL_law_836 rfl ?_
    refine V_if_ne g 852 dL_law_838 (by decide) (fun c218 => ?_) (fun c218 => ?_)
    · have hf := it_f hf c218
      refine V_sub [(0, vR 19 1), (1, vR 8 l1), (2, vR 9 l2), (3, vR 11 l3), (4, vI l4)] [2, 3, 4, 5, 6] rfl ?_
      exact t_L_law_b852 g hX hb0 hlr hk23 hf
    · have hf := it_t hf c218
      refine V_aload_n g 5 dL_law_841 rfl ?_
      refine V_iconst (v := 0) g dL_law_842 (by decide) ?_
      obtain ⟨z219, hf⟩ := nz_some hf
      obtain ⟨h220, hf⟩ := ckf hf
      refine V_lald g z219 h220 dL_law_843 ?_
      refine V_lload g 0 dL_law_844 rfl ?_
      refine V_lcmp g dL_law_846 ?_
      refine V_if_eq g 852 dL_law_847 (by decide) (fun c221 => ?_) (fun c221 => ?_)
      · have hf := it_t hf c221
        refine V_sub [(0, vR 19 1), (1, vR 8 l1), (2, vR 9 l2), (3, vR 11 l3), (4, vI l4)] [2, 3, 4, 5, 6] rfl ?_
        exact t_L_law_b852 g hX hb0 hlr hk23 hf
      · have hf := it_f hf c221
        refine V_iconst (v := 0) g dL_law_850 (by decide) ?_
        exact law_ret g hlr hf dL_law_851
  · have hf := it_f hf c217
    refine V_iconst (v := 0) g dL_law_834 (by decide) ?_
    exact law_ret g hlr hf dL_law_835
set_option maxRecDepth 20000 in
theorem t_L_law_b920 {E : ET} {fu : Nat} {s' : St} {Q : State → Prop} {xs : Nat → Int32} {L : Nat} (g : GX E "ThinSeriesLaw" cL_law 8 51) (hX : va_X (E.G.2.2.2 19 1) L xs E.s E.s.heap) (hb0 : E.G.2.2.2 19 1 < E.G.1) (hlr : law_end E Q s') {k23 : St → Nat → Nat → Nat → Int32 → Option (St × Int32)} (hk23 : ∀ (s : St) (l1 : Nat) (l2 : Nat) (l3 : Nat) (l4 : Int32), k23 s l1 l2 l3 l4 = some (s', 1) → V E 8 Q s 23 [(0, vR 19 1), (1, vR 8 l1), (2, vR 9 l2), (3, vR 11 l3), (4, vI l4)] []) {s : St} {l1 : Nat} {l2 : Nat} {l3 : Nat} {l4 : Int32} (hf : f_L_law_b920 fu xs L k23 s l1 l2 l3 l4 = some (s', 1)) : V E 8 Q s 920 [(0, vR 19 1), (1, vR 8 l1), (2, vR 9 l2), (3, vR 11 l3), (4, vI l4)] [] := by
  unfold f_L_law_b920 at hf
  refine V_goto g 1839 dL_law_920 (by decide) ?_
  exact t_L_law_b1839 g hX hb0 hlr hk23 hf
set_option maxRecDepth 20000 in
theorem t_L_law_b855 {E : ET} {fu : Nat} {s' : St} {Q : State → Prop} {xs : Nat → Int32} {L : Nat} (g : GX E "ThinSeriesLaw" cL_law 8 51) (hX : va_X (E.G.2.2.2 19 1) L xs E.s E.s.heap) (hb0 : E.G.2.2.2 19 1 < E.G.1) (hlr : law_end E Q s') {k23 : St → Nat → Nat → Nat → Int32 → Option (St × Int32)} (hk23 : ∀ (s : St) (l1 : Nat) (l2 : Nat) (l3 : Nat) (l4 : Int32), k23 s l1 l2 l3 l4 = some (s', 1) → V E 8 Q s 23 [(0, vR 19 1), (1, vR 8 l1), (2, vR 9 l2), (3, vR 11 l3), (4, vI l4)] []) {s : St} {l1 : Nat} {l2 : Nat} {l3 : Nat} {l4 : Int32} (hf : f_L_law_b855 fu xs L k23 s l1 l2 l3 l4 = some (s', 1)) : V E 8 Q s 855 [(0, vR 19 1), (1, vR 8 l1), (2, vR 9 l2), (3, vR 11 l3), (4, vI l4)] [] := by
  unfold f_L_law_b855 at hf
  refine V_aload_n g 1 dL_law_855 rfl ?_
  refine V_aload_n g 0 dL_law_856 rfl ?_
  refine V_iload g 4 dL_law_857 rfl ?_
  refine V_iconst (v := 1) g dL_law_859 (by decide) ?_
  refine V_iadd g dL_law_860 ?_
  obtain ⟨h222, hf⟩ := ckf hf
  refine V_sld g hX hb0 h222 dL_law_861 ?_
  refine V_aload_n g 0 dL_law_862 rfl ?_
  refine V_iload g 4 dL_law_863 rfl ?_
  refine V_iconst (v := 2) g dL_law_865 (by decide) ?_
  refine V_iadd g dL_law_866 ?_
  obtain ⟨h223, hf⟩ := ckf hf
  refine V_sld g hX hb0 h223 dL_law_867 ?_
  refine V_aload_n g 3 dL_law_868 rfl ?_
  obtain ⟨s224, x225, hc, hf⟩ := bI_some hf
  refine cW1 g [vR 8 l1, vI (xs (ix (l4 + 1))), vI (xs (ix (l4 + 2))), vR 11 l3] [] s224 (vI x225) cf_L_seam (t_L_seam g.2.2.2.2.2.2.1 hc) (by decide) q_1028 (Nat.le_of_ble_eq_true rfl) dL_law_869 ?_ rfl
  refine V_istore g [(5, vI x225), (0, vR 19 1), (1, vR 8 l1), (2, vR 9 l2), (3, vR 11 l3), (4, vI l4)] dL_law_872 rfl (by decide) rfl ?_
  refine V_aload_n g 3 dL_law_874 rfl ?_
  refine V_aload_n g 1 dL_law_875 rfl ?_
  refine V_iload g 5 dL_law_876 rfl ?_
  refine V_iconst (v := 1) g dL_law_878 (by decide) ?_
  refine V_iadd g dL_law_879 ?_
  obtain ⟨h226, hf⟩ := ckf hf
  refine V_sld g hX hb0 h226 dL_law_880 ?_
  refine V_aload_n g 1 dL_law_881 rfl ?_
  refine V_iload g 5 dL_law_882 rfl ?_
  refine V_iconst (v := 2) g dL_law_884 (by decide) ?_
  refine V_iadd g dL_law_885 ?_
  obtain ⟨h227, hf⟩ := ckf hf
  refine V_sld g hX hb0 h227 dL_law_886 ?_
  obtain ⟨z228, hf⟩ := nz_some hf
  obtain ⟨s229, x230, hc, hf⟩ := bI_some hf
  refine cV1 g [vI (xs (ix (l4 + 1))), vI (xs (ix (l4 + 2)))] [] s229 (vI x230) cf_X9_seam (t_X9_seam g.2.2.2.2.2.2.1 hc) (RC_own g rfl z228) z228 (by decide) q_1742 (Nat.le_of_ble_eq_true rfl) dL_law_887 ?_ rfl
  refine V_istore g [(6, vI x230), (5, vI x225), (0, vR 19 1), (1, vR 8 l1), (2, vR 9 l2), (3, vR 11 l3), (4, vI l4)] dL_law_890 rfl (by decide) rfl ?_
  refine V_aload_n g 4 dL_law_892 rfl ?_
  obtain ⟨s231, x232, hc, hf⟩ := bI_some hf
  refine cV1 g [] [] s231 (vI x232) cf_X9_thrown (t_X9_thrown g.2.2.2.2.2.2.1 hc) (RC_own g rfl z228) z228 (by decide) q_1442 (Nat.le_of_ble_eq_true rfl) dL_law_893 ?_ rfl
  refine V_iload g 1 dL_law_896 rfl ?_
  refine V_icmp_eq g 903 dL_law_898 (by decide) (fun c233 => ?_) (fun c233 => ?_)
  · have hf := it_t hf c233
    refine V_iload g 1 dL_law_903 rfl ?_
    refine V_if_ne g 920 dL_law_905 (by decide) (fun c234 => ?_) (fun c234 => ?_)
    · have hf := it_f hf c234
      refine V_sub [(0, vR 19 1), (1, vR 8 l1), (2, vR 9 l2), (3, vR 11 l3), (4, vI l4)] [2, 3, 4, 5, 6] rfl ?_
      exact t_L_law_b920 g hX hb0 hlr hk23 hf
    · have hf := it_t hf c234
      refine V_aload_n g 5 dL_law_908 rfl ?_
      refine V_iconst (v := 0) g dL_law_909 (by decide) ?_
      obtain ⟨z235, hf⟩ := nz_some hf
      obtain ⟨h236, hf⟩ := ckf hf
      refine V_lald g z235 h236 dL_law_910 ?_
      refine V_iload g 0 dL_law_911 rfl ?_
      refine V_i2l g dL_law_913 ?_
      refine V_lcmp g dL_law_914 ?_
      refine V_if_eq g 920 dL_law_915 (by decide) (fun c237 => ?_) (fun c237 => ?_)
      · have hf := it_t hf c237
        refine V_sub [(0, vR 19 1), (1, vR 8 l1), (2, vR 9 l2), (3, vR 11 l3), (4, vI l4)] [2, 3, 4, 5, 6] rfl ?_
        exact t_L_law_b920 g hX hb0 hlr hk23 hf
      · have hf := it_f hf c237
        refine V_iconst (v := 0) g dL_law_918 (by decide) ?_
        exact law_ret g hlr hf dL_law_919
  · have hf := it_f hf c233
    refine V_iconst (v := 0) g dL_law_901 (by decide) ?_
    exact law_ret g hlr hf dL_law_902
set_option maxRecDepth 20000 in
theorem t_L_law_b988 {E : ET} {fu : Nat} {s' : St} {Q : State → Prop} {xs : Nat → Int32} {L : Nat} (g : GX E "ThinSeriesLaw" cL_law 8 51) (hX : va_X (E.G.2.2.2 19 1) L xs E.s E.s.heap) (hb0 : E.G.2.2.2 19 1 < E.G.1) (hlr : law_end E Q s') {k23 : St → Nat → Nat → Nat → Int32 → Option (St × Int32)} (hk23 : ∀ (s : St) (l1 : Nat) (l2 : Nat) (l3 : Nat) (l4 : Int32), k23 s l1 l2 l3 l4 = some (s', 1) → V E 8 Q s 23 [(0, vR 19 1), (1, vR 8 l1), (2, vR 9 l2), (3, vR 11 l3), (4, vI l4)] []) {s : St} {l1 : Nat} {l2 : Nat} {l3 : Nat} {l4 : Int32} (hf : f_L_law_b988 fu xs L k23 s l1 l2 l3 l4 = some (s', 1)) : V E 8 Q s 988 [(0, vR 19 1), (1, vR 8 l1), (2, vR 9 l2), (3, vR 11 l3), (4, vI l4)] [] := by
  unfold f_L_law_b988 at hf
  refine V_goto g 1839 dL_law_988 (by decide) ?_
  exact t_L_law_b1839 g hX hb0 hlr hk23 hf
set_option maxRecDepth 20000 in
theorem t_L_law_b923 {E : ET} {fu : Nat} {s' : St} {Q : State → Prop} {xs : Nat → Int32} {L : Nat} (g : GX E "ThinSeriesLaw" cL_law 8 51) (hX : va_X (E.G.2.2.2 19 1) L xs E.s E.s.heap) (hb0 : E.G.2.2.2 19 1 < E.G.1) (hlr : law_end E Q s') {k23 : St → Nat → Nat → Nat → Int32 → Option (St × Int32)} (hk23 : ∀ (s : St) (l1 : Nat) (l2 : Nat) (l3 : Nat) (l4 : Int32), k23 s l1 l2 l3 l4 = some (s', 1) → V E 8 Q s 23 [(0, vR 19 1), (1, vR 8 l1), (2, vR 9 l2), (3, vR 11 l3), (4, vI l4)] []) {s : St} {l1 : Nat} {l2 : Nat} {l3 : Nat} {l4 : Int32} (hf : f_L_law_b923 fu xs L k23 s l1 l2 l3 l4 = some (s', 1)) : V E 8 Q s 923 [(0, vR 19 1), (1, vR 8 l1), (2, vR 9 l2), (3, vR 11 l3), (4, vI l4)] [] := by
  unfold f_L_law_b923 at hf
  refine V_aload_n g 1 dL_law_923 rfl ?_
  refine V_aload_n g 0 dL_law_924 rfl ?_
  refine V_iload g 4 dL_law_925 rfl ?_
  refine V_iconst (v := 1) g dL_law_927 (by decide) ?_
  refine V_iadd g dL_law_928 ?_
  obtain ⟨h238, hf⟩ := ckf hf
  refine V_sld g hX hb0 h238 dL_law_929 ?_
  refine V_aload_n g 0 dL_law_930 rfl ?_
  refine V_iload g 4 dL_law_931 rfl ?_
  refine V_iconst (v := 2) g dL_law_933 (by decide) ?_
  refine V_iadd g dL_law_934 ?_
  obtain ⟨h239, hf⟩ := ckf hf
  refine V_sld g hX hb0 h239 dL_law_935 ?_
  refine V_aload_n g 3 dL_law_936 rfl ?_
  obtain ⟨s240, x241, hc, hf⟩ := bI_some hf
  refine cW1 g [vR 8 l1, vI (xs (ix (l4 + 1))), vI (xs (ix (l4 + 2))), vR 11 l3] [] s240 (vI x241) cf_L_buckets (t_L_buckets g.2.2.2.2.2.2.1 hc) (by decide) q_1035 (Nat.le_of_ble_eq_true rfl) dL_law_937 ?_ rfl
  refine V_istore g [(5, vI x241), (0, vR 19 1), (1, vR 8 l1), (2, vR 9 l2), (3, vR 11 l3), (4, vI l4)] dL_law_940 rfl (by decide) rfl ?_
  refine V_aload_n g 3 dL_law_942 rfl ?_
  refine V_aload_n g 1 dL_law_943 rfl ?_
  refine V_iload g 5 dL_law_944 rfl ?_
  refine V_iconst (v := 1) g dL_law_946 (by decide) ?_
  refine V_iadd g dL_law_947 ?_
  obtain ⟨h242, hf⟩ := ckf hf
  refine V_sld g hX hb0 h242 dL_law_948 ?_
  refine V_aload_n g 1 dL_law_949 rfl ?_
  refine V_iload g 5 dL_law_950 rfl ?_
  refine V_iconst (v := 2) g dL_law_952 (by decide) ?_
  refine V_iadd g dL_law_953 ?_
  obtain ⟨h243, hf⟩ := ckf hf
  refine V_sld g hX hb0 h243 dL_law_954 ?_
  obtain ⟨z244, hf⟩ := nz_some hf
  obtain ⟨s245, x246, hc, hf⟩ := bI_some hf
  refine cV1 g [vI (xs (ix (l4 + 1))), vI (xs (ix (l4 + 2)))] [] s245 (vI x246) cf_X9_buckets (t_X9_buckets g.2.2.2.2.2.2.1 hc) (RC_own g rfl z244) z244 (by decide) q_1746 (Nat.le_of_ble_eq_true rfl) dL_law_955 ?_ rfl
  refine V_istore g [(6, vI x246), (5, vI x241), (0, vR 19 1), (1, vR 8 l1), (2, vR 9 l2), (3, vR 11 l3), (4, vI l4)] dL_law_958 rfl (by decide) rfl ?_
  refine V_aload_n g 4 dL_law_960 rfl ?_
  obtain ⟨s247, x248, hc, hf⟩ := bI_some hf
  refine cV1 g [] [] s247 (vI x248) cf_X9_thrown (t_X9_thrown g.2.2.2.2.2.2.1 hc) (RC_own g rfl z244) z244 (by decide) q_1442 (Nat.le_of_ble_eq_true rfl) dL_law_961 ?_ rfl
  refine V_iload g 1 dL_law_964 rfl ?_
  refine V_icmp_eq g 971 dL_law_966 (by decide) (fun c249 => ?_) (fun c249 => ?_)
  · have hf := it_t hf c249
    refine V_iload g 1 dL_law_971 rfl ?_
    refine V_if_ne g 988 dL_law_973 (by decide) (fun c250 => ?_) (fun c250 => ?_)
    · have hf := it_f hf c250
      refine V_sub [(0, vR 19 1), (1, vR 8 l1), (2, vR 9 l2), (3, vR 11 l3), (4, vI l4)] [2, 3, 4, 5, 6] rfl ?_
      exact t_L_law_b988 g hX hb0 hlr hk23 hf
    · have hf := it_t hf c250
      refine V_aload_n g 5 dL_law_976 rfl ?_
      refine V_iconst (v := 0) g dL_law_977 (by decide) ?_
      obtain ⟨z251, hf⟩ := nz_some hf
      obtain ⟨h252, hf⟩ := ckf hf
      refine V_lald g z251 h252 dL_law_978 ?_
      refine V_iload g 0 dL_law_979 rfl ?_
      refine V_i2l g dL_law_981 ?_
      refine V_lcmp g dL_law_982 ?_
      refine V_if_eq g 988 dL_law_983 (by decide) (fun c253 => ?_) (fun c253 => ?_)
      · have hf := it_t hf c253
        refine V_sub [(0, vR 19 1), (1, vR 8 l1), (2, vR 9 l2), (3, vR 11 l3), (4, vI l4)] [2, 3, 4, 5, 6] rfl ?_
        exact t_L_law_b988 g hX hb0 hlr hk23 hf
      · have hf := it_f hf c253
        refine V_iconst (v := 0) g dL_law_986 (by decide) ?_
        exact law_ret g hlr hf dL_law_987
  · have hf := it_f hf c249
    refine V_iconst (v := 0) g dL_law_969 (by decide) ?_
    exact law_ret g hlr hf dL_law_970
set_option maxRecDepth 20000 in
theorem t_L_law_b1079 {E : ET} {fu : Nat} {s' : St} {Q : State → Prop} {xs : Nat → Int32} {L : Nat} (g : GX E "ThinSeriesLaw" cL_law 8 51) (hX : va_X (E.G.2.2.2 19 1) L xs E.s E.s.heap) (hb0 : E.G.2.2.2 19 1 < E.G.1) (hlr : law_end E Q s') {k23 : St → Nat → Nat → Nat → Int32 → Option (St × Int32)} (hk23 : ∀ (s : St) (l1 : Nat) (l2 : Nat) (l3 : Nat) (l4 : Int32), k23 s l1 l2 l3 l4 = some (s', 1) → V E 8 Q s 23 [(0, vR 19 1), (1, vR 8 l1), (2, vR 9 l2), (3, vR 11 l3), (4, vI l4)] []) {s : St} {l1 : Nat} {l2 : Nat} {l3 : Nat} {l4 : Int32} (hf : f_L_law_b1079 fu xs L k23 s l1 l2 l3 l4 = some (s', 1)) : V E 8 Q s 1079 [(0, vR 19 1), (1, vR 8 l1), (2, vR 9 l2), (3, vR 11 l3), (4, vI l4)] [] := by
  unfold f_L_law_b1079 at hf
  refine V_goto g 1839 dL_law_1079 (by decide) ?_
  exact t_L_law_b1839 g hX hb0 hlr hk23 hf
set_option maxRecDepth 20000 in
theorem t_L_law_b991 {E : ET} {fu : Nat} {s' : St} {Q : State → Prop} {xs : Nat → Int32} {L : Nat} (g : GX E "ThinSeriesLaw" cL_law 8 51) (hX : va_X (E.G.2.2.2 19 1) L xs E.s E.s.heap) (hb0 : E.G.2.2.2 19 1 < E.G.1) (hlr : law_end E Q s') {k23 : St → Nat → Nat → Nat → Int32 → Option (St × Int32)} (hk23 : ∀ (s : St) (l1 : Nat) (l2 : Nat) (l3 : Nat) (l4 : Int32), k23 s l1 l2 l3 l4 = some (s', 1) → V E 8 Q s 23 [(0, vR 19 1), (1, vR 8 l1), (2, vR 9 l2), (3, vR 11 l3), (4, vI l4)] []) {s : St} {l1 : Nat} {l2 : Nat} {l3 : Nat} {l4 : Int32} (hf : f_L_law_b991 fu xs L k23 s l1 l2 l3 l4 = some (s', 1)) : V E 8 Q s 991 [(0, vR 19 1), (1, vR 8 l1), (2, vR 9 l2), (3, vR 11 l3), (4, vI l4)] [] := by
  unfold f_L_law_b991 at hf
  refine V_aload_n g 1 dL_law_991 rfl ?_
  refine V_aload_n g 0 dL_law_992 rfl ?_
  refine V_iload g 4 dL_law_993 rfl ?_
  refine V_iconst (v := 1) g dL_law_995 (by decide) ?_
  refine V_iadd g dL_law_996 ?_
  obtain ⟨h254, hf⟩ := ckf hf
  refine V_sld g hX hb0 h254 dL_law_997 ?_
  refine V_aload_n g 0 dL_law_998 rfl ?_
  refine V_iload g 4 dL_law_999 rfl ?_
  refine V_iconst (v := 2) g dL_law_1001 (by decide) ?_
  refine V_iadd g dL_law_1002 ?_
  obtain ⟨h255, hf⟩ := ckf hf
  refine V_sld g hX hb0 h255 dL_law_1003 ?_
  refine V_aload_n g 0 dL_law_1004 rfl ?_
  refine V_iload g 4 dL_law_1005 rfl ?_
  refine V_iconst (v := 3) g dL_law_1007 (by decide) ?_
  refine V_iadd g dL_law_1008 ?_
  obtain ⟨h256, hf⟩ := ckf hf
  refine V_sld g hX hb0 h256 dL_law_1009 ?_
  refine V_aload_n g 0 dL_law_1010 rfl ?_
  refine V_iload g 4 dL_law_1011 rfl ?_
  refine V_iconst (v := 4) g dL_law_1013 (by decide) ?_
  refine V_iadd g dL_law_1014 ?_
  obtain ⟨h257, hf⟩ := ckf hf
  refine V_sld g hX hb0 h257 dL_law_1015 ?_
  refine V_aload_n g 3 dL_law_1016 rfl ?_
  obtain ⟨s258, x259, hc, hf⟩ := bI_some hf
  refine cW1 g [vR 8 l1, vI (xs (ix (l4 + 1))), vI (xs (ix (l4 + 2))), vI (xs (ix (l4 + 3))), vI (xs (ix (l4 + 4))), vR 11 l3] [] s258 (vI x259) cf_L_bucket (t_L_bucket g.2.2.2.2.2.2.1 hc) (by decide) q_1050 (Nat.le_of_ble_eq_true rfl) dL_law_1017 ?_ rfl
  refine V_istore g [(5, vI x259), (0, vR 19 1), (1, vR 8 l1), (2, vR 9 l2), (3, vR 11 l3), (4, vI l4)] dL_law_1020 rfl (by decide) rfl ?_
  refine V_aload_n g 3 dL_law_1022 rfl ?_
  refine V_aload_n g 1 dL_law_1023 rfl ?_
  refine V_iload g 5 dL_law_1024 rfl ?_
  refine V_iconst (v := 1) g dL_law_1026 (by decide) ?_
  refine V_iadd g dL_law_1027 ?_
  obtain ⟨h260, hf⟩ := ckf hf
  refine V_sld g hX hb0 h260 dL_law_1028 ?_
  refine V_aload_n g 1 dL_law_1029 rfl ?_
  refine V_iload g 5 dL_law_1030 rfl ?_
  refine V_iconst (v := 2) g dL_law_1032 (by decide) ?_
  refine V_iadd g dL_law_1033 ?_
  obtain ⟨h261, hf⟩ := ckf hf
  refine V_sld g hX hb0 h261 dL_law_1034 ?_
  refine V_aload_n g 1 dL_law_1035 rfl ?_
  refine V_iload g 5 dL_law_1036 rfl ?_
  refine V_iconst (v := 3) g dL_law_1038 (by decide) ?_
  refine V_iadd g dL_law_1039 ?_
  obtain ⟨h262, hf⟩ := ckf hf
  refine V_sld g hX hb0 h262 dL_law_1040 ?_
  refine V_aload_n g 1 dL_law_1041 rfl ?_
  refine V_iload g 5 dL_law_1042 rfl ?_
  refine V_iconst (v := 4) g dL_law_1044 (by decide) ?_
  refine V_iadd g dL_law_1045 ?_
  obtain ⟨h263, hf⟩ := ckf hf
  refine V_sld g hX hb0 h263 dL_law_1046 ?_
  obtain ⟨z264, hf⟩ := nz_some hf
  obtain ⟨s265, x266, hc, hf⟩ := bI_some hf
  refine cV1 g [vI (xs (ix (l4 + 1))), vI (xs (ix (l4 + 2))), vI (xs (ix (l4 + 3))), vI (xs (ix (l4 + 4)))] [] s265 (vJ x266) cf_X9_bucket (t_X9_bucket g.2.2.2.2.2.2.1 hc) (RC_own g rfl z264) z264 (by decide) q_1762 (Nat.le_of_ble_eq_true rfl) dL_law_1047 ?_ rfl
  refine V_lstore g [(6, vJ x266), (5, vI x259), (0, vR 19 1), (1, vR 8 l1), (2, vR 9 l2), (3, vR 11 l3), (4, vI l4)] dL_law_1050 rfl (by decide) rfl ?_
  refine V_aload_n g 4 dL_law_1052 rfl ?_
  obtain ⟨s267, x268, hc, hf⟩ := bI_some hf
  refine cV1 g [] [] s267 (vI x268) cf_X9_thrown (t_X9_thrown g.2.2.2.2.2.2.1 hc) (RC_own g rfl z264) z264 (by decide) q_1442 (Nat.le_of_ble_eq_true rfl) dL_law_1053 ?_ rfl
  refine V_iload g 1 dL_law_1056 rfl ?_
  refine V_icmp_eq g 1063 dL_law_1058 (by decide) (fun c269 => ?_) (fun c269 => ?_)
  · have hf := it_t hf c269
    refine V_iload g 1 dL_law_1063 rfl ?_
    refine V_if_ne g 1079 dL_law_1065 (by decide) (fun c270 => ?_) (fun c270 => ?_)
    · have hf := it_f hf c270
      refine V_sub [(0, vR 19 1), (1, vR 8 l1), (2, vR 9 l2), (3, vR 11 l3), (4, vI l4)] [2, 3, 4, 5, 6] rfl ?_
      exact t_L_law_b1079 g hX hb0 hlr hk23 hf
    · have hf := it_t hf c270
      refine V_aload_n g 5 dL_law_1068 rfl ?_
      refine V_iconst (v := 0) g dL_law_1069 (by decide) ?_
      obtain ⟨z271, hf⟩ := nz_some hf
      obtain ⟨h272, hf⟩ := ckf hf
      refine V_lald g z271 h272 dL_law_1070 ?_
      refine V_lload g 0 dL_law_1071 rfl ?_
      refine V_lcmp g dL_law_1073 ?_
      refine V_if_eq g 1079 dL_law_1074 (by decide) (fun c273 => ?_) (fun c273 => ?_)
      · have hf := it_t hf c273
        refine V_sub [(0, vR 19 1), (1, vR 8 l1), (2, vR 9 l2), (3, vR 11 l3), (4, vI l4)] [2, 3, 4, 5, 6] rfl ?_
        exact t_L_law_b1079 g hX hb0 hlr hk23 hf
      · have hf := it_f hf c273
        refine V_iconst (v := 0) g dL_law_1077 (by decide) ?_
        exact law_ret g hlr hf dL_law_1078
  · have hf := it_f hf c269
    refine V_iconst (v := 0) g dL_law_1061 (by decide) ?_
    exact law_ret g hlr hf dL_law_1062
set_option maxRecDepth 20000 in
theorem t_L_law_b1159 {E : ET} {fu : Nat} {s' : St} {Q : State → Prop} {xs : Nat → Int32} {L : Nat} (g : GX E "ThinSeriesLaw" cL_law 8 51) (hX : va_X (E.G.2.2.2 19 1) L xs E.s E.s.heap) (hb0 : E.G.2.2.2 19 1 < E.G.1) (hlr : law_end E Q s') {k23 : St → Nat → Nat → Nat → Int32 → Option (St × Int32)} (hk23 : ∀ (s : St) (l1 : Nat) (l2 : Nat) (l3 : Nat) (l4 : Int32), k23 s l1 l2 l3 l4 = some (s', 1) → V E 8 Q s 23 [(0, vR 19 1), (1, vR 8 l1), (2, vR 9 l2), (3, vR 11 l3), (4, vI l4)] []) {s : St} {l1 : Nat} {l2 : Nat} {l3 : Nat} {l4 : Int32} (hf : f_L_law_b1159 fu xs L k23 s l1 l2 l3 l4 = some (s', 1)) : V E 8 Q s 1159 [(0, vR 19 1), (1, vR 8 l1), (2, vR 9 l2), (3, vR 11 l3), (4, vI l4)] [] := by
  unfold f_L_law_b1159 at hf
  refine V_goto g 1839 dL_law_1159 (by decide) ?_
  exact t_L_law_b1839 g hX hb0 hlr hk23 hf
set_option maxRecDepth 20000 in
theorem t_L_law_b1082 {E : ET} {fu : Nat} {s' : St} {Q : State → Prop} {xs : Nat → Int32} {L : Nat} (g : GX E "ThinSeriesLaw" cL_law 8 51) (hX : va_X (E.G.2.2.2 19 1) L xs E.s E.s.heap) (hb0 : E.G.2.2.2 19 1 < E.G.1) (hlr : law_end E Q s') {k23 : St → Nat → Nat → Nat → Int32 → Option (St × Int32)} (hk23 : ∀ (s : St) (l1 : Nat) (l2 : Nat) (l3 : Nat) (l4 : Int32), k23 s l1 l2 l3 l4 = some (s', 1) → V E 8 Q s 23 [(0, vR 19 1), (1, vR 8 l1), (2, vR 9 l2), (3, vR 11 l3), (4, vI l4)] []) {s : St} {l1 : Nat} {l2 : Nat} {l3 : Nat} {l4 : Int32} (hf : f_L_law_b1082 fu xs L k23 s l1 l2 l3 l4 = some (s', 1)) : V E 8 Q s 1082 [(0, vR 19 1), (1, vR 8 l1), (2, vR 9 l2), (3, vR 11 l3), (4, vI l4)] [] := by
  unfold f_L_law_b1082 at hf
  refine V_aload_n g 1 dL_law_1082 rfl ?_
  refine V_aload_n g 0 dL_law_1083 rfl ?_
  refine V_iload g 4 dL_law_1084 rfl ?_
  refine V_iconst (v := 1) g dL_law_1086 (by decide) ?_
  refine V_iadd g dL_law_1087 ?_
  obtain ⟨h274, hf⟩ := ckf hf
  refine V_sld g hX hb0 h274 dL_law_1088 ?_
  refine V_aload_n g 0 dL_law_1089 rfl ?_
  refine V_iload g 4 dL_law_1090 rfl ?_
  refine V_iconst (v := 2) g dL_law_1092 (by decide) ?_
  refine V_iadd g dL_law_1093 ?_
  obtain ⟨h275, hf⟩ := ckf hf
  refine V_sld g hX hb0 h275 dL_law_1094 ?_
  refine V_aload_n g 0 dL_law_1095 rfl ?_
  refine V_iload g 4 dL_law_1096 rfl ?_
  refine V_iconst (v := 3) g dL_law_1098 (by decide) ?_
  refine V_iadd g dL_law_1099 ?_
  obtain ⟨h276, hf⟩ := ckf hf
  refine V_sld g hX hb0 h276 dL_law_1100 ?_
  refine V_aload_n g 3 dL_law_1101 rfl ?_
  obtain ⟨s277, x278, hc, hf⟩ := bI_some hf
  refine cW1 g [vR 8 l1, vI (xs (ix (l4 + 1))), vI (xs (ix (l4 + 2))), vI (xs (ix (l4 + 3))), vR 11 l3] [] s277 (vI x278) cf_L_at (t_L_at g.2.2.2.2.2.2.1 hc) (by decide) q_1072 (Nat.le_of_ble_eq_true rfl) dL_law_1102 ?_ rfl
  refine V_istore g [(5, vI x278), (0, vR 19 1), (1, vR 8 l1), (2, vR 9 l2), (3, vR 11 l3), (4, vI l4)] dL_law_1105 rfl (by decide) rfl ?_
  refine V_aload_n g 3 dL_law_1107 rfl ?_
  refine V_aload_n g 1 dL_law_1108 rfl ?_
  refine V_iload g 5 dL_law_1109 rfl ?_
  refine V_iconst (v := 1) g dL_law_1111 (by decide) ?_
  refine V_iadd g dL_law_1112 ?_
  obtain ⟨h279, hf⟩ := ckf hf
  refine V_sld g hX hb0 h279 dL_law_1113 ?_
  refine V_aload_n g 1 dL_law_1114 rfl ?_
  refine V_iload g 5 dL_law_1115 rfl ?_
  refine V_iconst (v := 2) g dL_law_1117 (by decide) ?_
  refine V_iadd g dL_law_1118 ?_
  obtain ⟨h280, hf⟩ := ckf hf
  refine V_sld g hX hb0 h280 dL_law_1119 ?_
  refine V_aload_n g 1 dL_law_1120 rfl ?_
  refine V_iload g 5 dL_law_1121 rfl ?_
  refine V_iconst (v := 3) g dL_law_1123 (by decide) ?_
  refine V_iadd g dL_law_1124 ?_
  obtain ⟨h281, hf⟩ := ckf hf
  refine V_sld g hX hb0 h281 dL_law_1125 ?_
  obtain ⟨z282, hf⟩ := nz_some hf
  obtain ⟨s283, x284, hc, hf⟩ := bI_some hf
  refine cV1 g [vI (xs (ix (l4 + 1))), vI (xs (ix (l4 + 2))), vI (xs (ix (l4 + 3)))] [] s283 (vI x284) cf_X9_at (t_X9_at g.2.2.2.2.2.2.1 hc) (RC_own g rfl z282) z282 (by decide) q_1770 (Nat.le_of_ble_eq_true rfl) dL_law_1126 ?_ rfl
  refine V_istore g [(6, vI x284), (5, vI x278), (0, vR 19 1), (1, vR 8 l1), (2, vR 9 l2), (3, vR 11 l3), (4, vI l4)] dL_law_1129 rfl (by decide) rfl ?_
  refine V_aload_n g 4 dL_law_1131 rfl ?_
  obtain ⟨s285, x286, hc, hf⟩ := bI_some hf
  refine cV1 g [] [] s285 (vI x286) cf_X9_thrown (t_X9_thrown g.2.2.2.2.2.2.1 hc) (RC_own g rfl z282) z282 (by decide) q_1442 (Nat.le_of_ble_eq_true rfl) dL_law_1132 ?_ rfl
  refine V_iload g 1 dL_law_1135 rfl ?_
  refine V_icmp_eq g 1142 dL_law_1137 (by decide) (fun c287 => ?_) (fun c287 => ?_)
  · have hf := it_t hf c287
    refine V_iload g 1 dL_law_1142 rfl ?_
    refine V_if_ne g 1159 dL_law_1144 (by decide) (fun c288 => ?_) (fun c288 => ?_)
    · have hf := it_f hf c288
      refine V_sub [(0, vR 19 1), (1, vR 8 l1), (2, vR 9 l2), (3, vR 11 l3), (4, vI l4)] [2, 3, 4, 5, 6] rfl ?_
      exact t_L_law_b1159 g hX hb0 hlr hk23 hf
    · have hf := it_t hf c288
      refine V_aload_n g 5 dL_law_1147 rfl ?_
      refine V_iconst (v := 0) g dL_law_1148 (by decide) ?_
      obtain ⟨z289, hf⟩ := nz_some hf
      obtain ⟨h290, hf⟩ := ckf hf
      refine V_lald g z289 h290 dL_law_1149 ?_
      refine V_iload g 0 dL_law_1150 rfl ?_
      refine V_i2l g dL_law_1152 ?_
      refine V_lcmp g dL_law_1153 ?_
      refine V_if_eq g 1159 dL_law_1154 (by decide) (fun c291 => ?_) (fun c291 => ?_)
      · have hf := it_t hf c291
        refine V_sub [(0, vR 19 1), (1, vR 8 l1), (2, vR 9 l2), (3, vR 11 l3), (4, vI l4)] [2, 3, 4, 5, 6] rfl ?_
        exact t_L_law_b1159 g hX hb0 hlr hk23 hf
      · have hf := it_f hf c291
        refine V_iconst (v := 0) g dL_law_1157 (by decide) ?_
        exact law_ret g hlr hf dL_law_1158
  · have hf := it_f hf c287
    refine V_iconst (v := 0) g dL_law_1140 (by decide) ?_
    exact law_ret g hlr hf dL_law_1141
set_option maxRecDepth 20000 in
theorem t_L_law_b1250 {E : ET} {fu : Nat} {s' : St} {Q : State → Prop} {xs : Nat → Int32} {L : Nat} (g : GX E "ThinSeriesLaw" cL_law 8 51) (hX : va_X (E.G.2.2.2 19 1) L xs E.s E.s.heap) (hb0 : E.G.2.2.2 19 1 < E.G.1) (hlr : law_end E Q s') {k23 : St → Nat → Nat → Nat → Int32 → Option (St × Int32)} (hk23 : ∀ (s : St) (l1 : Nat) (l2 : Nat) (l3 : Nat) (l4 : Int32), k23 s l1 l2 l3 l4 = some (s', 1) → V E 8 Q s 23 [(0, vR 19 1), (1, vR 8 l1), (2, vR 9 l2), (3, vR 11 l3), (4, vI l4)] []) {s : St} {l1 : Nat} {l2 : Nat} {l3 : Nat} {l4 : Int32} (hf : f_L_law_b1250 fu xs L k23 s l1 l2 l3 l4 = some (s', 1)) : V E 8 Q s 1250 [(0, vR 19 1), (1, vR 8 l1), (2, vR 9 l2), (3, vR 11 l3), (4, vI l4)] [] := by
  unfold f_L_law_b1250 at hf
  refine V_goto g 1839 dL_law_1250 (by decide) ?_
  exact t_L_law_b1839 g hX hb0 hlr hk23 hf
set_option maxRecDepth 20000 in
theorem t_L_law_b1162 {E : ET} {fu : Nat} {s' : St} {Q : State → Prop} {xs : Nat → Int32} {L : Nat} (g : GX E "ThinSeriesLaw" cL_law 8 51) (hX : va_X (E.G.2.2.2 19 1) L xs E.s E.s.heap) (hb0 : E.G.2.2.2 19 1 < E.G.1) (hlr : law_end E Q s') {k23 : St → Nat → Nat → Nat → Int32 → Option (St × Int32)} (hk23 : ∀ (s : St) (l1 : Nat) (l2 : Nat) (l3 : Nat) (l4 : Int32), k23 s l1 l2 l3 l4 = some (s', 1) → V E 8 Q s 23 [(0, vR 19 1), (1, vR 8 l1), (2, vR 9 l2), (3, vR 11 l3), (4, vI l4)] []) {s : St} {l1 : Nat} {l2 : Nat} {l3 : Nat} {l4 : Int32} (hf : f_L_law_b1162 fu xs L k23 s l1 l2 l3 l4 = some (s', 1)) : V E 8 Q s 1162 [(0, vR 19 1), (1, vR 8 l1), (2, vR 9 l2), (3, vR 11 l3), (4, vI l4)] [] := by
  unfold f_L_law_b1162 at hf
  refine V_aload_n g 1 dL_law_1162 rfl ?_
  refine V_aload_n g 0 dL_law_1163 rfl ?_
  refine V_iload g 4 dL_law_1164 rfl ?_
  refine V_iconst (v := 1) g dL_law_1166 (by decide) ?_
  refine V_iadd g dL_law_1167 ?_
  obtain ⟨h292, hf⟩ := ckf hf
  refine V_sld g hX hb0 h292 dL_law_1168 ?_
  refine V_aload_n g 0 dL_law_1169 rfl ?_
  refine V_iload g 4 dL_law_1170 rfl ?_
  refine V_iconst (v := 2) g dL_law_1172 (by decide) ?_
  refine V_iadd g dL_law_1173 ?_
  obtain ⟨h293, hf⟩ := ckf hf
  refine V_sld g hX hb0 h293 dL_law_1174 ?_
  refine V_aload_n g 0 dL_law_1175 rfl ?_
  refine V_iload g 4 dL_law_1176 rfl ?_
  refine V_iconst (v := 3) g dL_law_1178 (by decide) ?_
  refine V_iadd g dL_law_1179 ?_
  obtain ⟨h294, hf⟩ := ckf hf
  refine V_sld g hX hb0 h294 dL_law_1180 ?_
  refine V_aload_n g 0 dL_law_1181 rfl ?_
  refine V_iload g 4 dL_law_1182 rfl ?_
  refine V_iconst (v := 4) g dL_law_1184 (by decide) ?_
  refine V_iadd g dL_law_1185 ?_
  obtain ⟨h295, hf⟩ := ckf hf
  refine V_sld g hX hb0 h295 dL_law_1186 ?_
  refine V_aload_n g 3 dL_law_1187 rfl ?_
  obtain ⟨s296, x297, hc, hf⟩ := bI_some hf
  refine cW1 g [vR 8 l1, vI (xs (ix (l4 + 1))), vI (xs (ix (l4 + 2))), vI (xs (ix (l4 + 3))), vI (xs (ix (l4 + 4))), vR 11 l3] [] s296 (vI x297) cf_L_total (t_L_total g.2.2.2.2.2.2.1 hc) (by decide) q_1085 (Nat.le_of_ble_eq_true rfl) dL_law_1188 ?_ rfl
  refine V_istore g [(5, vI x297), (0, vR 19 1), (1, vR 8 l1), (2, vR 9 l2), (3, vR 11 l3), (4, vI l4)] dL_law_1191 rfl (by decide) rfl ?_
  refine V_aload_n g 3 dL_law_1193 rfl ?_
  refine V_aload_n g 1 dL_law_1194 rfl ?_
  refine V_iload g 5 dL_law_1195 rfl ?_
  refine V_iconst (v := 1) g dL_law_1197 (by decide) ?_
  refine V_iadd g dL_law_1198 ?_
  obtain ⟨h298, hf⟩ := ckf hf
  refine V_sld g hX hb0 h298 dL_law_1199 ?_
  refine V_aload_n g 1 dL_law_1200 rfl ?_
  refine V_iload g 5 dL_law_1201 rfl ?_
  refine V_iconst (v := 2) g dL_law_1203 (by decide) ?_
  refine V_iadd g dL_law_1204 ?_
  obtain ⟨h299, hf⟩ := ckf hf
  refine V_sld g hX hb0 h299 dL_law_1205 ?_
  refine V_aload_n g 1 dL_law_1206 rfl ?_
  refine V_iload g 5 dL_law_1207 rfl ?_
  refine V_iconst (v := 3) g dL_law_1209 (by decide) ?_
  refine V_iadd g dL_law_1210 ?_
  obtain ⟨h300, hf⟩ := ckf hf
  refine V_sld g hX hb0 h300 dL_law_1211 ?_
  refine V_aload_n g 1 dL_law_1212 rfl ?_
  refine V_iload g 5 dL_law_1213 rfl ?_
  refine V_iconst (v := 4) g dL_law_1215 (by decide) ?_
  refine V_iadd g dL_law_1216 ?_
  obtain ⟨h301, hf⟩ := ckf hf
  refine V_sld g hX hb0 h301 dL_law_1217 ?_
  obtain ⟨z302, hf⟩ := nz_some hf
  obtain ⟨s303, x304, hc, hf⟩ := bI_some hf
  refine cV1 g [vI (xs (ix (l4 + 1))), vI (xs (ix (l4 + 2))), vI (xs (ix (l4 + 3))), vI (xs (ix (l4 + 4)))] [] s303 (vJ x304) cf_X9_total (t_X9_total g.2.2.2.2.2.2.1 hc) (RC_own g rfl z302) z302 (by decide) q_1775 (Nat.le_of_ble_eq_true rfl) dL_law_1218 ?_ rfl
  refine V_lstore g [(6, vJ x304), (5, vI x297), (0, vR 19 1), (1, vR 8 l1), (2, vR 9 l2), (3, vR 11 l3), (4, vI l4)] dL_law_1221 rfl (by decide) rfl ?_
  refine V_aload_n g 4 dL_law_1223 rfl ?_
  obtain ⟨s305, x306, hc, hf⟩ := bI_some hf
  refine cV1 g [] [] s305 (vI x306) cf_X9_thrown (t_X9_thrown g.2.2.2.2.2.2.1 hc) (RC_own g rfl z302) z302 (by decide) q_1442 (Nat.le_of_ble_eq_true rfl) dL_law_1224 ?_ rfl
  refine V_iload g 1 dL_law_1227 rfl ?_
  refine V_icmp_eq g 1234 dL_law_1229 (by decide) (fun c307 => ?_) (fun c307 => ?_)
  · have hf := it_t hf c307
    refine V_iload g 1 dL_law_1234 rfl ?_
    refine V_if_ne g 1250 dL_law_1236 (by decide) (fun c308 => ?_) (fun c308 => ?_)
    · have hf := it_f hf c308
      refine V_sub [(0, vR 19 1), (1, vR 8 l1), (2, vR 9 l2), (3, vR 11 l3), (4, vI l4)] [2, 3, 4, 5, 6] rfl ?_
      exact t_L_law_b1250 g hX hb0 hlr hk23 hf
    · have hf := it_t hf c308
      refine V_aload_n g 5 dL_law_1239 rfl ?_
      refine V_iconst (v := 0) g dL_law_1240 (by decide) ?_
      obtain ⟨z309, hf⟩ := nz_some hf
      obtain ⟨h310, hf⟩ := ckf hf
      refine V_lald g z309 h310 dL_law_1241 ?_
      refine V_lload g 0 dL_law_1242 rfl ?_
      refine V_lcmp g dL_law_1244 ?_
      refine V_if_eq g 1250 dL_law_1245 (by decide) (fun c311 => ?_) (fun c311 => ?_)
      · have hf := it_t hf c311
        refine V_sub [(0, vR 19 1), (1, vR 8 l1), (2, vR 9 l2), (3, vR 11 l3), (4, vI l4)] [2, 3, 4, 5, 6] rfl ?_
        exact t_L_law_b1250 g hX hb0 hlr hk23 hf
      · have hf := it_f hf c311
        refine V_iconst (v := 0) g dL_law_1248 (by decide) ?_
        exact law_ret g hlr hf dL_law_1249
  · have hf := it_f hf c307
    refine V_iconst (v := 0) g dL_law_1232 (by decide) ?_
    exact law_ret g hlr hf dL_law_1233
set_option maxRecDepth 20000 in
theorem t_L_law_b1358 {E : ET} {fu : Nat} {s' : St} {Q : State → Prop} {xs : Nat → Int32} {L : Nat} (g : GX E "ThinSeriesLaw" cL_law 8 51) (hX : va_X (E.G.2.2.2 19 1) L xs E.s E.s.heap) (hb0 : E.G.2.2.2 19 1 < E.G.1) (hlr : law_end E Q s') {k23 : St → Nat → Nat → Nat → Int32 → Option (St × Int32)} (hk23 : ∀ (s : St) (l1 : Nat) (l2 : Nat) (l3 : Nat) (l4 : Int32), k23 s l1 l2 l3 l4 = some (s', 1) → V E 8 Q s 23 [(0, vR 19 1), (1, vR 8 l1), (2, vR 9 l2), (3, vR 11 l3), (4, vI l4)] []) {s : St} {l1 : Nat} {l2 : Nat} {l3 : Nat} {l4 : Int32} (hf : f_L_law_b1358 fu xs L k23 s l1 l2 l3 l4 = some (s', 1)) : V E 8 Q s 1358 [(0, vR 19 1), (1, vR 8 l1), (2, vR 9 l2), (3, vR 11 l3), (4, vI l4)] [] := by
  unfold f_L_law_b1358 at hf
  refine V_goto g 1839 dL_law_1358 (by decide) ?_
  exact t_L_law_b1839 g hX hb0 hlr hk23 hf
set_option maxRecDepth 20000 in
theorem t_L_law_b1325 {E : ET} {fu : Nat} {s' : St} {Q : State → Prop} {xs : Nat → Int32} {L : Nat} (g : GX E "ThinSeriesLaw" cL_law 8 51) (hX : va_X (E.G.2.2.2 19 1) L xs E.s E.s.heap) (hb0 : E.G.2.2.2 19 1 < E.G.1) (hlr : law_end E Q s') {k23 : St → Nat → Nat → Nat → Int32 → Option (St × Int32)} (hk23 : ∀ (s : St) (l1 : Nat) (l2 : Nat) (l3 : Nat) (l4 : Int32), k23 s l1 l2 l3 l4 = some (s', 1) → V E 8 Q s 23 [(0, vR 19 1), (1, vR 8 l1), (2, vR 9 l2), (3, vR 11 l3), (4, vI l4)] []) {s : St} {l1 : Nat} {l2 : Nat} {l3 : Nat} {l4 : Int32} {l5 : Int32} {t0 : Int32} {t1 : Int32} {t2 : Int32} {t3 : Int32} {t4 : Nat} (hf : f_L_law_b1325 fu xs L k23 s l1 l2 l3 l4 l5 t0 t1 t2 t3 t4 = some (s', 1)) : V E 8 Q s 1325 [(0, vR 19 1), (1, vR 8 l1), (2, vR 9 l2), (3, vR 11 l3), (4, vI l4), (5, vI l5)] [vI t0, vI t1, vI t2, vI t3, vR 9 t4] := by
  unfold f_L_law_b1325 at hf
  obtain ⟨z324, hf⟩ := nz_some hf
  obtain ⟨s325, x326, hc, hf⟩ := bI_some hf
  refine cV1 g [vI t3, vI t2, vI t1, vI t0] [] s325 (vI x326) cf_X9_gap (t_X9_gap g.2.2.2.2.2.2.1 hc) (RC_own g rfl z324) z324 (by decide) q_1792 (Nat.le_of_ble_eq_true rfl) dL_law_1325 ?_ rfl
  refine V_istore g [(6, vI x326), (0, vR 19 1), (1, vR 8 l1), (2, vR 9 l2), (3, vR 11 l3), (4, vI l4), (5, vI l5)] dL_law_1328 rfl (by decide) rfl ?_
  refine V_aload_n g 3 dL_law_1330 rfl ?_
  obtain ⟨z327, hf⟩ := nz_some hf
  obtain ⟨s328, x329, hc, hf⟩ := bI_some hf
  refine cV1 g [] [] s328 (vI x329) cf_X9_thrown (t_X9_thrown g.2.2.2.2.2.2.1 hc) (RC_own g rfl z327) z327 (by decide) q_1442 (Nat.le_of_ble_eq_true rfl) dL_law_1331 ?_ rfl
  refine V_iload g 6 dL_law_1334 rfl ?_
  refine V_icmp_eq g 1341 dL_law_1336 (by decide) (fun c330 => ?_) (fun c330 => ?_)
  · have hf := it_t hf c330
    refine V_iload g 6 dL_law_1341 rfl ?_
    refine V_if_ne g 1358 dL_law_1343 (by decide) (fun c331 => ?_) (fun c331 => ?_)
    · have hf := it_f hf c331
      refine V_sub [(0, vR 19 1), (1, vR 8 l1), (2, vR 9 l2), (3, vR 11 l3), (4, vI l4)] [1, 2, 3, 4, 5] rfl ?_
      exact t_L_law_b1358 g hX hb0 hlr hk23 hf
    · have hf := it_t hf c331
      refine V_aload_n g 4 dL_law_1346 rfl ?_
      refine V_iconst (v := 0) g dL_law_1347 (by decide) ?_
      obtain ⟨z332, hf⟩ := nz_some hf
      obtain ⟨h333, hf⟩ := ckf hf
      refine V_lald g z332 h333 dL_law_1348 ?_
      refine V_iload g 0 dL_law_1349 rfl ?_
      refine V_i2l g dL_law_1351 ?_
      refine V_lcmp g dL_law_1352 ?_
      refine V_if_eq g 1358 dL_law_1353 (by decide) (fun c334 => ?_) (fun c334 => ?_)
      · have hf := it_t hf c334
        refine V_sub [(0, vR 19 1), (1, vR 8 l1), (2, vR 9 l2), (3, vR 11 l3), (4, vI l4)] [1, 2, 3, 4, 5] rfl ?_
        exact t_L_law_b1358 g hX hb0 hlr hk23 hf
      · have hf := it_f hf c334
        refine V_iconst (v := 0) g dL_law_1356 (by decide) ?_
        exact law_ret g hlr hf dL_law_1357
  · have hf := it_f hf c330
    refine V_iconst (v := 0) g dL_law_1339 (by decide) ?_
    exact law_ret g hlr hf dL_law_1340
set_option maxRecDepth 20000 in
theorem t_L_law_b1286 {E : ET} {fu : Nat} {s' : St} {Q : State → Prop} {xs : Nat → Int32} {L : Nat} (g : GX E "ThinSeriesLaw" cL_law 8 51) (hX : va_X (E.G.2.2.2 19 1) L xs E.s E.s.heap) (hb0 : E.G.2.2.2 19 1 < E.G.1) (hlr : law_end E Q s') {k23 : St → Nat → Nat → Nat → Int32 → Option (St × Int32)} (hk23 : ∀ (s : St) (l1 : Nat) (l2 : Nat) (l3 : Nat) (l4 : Int32), k23 s l1 l2 l3 l4 = some (s', 1) → V E 8 Q s 23 [(0, vR 19 1), (1, vR 8 l1), (2, vR 9 l2), (3, vR 11 l3), (4, vI l4)] []) {s : St} {l1 : Nat} {l2 : Nat} {l3 : Nat} {l4 : Int32} {t0 : Int32} {t1 : Int32} {t2 : Int32} {t3 : Int32} {t4 : Nat} (hf : f_L_law_b1286 fu xs L k23 s l1 l2 l3 l4 t0 t1 t2 t3 t4 = some (s', 1)) : V E 8 Q s 1286 [(0, vR 19 1), (1, vR 8 l1), (2, vR 9 l2), (3, vR 11 l3), (4, vI l4)] [vI t0, vI t1, vI t2, vI t3, vR 8 t4] := by
  unfold f_L_law_b1286 at hf
  refine V_aload_n g 3 dL_law_1286 rfl ?_
  obtain ⟨s317, x318, hc, hf⟩ := bI_some hf
  refine cW1 g [vR 8 t4, vI t3, vI t2, vI t1, vI t0, vR 11 l3] [] s317 (vI x318) cf_L_gap (t_L_gap g.2.2.2.2.2.2.1 hc) (by decide) q_1106 (Nat.le_of_ble_eq_true rfl) dL_law_1287 ?_ rfl
  refine V_istore g [(5, vI x318), (0, vR 19 1), (1, vR 8 l1), (2, vR 9 l2), (3, vR 11 l3), (4, vI l4)] dL_law_1290 rfl (by decide) rfl ?_
  refine V_aload_n g 3 dL_law_1292 rfl ?_
  refine V_aload_n g 1 dL_law_1293 rfl ?_
  refine V_iload g 5 dL_law_1294 rfl ?_
  refine V_iconst (v := 1) g dL_law_1296 (by decide) ?_
  refine V_iadd g dL_law_1297 ?_
  obtain ⟨h319, hf⟩ := ckf hf
  refine V_sld g hX hb0 h319 dL_law_1298 ?_
  refine V_aload_n g 1 dL_law_1299 rfl ?_
  refine V_iload g 5 dL_law_1300 rfl ?_
  refine V_iconst (v := 2) g dL_law_1302 (by decide) ?_
  refine V_iadd g dL_law_1303 ?_
  obtain ⟨h320, hf⟩ := ckf hf
  refine V_sld g hX hb0 h320 dL_law_1304 ?_
  refine V_aload_n g 1 dL_law_1305 rfl ?_
  refine V_iload g 5 dL_law_1306 rfl ?_
  refine V_iconst (v := 3) g dL_law_1308 (by decide) ?_
  refine V_iadd g dL_law_1309 ?_
  obtain ⟨h321, hf⟩ := ckf hf
  refine V_sld g hX hb0 h321 dL_law_1310 ?_
  refine V_aload_n g 1 dL_law_1311 rfl ?_
  refine V_iload g 5 dL_law_1312 rfl ?_
  refine V_iconst (v := 4) g dL_law_1314 (by decide) ?_
  refine V_iadd g dL_law_1315 ?_
  obtain ⟨h322, hf⟩ := ckf hf
  refine V_sld g hX hb0 h322 dL_law_1316 ?_
  refine V_if_eq g 1324 dL_law_1317 (by decide) (fun c323 => ?_) (fun c323 => ?_)
  · have hf := it_t hf c323
    refine V_iconst (v := 0) g dL_law_1324 (by decide) ?_
    refine V_sub [(0, vR 19 1), (1, vR 8 l1), (2, vR 9 l2), (3, vR 11 l3), (4, vI l4), (5, vI x318)] [1, 2, 3, 4, 5, 0] rfl ?_
    exact t_L_law_b1325 g hX hb0 hlr hk23 hf
  · have hf := it_f hf c323
    refine V_iconst (v := 1) g dL_law_1320 (by decide) ?_
    refine V_goto g 1325 dL_law_1321 (by decide) ?_
    refine V_sub [(0, vR 19 1), (1, vR 8 l1), (2, vR 9 l2), (3, vR 11 l3), (4, vI l4), (5, vI x318)] [1, 2, 3, 4, 5, 0] rfl ?_
    exact t_L_law_b1325 g hX hb0 hlr hk23 hf
set_option maxRecDepth 20000 in
theorem t_L_law_b1253 {E : ET} {fu : Nat} {s' : St} {Q : State → Prop} {xs : Nat → Int32} {L : Nat} (g : GX E "ThinSeriesLaw" cL_law 8 51) (hX : va_X (E.G.2.2.2 19 1) L xs E.s E.s.heap) (hb0 : E.G.2.2.2 19 1 < E.G.1) (hlr : law_end E Q s') {k23 : St → Nat → Nat → Nat → Int32 → Option (St × Int32)} (hk23 : ∀ (s : St) (l1 : Nat) (l2 : Nat) (l3 : Nat) (l4 : Int32), k23 s l1 l2 l3 l4 = some (s', 1) → V E 8 Q s 23 [(0, vR 19 1), (1, vR 8 l1), (2, vR 9 l2), (3, vR 11 l3), (4, vI l4)] []) {s : St} {l1 : Nat} {l2 : Nat} {l3 : Nat} {l4 : Int32} (hf : f_L_law_b1253 fu xs L k23 s l1 l2 l3 l4 = some (s', 1)) : V E 8 Q s 1253 [(0, vR 19 1), (1, vR 8 l1), (2, vR 9 l2), (3, vR 11 l3), (4, vI l4)] [] := by
  unfold f_L_law_b1253 at hf
  refine V_aload_n g 1 dL_law_1253 rfl ?_
  refine V_aload_n g 0 dL_law_1254 rfl ?_
  refine V_iload g 4 dL_law_1255 rfl ?_
  refine V_iconst (v := 1) g dL_law_1257 (by decide) ?_
  refine V_iadd g dL_law_1258 ?_
  obtain ⟨h312, hf⟩ := ckf hf
  refine V_sld g hX hb0 h312 dL_law_1259 ?_
  refine V_aload_n g 0 dL_law_1260 rfl ?_
  refine V_iload g 4 dL_law_1261 rfl ?_
  refine V_iconst (v := 2) g dL_law_1263 (by decide) ?_
  refine V_iadd g dL_law_1264 ?_
  obtain ⟨h313, hf⟩ := ckf hf
  refine V_sld g hX hb0 h313 dL_law_1265 ?_
  refine V_aload_n g 0 dL_law_1266 rfl ?_
  refine V_iload g 4 dL_law_1267 rfl ?_
  refine V_iconst (v := 3) g dL_law_1269 (by decide) ?_
  refine V_iadd g dL_law_1270 ?_
  obtain ⟨h314, hf⟩ := ckf hf
  refine V_sld g hX hb0 h314 dL_law_1271 ?_
  refine V_aload_n g 0 dL_law_1272 rfl ?_
  refine V_iload g 4 dL_law_1273 rfl ?_
  refine V_iconst (v := 4) g dL_law_1275 (by decide) ?_
  refine V_iadd g dL_law_1276 ?_
  obtain ⟨h315, hf⟩ := ckf hf
  refine V_sld g hX hb0 h315 dL_law_1277 ?_
  refine V_if_eq g 1285 dL_law_1278 (by decide) (fun c316 => ?_) (fun c316 => ?_)
  · have hf := it_t hf c316
    refine V_iconst (v := 0) g dL_law_1285 (by decide) ?_
    exact t_L_law_b1286 g hX hb0 hlr hk23 hf
  · have hf := it_f hf c316
    refine V_iconst (v := 1) g dL_law_1281 (by decide) ?_
    refine V_goto g 1286 dL_law_1282 (by decide) ?_
    exact t_L_law_b1286 g hX hb0 hlr hk23 hf
set_option maxRecDepth 20000 in
theorem t_L_law_b1449 {E : ET} {fu : Nat} {s' : St} {Q : State → Prop} {xs : Nat → Int32} {L : Nat} (g : GX E "ThinSeriesLaw" cL_law 8 51) (hX : va_X (E.G.2.2.2 19 1) L xs E.s E.s.heap) (hb0 : E.G.2.2.2 19 1 < E.G.1) (hlr : law_end E Q s') {k23 : St → Nat → Nat → Nat → Int32 → Option (St × Int32)} (hk23 : ∀ (s : St) (l1 : Nat) (l2 : Nat) (l3 : Nat) (l4 : Int32), k23 s l1 l2 l3 l4 = some (s', 1) → V E 8 Q s 23 [(0, vR 19 1), (1, vR 8 l1), (2, vR 9 l2), (3, vR 11 l3), (4, vI l4)] []) {s : St} {l1 : Nat} {l2 : Nat} {l3 : Nat} {l4 : Int32} (hf : f_L_law_b1449 fu xs L k23 s l1 l2 l3 l4 = some (s', 1)) : V E 8 Q s 1449 [(0, vR 19 1), (1, vR 8 l1), (2, vR 9 l2), (3, vR 11 l3), (4, vI l4)] [] := by
  unfold f_L_law_b1449 at hf
  refine V_goto g 1839 dL_law_1449 (by decide) ?_
  exact t_L_law_b1839 g hX hb0 hlr hk23 hf
set_option maxRecDepth 20000 in
theorem t_L_law_b1361 {E : ET} {fu : Nat} {s' : St} {Q : State → Prop} {xs : Nat → Int32} {L : Nat} (g : GX E "ThinSeriesLaw" cL_law 8 51) (hX : va_X (E.G.2.2.2 19 1) L xs E.s E.s.heap) (hb0 : E.G.2.2.2 19 1 < E.G.1) (hlr : law_end E Q s') {k23 : St → Nat → Nat → Nat → Int32 → Option (St × Int32)} (hk23 : ∀ (s : St) (l1 : Nat) (l2 : Nat) (l3 : Nat) (l4 : Int32), k23 s l1 l2 l3 l4 = some (s', 1) → V E 8 Q s 23 [(0, vR 19 1), (1, vR 8 l1), (2, vR 9 l2), (3, vR 11 l3), (4, vI l4)] []) {s : St} {l1 : Nat} {l2 : Nat} {l3 : Nat} {l4 : Int32} (hf : f_L_law_b1361 fu xs L k23 s l1 l2 l3 l4 = some (s', 1)) : V E 8 Q s 1361 [(0, vR 19 1), (1, vR 8 l1), (2, vR 9 l2), (3, vR 11 l3), (4, vI l4)] [] := by
  unfold f_L_law_b1361 at hf
  refine V_aload_n g 1 dL_law_1361 rfl ?_
  refine V_aload_n g 0 dL_law_1362 rfl ?_
  refine V_iload g 4 dL_law_1363 rfl ?_
  refine V_iconst (v := 1) g dL_law_1365 (by decide) ?_
  refine V_iadd g dL_law_1366 ?_
  obtain ⟨h335, hf⟩ := ckf hf
  refine V_sld g hX hb0 h335 dL_law_1367 ?_
  refine V_aload_n g 0 dL_law_1368 rfl ?_
  refine V_iload g 4 dL_law_1369 rfl ?_
  refine V_iconst (v := 2) g dL_law_1371 (by decide) ?_
  refine V_iadd g dL_law_1372 ?_
  obtain ⟨h336, hf⟩ := ckf hf
  refine V_sld g hX hb0 h336 dL_law_1373 ?_
  refine V_aload_n g 0 dL_law_1374 rfl ?_
  refine V_iload g 4 dL_law_1375 rfl ?_
  refine V_iconst (v := 3) g dL_law_1377 (by decide) ?_
  refine V_iadd g dL_law_1378 ?_
  obtain ⟨h337, hf⟩ := ckf hf
  refine V_sld g hX hb0 h337 dL_law_1379 ?_
  refine V_aload_n g 0 dL_law_1380 rfl ?_
  refine V_iload g 4 dL_law_1381 rfl ?_
  refine V_iconst (v := 4) g dL_law_1383 (by decide) ?_
  refine V_iadd g dL_law_1384 ?_
  obtain ⟨h338, hf⟩ := ckf hf
  refine V_sld g hX hb0 h338 dL_law_1385 ?_
  refine V_aload_n g 3 dL_law_1386 rfl ?_
  obtain ⟨s339, x340, hc, hf⟩ := bI_some hf
  refine cW1 g [vR 8 l1, vI (xs (ix (l4 + 1))), vI (xs (ix (l4 + 2))), vI (xs (ix (l4 + 3))), vI (xs (ix (l4 + 4))), vR 11 l3] [] s339 (vI x340) cf_L_bar (t_L_bar g.2.2.2.2.2.2.1 hc) (by decide) q_1115 (Nat.le_of_ble_eq_true rfl) dL_law_1387 ?_ rfl
  refine V_istore g [(5, vI x340), (0, vR 19 1), (1, vR 8 l1), (2, vR 9 l2), (3, vR 11 l3), (4, vI l4)] dL_law_1390 rfl (by decide) rfl ?_
  refine V_aload_n g 3 dL_law_1392 rfl ?_
  refine V_aload_n g 1 dL_law_1393 rfl ?_
  refine V_iload g 5 dL_law_1394 rfl ?_
  refine V_iconst (v := 1) g dL_law_1396 (by decide) ?_
  refine V_iadd g dL_law_1397 ?_
  obtain ⟨h341, hf⟩ := ckf hf
  refine V_sld g hX hb0 h341 dL_law_1398 ?_
  refine V_aload_n g 1 dL_law_1399 rfl ?_
  refine V_iload g 5 dL_law_1400 rfl ?_
  refine V_iconst (v := 2) g dL_law_1402 (by decide) ?_
  refine V_iadd g dL_law_1403 ?_
  obtain ⟨h342, hf⟩ := ckf hf
  refine V_sld g hX hb0 h342 dL_law_1404 ?_
  refine V_aload_n g 1 dL_law_1405 rfl ?_
  refine V_iload g 5 dL_law_1406 rfl ?_
  refine V_iconst (v := 3) g dL_law_1408 (by decide) ?_
  refine V_iadd g dL_law_1409 ?_
  obtain ⟨h343, hf⟩ := ckf hf
  refine V_sld g hX hb0 h343 dL_law_1410 ?_
  refine V_aload_n g 1 dL_law_1411 rfl ?_
  refine V_iload g 5 dL_law_1412 rfl ?_
  refine V_iconst (v := 4) g dL_law_1414 (by decide) ?_
  refine V_iadd g dL_law_1415 ?_
  obtain ⟨h344, hf⟩ := ckf hf
  refine V_sld g hX hb0 h344 dL_law_1416 ?_
  obtain ⟨z345, hf⟩ := nz_some hf
  obtain ⟨s346, x347, hc, hf⟩ := bI_some hf
  refine cV1 g [vI (xs (ix (l4 + 1))), vI (xs (ix (l4 + 2))), vI (xs (ix (l4 + 3))), vI (xs (ix (l4 + 4)))] [] s346 (vJ x347) cf_X9_bar (t_X9_bar g.2.2.2.2.2.2.1 hc) (RC_own g rfl z345) z345 (by decide) q_1796 (Nat.le_of_ble_eq_true rfl) dL_law_1417 ?_ rfl
  refine V_lstore g [(6, vJ x347), (5, vI x340), (0, vR 19 1), (1, vR 8 l1), (2, vR 9 l2), (3, vR 11 l3), (4, vI l4)] dL_law_1420 rfl (by decide) rfl ?_
  refine V_aload_n g 4 dL_law_1422 rfl ?_
  obtain ⟨s348, x349, hc, hf⟩ := bI_some hf
  refine cV1 g [] [] s348 (vI x349) cf_X9_thrown (t_X9_thrown g.2.2.2.2.2.2.1 hc) (RC_own g rfl z345) z345 (by decide) q_1442 (Nat.le_of_ble_eq_true rfl) dL_law_1423 ?_ rfl
  refine V_iload g 1 dL_law_1426 rfl ?_
  refine V_icmp_eq g 1433 dL_law_1428 (by decide) (fun c350 => ?_) (fun c350 => ?_)
  · have hf := it_t hf c350
    refine V_iload g 1 dL_law_1433 rfl ?_
    refine V_if_ne g 1449 dL_law_1435 (by decide) (fun c351 => ?_) (fun c351 => ?_)
    · have hf := it_f hf c351
      refine V_sub [(0, vR 19 1), (1, vR 8 l1), (2, vR 9 l2), (3, vR 11 l3), (4, vI l4)] [2, 3, 4, 5, 6] rfl ?_
      exact t_L_law_b1449 g hX hb0 hlr hk23 hf
    · have hf := it_t hf c351
      refine V_aload_n g 5 dL_law_1438 rfl ?_
      refine V_iconst (v := 0) g dL_law_1439 (by decide) ?_
      obtain ⟨z352, hf⟩ := nz_some hf
      obtain ⟨h353, hf⟩ := ckf hf
      refine V_lald g z352 h353 dL_law_1440 ?_
      refine V_lload g 0 dL_law_1441 rfl ?_
      refine V_lcmp g dL_law_1443 ?_
      refine V_if_eq g 1449 dL_law_1444 (by decide) (fun c354 => ?_) (fun c354 => ?_)
      · have hf := it_t hf c354
        refine V_sub [(0, vR 19 1), (1, vR 8 l1), (2, vR 9 l2), (3, vR 11 l3), (4, vI l4)] [2, 3, 4, 5, 6] rfl ?_
        exact t_L_law_b1449 g hX hb0 hlr hk23 hf
      · have hf := it_f hf c354
        refine V_iconst (v := 0) g dL_law_1447 (by decide) ?_
        exact law_ret g hlr hf dL_law_1448
  · have hf := it_f hf c350
    refine V_iconst (v := 0) g dL_law_1431 (by decide) ?_
    exact law_ret g hlr hf dL_law_1432
set_option maxRecDepth 20000 in
theorem t_L_law_b1517 {E : ET} {fu : Nat} {s' : St} {Q : State → Prop} {xs : Nat → Int32} {L : Nat} (g : GX E "ThinSeriesLaw" cL_law 8 51) (hX : va_X (E.G.2.2.2 19 1) L xs E.s E.s.heap) (hb0 : E.G.2.2.2 19 1 < E.G.1) (hlr : law_end E Q s') {k23 : St → Nat → Nat → Nat → Int32 → Option (St × Int32)} (hk23 : ∀ (s : St) (l1 : Nat) (l2 : Nat) (l3 : Nat) (l4 : Int32), k23 s l1 l2 l3 l4 = some (s', 1) → V E 8 Q s 23 [(0, vR 19 1), (1, vR 8 l1), (2, vR 9 l2), (3, vR 11 l3), (4, vI l4)] []) {s : St} {l1 : Nat} {l2 : Nat} {l3 : Nat} {l4 : Int32} (hf : f_L_law_b1517 fu xs L k23 s l1 l2 l3 l4 = some (s', 1)) : V E 8 Q s 1517 [(0, vR 19 1), (1, vR 8 l1), (2, vR 9 l2), (3, vR 11 l3), (4, vI l4)] [] := by
  unfold f_L_law_b1517 at hf
  refine V_goto g 1839 dL_law_1517 (by decide) ?_
  exact t_L_law_b1839 g hX hb0 hlr hk23 hf
set_option maxRecDepth 20000 in
theorem t_L_law_b1452 {E : ET} {fu : Nat} {s' : St} {Q : State → Prop} {xs : Nat → Int32} {L : Nat} (g : GX E "ThinSeriesLaw" cL_law 8 51) (hX : va_X (E.G.2.2.2 19 1) L xs E.s E.s.heap) (hb0 : E.G.2.2.2 19 1 < E.G.1) (hlr : law_end E Q s') {k23 : St → Nat → Nat → Nat → Int32 → Option (St × Int32)} (hk23 : ∀ (s : St) (l1 : Nat) (l2 : Nat) (l3 : Nat) (l4 : Int32), k23 s l1 l2 l3 l4 = some (s', 1) → V E 8 Q s 23 [(0, vR 19 1), (1, vR 8 l1), (2, vR 9 l2), (3, vR 11 l3), (4, vI l4)] []) {s : St} {l1 : Nat} {l2 : Nat} {l3 : Nat} {l4 : Int32} (hf : f_L_law_b1452 fu xs L k23 s l1 l2 l3 l4 = some (s', 1)) : V E 8 Q s 1452 [(0, vR 19 1), (1, vR 8 l1), (2, vR 9 l2), (3, vR 11 l3), (4, vI l4)] [] := by
  unfold f_L_law_b1452 at hf
  refine V_aload_n g 1 dL_law_1452 rfl ?_
  refine V_aload_n g 0 dL_law_1453 rfl ?_
  refine V_iload g 4 dL_law_1454 rfl ?_
  refine V_iconst (v := 1) g dL_law_1456 (by decide) ?_
  refine V_iadd g dL_law_1457 ?_
  obtain ⟨h355, hf⟩ := ckf hf
  refine V_sld g hX hb0 h355 dL_law_1458 ?_
  refine V_aload_n g 0 dL_law_1459 rfl ?_
  refine V_iload g 4 dL_law_1460 rfl ?_
  refine V_iconst (v := 2) g dL_law_1462 (by decide) ?_
  refine V_iadd g dL_law_1463 ?_
  obtain ⟨h356, hf⟩ := ckf hf
  refine V_sld g hX hb0 h356 dL_law_1464 ?_
  refine V_aload_n g 3 dL_law_1465 rfl ?_
  obtain ⟨s357, x358, hc, hf⟩ := bI_some hf
  refine cW1 g [vR 8 l1, vI (xs (ix (l4 + 1))), vI (xs (ix (l4 + 2))), vR 11 l3] [] s357 (vI x358) cf_L_alarms (t_L_alarms g.2.2.2.2.2.2.1 hc) (by decide) q_1129 (Nat.le_of_ble_eq_true rfl) dL_law_1466 ?_ rfl
  refine V_istore g [(5, vI x358), (0, vR 19 1), (1, vR 8 l1), (2, vR 9 l2), (3, vR 11 l3), (4, vI l4)] dL_law_1469 rfl (by decide) rfl ?_
  refine V_aload_n g 3 dL_law_1471 rfl ?_
  refine V_aload_n g 1 dL_law_1472 rfl ?_
  refine V_iload g 5 dL_law_1473 rfl ?_
  refine V_iconst (v := 1) g dL_law_1475 (by decide) ?_
  refine V_iadd g dL_law_1476 ?_
  obtain ⟨h359, hf⟩ := ckf hf
  refine V_sld g hX hb0 h359 dL_law_1477 ?_
  refine V_aload_n g 1 dL_law_1478 rfl ?_
  refine V_iload g 5 dL_law_1479 rfl ?_
  refine V_iconst (v := 2) g dL_law_1481 (by decide) ?_
  refine V_iadd g dL_law_1482 ?_
  obtain ⟨h360, hf⟩ := ckf hf
  refine V_sld g hX hb0 h360 dL_law_1483 ?_
  obtain ⟨z361, hf⟩ := nz_some hf
  obtain ⟨s362, x363, hc, hf⟩ := bI_some hf
  refine cV1 g [vI (xs (ix (l4 + 1))), vI (xs (ix (l4 + 2)))] [] s362 (vI x363) cf_X9_alarms (t_X9_alarms g.2.2.2.2.2.2.1 hc) (RC_own g rfl z361) z361 (by decide) q_1801 (Nat.le_of_ble_eq_true rfl) dL_law_1484 ?_ rfl
  refine V_istore g [(6, vI x363), (5, vI x358), (0, vR 19 1), (1, vR 8 l1), (2, vR 9 l2), (3, vR 11 l3), (4, vI l4)] dL_law_1487 rfl (by decide) rfl ?_
  refine V_aload_n g 4 dL_law_1489 rfl ?_
  obtain ⟨s364, x365, hc, hf⟩ := bI_some hf
  refine cV1 g [] [] s364 (vI x365) cf_X9_thrown (t_X9_thrown g.2.2.2.2.2.2.1 hc) (RC_own g rfl z361) z361 (by decide) q_1442 (Nat.le_of_ble_eq_true rfl) dL_law_1490 ?_ rfl
  refine V_iload g 1 dL_law_1493 rfl ?_
  refine V_icmp_eq g 1500 dL_law_1495 (by decide) (fun c366 => ?_) (fun c366 => ?_)
  · have hf := it_t hf c366
    refine V_iload g 1 dL_law_1500 rfl ?_
    refine V_if_ne g 1517 dL_law_1502 (by decide) (fun c367 => ?_) (fun c367 => ?_)
    · have hf := it_f hf c367
      refine V_sub [(0, vR 19 1), (1, vR 8 l1), (2, vR 9 l2), (3, vR 11 l3), (4, vI l4)] [2, 3, 4, 5, 6] rfl ?_
      exact t_L_law_b1517 g hX hb0 hlr hk23 hf
    · have hf := it_t hf c367
      refine V_aload_n g 5 dL_law_1505 rfl ?_
      refine V_iconst (v := 0) g dL_law_1506 (by decide) ?_
      obtain ⟨z368, hf⟩ := nz_some hf
      obtain ⟨h369, hf⟩ := ckf hf
      refine V_lald g z368 h369 dL_law_1507 ?_
      refine V_iload g 0 dL_law_1508 rfl ?_
      refine V_i2l g dL_law_1510 ?_
      refine V_lcmp g dL_law_1511 ?_
      refine V_if_eq g 1517 dL_law_1512 (by decide) (fun c370 => ?_) (fun c370 => ?_)
      · have hf := it_t hf c370
        refine V_sub [(0, vR 19 1), (1, vR 8 l1), (2, vR 9 l2), (3, vR 11 l3), (4, vI l4)] [2, 3, 4, 5, 6] rfl ?_
        exact t_L_law_b1517 g hX hb0 hlr hk23 hf
      · have hf := it_f hf c370
        refine V_iconst (v := 0) g dL_law_1515 (by decide) ?_
        exact law_ret g hlr hf dL_law_1516
  · have hf := it_f hf c366
    refine V_iconst (v := 0) g dL_law_1498 (by decide) ?_
    exact law_ret g hlr hf dL_law_1499
set_option maxRecDepth 20000 in
theorem t_L_law_b1597 {E : ET} {fu : Nat} {s' : St} {Q : State → Prop} {xs : Nat → Int32} {L : Nat} (g : GX E "ThinSeriesLaw" cL_law 8 51) (hX : va_X (E.G.2.2.2 19 1) L xs E.s E.s.heap) (hb0 : E.G.2.2.2 19 1 < E.G.1) (hlr : law_end E Q s') {k23 : St → Nat → Nat → Nat → Int32 → Option (St × Int32)} (hk23 : ∀ (s : St) (l1 : Nat) (l2 : Nat) (l3 : Nat) (l4 : Int32), k23 s l1 l2 l3 l4 = some (s', 1) → V E 8 Q s 23 [(0, vR 19 1), (1, vR 8 l1), (2, vR 9 l2), (3, vR 11 l3), (4, vI l4)] []) {s : St} {l1 : Nat} {l2 : Nat} {l3 : Nat} {l4 : Int32} (hf : f_L_law_b1597 fu xs L k23 s l1 l2 l3 l4 = some (s', 1)) : V E 8 Q s 1597 [(0, vR 19 1), (1, vR 8 l1), (2, vR 9 l2), (3, vR 11 l3), (4, vI l4)] [] := by
  unfold f_L_law_b1597 at hf
  refine V_goto g 1839 dL_law_1597 (by decide) ?_
  exact t_L_law_b1839 g hX hb0 hlr hk23 hf
set_option maxRecDepth 20000 in
theorem t_L_law_b1520 {E : ET} {fu : Nat} {s' : St} {Q : State → Prop} {xs : Nat → Int32} {L : Nat} (g : GX E "ThinSeriesLaw" cL_law 8 51) (hX : va_X (E.G.2.2.2 19 1) L xs E.s E.s.heap) (hb0 : E.G.2.2.2 19 1 < E.G.1) (hlr : law_end E Q s') {k23 : St → Nat → Nat → Nat → Int32 → Option (St × Int32)} (hk23 : ∀ (s : St) (l1 : Nat) (l2 : Nat) (l3 : Nat) (l4 : Int32), k23 s l1 l2 l3 l4 = some (s', 1) → V E 8 Q s 23 [(0, vR 19 1), (1, vR 8 l1), (2, vR 9 l2), (3, vR 11 l3), (4, vI l4)] []) {s : St} {l1 : Nat} {l2 : Nat} {l3 : Nat} {l4 : Int32} (hf : f_L_law_b1520 fu xs L k23 s l1 l2 l3 l4 = some (s', 1)) : V E 8 Q s 1520 [(0, vR 19 1), (1, vR 8 l1), (2, vR 9 l2), (3, vR 11 l3), (4, vI l4)] [] := by
  unfold f_L_law_b1520 at hf
  refine V_aload_n g 1 dL_law_1520 rfl ?_
  refine V_aload_n g 0 dL_law_1521 rfl ?_
  refine V_iload g 4 dL_law_1522 rfl ?_
  refine V_iconst (v := 1) g dL_law_1524 (by decide) ?_
  refine V_iadd g dL_law_1525 ?_
  obtain ⟨h371, hf⟩ := ckf hf
  refine V_sld g hX hb0 h371 dL_law_1526 ?_
  refine V_aload_n g 0 dL_law_1527 rfl ?_
  refine V_iload g 4 dL_law_1528 rfl ?_
  refine V_iconst (v := 2) g dL_law_1530 (by decide) ?_
  refine V_iadd g dL_law_1531 ?_
  obtain ⟨h372, hf⟩ := ckf hf
  refine V_sld g hX hb0 h372 dL_law_1532 ?_
  refine V_aload_n g 0 dL_law_1533 rfl ?_
  refine V_iload g 4 dL_law_1534 rfl ?_
  refine V_iconst (v := 3) g dL_law_1536 (by decide) ?_
  refine V_iadd g dL_law_1537 ?_
  obtain ⟨h373, hf⟩ := ckf hf
  refine V_sld g hX hb0 h373 dL_law_1538 ?_
  refine V_aload_n g 3 dL_law_1539 rfl ?_
  obtain ⟨s374, x375, hc, hf⟩ := bI_some hf
  refine cW1 g [vR 8 l1, vI (xs (ix (l4 + 1))), vI (xs (ix (l4 + 2))), vI (xs (ix (l4 + 3))), vR 11 l3] [] s374 (vI x375) cf_L_would (t_L_would g.2.2.2.2.2.2.1 hc) (by decide) q_1156 (Nat.le_of_ble_eq_true rfl) dL_law_1540 ?_ rfl
  refine V_istore g [(5, vI x375), (0, vR 19 1), (1, vR 8 l1), (2, vR 9 l2), (3, vR 11 l3), (4, vI l4)] dL_law_1543 rfl (by decide) rfl ?_
  refine V_aload_n g 3 dL_law_1545 rfl ?_
  refine V_aload_n g 1 dL_law_1546 rfl ?_
  refine V_iload g 5 dL_law_1547 rfl ?_
  refine V_iconst (v := 1) g dL_law_1549 (by decide) ?_
  refine V_iadd g dL_law_1550 ?_
  obtain ⟨h376, hf⟩ := ckf hf
  refine V_sld g hX hb0 h376 dL_law_1551 ?_
  refine V_aload_n g 1 dL_law_1552 rfl ?_
  refine V_iload g 5 dL_law_1553 rfl ?_
  refine V_iconst (v := 2) g dL_law_1555 (by decide) ?_
  refine V_iadd g dL_law_1556 ?_
  obtain ⟨h377, hf⟩ := ckf hf
  refine V_sld g hX hb0 h377 dL_law_1557 ?_
  refine V_aload_n g 1 dL_law_1558 rfl ?_
  refine V_iload g 5 dL_law_1559 rfl ?_
  refine V_iconst (v := 3) g dL_law_1561 (by decide) ?_
  refine V_iadd g dL_law_1562 ?_
  obtain ⟨h378, hf⟩ := ckf hf
  refine V_sld g hX hb0 h378 dL_law_1563 ?_
  obtain ⟨z379, hf⟩ := nz_some hf
  obtain ⟨s380, x381, hc, hf⟩ := bI_some hf
  refine cV1 g [vI (xs (ix (l4 + 1))), vI (xs (ix (l4 + 2))), vI (xs (ix (l4 + 3)))] [] s380 (vI x381) cf_X9_would (t_X9_would g.2.2.2.2.2.2.1 hc) (RC_own g rfl z379) z379 (by decide) q_1817 (Nat.le_of_ble_eq_true rfl) dL_law_1564 ?_ rfl
  refine V_istore g [(6, vI x381), (5, vI x375), (0, vR 19 1), (1, vR 8 l1), (2, vR 9 l2), (3, vR 11 l3), (4, vI l4)] dL_law_1567 rfl (by decide) rfl ?_
  refine V_aload_n g 4 dL_law_1569 rfl ?_
  obtain ⟨s382, x383, hc, hf⟩ := bI_some hf
  refine cV1 g [] [] s382 (vI x383) cf_X9_thrown (t_X9_thrown g.2.2.2.2.2.2.1 hc) (RC_own g rfl z379) z379 (by decide) q_1442 (Nat.le_of_ble_eq_true rfl) dL_law_1570 ?_ rfl
  refine V_iload g 1 dL_law_1573 rfl ?_
  refine V_icmp_eq g 1580 dL_law_1575 (by decide) (fun c384 => ?_) (fun c384 => ?_)
  · have hf := it_t hf c384
    refine V_iload g 1 dL_law_1580 rfl ?_
    refine V_if_ne g 1597 dL_law_1582 (by decide) (fun c385 => ?_) (fun c385 => ?_)
    · have hf := it_f hf c385
      refine V_sub [(0, vR 19 1), (1, vR 8 l1), (2, vR 9 l2), (3, vR 11 l3), (4, vI l4)] [2, 3, 4, 5, 6] rfl ?_
      exact t_L_law_b1597 g hX hb0 hlr hk23 hf
    · have hf := it_t hf c385
      refine V_aload_n g 5 dL_law_1585 rfl ?_
      refine V_iconst (v := 0) g dL_law_1586 (by decide) ?_
      obtain ⟨z386, hf⟩ := nz_some hf
      obtain ⟨h387, hf⟩ := ckf hf
      refine V_lald g z386 h387 dL_law_1587 ?_
      refine V_iload g 0 dL_law_1588 rfl ?_
      refine V_i2l g dL_law_1590 ?_
      refine V_lcmp g dL_law_1591 ?_
      refine V_if_eq g 1597 dL_law_1592 (by decide) (fun c388 => ?_) (fun c388 => ?_)
      · have hf := it_t hf c388
        refine V_sub [(0, vR 19 1), (1, vR 8 l1), (2, vR 9 l2), (3, vR 11 l3), (4, vI l4)] [2, 3, 4, 5, 6] rfl ?_
        exact t_L_law_b1597 g hX hb0 hlr hk23 hf
      · have hf := it_f hf c388
        refine V_iconst (v := 0) g dL_law_1595 (by decide) ?_
        exact law_ret g hlr hf dL_law_1596
  · have hf := it_f hf c384
    refine V_iconst (v := 0) g dL_law_1578 (by decide) ?_
    exact law_ret g hlr hf dL_law_1579
set_option maxRecDepth 20000 in
theorem t_L_law_b1677 {E : ET} {fu : Nat} {s' : St} {Q : State → Prop} {xs : Nat → Int32} {L : Nat} (g : GX E "ThinSeriesLaw" cL_law 8 51) (hX : va_X (E.G.2.2.2 19 1) L xs E.s E.s.heap) (hb0 : E.G.2.2.2 19 1 < E.G.1) (hlr : law_end E Q s') {k23 : St → Nat → Nat → Nat → Int32 → Option (St × Int32)} (hk23 : ∀ (s : St) (l1 : Nat) (l2 : Nat) (l3 : Nat) (l4 : Int32), k23 s l1 l2 l3 l4 = some (s', 1) → V E 8 Q s 23 [(0, vR 19 1), (1, vR 8 l1), (2, vR 9 l2), (3, vR 11 l3), (4, vI l4)] []) {s : St} {l1 : Nat} {l2 : Nat} {l3 : Nat} {l4 : Int32} (hf : f_L_law_b1677 fu xs L k23 s l1 l2 l3 l4 = some (s', 1)) : V E 8 Q s 1677 [(0, vR 19 1), (1, vR 8 l1), (2, vR 9 l2), (3, vR 11 l3), (4, vI l4)] [] := by
  unfold f_L_law_b1677 at hf
  refine V_goto g 1839 dL_law_1677 (by decide) ?_
  exact t_L_law_b1839 g hX hb0 hlr hk23 hf
set_option maxRecDepth 20000 in
theorem t_L_law_b1600 {E : ET} {fu : Nat} {s' : St} {Q : State → Prop} {xs : Nat → Int32} {L : Nat} (g : GX E "ThinSeriesLaw" cL_law 8 51) (hX : va_X (E.G.2.2.2 19 1) L xs E.s E.s.heap) (hb0 : E.G.2.2.2 19 1 < E.G.1) (hlr : law_end E Q s') {k23 : St → Nat → Nat → Nat → Int32 → Option (St × Int32)} (hk23 : ∀ (s : St) (l1 : Nat) (l2 : Nat) (l3 : Nat) (l4 : Int32), k23 s l1 l2 l3 l4 = some (s', 1) → V E 8 Q s 23 [(0, vR 19 1), (1, vR 8 l1), (2, vR 9 l2), (3, vR 11 l3), (4, vI l4)] []) {s : St} {l1 : Nat} {l2 : Nat} {l3 : Nat} {l4 : Int32} (hf : f_L_law_b1600 fu xs L k23 s l1 l2 l3 l4 = some (s', 1)) : V E 8 Q s 1600 [(0, vR 19 1), (1, vR 8 l1), (2, vR 9 l2), (3, vR 11 l3), (4, vI l4)] [] := by
  unfold f_L_law_b1600 at hf
  refine V_aload_n g 1 dL_law_1600 rfl ?_
  refine V_aload_n g 0 dL_law_1601 rfl ?_
  refine V_iload g 4 dL_law_1602 rfl ?_
  refine V_iconst (v := 1) g dL_law_1604 (by decide) ?_
  refine V_iadd g dL_law_1605 ?_
  obtain ⟨h389, hf⟩ := ckf hf
  refine V_sld g hX hb0 h389 dL_law_1606 ?_
  refine V_aload_n g 0 dL_law_1607 rfl ?_
  refine V_iload g 4 dL_law_1608 rfl ?_
  refine V_iconst (v := 2) g dL_law_1610 (by decide) ?_
  refine V_iadd g dL_law_1611 ?_
  obtain ⟨h390, hf⟩ := ckf hf
  refine V_sld g hX hb0 h390 dL_law_1612 ?_
  refine V_aload_n g 0 dL_law_1613 rfl ?_
  refine V_iload g 4 dL_law_1614 rfl ?_
  refine V_iconst (v := 3) g dL_law_1616 (by decide) ?_
  refine V_iadd g dL_law_1617 ?_
  obtain ⟨h391, hf⟩ := ckf hf
  refine V_sld g hX hb0 h391 dL_law_1618 ?_
  refine V_aload_n g 3 dL_law_1619 rfl ?_
  obtain ⟨s392, x393, hc, hf⟩ := bI_some hf
  refine cW1 g [vR 8 l1, vI (xs (ix (l4 + 1))), vI (xs (ix (l4 + 2))), vI (xs (ix (l4 + 3))), vR 11 l3] [] s392 (vI x393) cf_L_until (t_L_until g.2.2.2.2.2.2.1 hc) (by decide) q_1167 (Nat.le_of_ble_eq_true rfl) dL_law_1620 ?_ rfl
  refine V_istore g [(5, vI x393), (0, vR 19 1), (1, vR 8 l1), (2, vR 9 l2), (3, vR 11 l3), (4, vI l4)] dL_law_1623 rfl (by decide) rfl ?_
  refine V_aload_n g 3 dL_law_1625 rfl ?_
  refine V_aload_n g 1 dL_law_1626 rfl ?_
  refine V_iload g 5 dL_law_1627 rfl ?_
  refine V_iconst (v := 1) g dL_law_1629 (by decide) ?_
  refine V_iadd g dL_law_1630 ?_
  obtain ⟨h394, hf⟩ := ckf hf
  refine V_sld g hX hb0 h394 dL_law_1631 ?_
  refine V_aload_n g 1 dL_law_1632 rfl ?_
  refine V_iload g 5 dL_law_1633 rfl ?_
  refine V_iconst (v := 2) g dL_law_1635 (by decide) ?_
  refine V_iadd g dL_law_1636 ?_
  obtain ⟨h395, hf⟩ := ckf hf
  refine V_sld g hX hb0 h395 dL_law_1637 ?_
  refine V_aload_n g 1 dL_law_1638 rfl ?_
  refine V_iload g 5 dL_law_1639 rfl ?_
  refine V_iconst (v := 3) g dL_law_1641 (by decide) ?_
  refine V_iadd g dL_law_1642 ?_
  obtain ⟨h396, hf⟩ := ckf hf
  refine V_sld g hX hb0 h396 dL_law_1643 ?_
  obtain ⟨z397, hf⟩ := nz_some hf
  obtain ⟨s398, x399, hc, hf⟩ := bI_some hf
  refine cV1 g [vI (xs (ix (l4 + 1))), vI (xs (ix (l4 + 2))), vI (xs (ix (l4 + 3)))] [] s398 (vI x399) cf_X9_until (t_X9_until g.2.2.2.2.2.2.1 hc) (RC_own g rfl z397) z397 (by decide) q_1829 (Nat.le_of_ble_eq_true rfl) dL_law_1644 ?_ rfl
  refine V_istore g [(6, vI x399), (5, vI x393), (0, vR 19 1), (1, vR 8 l1), (2, vR 9 l2), (3, vR 11 l3), (4, vI l4)] dL_law_1647 rfl (by decide) rfl ?_
  refine V_aload_n g 4 dL_law_1649 rfl ?_
  obtain ⟨s400, x401, hc, hf⟩ := bI_some hf
  refine cV1 g [] [] s400 (vI x401) cf_X9_thrown (t_X9_thrown g.2.2.2.2.2.2.1 hc) (RC_own g rfl z397) z397 (by decide) q_1442 (Nat.le_of_ble_eq_true rfl) dL_law_1650 ?_ rfl
  refine V_iload g 1 dL_law_1653 rfl ?_
  refine V_icmp_eq g 1660 dL_law_1655 (by decide) (fun c402 => ?_) (fun c402 => ?_)
  · have hf := it_t hf c402
    refine V_iload g 1 dL_law_1660 rfl ?_
    refine V_if_ne g 1677 dL_law_1662 (by decide) (fun c403 => ?_) (fun c403 => ?_)
    · have hf := it_f hf c403
      refine V_sub [(0, vR 19 1), (1, vR 8 l1), (2, vR 9 l2), (3, vR 11 l3), (4, vI l4)] [2, 3, 4, 5, 6] rfl ?_
      exact t_L_law_b1677 g hX hb0 hlr hk23 hf
    · have hf := it_t hf c403
      refine V_aload_n g 5 dL_law_1665 rfl ?_
      refine V_iconst (v := 0) g dL_law_1666 (by decide) ?_
      obtain ⟨z404, hf⟩ := nz_some hf
      obtain ⟨h405, hf⟩ := ckf hf
      refine V_lald g z404 h405 dL_law_1667 ?_
      refine V_iload g 0 dL_law_1668 rfl ?_
      refine V_i2l g dL_law_1670 ?_
      refine V_lcmp g dL_law_1671 ?_
      refine V_if_eq g 1677 dL_law_1672 (by decide) (fun c406 => ?_) (fun c406 => ?_)
      · have hf := it_t hf c406
        refine V_sub [(0, vR 19 1), (1, vR 8 l1), (2, vR 9 l2), (3, vR 11 l3), (4, vI l4)] [2, 3, 4, 5, 6] rfl ?_
        exact t_L_law_b1677 g hX hb0 hlr hk23 hf
      · have hf := it_f hf c406
        refine V_iconst (v := 0) g dL_law_1675 (by decide) ?_
        exact law_ret g hlr hf dL_law_1676
  · have hf := it_f hf c402
    refine V_iconst (v := 0) g dL_law_1658 (by decide) ?_
    exact law_ret g hlr hf dL_law_1659
set_option maxRecDepth 20000 in
theorem t_L_law_b1756 {E : ET} {fu : Nat} {s' : St} {Q : State → Prop} {xs : Nat → Int32} {L : Nat} (g : GX E "ThinSeriesLaw" cL_law 8 51) (hX : va_X (E.G.2.2.2 19 1) L xs E.s E.s.heap) (hb0 : E.G.2.2.2 19 1 < E.G.1) (hlr : law_end E Q s') {k23 : St → Nat → Nat → Nat → Int32 → Option (St × Int32)} (hk23 : ∀ (s : St) (l1 : Nat) (l2 : Nat) (l3 : Nat) (l4 : Int32), k23 s l1 l2 l3 l4 = some (s', 1) → V E 8 Q s 23 [(0, vR 19 1), (1, vR 8 l1), (2, vR 9 l2), (3, vR 11 l3), (4, vI l4)] []) {s : St} {l1 : Nat} {l2 : Nat} {l3 : Nat} {l4 : Int32} (hf : f_L_law_b1756 fu xs L k23 s l1 l2 l3 l4 = some (s', 1)) : V E 8 Q s 1756 [(0, vR 19 1), (1, vR 8 l1), (2, vR 9 l2), (3, vR 11 l3), (4, vI l4)] [] := by
  unfold f_L_law_b1756 at hf
  refine V_goto g 1839 dL_law_1756 (by decide) ?_
  exact t_L_law_b1839 g hX hb0 hlr hk23 hf
set_option maxRecDepth 20000 in
theorem t_L_law_b1680 {E : ET} {fu : Nat} {s' : St} {Q : State → Prop} {xs : Nat → Int32} {L : Nat} (g : GX E "ThinSeriesLaw" cL_law 8 51) (hX : va_X (E.G.2.2.2 19 1) L xs E.s E.s.heap) (hb0 : E.G.2.2.2 19 1 < E.G.1) (hlr : law_end E Q s') {k23 : St → Nat → Nat → Nat → Int32 → Option (St × Int32)} (hk23 : ∀ (s : St) (l1 : Nat) (l2 : Nat) (l3 : Nat) (l4 : Int32), k23 s l1 l2 l3 l4 = some (s', 1) → V E 8 Q s 23 [(0, vR 19 1), (1, vR 8 l1), (2, vR 9 l2), (3, vR 11 l3), (4, vI l4)] []) {s : St} {l1 : Nat} {l2 : Nat} {l3 : Nat} {l4 : Int32} (hf : f_L_law_b1680 fu xs L k23 s l1 l2 l3 l4 = some (s', 1)) : V E 8 Q s 1680 [(0, vR 19 1), (1, vR 8 l1), (2, vR 9 l2), (3, vR 11 l3), (4, vI l4)] [] := by
  unfold f_L_law_b1680 at hf
  refine V_aload_n g 1 dL_law_1680 rfl ?_
  refine V_aload_n g 0 dL_law_1681 rfl ?_
  refine V_iload g 4 dL_law_1682 rfl ?_
  refine V_iconst (v := 1) g dL_law_1684 (by decide) ?_
  refine V_iadd g dL_law_1685 ?_
  obtain ⟨h407, hf⟩ := ckf hf
  refine V_sld g hX hb0 h407 dL_law_1686 ?_
  refine V_aload_n g 0 dL_law_1687 rfl ?_
  refine V_iload g 4 dL_law_1688 rfl ?_
  refine V_iconst (v := 2) g dL_law_1690 (by decide) ?_
  refine V_iadd g dL_law_1691 ?_
  obtain ⟨h408, hf⟩ := ckf hf
  refine V_sld g hX hb0 h408 dL_law_1692 ?_
  refine V_aload_n g 0 dL_law_1693 rfl ?_
  refine V_iload g 4 dL_law_1694 rfl ?_
  refine V_iconst (v := 3) g dL_law_1696 (by decide) ?_
  refine V_iadd g dL_law_1697 ?_
  obtain ⟨h409, hf⟩ := ckf hf
  refine V_sld g hX hb0 h409 dL_law_1698 ?_
  refine V_aload_n g 3 dL_law_1699 rfl ?_
  obtain ⟨s410, x411, hc, hf⟩ := bI_some hf
  refine cW1 g [vR 8 l1, vI (xs (ix (l4 + 1))), vI (xs (ix (l4 + 2))), vI (xs (ix (l4 + 3))), vR 11 l3] [] s410 (vI x411) cf_L_trend (t_L_trend g.2.2.2.2.2.2.1 hc) (by decide) q_1182 (Nat.le_of_ble_eq_true rfl) dL_law_1700 ?_ rfl
  refine V_istore g [(5, vI x411), (0, vR 19 1), (1, vR 8 l1), (2, vR 9 l2), (3, vR 11 l3), (4, vI l4)] dL_law_1703 rfl (by decide) rfl ?_
  refine V_aload_n g 3 dL_law_1705 rfl ?_
  refine V_aload_n g 1 dL_law_1706 rfl ?_
  refine V_iload g 5 dL_law_1707 rfl ?_
  refine V_iconst (v := 1) g dL_law_1709 (by decide) ?_
  refine V_iadd g dL_law_1710 ?_
  obtain ⟨h412, hf⟩ := ckf hf
  refine V_sld g hX hb0 h412 dL_law_1711 ?_
  refine V_aload_n g 1 dL_law_1712 rfl ?_
  refine V_iload g 5 dL_law_1713 rfl ?_
  refine V_iconst (v := 2) g dL_law_1715 (by decide) ?_
  refine V_iadd g dL_law_1716 ?_
  obtain ⟨h413, hf⟩ := ckf hf
  refine V_sld g hX hb0 h413 dL_law_1717 ?_
  refine V_aload_n g 1 dL_law_1718 rfl ?_
  refine V_iload g 5 dL_law_1719 rfl ?_
  refine V_iconst (v := 3) g dL_law_1721 (by decide) ?_
  refine V_iadd g dL_law_1722 ?_
  obtain ⟨h414, hf⟩ := ckf hf
  refine V_sld g hX hb0 h414 dL_law_1723 ?_
  obtain ⟨z415, hf⟩ := nz_some hf
  obtain ⟨s416, x417, hc, hf⟩ := bI_some hf
  refine cV1 g [vI (xs (ix (l4 + 1))), vI (xs (ix (l4 + 2))), vI (xs (ix (l4 + 3)))] [] s416 (vJ x417) cf_X9_trend (t_X9_trend g.2.2.2.2.2.2.1 hc) (RC_own g rfl z415) z415 (by decide) q_1834 (Nat.le_of_ble_eq_true rfl) dL_law_1724 ?_ rfl
  refine V_lstore g [(6, vJ x417), (5, vI x411), (0, vR 19 1), (1, vR 8 l1), (2, vR 9 l2), (3, vR 11 l3), (4, vI l4)] dL_law_1727 rfl (by decide) rfl ?_
  refine V_aload_n g 4 dL_law_1729 rfl ?_
  obtain ⟨s418, x419, hc, hf⟩ := bI_some hf
  refine cV1 g [] [] s418 (vI x419) cf_X9_thrown (t_X9_thrown g.2.2.2.2.2.2.1 hc) (RC_own g rfl z415) z415 (by decide) q_1442 (Nat.le_of_ble_eq_true rfl) dL_law_1730 ?_ rfl
  refine V_iload g 1 dL_law_1733 rfl ?_
  refine V_icmp_eq g 1740 dL_law_1735 (by decide) (fun c420 => ?_) (fun c420 => ?_)
  · have hf := it_t hf c420
    refine V_iload g 1 dL_law_1740 rfl ?_
    refine V_if_ne g 1756 dL_law_1742 (by decide) (fun c421 => ?_) (fun c421 => ?_)
    · have hf := it_f hf c421
      refine V_sub [(0, vR 19 1), (1, vR 8 l1), (2, vR 9 l2), (3, vR 11 l3), (4, vI l4)] [2, 3, 4, 5, 6] rfl ?_
      exact t_L_law_b1756 g hX hb0 hlr hk23 hf
    · have hf := it_t hf c421
      refine V_aload_n g 5 dL_law_1745 rfl ?_
      refine V_iconst (v := 0) g dL_law_1746 (by decide) ?_
      obtain ⟨z422, hf⟩ := nz_some hf
      obtain ⟨h423, hf⟩ := ckf hf
      refine V_lald g z422 h423 dL_law_1747 ?_
      refine V_lload g 0 dL_law_1748 rfl ?_
      refine V_lcmp g dL_law_1750 ?_
      refine V_if_eq g 1756 dL_law_1751 (by decide) (fun c424 => ?_) (fun c424 => ?_)
      · have hf := it_t hf c424
        refine V_sub [(0, vR 19 1), (1, vR 8 l1), (2, vR 9 l2), (3, vR 11 l3), (4, vI l4)] [2, 3, 4, 5, 6] rfl ?_
        exact t_L_law_b1756 g hX hb0 hlr hk23 hf
      · have hf := it_f hf c424
        refine V_iconst (v := 0) g dL_law_1754 (by decide) ?_
        exact law_ret g hlr hf dL_law_1755
  · have hf := it_f hf c420
    refine V_iconst (v := 0) g dL_law_1738 (by decide) ?_
    exact law_ret g hlr hf dL_law_1739
set_option maxRecDepth 20000 in
theorem t_L_law_b1836 {E : ET} {fu : Nat} {s' : St} {Q : State → Prop} {xs : Nat → Int32} {L : Nat} (g : GX E "ThinSeriesLaw" cL_law 8 51) (hX : va_X (E.G.2.2.2 19 1) L xs E.s E.s.heap) (hb0 : E.G.2.2.2 19 1 < E.G.1) (hlr : law_end E Q s') {k23 : St → Nat → Nat → Nat → Int32 → Option (St × Int32)} (hk23 : ∀ (s : St) (l1 : Nat) (l2 : Nat) (l3 : Nat) (l4 : Int32), k23 s l1 l2 l3 l4 = some (s', 1) → V E 8 Q s 23 [(0, vR 19 1), (1, vR 8 l1), (2, vR 9 l2), (3, vR 11 l3), (4, vI l4)] []) {s : St} {l1 : Nat} {l2 : Nat} {l3 : Nat} {l4 : Int32} (hf : f_L_law_b1836 fu xs L k23 s l1 l2 l3 l4 = some (s', 1)) : V E 8 Q s 1836 [(0, vR 19 1), (1, vR 8 l1), (2, vR 9 l2), (3, vR 11 l3), (4, vI l4)] [] := by
  unfold f_L_law_b1836 at hf
  refine V_goto g 1839 dL_law_1836 (by decide) ?_
  exact t_L_law_b1839 g hX hb0 hlr hk23 hf
set_option maxRecDepth 20000 in
theorem t_L_law_b1759 {E : ET} {fu : Nat} {s' : St} {Q : State → Prop} {xs : Nat → Int32} {L : Nat} (g : GX E "ThinSeriesLaw" cL_law 8 51) (hX : va_X (E.G.2.2.2 19 1) L xs E.s E.s.heap) (hb0 : E.G.2.2.2 19 1 < E.G.1) (hlr : law_end E Q s') {k23 : St → Nat → Nat → Nat → Int32 → Option (St × Int32)} (hk23 : ∀ (s : St) (l1 : Nat) (l2 : Nat) (l3 : Nat) (l4 : Int32), k23 s l1 l2 l3 l4 = some (s', 1) → V E 8 Q s 23 [(0, vR 19 1), (1, vR 8 l1), (2, vR 9 l2), (3, vR 11 l3), (4, vI l4)] []) {s : St} {l1 : Nat} {l2 : Nat} {l3 : Nat} {l4 : Int32} (hf : f_L_law_b1759 fu xs L k23 s l1 l2 l3 l4 = some (s', 1)) : V E 8 Q s 1759 [(0, vR 19 1), (1, vR 8 l1), (2, vR 9 l2), (3, vR 11 l3), (4, vI l4)] [] := by
  unfold f_L_law_b1759 at hf
  refine V_aload_n g 1 dL_law_1759 rfl ?_
  refine V_aload_n g 0 dL_law_1760 rfl ?_
  refine V_iload g 4 dL_law_1761 rfl ?_
  refine V_iconst (v := 1) g dL_law_1763 (by decide) ?_
  refine V_iadd g dL_law_1764 ?_
  obtain ⟨h425, hf⟩ := ckf hf
  refine V_sld g hX hb0 h425 dL_law_1765 ?_
  refine V_aload_n g 0 dL_law_1766 rfl ?_
  refine V_iload g 4 dL_law_1767 rfl ?_
  refine V_iconst (v := 2) g dL_law_1769 (by decide) ?_
  refine V_iadd g dL_law_1770 ?_
  obtain ⟨h426, hf⟩ := ckf hf
  refine V_sld g hX hb0 h426 dL_law_1771 ?_
  refine V_aload_n g 0 dL_law_1772 rfl ?_
  refine V_iload g 4 dL_law_1773 rfl ?_
  refine V_iconst (v := 3) g dL_law_1775 (by decide) ?_
  refine V_iadd g dL_law_1776 ?_
  obtain ⟨h427, hf⟩ := ckf hf
  refine V_sld g hX hb0 h427 dL_law_1777 ?_
  refine V_aload_n g 3 dL_law_1778 rfl ?_
  obtain ⟨s428, x429, hc, hf⟩ := bI_some hf
  refine cW1 g [vR 8 l1, vI (xs (ix (l4 + 1))), vI (xs (ix (l4 + 2))), vI (xs (ix (l4 + 3))), vR 11 l3] [] s428 (vI x429) cf_L_both (t_L_both g.2.2.2.2.2.2.1 hc) (by decide) q_1195 (Nat.le_of_ble_eq_true rfl) dL_law_1779 ?_ rfl
  refine V_istore g [(5, vI x429), (0, vR 19 1), (1, vR 8 l1), (2, vR 9 l2), (3, vR 11 l3), (4, vI l4)] dL_law_1782 rfl (by decide) rfl ?_
  refine V_aload_n g 3 dL_law_1784 rfl ?_
  refine V_aload_n g 1 dL_law_1785 rfl ?_
  refine V_iload g 5 dL_law_1786 rfl ?_
  refine V_iconst (v := 1) g dL_law_1788 (by decide) ?_
  refine V_iadd g dL_law_1789 ?_
  obtain ⟨h430, hf⟩ := ckf hf
  refine V_sld g hX hb0 h430 dL_law_1790 ?_
  refine V_aload_n g 1 dL_law_1791 rfl ?_
  refine V_iload g 5 dL_law_1792 rfl ?_
  refine V_iconst (v := 2) g dL_law_1794 (by decide) ?_
  refine V_iadd g dL_law_1795 ?_
  obtain ⟨h431, hf⟩ := ckf hf
  refine V_sld g hX hb0 h431 dL_law_1796 ?_
  refine V_aload_n g 1 dL_law_1797 rfl ?_
  refine V_iload g 5 dL_law_1798 rfl ?_
  refine V_iconst (v := 3) g dL_law_1800 (by decide) ?_
  refine V_iadd g dL_law_1801 ?_
  obtain ⟨h432, hf⟩ := ckf hf
  refine V_sld g hX hb0 h432 dL_law_1802 ?_
  obtain ⟨z433, hf⟩ := nz_some hf
  obtain ⟨s434, x435, hc, hf⟩ := bI_some hf
  refine cV1 g [vI (xs (ix (l4 + 1))), vI (xs (ix (l4 + 2))), vI (xs (ix (l4 + 3)))] [] s434 (vI x435) cf_X9_both (t_X9_both g.2.2.2.2.2.2.1 hc) (RC_own g rfl z433) z433 (by decide) q_1838 (Nat.le_of_ble_eq_true rfl) dL_law_1803 ?_ rfl
  refine V_istore g [(6, vI x435), (5, vI x429), (0, vR 19 1), (1, vR 8 l1), (2, vR 9 l2), (3, vR 11 l3), (4, vI l4)] dL_law_1806 rfl (by decide) rfl ?_
  refine V_aload_n g 4 dL_law_1808 rfl ?_
  obtain ⟨s436, x437, hc, hf⟩ := bI_some hf
  refine cV1 g [] [] s436 (vI x437) cf_X9_thrown (t_X9_thrown g.2.2.2.2.2.2.1 hc) (RC_own g rfl z433) z433 (by decide) q_1442 (Nat.le_of_ble_eq_true rfl) dL_law_1809 ?_ rfl
  refine V_iload g 1 dL_law_1812 rfl ?_
  refine V_icmp_eq g 1819 dL_law_1814 (by decide) (fun c438 => ?_) (fun c438 => ?_)
  · have hf := it_t hf c438
    refine V_iload g 1 dL_law_1819 rfl ?_
    refine V_if_ne g 1836 dL_law_1821 (by decide) (fun c439 => ?_) (fun c439 => ?_)
    · have hf := it_f hf c439
      refine V_sub [(0, vR 19 1), (1, vR 8 l1), (2, vR 9 l2), (3, vR 11 l3), (4, vI l4)] [2, 3, 4, 5, 6] rfl ?_
      exact t_L_law_b1836 g hX hb0 hlr hk23 hf
    · have hf := it_t hf c439
      refine V_aload_n g 5 dL_law_1824 rfl ?_
      refine V_iconst (v := 0) g dL_law_1825 (by decide) ?_
      obtain ⟨z440, hf⟩ := nz_some hf
      obtain ⟨h441, hf⟩ := ckf hf
      refine V_lald g z440 h441 dL_law_1826 ?_
      refine V_iload g 0 dL_law_1827 rfl ?_
      refine V_i2l g dL_law_1829 ?_
      refine V_lcmp g dL_law_1830 ?_
      refine V_if_eq g 1836 dL_law_1831 (by decide) (fun c442 => ?_) (fun c442 => ?_)
      · have hf := it_t hf c442
        refine V_sub [(0, vR 19 1), (1, vR 8 l1), (2, vR 9 l2), (3, vR 11 l3), (4, vI l4)] [2, 3, 4, 5, 6] rfl ?_
        exact t_L_law_b1836 g hX hb0 hlr hk23 hf
      · have hf := it_f hf c442
        refine V_iconst (v := 0) g dL_law_1834 (by decide) ?_
        exact law_ret g hlr hf dL_law_1835
  · have hf := it_f hf c438
    refine V_iconst (v := 0) g dL_law_1817 (by decide) ?_
    exact law_ret g hlr hf dL_law_1818
set_option maxRecDepth 20000 in
theorem t_L_law_b23 {E : ET} {fu : Nat} {s' : St} {Q : State → Prop} {xs : Nat → Int32} {L : Nat} (g : GX E "ThinSeriesLaw" cL_law 8 51) (hX : va_X (E.G.2.2.2 19 1) L xs E.s E.s.heap) (hb0 : E.G.2.2.2 19 1 < E.G.1) (hlr : law_end E Q s') : ∀ (n : Nat) (s : St) (l1 : Nat) (l2 : Nat) (l3 : Nat) (l4 : Int32), f_L_law_b23 fu xs L n s l1 l2 l3 l4 = some (s', 1) → V E 8 Q s 23 [(0, vR 19 1), (1, vR 8 l1), (2, vR 9 l2), (3, vR 11 l3), (4, vI l4)] [] := by
  intro n
  induction n with
  | zero =>
    intro s l1 l2 l3 l4 hf
    unfold f_L_law_b23 at hf
    exact nomatch hf
  | succ n ih =>
    intro s l1 l2 l3 l4 hf
    unfold f_L_law_b23 at hf
    refine V_iload g 4 dL_law_23 rfl ?_
    refine V_aload_n g 0 dL_law_25 rfl ?_
    refine V_slen g hX hb0 dL_law_26 ?_
    refine V_bipush (v := 7) g dL_law_27 (by decide) ?_
    refine V_isub g dL_law_29 ?_
    refine V_icmp_gt g 1845 dL_law_30 (by decide) (fun c16 => ?_) (fun c16 => ?_)
    · have hf := it_t hf c16
      refine V_iconst (v := 1) g dL_law_1845 (by decide) ?_
      exact law_ret g hlr hf dL_law_1846
    · have hf := it_f hf c16
      refine V_aload_n g 0 dL_law_33 rfl ?_
      refine V_iload g 4 dL_law_34 rfl ?_
      obtain ⟨h17, hf⟩ := ckf hf
      refine V_sld g hX hb0 h17 dL_law_36 ?_
      refine V_bipush (v := 31) g dL_law_37 (by decide) ?_
      refine V_iand g dL_law_39 ?_
      obtain ⟨x18, ex18, hf⟩ := lt_some hf
      refine V_eqI ex18 ?_
      by_cases c19 : x18 = 0
      · subst c19
        have hf := it_t hf rfl
        refine V_tableIn g 156 dL_law_40 (by decide) (by decide) rfl (by decide) ?_
        exact t_L_law_b156 g hX hb0 hlr ih hf
      · have hf := it_f hf c19
        by_cases c20 : x18 = 1
        · subst c20
          have hf := it_t hf rfl
          refine V_tableIn g 229 dL_law_40 (by decide) (by decide) rfl (by decide) ?_
          exact t_L_law_b229 g hX hb0 hlr ih hf
        · have hf := it_f hf c20
          by_cases c21 : x18 = 2
          · subst c21
            have hf := it_t hf rfl
            refine V_tableIn g 285 dL_law_40 (by decide) (by decide) rfl (by decide) ?_
            exact t_L_law_b285 g hX hb0 hlr ih hf
          · have hf := it_f hf c21
            by_cases c22 : x18 = 3
            · subst c22
              have hf := it_t hf rfl
              refine V_tableIn g 341 dL_law_40 (by decide) (by decide) rfl (by decide) ?_
              exact t_L_law_b341 g hX hb0 hlr ih hf
            · have hf := it_f hf c22
              by_cases c23 : x18 = 4
              · subst c23
                have hf := it_t hf rfl
                refine V_tableIn g 354 dL_law_40 (by decide) (by decide) rfl (by decide) ?_
                exact t_L_law_b354 g hX hb0 hlr ih hf
              · have hf := it_f hf c23
                by_cases c24 : x18 = 5
                · subst c24
                  have hf := it_t hf rfl
                  refine V_tableIn g 403 dL_law_40 (by decide) (by decide) rfl (by decide) ?_
                  exact t_L_law_b403 g hX hb0 hlr ih hf
                · have hf := it_f hf c24
                  by_cases c25 : x18 = 6
                  · subst c25
                    have hf := it_t hf rfl
                    refine V_tableIn g 440 dL_law_40 (by decide) (by decide) rfl (by decide) ?_
                    exact t_L_law_b440 g hX hb0 hlr ih hf
                  · have hf := it_f hf c25
                    by_cases c26 : x18 = 7
                    · subst c26
                      have hf := it_t hf rfl
                      refine V_tableIn g 465 dL_law_40 (by decide) (by decide) rfl (by decide) ?_
                      exact t_L_law_b465 g hX hb0 hlr ih hf
                    · have hf := it_f hf c26
                      by_cases c27 : x18 = 8
                      · subst c27
                        have hf := it_t hf rfl
                        refine V_tableIn g 552 dL_law_40 (by decide) (by decide) rfl (by decide) ?_
                        exact t_L_law_b552 g hX hb0 hlr ih hf
                      · have hf := it_f hf c27
                        by_cases c28 : x18 = 9
                        · subst c28
                          have hf := it_t hf rfl
                          refine V_tableIn g 608 dL_law_40 (by decide) (by decide) rfl (by decide) ?_
                          exact t_L_law_b608 g hX hb0 hlr ih hf
                        · have hf := it_f hf c28
                          by_cases c29 : x18 = 10
                          · subst c29
                            have hf := it_t hf rfl
                            refine V_tableIn g 664 dL_law_40 (by decide) (by decide) rfl (by decide) ?_
                            exact t_L_law_b664 g hX hb0 hlr ih hf
                          · have hf := it_f hf c29
                            by_cases c30 : x18 = 11
                            · subst c30
                              have hf := it_t hf rfl
                              refine V_tableIn g 732 dL_law_40 (by decide) (by decide) rfl (by decide) ?_
                              exact t_L_law_b732 g hX hb0 hlr ih hf
                            · have hf := it_f hf c30
                              by_cases c31 : x18 = 12
                              · subst c31
                                have hf := it_t hf rfl
                                refine V_tableIn g 788 dL_law_40 (by decide) (by decide) rfl (by decide) ?_
                                exact t_L_law_b788 g hX hb0 hlr ih hf
                              · have hf := it_f hf c31
                                by_cases c32 : x18 = 13
                                · subst c32
                                  have hf := it_t hf rfl
                                  refine V_tableIn g 855 dL_law_40 (by decide) (by decide) rfl (by decide) ?_
                                  exact t_L_law_b855 g hX hb0 hlr ih hf
                                · have hf := it_f hf c32
                                  by_cases c33 : x18 = 14
                                  · subst c33
                                    have hf := it_t hf rfl
                                    refine V_tableIn g 923 dL_law_40 (by decide) (by decide) rfl (by decide) ?_
                                    exact t_L_law_b923 g hX hb0 hlr ih hf
                                  · have hf := it_f hf c33
                                    by_cases c34 : x18 = 15
                                    · subst c34
                                      have hf := it_t hf rfl
                                      refine V_tableIn g 991 dL_law_40 (by decide) (by decide) rfl (by decide) ?_
                                      exact t_L_law_b991 g hX hb0 hlr ih hf
                                    · have hf := it_f hf c34
                                      by_cases c35 : x18 = 16
                                      · subst c35
                                        have hf := it_t hf rfl
                                        refine V_tableIn g 1082 dL_law_40 (by decide) (by decide) rfl (by decide) ?_
                                        exact t_L_law_b1082 g hX hb0 hlr ih hf
                                      · have hf := it_f hf c35
                                        by_cases c36 : x18 = 17
                                        · subst c36
                                          have hf := it_t hf rfl
                                          refine V_tableIn g 1162 dL_law_40 (by decide) (by decide) rfl (by decide) ?_
                                          exact t_L_law_b1162 g hX hb0 hlr ih hf
                                        · have hf := it_f hf c36
                                          by_cases c37 : x18 = 18
                                          · subst c37
                                            have hf := it_t hf rfl
                                            refine V_tableIn g 1253 dL_law_40 (by decide) (by decide) rfl (by decide) ?_
                                            exact t_L_law_b1253 g hX hb0 hlr ih hf
                                          · have hf := it_f hf c37
                                            by_cases c38 : x18 = 19
                                            · subst c38
                                              have hf := it_t hf rfl
                                              refine V_tableIn g 1361 dL_law_40 (by decide) (by decide) rfl (by decide) ?_
                                              exact t_L_law_b1361 g hX hb0 hlr ih hf
                                            · have hf := it_f hf c38
                                              by_cases c39 : x18 = 20
                                              · subst c39
                                                have hf := it_t hf rfl
                                                refine V_tableIn g 1452 dL_law_40 (by decide) (by decide) rfl (by decide) ?_
                                                exact t_L_law_b1452 g hX hb0 hlr ih hf
                                              · have hf := it_f hf c39
                                                by_cases c40 : x18 = 21
                                                · subst c40
                                                  have hf := it_t hf rfl
                                                  refine V_tableIn g 1520 dL_law_40 (by decide) (by decide) rfl (by decide) ?_
                                                  exact t_L_law_b1520 g hX hb0 hlr ih hf
                                                · have hf := it_f hf c40
                                                  by_cases c41 : x18 = 22
                                                  · subst c41
                                                    have hf := it_t hf rfl
                                                    refine V_tableIn g 1600 dL_law_40 (by decide) (by decide) rfl (by decide) ?_
                                                    exact t_L_law_b1600 g hX hb0 hlr ih hf
                                                  · have hf := it_f hf c41
                                                    by_cases c42 : x18 = 23
                                                    · subst c42
                                                      have hf := it_t hf rfl
                                                      refine V_tableIn g 1680 dL_law_40 (by decide) (by decide) rfl (by decide) ?_
                                                      exact t_L_law_b1680 g hX hb0 hlr ih hf
                                                    · have hf := it_f hf c42
                                                      by_cases c43 : x18 = 24
                                                      · subst c43
                                                        have hf := it_t hf rfl
                                                        refine V_tableIn g 1759 dL_law_40 (by decide) (by decide) rfl (by decide) ?_
                                                        exact t_L_law_b1759 g hX hb0 hlr ih hf
                                                      · have hf := it_f hf c43
                                                        refine V_tableOut g 1839 dL_law_40 (sw_out (fun v h1 h2 => ?_)) (by decide) ?_
                                                        · rcases (show v = 0 ∨ v = 1 ∨ v = 2 ∨ v = 3 ∨ v = 4 ∨ v = 5 ∨ v = 6 ∨ v = 7 ∨ v = 8 ∨ v = 9 ∨ v = 10 ∨ v = 11 ∨ v = 12 ∨ v = 13 ∨ v = 14 ∨ v = 15 ∨ v = 16 ∨ v = 17 ∨ v = 18 ∨ v = 19 ∨ v = 20 ∨ v = 21 ∨ v = 22 ∨ v = 23 ∨ v = 24 by omega) with rfl | rfl | rfl | rfl | rfl | rfl | rfl | rfl | rfl | rfl | rfl | rfl | rfl | rfl | rfl | rfl | rfl | rfl | rfl | rfl | rfl | rfl | rfl | rfl | rfl
                                                          · exact c19
                                                          · exact c20
                                                          · exact c21
                                                          · exact c22
                                                          · exact c23
                                                          · exact c24
                                                          · exact c25
                                                          · exact c26
                                                          · exact c27
                                                          · exact c28
                                                          · exact c29
                                                          · exact c30
                                                          · exact c31
                                                          · exact c32
                                                          · exact c33
                                                          · exact c34
                                                          · exact c35
                                                          · exact c36
                                                          · exact c37
                                                          · exact c38
                                                          · exact c39
                                                          · exact c40
                                                          · exact c41
                                                          · exact c42
                                                          · exact c43
                                                        · skip
                                                          exact t_L_law_b1839 g hX hb0 hlr ih hf
set_option maxRecDepth 20000 in
theorem t_L_law {E : ET} {fu : Nat} {s' : St} {Q : State → Prop} {xs : Nat → Int32} {L : Nat} (g : GX E "ThinSeriesLaw" cL_law 8 51) (hX : va_X (E.G.2.2.2 19 1) L xs E.s E.s.heap) (hb0 : E.G.2.2.2 19 1 < E.G.1) (hlr : law_end E Q s') {s : St} (hf : f_L_law fu xs L s = some (s', 1)) : V E 8 Q s 0 [(0, vR 19 1)] [] := by
  unfold f_L_law at hf
  obtain ⟨s1, es1, hf⟩ := lt_some hf
  obtain ⟨h2, hf⟩ := ckf hf
  refine V_new g 8 es1 rfl q_117 q_118 q_94 (rm_of h2) dL_law_0 ?_
  refine V_dup g dL_law_3 rfl ?_
  obtain ⟨s3, hc, hf⟩ := bV_some hf
  refine cI0 g [] [vR 8 (gN s 8 + 1)] s3 cf_X8_init (t_X8_init g.2.2.2.2.2.2.1 hc) (Nat.succ_ne_zero _) (by decide) q_119 (Nat.le_of_ble_eq_true rfl) dL_law_4 ?_ rfl
  obtain ⟨x4, ex4, hf⟩ := lt_some hf
  have z5 : ¬ x4 = 0 := by rw [ex4]; exact Nat.succ_ne_zero _
  refine V_astore_n g [(1, vR 8 x4), (0, vR 19 1)] dL_law_7 ex4 (by decide) rfl ?_
  obtain ⟨s6, es6, hf⟩ := lt_some hf
  obtain ⟨h7, hf⟩ := ckf hf
  refine V_new g 9 es6 rfl q_1211 q_1212 q_102 (rm_of h7) dL_law_8 ?_
  refine V_dup g dL_law_11 rfl ?_
  obtain ⟨s8, hc, hf⟩ := bV_some hf
  refine cI0 g [] [vR 9 (gN s3 9 + 1)] s8 cf_X9_init (t_X9_init g.2.2.2.2.2.2.1 hc) (Nat.succ_ne_zero _) (by decide) q_1213 (Nat.le_of_ble_eq_true rfl) dL_law_12 ?_ rfl
  obtain ⟨x9, ex9, hf⟩ := lt_some hf
  have z10 : ¬ x9 = 0 := by rw [ex9]; exact Nat.succ_ne_zero _
  refine V_astore_n g [(2, vR 9 x9), (1, vR 8 x4), (0, vR 19 1)] dL_law_15 ex9 (by decide) rfl ?_
  refine V_iconst (v := 1) g dL_law_16 (by decide) ?_
  obtain ⟨h11, hf⟩ := ckf hf
  obtain ⟨s12, es12, hf⟩ := lt_some hf
  obtain ⟨h13, hf⟩ := ckf hf
  refine V_new11 g es12 q_485 h11 (rm_of h13) dL_law_17 ?_
  obtain ⟨x14, ex14, hf⟩ := lt_some hf
  have z15 : ¬ x14 = 0 := by rw [ex14]; exact Nat.succ_ne_zero _
  refine V_astore_n g [(3, vR 11 x14), (2, vR 9 x9), (1, vR 8 x4), (0, vR 19 1)] dL_law_19 ex14 (by decide) rfl ?_
  refine V_iconst (v := 0) g dL_law_20 (by decide) ?_
  refine V_istore g [(4, vI 0), (3, vR 11 x14), (2, vR 9 x9), (1, vR 8 x4), (0, vR 19 1)] dL_law_21 rfl (by decide) rfl ?_
  refine V_sub [(0, vR 19 1), (1, vR 8 x4), (2, vR 9 x9), (3, vR 11 x14), (4, vI 0)] [4, 3, 2, 1, 0] rfl ?_
  exact t_L_law_b23 g hX hb0 hlr _ s12 x4 x9 x14 0 hf
