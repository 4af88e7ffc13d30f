/-! ===== batch on both sides ===== -/
abbrev outS (s : St) (v : Int64) : St := sJ s 11 1 0 v
section OUT
variable {s : St} {p n mo u l g : Nat} {S K : Nat → Int} {x : Ab} {L : List AO} {y : Q4}
theorem CI.out (h : CI s p n S K mo x) (v : Int64) : CI (outS s v) p n S K mo x := by
  obtain ⟨hB, hR, hSer, hLt, hC⟩ := h
  have hB' : Bas (outS s v) p n S K := hB
  refine ⟨hB', hR, fun i hi => (hSer i hi).keep hB'.2.1.2.2.1 ⟨rfl, rfl⟩ rfl (fun _ _ _ => rfl) (fun m => ?_), hLt, hC⟩
  obtain ⟨c, e, h1, -⟩ := hB.2.2.1 i (hR.2.2.1 i hi) (hSer i hi).1
  have := h1.2.2.1.1
  rw [gJ_sJ, if_neg (by omega)]
theorem MI.out (h : MI s n S K mo x u) (v : Int64) : MI (outS s v) n S K mo x u := h
theorem INV.out (h : INV s p n S K mo x u l L y g) (v : Int64) : INV (outS s v) p n S K mo x u l L y g := by
  obtain ⟨⟨hC, hM, hD, hA⟩, h2⟩ := h
  exact ⟨⟨hC.out v, hM, hD, hA⟩, h2⟩
theorem Bd.up (h : Bd s g) {g' : Nat} (h1 : g ≤ g') (h2 : g' ≤ 100000) : Bd s g' := by
  obtain ⟨⟨a1, a2⟩, a3⟩ := h
  exact ⟨⟨by omega, by omega⟩, h2⟩
theorem INV.up (h : INV s p n S K mo x u l L y g) {g' : Nat} (h1 : g ≤ g') (h2 : g' ≤ 100000) : INV s p n S K mo x u l L y g' := by
  obtain ⟨a1, a2, a3, a4, a5, a6⟩ := h
  exact ⟨a1, a2, a3, a4, a5, a6.up h1 h2⟩
/-- the class has done its part -/
theorem INV.halfX (h : INV s p n S K mo x u l L y g) {t s1 : St} {x' : Ab} (hX : XF s t) (hF : CF t s1) (hC : CI s1 p n S K mo x') (hR : Rmc s s1) : MI s1 n S K mo x u ∧ DJ s1 ∧ Bd s1 g ∧ Rmo s1 ∧ (AlC s1 (gR s1 2 p 2) L ∧ AlM s1 L) ∧ gR s1 8 1 13 = 3 - p ∧ (∀ j, gI s1 10 30 j = gI s 10 30 j) ∧ WhM s1 y := by
  obtain ⟨⟨hCs, hM, hD, hA⟩, ⟨a1, a2, a3⟩, ⟨-, w2⟩, ⟨-, h13⟩, -, ⟨b1, b2⟩, b3⟩ := h
  have hL := hCs.1.1.1
  have hp := hCs.1.2.1.1
  have hO := hM.2.2.2.2
  obtain ⟨q1, q2⟩ := hX.cie hL hp
  have hBt := hCs.1.gen q1 q2
  have halo := al_row hL hp
  have G : ∀ k i j, k = 9 ∨ k = 13 ∨ (k = 10 ∧ 11 ≤ i) ∨ k = 0 → gI t k i j = gI s k i j := fun k i j hk => hX.2 k i j (by omega) (by omega) (by omega) (by omega) (by omega)
  have hMt : MI t n S K mo x u := by
    have hm := hM.gen q1 ⟨fun j _ => G 9 1 j (by omega), fun j => G 13 1 j (by omega), fun a j ha => G 10 a j (by
      rcases ha with w | w | w | w
      · omega
      · omega
      · omega
      · have := hO.pr w; omega)⟩
    rw [G 9 1 24 (by omega), hM.2.2.1.2.1] at hm
    exact hm
  have hDt : DJ t := hD.eq q1.1
  have hOt := hMt.2.2.2.2
  have hM1 := hMt.cf hF hBt.1.2 hDt
  have hmS : mS s1 = mS s := by
    rw [mS_cf hOt hF]
    unfold mS
    rw [q1.1, q1.2.1]
  have hsk := skn_le hC.1.2.2 10 (Nat.le_refl _)
  obtain ⟨r1, r2⟩ := hR
  have hLt := hBt.1.1
  have a1t : AlC t (gR t 2 p 2) L := by
    rw [q1.1]
    exact a1.cong (fun j => by rw [q1.1]) ⟨by rw [q1.2.1], by rw [q1.2.1]⟩ (G 0 _ 2 (by omega)) (fun j => G 10 _ j (by omega)) (fun j => G 10 _ j (by omega))
  have a2t : AlM t L := a2.hw q1.1 (G 9 1 9 (by omega)) (fun j => by rw [lr_9_1_6 hL]; exact G 10 22 j (by omega))
  refine ⟨hM1, hDt.cf hF hOt, ⟨⟨by omega, by omega⟩, b3⟩, ⟨by omega, by omega⟩, ⟨a1t.cf hBt hF, a2t.cf hBt hF⟩, by rw [hF.1 8 1 13 (by decide) (by decide) (by decide) (by decide), q1.1]; exact h13, fun j => by rw [CF.low hF hLt hBt.1.2 (by omega) (by omega)]; exact G 10 30 j (by omega), ?_⟩
  obtain ⟨z1, z2, z3, z4⟩ := w2
  exact ⟨by rw [CF.c9 hF, G 9 1 40 (by omega)]; exact z1, by rw [CF.c9 hF, G 9 1 41 (by omega)]; exact z2, by rw [CF.c9 hF, G 9 1 42 (by omega)]; exact z3, by rw [CF.c9 hF, G 9 1 43 (by omega)]; exact z4⟩
end OUT
section XBA
variable {s : St} {p n mo u l g fu : Nat} {S K : Nat → Int} {x : Ab} {L : List AO} {y : Q4} {T : Nat → Nat} {N : Nat}
theorem X9_batch (h : MI s n S K mo x u) (hA : AbW mo x) (hT : TpM s T N) (hl : (xC x).1 = nI l) (hNl : N ≤ l) (hl6 : l ≤ 600) (ho : off (xP x) 10 + l ≤ 32768) (hu : u + 100 ≤ 1000000) (hr : Rmo s) (hfu : 50000 ≤ fu) :
    ∃ s' u', f_X9_batch fu s 1 (nI N) = some (s', (batQ n S K mo x T N).1) ∧ FW s s' ∧ MI s' n S K mo (batQ n S K mo x T N).2.2.1 u' ∧ Rmm s s' ∧ WhM s' (batQ n S K mo x T N).2.1 ∧ gI s' 9 1 33 = (batQ n S K mo x T N).2.2.2 ∧ u' ≤ u + 100 ∧ gI s' 9 1 3 = 0 ∧ gI s' 9 1 9 = gI s 9 1 9 ∧ ∀ j, gI s' 10 22 j = gI s 10 22 j := by
  have e10 : ¬ (1 = 0) := by decide
  have hL := h.1.1
  have hO := h.2.2.2.2
  have h24 : gI s 9 1 24 = nI l := h.2.2.1.2.1.trans hl
  let sa := fiS (sI s 9 1 3 0)
  have Ga : ∀ k i j, ¬ (k = 9 ∧ i = 1 ∧ (j = 3 ∨ (40 ≤ j ∧ j ≤ 43))) → gI sa k i j = gI s k i j := fun k i j hq => by
    show gI (sI (sI (sI (sI (sI s 9 1 3 0) 9 1 40 0) 9 1 41 0) 9 1 42 (-1)) 9 1 43 (-1)) k i j = _
    rw [gI_sI, if_neg (fun q => hq (by omega)), gI_sI, if_neg (fun q => hq (by omega)), gI_sI, if_neg (fun q => hq (by omega)), gI_sI, if_neg (fun q => hq (by omega)), gI_sI, if_neg (fun q => hq (by omega))]
  have hwa : WhM sa (0, 0, -1, -1) := fiS_w _
  have g3a : gI sa 9 1 3 = 0 := by
    show gI (sI (sI (sI (sI (sI s 9 1 3 0) 9 1 40 0) 9 1 41 0) 9 1 42 (-1)) 9 1 43 (-1)) 9 1 3 = _
    rw [gI_sI, if_neg (by omega), gI_sI, if_neg (by omega), gI_sI, if_neg (by omega), gI_sI, if_neg (by omega), gI_sI, if_pos ⟨rfl, rfl, rfl⟩]
  have hLa : Lay sa := hL.same rfl rfl rfl
  have hTa : TpM sa T N := fun j hj => by rw [Ga 10 30 j (by omega)]; exact hT j hj
  obtain ⟨s6, b1, b2, ⟨b3, b4⟩, b5, b6⟩ := X9_bg (fu := fu) hLa hTa (by omega) (by omega)
  let s7 := sI s6 9 1 45 0
  have G7 : ∀ k i j, ¬ (k = 9 ∧ i = 1 ∧ j = 45) → gI s7 k i j = gI s6 k i j := fun k i j hq => by show gI (sI s6 9 1 45 0) k i j = _; rw [gI_sI, if_neg hq]
  have P7 : PM s7 T N (lex T N 0) := b2.f ⟨rfl, rfl, rfl⟩ (fun j h1 h2 => G7 9 1 j (by omega)) (fun j => G7 10 30 j (by omega))
  have h45 : gI s7 9 1 45 = nI 0 := by show gI (sI s6 9 1 45 0) 9 1 45 = _; rw [gI_sI, if_pos ⟨rfl, rfl, rfl⟩]; rfl
  have hneg : ¬ nI N < 0 := fun q => by have := (ni_lt (b := 0) (by omega) (by omega)).mp q; omega
  have hle : nI N ≤ nI l := (ni_le (by omega) (by omega)).mpr hNl
  have hpre : f_X9_batch fu s 1 (nI N) = f_X9_batch_b37 fu fu s7 1 := by
    unfold f_X9_batch
    rw [if_neg e10]
    simp only [lt]
    have g24 : gI (sI s 9 1 3 0) 9 1 24 = nI l := by rw [gI_sI, if_neg (by omega)]; exact h24
    rw [if_neg hneg, g24, if_pos hle, X9_fine]
    simp only [bV]
    show bV (f_X9_begin fu sa 1 (nI N)) _ = _
    rw [b1]
    rfl
  obtain ⟨a1, a2⟩ := X9_loop (by omega) (show 1000 ≤ fu by omega) 101 0 fu s7 s7 (lex T N 0) [] rfl (by omega) rfl P7 (by omega) h45 (fun m l hl => by cases hl) ⟨⟨rfl, rfl, rfl, rfl, rfl, rfl⟩, fun _ _ _ _ _ => rfl⟩
  -- behind the reading
  have mid : ∀ s8, LmtF s7 s8 → SameS s s8 ∧ (cn s8 = cn s ∧ sn s8 = sn s ∧ gJ s8 = gJ s) ∧ (∀ k i j, ¬ (k = 9 ∧ i = 1 ∧ (j = 3 ∨ (24 ≤ j ∧ j ≤ 33) ∨ (40 ≤ j ∧ j ≤ 43) ∨ j = 45)) → ¬ (k = 10 ∧ i = 34) → gI s8 k i j = gI s k i j) ∧ MI s8 n S K mo (tpA x 0) u ∧ WhM s8 (0, 0, -1, -1) ∧ gI s8 9 1 33 = -1 ∧ gI s8 9 1 3 = 0 := fun s8 hF => by
    have e : SameS s s8 := ⟨hF.1.1.trans b5.1, hF.1.2.1.trans b5.2.1, hF.1.2.2.1.trans b5.2.2.1⟩
    have Gm : ∀ j, ¬ (pmJ j ∨ j = 45) → gI s8 9 1 j = gI s6 9 1 j := fun j hj => by rw [hF.2 9 1 j (fun q => hj q.2.2) (by omega), G7 9 1 j (fun q => hj (Or.inr q.2.2))]
    have GG : ∀ k i j, ¬ (k = 9 ∧ i = 1 ∧ (j = 3 ∨ (24 ≤ j ∧ j ≤ 33) ∨ (40 ≤ j ∧ j ≤ 43) ∨ j = 45)) → ¬ (k = 10 ∧ i = 34) → gI s8 k i j = gI s k i j := fun k i j h1 h2 => by
      rw [hF.2 k i j (fun q => h1 (by have := q.2.2; unfold pmJ at this; omega)) h2, G7 k i j (fun q => h1 (by omega)), b6 k i j (fun q => h1 (by omega)), Ga k i j (fun q => h1 (by omega))]
    have hm := h.gen e ⟨fun j hj => GG 9 1 j (by omega) (by omega), fun j => GG 13 1 j (by omega) (by omega), fun a j ha => GG 10 a j (by omega) (by
      rcases ha with w | w | w | w
      · omega
      · omega
      · omega
      · have := hO.pr w; omega)⟩
    have g24 : gI s8 9 1 24 = 0 := by rw [Gm 24 (by unfold pmJ; omega)]; exact b3
    rw [g24] at hm
    obtain ⟨w1, w2, w3, w4⟩ := hwa
    refine ⟨e, ⟨hF.1.2.2.2.1.trans b5.2.2.2.1, hF.1.2.2.2.2.1.trans b5.2.2.2.2.1, hF.1.2.2.2.2.2.trans b5.2.2.2.2.2⟩, GG, hm, ⟨?_, ?_, ?_, ?_⟩, by rw [Gm 33 (by unfold pmJ; omega)]; exact b4, by rw [Gm 3 (by unfold pmJ; omega), b6 9 1 3 (by omega)]; exact g3a⟩
    · rw [Gm 40 (by unfold pmJ; omega), b6 9 1 40 (by omega)]; exact w1
    · rw [Gm 41 (by unfold pmJ; omega), b6 9 1 41 (by omega)]; exact w2
    · rw [Gm 42 (by unfold pmJ; omega), b6 9 1 42 (by omega)]; exact w3
    · rw [Gm 43 (by unfold pmJ; omega), b6 9 1 43 (by omega)]; exact w4
  have wide : ∀ s8, SameS s s8 → gJ s8 = gJ s → (∀ k i j, ¬ (k = 9 ∧ i = 1 ∧ (j = 3 ∨ (24 ≤ j ∧ j ≤ 33) ∨ (40 ≤ j ∧ j ≤ 43) ∨ j = 45)) → ¬ (k = 10 ∧ i = 34) → gI s8 k i j = gI s k i j) → FW s s8 := fun s8 e1 e2 e3 => FW.of e1 (fun k i j h1 h2 h3 => e3 k i j (fun q => h1 q.1) (fun q => h3 (by omega))) e2
  rw [hpre]
  unfold batQ
  cases hq : aLs T N 101 (lex T N 0) [] with
  | inl f =>
    obtain ⟨s8, z1, z2, z3⟩ := a1 f hq
    obtain ⟨m1, ⟨m2, m3, m4⟩, m5, m6, ⟨w1, w2, w3, w4⟩, m8, m9⟩ := mid s8 z2
    have hnz := z3.nz
    have f3 := z3.2.2
    let s9 := sI (sI s8 9 1 33 (nI f.2)) 9 1 40 1
    have G9 : ∀ k i j, ¬ (k = 9 ∧ i = 1 ∧ (j = 33 ∨ j = 40)) → gI s9 k i j = gI s8 k i j := fun k i j hq => by
      show gI (sI (sI s8 9 1 33 (nI f.2)) 9 1 40 1) k i j = _
      rw [gI_sI, if_neg (fun q => hq (by omega)), gI_sI, if_neg (fun q => hq (by omega))]
    have hm9 : MI s9 n S K mo (tpA x 0) u := by
      have hO8 := m6.2.2.2.2
      have hm := m6.gen (s' := s9) ⟨rfl, rfl, rfl⟩ ⟨fun j hj => G9 9 1 j (by omega), fun j => G9 13 1 j (by omega), fun a j _ => G9 10 a j (by omega)⟩
      rw [G9 9 1 24 (by omega), m6.2.2.1.2.1] at hm
      exact hm
    refine ⟨s9, u, ?_, (wide s8 m1 m4 m5).tr (FW.of ⟨rfl, rfl, rfl⟩ (fun k i j h1 _ _ => G9 k i j (fun q => h1 q.1)) rfl), hm9, Rmm.eq m1.1 m1.2.1 m2 m3, ⟨?_, ?_, ?_, ?_⟩, ?_, by omega, ?_, ?_, fun j => ?_⟩
    · rw [z1]
      unfold f_X9_batch_b58 f_X9_ended f_X9_ended_b15
      rw [if_neg e10, if_neg e10, if_neg hnz]
      simp only [lt]
      rw [if_neg e10]
      simp only [bI]
      have h31 : gI (sI s8 9 1 33 (nI f.2)) 9 1 31 = gI s8 9 1 31 := by rw [gI_sI, if_neg (by omega)]
      rw [z3.2.1, h31, if_neg hnz, X9_ref]
      simp only
      have : gI (sI (sI s8 9 1 33 (nI f.2)) 9 1 40 1) 9 1 31 = nI f.1 := by rw [gI_sI, if_neg (by omega), gI_sI, if_neg (by omega)]; exact z3.1
      rw [this]
      rfl
    · show gI (sI (sI s8 9 1 33 (nI f.2)) 9 1 40 1) 9 1 40 = 1
      rw [gI_sI, if_pos ⟨rfl, rfl, rfl⟩]
    · rw [G9 9 1 41 (by omega)]; exact w2
    · rw [G9 9 1 42 (by omega)]; exact w3
    · rw [G9 9 1 43 (by omega)]; exact w4
    · show gI (sI (sI s8 9 1 33 (nI f.2)) 9 1 40 1) 9 1 33 = nI f.2
      rw [gI_sI, if_neg (by omega), gI_sI, if_pos ⟨rfl, rfl, rfl⟩]
    · rw [G9 9 1 3 (by omega)]; exact m9
    · rw [G9 9 1 9 (by omega)]; exact m5 9 1 9 (by omega) (by omega)
    · rw [G9 10 22 j (by omega)]; exact m5 10 22 j (by omega) (by omega)
  | inr B =>
    obtain ⟨s8, z1, z2, z3, z4, z5, z6⟩ := a2 B hq
    obtain ⟨m1, ⟨m2, m3, m4⟩, m5, m6, m7, m8, m9⟩ := mid s8 z2
    have hB6 := aLs_len 101 (lex T N 0) [] B (lex_w T N (Nat.zero_le N)).2 (by rw [List.length_nil]; omega) hq
    have hBW : ∀ l ∈ B, LnW l := aLs_w 101 (lex T N 0) [] B (lex_w T N (Nat.zero_le N)).2 (fun l hl => by cases hl) hq
    have hr8 : Rmo s8 := hr.rmm (Rmm.eq m1.1 m1.2.1 m2 m3)
    obtain ⟨s9, c1, c2, c3, c4, c5, c6⟩ := X9_lays (fu := fu) m6 hr8 hfu
    have hO8 := m6.2.2.2.2
    have f9 : ∀ j, gI s9 9 1 j = gI s8 9 1 j := fun j => c2.2.2.2.2.1 9 1 j (fun q => by omega) (by omega) (by omega)
    have hN8 := ln_10 m6.1.1
    have lowr : ∀ a j, a = 22 ∨ a = 34 → gI s9 10 a j = gI s8 10 a j := fun a j ha => c2.2.2.2.2.1 10 a j (fun _ => by omega) (by omega) (fun q => by
      rcases q.2 with w | w | w | w
      · omega
      · have := hO8.1 46 mj46; omega
      · have := hO8.1 47 mj47; omega
      · have := hO8.1 48 mj48; omega)
    have w9 : WhM s9 (0, 0, -1, -1) := by
      obtain ⟨w1, w2, w3, w4⟩ := m7
      exact ⟨by rw [f9]; exact w1, by rw [f9]; exact w2, by rw [f9]; exact w3, by rw [f9]; exact w4⟩
    have hLm : LmsH s9 B := fun m l hl => by
      unfold LmH
      rw [lowr 34 _ (by omega), lowr 34 _ (by omega), lowr 34 _ (by omega), lowr 34 _ (by omega)]
      exact z3 m l hl
    have hr9 := hr8.rmm c4
    obtain ⟨t1, t2⟩ := X9_bloop (fu := fu) hfu (show B.length ≤ 100 by omega) hBW c3 B [] fu s9 (tpA x 0) u rfl (by omega) c3 (hA.tp 0) hr9 hLm (by rw [f9]; exact z4) w9 c5 (by show off (xP x) 10 + _ ≤ _; omega) (by omega) ⟨rfl, rfl⟩ c3.1.2.2.2.2.1.2.1.1 c6
    have hW9 : FW s s9 := (wide s8 m1 m4 m5).tr c2.fw
    have hO9 := c3.2.2.2.2
    have hN9 := ln_10 c3.1.1
    have fin : ∀ s', FP s9 s' → gI s' 9 1 33 = -1 ∧ gI s' 9 1 9 = gI s 9 1 9 ∧ ∀ j, gI s' 10 22 j = gI s 10 22 j := fun s' f => ⟨by rw [FP.fld f (by unfold dyn; omega), f9]; exact m8, by rw [FP.fld f (by unfold dyn; omega), f9]; exact m5 9 1 9 (by omega) (by omega), fun j => by rw [FP.row f hO9 (by omega) (by omega) hN9, lowr 22 j (by omega)]; exact m5 10 22 j (by omega) (by omega)⟩
    have hb58 : f_X9_batch_b58 fu s8 1 = f_X9_batch_b84 fu fu s9 1 (nI ([] : List Ln).length) := by
      unfold f_X9_batch_b58 f_X9_ended f_X9_ended_b15
      rw [if_neg e10, if_neg e10, if_pos z5, if_neg e10]
      simp only [bI]
      rw [if_pos z5, c1]
      rfl
    rw [z1, hb58]
    dsimp only
    cases hbt : bat n S K mo 0 (tpA x 0) B with
    | inl q =>
      obtain ⟨j, c, a⟩ := q
      obtain ⟨s', v1, v2, v3, v4, v5, v6⟩ := t1 j c a hbt
      obtain ⟨q1, q2, q3⟩ := fin s' v2
      exact ⟨s', u, v1, hW9.tr v2.fw, v3, (Rmm.eq m1.1 m1.2.1 m2 m3).tr (c4.tr v4), v5, q1, by omega, by rw [v6, f9]; exact m9, q2, q3⟩
    | inr x' =>
      obtain ⟨s', u', v1, v2, v3, v4, v5, v6, v7⟩ := t2 x' hbt
      obtain ⟨q1, q2, q3⟩ := fin s' v2
      exact ⟨s', u', v1, hW9.tr v2.fw, v3, (Rmm.eq m1.1 m1.2.1 m2 m3).tr (c4.tr v4), v5, q1, by omega, by rw [v7, f9]; exact m9, q2, q3⟩
/-- what batch and tell owe -/
abbrev Thw (s : St) (p n : Nat) (S K : Nat → Int) (mo : Nat) (x : Ab) (u l : Nat) (L : List AO) (y : Q4) (g : Nat) (fc : Option (St × (Nat ⊕ Int32))) (fm : St → Option (St × Int32)) : Prop :=
  (∃ s1 s2 v, fc = some (s1, .inl 2) ∧ fm s1 = some (s2, v) ∧ gI s2 9 1 3 = 1 ∧ INV s2 p n S K mo x u l L y g) ∨
  (∃ s1 w, fc = some (s1, .inr w) ∧ Lay s1 ∧ ∀ o : Int64, ∃ s2 p' n' S' K' mo' x' u' L' y', fm (outS s1 o) = some (s2, w) ∧ gI s2 9 1 3 = 0 ∧ gJ s2 11 1 0 = o ∧ INV s2 p' n' S' K' mo' x' u' 0 L' y' g ∧ 6 * off (xP x') 10 ≤ 6 * off (xP x) 10 + l ∧ u' ≤ u + 100)
/-- the tape, told by its bytes -/
theorem Tap.t (h : Tap s x l) : ∃ T : Nat → Nat, ∀ j, j < l → T j < 256 ∧ gI s 10 30 j = nI (T j) ∧ gI s 12 1 j = sb (T j) := by
  obtain ⟨-, -, h3⟩ := h
  refine ⟨fun j => if hj : j < l then (h3 j hj).choose else 0, fun j hj => ?_⟩
  simp only [hj, dite_true]
  exact (h3 j hj).choose_spec
theorem P_batch (h : INV s p n S K mo x u l L y g) (ho : off (xP x) 10 + l ≤ 32768) (hu : u + 100 ≤ 1000000) (hg : g + 6 ≤ 100000) (hfu : 50000 ≤ fu) (a : Int32) :
    Thw s p n S K mo x u l L y (g + 6) (f_X8_batch fu s 1 a) (fun s1 => f_X9_batch fu s1 1 a) := by
  have e10 : ¬ (1 = 0) := by decide
  have h' := h
  obtain ⟨⟨hC, hM, hD, hA⟩, ⟨-, -, haw⟩, -, -, hTap, -⟩ := h
  obtain ⟨t1, t2, -⟩ := id hTap
  have hl14 : gI s 8 1 14 = nI l := hC.2.2.2.2.2.1.trans t1
  by_cases hv : 0 ≤ a.toInt ∧ a.toInt ≤ l
  · refine Or.inr ?_
    obtain ⟨N, hN, rfl⟩ : ∃ N : Nat, N ≤ l ∧ a = nI N := ⟨a.toInt.toNat, by omega, nu_toN (by omega)⟩
    obtain ⟨T, hT⟩ := hTap.t
    obtain ⟨t, s1, y1, y2, y3, y4, y5, y6, y7, y8, y9, y10⟩ := X8_batch (fu := fu) hC hA (T := T) (fun j hj => ⟨(hT j (by omega)).1, (hT j (by omega)).2.2⟩) t1 hN t2 ho h'.bdg hfu
    obtain ⟨m1, m2, m3, m4, ⟨m5, m5'⟩, m6, m7, -⟩ := h'.halfX y2 y3 y4 y5
    refine ⟨s1, _, y1, y4.1.1.1, fun o => ?_⟩
    have hC1 := y4.out o
    obtain ⟨s2, u', z1, z2, z3, z4, z5, z6, z7, z8, z9, z10⟩ := X9_batch (fu := fu) (m1.out o) hA (T := T) (N := N) (fun j hj => ⟨(hT j (by omega)).1, by show gI s1 10 30 j = _; rw [m7]; exact (hT j (by omega)).2.1⟩) t1 hN t2 ho hu m4 hfu
    have hD1 : DJ (outS s1 o) := m2
    have hO1 : OwnM (outS s1 o) := m1.2.2.2.2
    have hL1 := hC1.1.1.1
    obtain ⟨-, -, hsk⟩ := hC1.1.fw z2 hO1 hD1
    refine ⟨s2, p, n, S, K, mo, _, u', L, _, z1, z8, ?_, ⟨⟨hC1.fw z2 hO1 hD1, z3, hD1.fw z2 hC1.1.2.2, y8⟩, ⟨?_, ?_, haw⟩, ⟨fun w hw => ?_, z5⟩, ⟨?_, ?_⟩, ⟨y10, by omega, fun j hj => by omega⟩, ?_⟩, y9, z7⟩
    · rw [z2.2.2.2.2.2 11 1 0 (fun _ => ln_11 hL1) (by decide), gJ_sJ, if_pos ⟨rfl, rfl, rfl⟩]
    · have m5o : AlC (outS s1 o) (gR (outS s1 o) 2 p 2) L := m5
      exact m5o.fw hC1.1 z2 hO1
    · obtain ⟨q1, q2, q3⟩ := m5'
      refine ⟨by rw [z9]; exact q1, q2, fun j v hj => ?_⟩
      rw [lr_9_1_6 (hL1.fw z2), z10]
      have := q3 j v hj
      rw [lr_9_1_6 y4.1.1.1] at this
      exact this
    · rw [FW.crow z2 hL1 hO1 (by omega)]; exact y6 w hw
    · rw [FW.i z2 (by decide) (by decide) (by decide) (by decide), z6]; exact y7
    · rw [FW.r z2 (by decide) (by decide) (by decide)]; exact m6
    · obtain ⟨⟨q1, q2⟩, q3⟩ := m3
      obtain ⟨⟨r1, r3⟩, r2⟩ := z4
      have k1 : cn (outS s1 o) = cn s1 := rfl
      have k2 : sn (outS s1 o) = sn s1 := rfl
      have k3 : mS (outS s1 o) = mS s1 := rfl
      have k4 : skn (outS s1 o) 10 = skn s1 10 := rfl
      exact ⟨⟨by omega, by omega⟩, by omega⟩
  · refine Or.inl ⟨nX s, sI (sI (nX s) 9 1 3 0) 9 1 3 1, 0, ?_, ?_, by rw [gI_sI, if_pos ⟨rfl, rfl, rfl⟩], h'.look hg (CZ.x (CZ.rf s)) ((MS.s9 (nX s) (Or.inl rfl) 0).tr (MS.s9 _ (Or.inl rfl) 1))⟩
    · have hb12 : f_X8_batch_b12 fu s = some (nX s, .inl 2) := by
        unfold f_X8_batch_b12
        rw [if_neg (by rw [h'.rmb hg]; decide)]
      unfold f_X8_batch
      by_cases c : a < 0
      · rw [if_pos c]; exact hb12
      · rw [if_neg c, if_neg e10, hl14, if_neg (fun q => hv ⟨by rw [nu_lt, nu_0] at c; omega, by rw [nu_le, nu_nI (by omega)] at q; exact q⟩)]; exact hb12
    · have hb17 : f_X9_batch_b17 fu (sI (nX s) 9 1 3 0) 1 = some (sI (sI (nX s) 9 1 3 0) 9 1 3 1, 0) := by
        unfold f_X9_batch_b17
        rw [if_neg e10, X9_fail]
        rfl
      have g24 : gI (sI (nX s) 9 1 3 0) 9 1 24 = nI l := by rw [gI_sI, if_neg (by omega)]; exact hM.2.2.1.2.1.trans t1
      show f_X9_batch fu (nX s) 1 a = _
      unfold f_X9_batch
      rw [if_neg e10]
      simp only [lt]
      by_cases c : a < 0
      · rw [if_pos c]; exact hb17
      · rw [if_neg c, g24, if_neg (fun q => hv ⟨by rw [nu_lt, nu_0] at c; omega, by rw [nu_le, nu_nI (by omega)] at q; exact q⟩)]; exact hb17
end XBA
