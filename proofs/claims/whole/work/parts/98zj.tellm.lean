/-! ===== the reference's tell; tell on both sides ===== -/
section TLM
variable {s : St} {p n mo u l g fu N : Nat} {S K : Nat → Int} {x : Ab} {L : List AO} {y : Q4} {T : Nat → Nat}
theorem X9_tell (h : MI s n S K mo x u) (hT : TpM s T N) (hl : (xC x).1 = nI l) (hNl : N ≤ l) (hl6 : l ≤ 600) (hfu : 50000 ≤ fu) :
    (∀ f, aCs T N 601 (lex T N 0) cl0 = .inl f → ∃ s', f_X9_tell fu s 1 (nI N) = some (s', nI f.1) ∧ FW s s' ∧ SameR s s' ∧ MI s' n S K mo (tpA x 0) u ∧ gI s' 9 1 33 = nI f.2 ∧ gI s' 9 1 3 = 0 ∧ gI s' 9 1 9 = gI s 9 1 9 ∧ (∀ j, gI s' 10 22 j = gI s 10 22 j) ∧ ∀ j, 40 ≤ j → j ≤ 43 → gI s' 9 1 j = gI s 9 1 j) ∧
    (∀ c, aCs T N 601 (lex T N 0) cl0 = .inr c → ClW c → ∃ s', f_X9_tell fu s 1 (nI N) = some (s', 0) ∧ FW s s' ∧ SameR s s' ∧ MI s' (fiT c.1).length (spI (fiT c.1)) (kpI (fiT c.1)) c.2.1 (teA x) u ∧ gI s' 9 1 33 = -1 ∧ gI s' 9 1 3 = 0 ∧ AlM s' c.2.2 ∧ ∀ j, 40 ≤ j → j ≤ 43 → gI s' 9 1 j = gI s 9 1 j) := by
  have e10 : ¬ (1 = 0) := by decide
  have hL := h.1.1
  have hO := h.2.2.2.2
  have h24 : gI s 9 1 24 = nI l := h.2.2.1.2.1.trans hl
  let sa := sI s 9 1 3 0
  have Ga : ∀ k i j, ¬ (k = 9 ∧ i = 1 ∧ j = 3) → gI sa k i j = gI s k i j := fun k i j hh => by show gI (sI s 9 1 3 0) k i j = _; rw [gI_sI, if_neg hh]
  have g3a : gI sa 9 1 3 = 0 := by show gI (sI s 9 1 3 0) 9 1 3 = _; rw [gI_sI, if_pos ⟨rfl, rfl, rfl⟩]
  have hLa : Lay sa := hL.same rfl rfl rfl
  have hTa : TpM sa T N := fun j hj => by rw [Ga 10 30 j (by omega)]; exact hT j hj
  obtain ⟨s5, b1, b2, ⟨b3, b4⟩, b5, b6⟩ := X9_bg (fu := fu) hLa hTa (by omega) (by omega)
  let s8 := sI (sI (sI s5 9 1 37 0) 9 1 38 4) 9 1 39 0
  have G8 : ∀ k i j, gI s8 k i j = if k = 9 ∧ i = 1 ∧ j = 39 then 0 else if k = 9 ∧ i = 1 ∧ j = 38 then 4 else if k = 9 ∧ i = 1 ∧ j = 37 then 0 else gI s5 k i j := fun k i j => by
    show gI (sI (sI (sI s5 9 1 37 0) 9 1 38 4) 9 1 39 0) k i j = _
    rw [gI_sI, gI_sI, gI_sI]
  have G8n : ∀ k i j, ¬ (k = 9 ∧ i = 1 ∧ 37 ≤ j ∧ j ≤ 39) → gI s8 k i j = gI s5 k i j := fun k i j hh => by rw [G8, if_neg (fun w => hh (by omega)), if_neg (fun w => hh (by omega)), if_neg (fun w => hh (by omega))]
  have P8 : PM s8 T N (lex T N 0) := b2.f ⟨rfl, rfl, rfl⟩ (fun j h1 h2 => G8n 9 1 j (by omega)) (fun j => G8n 10 30 j (by omega))
  have Q8 : PmQ s8 cl0 := ⟨⟨by rw [G8, if_neg (by omega), if_neg (by omega), if_pos ⟨rfl, rfl, rfl⟩]; rfl, fun i sp hi => (by cases hi)⟩, by rw [G8, if_neg (by omega), if_pos ⟨rfl, rfl, rfl⟩]; rfl, by rw [G8, if_pos ⟨rfl, rfl, rfl⟩]; rfl, fun j v hj => (by cases hj)⟩
  have hneg : ¬ nI N < 0 := fun w => by have := (ni_lt (b := 0) (by omega) (by omega)).mp w; omega
  have hle : nI N ≤ nI l := (ni_le (by omega) (by omega)).mpr hNl
  have hpre : f_X9_tell fu s 1 (nI N) = f_X9_tell_b43 fu fu s8 1 := by
    unfold f_X9_tell
    rw [if_neg e10]
    simp only [lt]
    have g24 : gI (sI s 9 1 3 0) 9 1 24 = nI l := by rw [gI_sI, if_neg (by omega)]; exact h24
    rw [if_neg hneg, g24, if_pos hle]
    show bV (f_X9_begin fu sa 1 (nI N)) _ = _
    rw [b1]
    rfl
  obtain ⟨a1, a2⟩ := X9_tloop (T := T) (show N ≤ 600 by omega) hfu 601 fu s8 s8 (lex T N 0) cl0 (by omega) (by omega) P8 Q8 cl0_w (PnF.rf s8)
  -- behind the reading
  have mid : ∀ s9, PnF s8 s9 → SameS s s9 ∧ (cn s9 = cn s ∧ sn s9 = sn s ∧ gJ s9 = gJ s) ∧ (∀ k i j, ¬ (k = 9 ∧ i = 1 ∧ (j = 3 ∨ (24 ≤ j ∧ j ≤ 33) ∨ (37 ≤ j ∧ j ≤ 39))) → ¬ (k = 10 ∧ 31 ≤ i ∧ i ≤ 33) → gI s9 k i j = gI s k i j) ∧ gI s9 9 1 24 = 0 ∧ gI s9 9 1 33 = -1 ∧ gI s9 9 1 3 = 0 := fun s9 hF => by
    have Gm : ∀ j, ¬ (pmJ j ∨ (37 ≤ j ∧ j ≤ 39)) → gI s9 9 1 j = gI s5 9 1 j := fun j hj => by rw [hF.2 9 1 j (fun w => hj w.2.2) (by omega), G8n 9 1 j (fun w => hj (Or.inr w.2.2))]
    refine ⟨⟨hF.1.1.trans b5.1, hF.1.2.1.trans b5.2.1, hF.1.2.2.1.trans b5.2.2.1⟩, ⟨hF.1.2.2.2.1.trans b5.2.2.2.1, hF.1.2.2.2.2.1.trans b5.2.2.2.2.1, hF.1.2.2.2.2.2.trans b5.2.2.2.2.2⟩, fun k i j h1 h2 => ?_, by rw [Gm 24 (by unfold pmJ; omega)]; exact b3, by rw [Gm 33 (by unfold pmJ; omega)]; exact b4, by rw [Gm 3 (by unfold pmJ; omega), b6 9 1 3 (by omega)]; exact g3a⟩
    rw [hF.2 k i j (fun w => h1 (by have := w.2.2; unfold pmJ at this; omega)) h2, G8n k i j (fun w => h1 (by omega)), b6 k i j (fun w => h1 (by omega)), Ga k i j (fun w => h1 (by omega))]
  rw [hpre]
  refine ⟨fun f hf => ?_, fun c hc hW => ?_⟩
  · obtain ⟨s9, z1, z2, z3⟩ := a1 f hf
    obtain ⟨m1, ⟨m2, m3, m4⟩, m5, m6, m7, m8⟩ := mid s9 z2
    have hnz := z3.nz
    let s1 := sI s9 9 1 33 (nI f.2)
    have G1 : ∀ k i j, ¬ (k = 9 ∧ i = 1 ∧ j = 33) → gI s1 k i j = gI s9 k i j := fun k i j hh => by show gI (sI s9 9 1 33 (nI f.2)) k i j = _; rw [gI_sI, if_neg hh]
    have hm : MI s1 n S K mo (tpA x 0) u := by
      have hm := h.gen (s' := s1) m1 ⟨fun j hj => by rw [G1 9 1 j (by omega)]; exact m5 9 1 j (by omega) (by omega), fun j => by rw [G1 13 1 j (by omega)]; exact m5 13 1 j (by omega) (by omega), fun a j ha => by
        rw [G1 10 a j (by omega)]
        refine m5 10 a j (by omega) ?_
        rcases ha with w | w | w | w
        · omega
        · omega
        · omega
        · have := hO.pr w; omega⟩
      rw [G1 9 1 24 (by omega), m6] at hm
      exact hm
    refine ⟨s1, ?_, FW.of m1 (fun k i j h1 h2 h3 => by rw [G1 k i j (by omega)]; exact m5 k i j (by omega) (by omega)) m4, ⟨m1.1, m1.2.1, m1.2.2, m2, m3⟩, hm, ?_, by rw [G1 9 1 3 (by omega)]; exact m8, by rw [G1 9 1 9 (by omega)]; exact m5 9 1 9 (by omega) (by omega), fun j => by rw [G1 10 22 j (by omega)]; exact m5 10 22 j (by omega) (by omega), fun j h1 h2 => by rw [G1 9 1 j (by omega)]; exact m5 9 1 j (by omega) (by omega)⟩
    · rw [z1]
      unfold f_X9_tell_b64 f_X9_ended f_X9_ended_b15
      rw [if_neg e10, if_neg e10, if_neg hnz]
      simp only [lt]
      rw [if_neg e10]
      simp only [bI]
      have h31 : gI (sI s9 9 1 33 (nI f.2)) 9 1 31 = gI s9 9 1 31 := by rw [gI_sI, if_neg (by omega)]
      rw [z3.2.1, h31, if_neg hnz, z3.1]
    · show gI (sI s9 9 1 33 (nI f.2)) 9 1 33 = _
      rw [gI_sI, if_pos ⟨rfl, rfl, rfl⟩]
  · obtain ⟨s9, z1, z2, z3, z4, z5, z6⟩ := a2 c hc
    obtain ⟨m1, ⟨m2, m3, m4⟩, m5, m6, m7, m8⟩ := mid s9 z2
    obtain ⟨s1, y1, y2, y3, y4, y5, y6, y7, y8, y9⟩ := X9_tend (fu := fu) z6 z5 z3 hW (by omega)
    obtain ⟨w1, w2⟩ := fiT_w hW.1
    have hV := VP_ts w1 w2
    have G : ∀ k i j, ¬ (k = 9 ∧ i = 1 ∧ (j = 3 ∨ (24 ≤ j ∧ j ≤ 33) ∨ (37 ≤ j ∧ j ≤ 39) ∨ j = 7 ∨ j = 8 ∨ j = 9 ∨ j = 22)) → ¬ (k = 10 ∧ ((31 ≤ i ∧ i ≤ 33) ∨ (20 ≤ i ∧ i ≤ 22))) → ¬ (k = 13 ∧ i = 1) → gI s1 k i j = gI s k i j := fun k i j h1 h2 h3 => by
      rw [y2.2 k i j (fun w => h1 (by omega)) (fun w => h2 (by omega)) h3, m5 k i j (fun w => h1 (by omega)) (fun w => h2 (by omega))]
    have r1 : gR s1 = gR s := y2.1.1.trans m1.1
    have l1 : gL s1 = gL s := y2.1.2.1.trans m1.2.1
    have n1 : gN s1 = gN s := y2.1.2.2.1.trans m1.2.2
    have hL1 : Lay s1 := hL.same r1 l1 n1
    obtain ⟨⟨-, -, -, ⟨d1, d2, d3⟩, ⟨t1, t2, t3, t4⟩, -⟩, -, ⟨k1, k2, k3, k4, k5⟩, ⟨-, -, hU3⟩, -⟩ := id h
    rw [lr_9_1_11 hL] at d3
    have hfl := fm_le c.2.2
    have h150 := hW.2.2.2
    refine ⟨s1, by rw [z1]; exact y1, FW.of ⟨r1, l1, n1⟩ (fun k i j h1 h2 h3 => G k i j (by omega) (by omega) (by omega)) (y2.1.2.2.2.2.2.trans m4), ⟨r1, l1, n1, y2.1.2.2.2.1.trans m2, y2.1.2.2.2.2.1.trans m3⟩, ⟨⟨hL1, ⟨⟨by rw [lr_9_1_4 hL1, lr_9_1_5 hL1]; decide, by rw [lr_9_1_4 hL1, lr_9_1_5 hL1, ll_10_20 hL1, ll_10_21 hL1]; decide, y4, fun i hi => ?_⟩, hV⟩, ⟨fun i hi => ?_, ⟨List.nodup_nil, fun i hi => (by cases hi), Nat.zero_le 10⟩⟩, ⟨by rw [lr_9_1_11 hL1]; decide, by rw [lr_9_1_11 hL1, ll_10_23 hL1], fun i hi => by rw [lr_9_1_11 hL1, G 10 23 i (by omega) (by omega) (by omega)]; exact d3 i hi⟩, ⟨by rw [r1]; exact t1, ?_, ?_, fun i hi j w hw => (by cases hw)⟩, ⟨fun i hi => List.Pairwise.nil, ?_⟩, fun i hi w hw => (by cases hw)⟩, fun i hi => (by cases hi), ⟨y5, ?_, ?_, ?_, ?_⟩, ⟨us_pw.mpr List.Pairwise.nil, fun i hi => (by cases hi), ?_⟩, hO.eq r1 l1 n1⟩, ?_, ?_, ⟨y6, by omega, fun j v hj => by rw [lr_9_1_6 hL1]; exact y7 j v hj⟩, fun j h1 h2 => G 9 1 j (by omega) (by omega) (by omega)⟩
    · have hs := y3 i _ (getD_some hi)
      rw [lr_9_1_4 hL1, lr_9_1_5 hL1, hs.1, hs.2]
      obtain ⟨b1, b2⟩ := w1.2.1 _ (List.mem_of_getElem? (getD_some hi))
      exact ⟨nu_nI (by omega), nu_nI (by omega)⟩
    · rw [y8 i hi]
      show (0 : Int32) = if i ∈ ([] : List Nat) then 1 else 0
      rw [if_neg (by simp)]
    · show off (fun _ => ([] : List Pt)) 10 ≤ _ ∧ off (fun _ => ([] : List Pt)) 10 ≤ _ ∧ off (fun _ => ([] : List Pt)) 10 ≤ _
      rw [off_nil]
      exact ⟨Nat.zero_le _, Nat.zero_le _, Nat.zero_le _⟩
    · show _ = nI (off (fun _ => ([] : List Pt)) 10)
      rw [off_nil, y9]
      rfl
    · show off (fun _ => ([] : List Pt)) 10 ≤ 40000
      rw [off_nil]
      omega
    · show gI s1 9 1 24 = 0
      rw [y2.2 9 1 24 (by omega) (by omega) (by omega)]; exact m6
    · rw [G 9 1 16 (by omega) (by omega) (by omega)]; exact k3
    · rw [G 9 1 17 (by omega) (by omega) (by omega)]; exact k4
    · rw [G 9 1 18 (by omega) (by omega) (by omega)]; exact k5
    · rw [G 9 1 15 (by omega) (by omega) (by omega)]; exact hU3
    · rw [y2.2 9 1 33 (by omega) (by omega) (by omega)]; exact m7
    · rw [y2.2 9 1 3 (by omega) (by omega) (by omega)]; exact m8
theorem P_tell (h : INV s p n S K mo x u l L y g) (hg : g + 6 ≤ 100000) (hfu : 50000 ≤ fu) (a : Int32) :
    Thw s p n S K mo x u l L y (g + 6) (f_X8_tell fu s 1 a) (fun s1 => f_X9_tell fu s1 1 a) := by
  have e10 : ¬ (1 = 0) := by decide
  have h' := h
  obtain ⟨⟨hC, hM, hD, hA⟩, ⟨hAC, hAM, haw⟩, ⟨hwC, hwM⟩, ⟨-, h13⟩, hTap, ⟨⟨bd1, bd2⟩, bd3⟩⟩ := h
  obtain ⟨t1, t2, -⟩ := id hTap
  have hl14 : gI s 8 1 14 = nI l := hC.2.2.2.2.2.1.trans t1
  have hL := hC.1.1.1
  have hp := hC.1.2.1.1
  have hq12 : 3 - p = 1 ∨ 3 - p = 2 := by omega
  have hrp := sp_row hL hp
  by_cases hv : 0 ≤ a.toInt ∧ a.toInt ≤ l
  · refine Or.inr ?_
    obtain ⟨N, hN, rfl⟩ : ∃ N : Nat, N ≤ l ∧ a = nI N := ⟨a.toInt.toNat, by omega, nu_toN (by omega)⟩
    obtain ⟨T, hT⟩ := hTap.t
    obtain ⟨A1, A2⟩ := X8_tell (fu := fu) hC h13 (T := T) (N := N) (fun j hj => ⟨(hT j (by omega)).1, (hT j (by omega)).2.2⟩) t1 hN t2 hfu
    cases hr : aCs T N 601 (lex T N 0) cl0 with
    | inl f =>
      obtain ⟨s1, y1, y2, y3, y4, y5⟩ := A1 f hr
      refine ⟨s1, _, y1, y3.1.1.1, fun o => ?_⟩
      have hM1 := (hM.tl y2 hq12).out o
      have hD0 := hD.tl y2
      have hD1 : DJ (outS s1 o) := hD0
      have hC1 := y3.out o
      have hO1 := hM1.2.2.2.2
      have hL1 := hC1.1.1.1
      obtain ⟨k1, k2⟩ := tl_sk y2
      obtain ⟨B1, -⟩ := X9_tell (fu := fu) hM1 (T := T) (N := N) (fun j hj => ⟨(hT j (by omega)).1, by show gI s1 10 30 j = _; rw [y2.2.2 10 30 j (by omega) (by omega) (by omega) (by omega) (by omega) (by omega)]; exact (hT j (by omega)).2.1⟩) t1 hN t2 hfu
      obtain ⟨s2, z1, z2, z3, z4, z5, z6, z7, z8, z9⟩ := B1 f hr
      obtain ⟨-, -, hsk⟩ := hC1.1.fw z2 hO1 hD1
      refine ⟨s2, p, n, S, K, mo, tpA x 0, u, L, y, z1, z6, ?_, ⟨⟨hC1.fw z2 hO1 hD1, z4, hD1.fw z2 hC1.1.2.2, hA.tp 0⟩, ⟨?_, ?_, haw⟩, ⟨fun w hw => ?_, ?_⟩, ⟨?_, ?_⟩, ⟨rfl, by omega, fun j hj => by omega⟩, ?_⟩, by show 6 * off (xP x) 10 ≤ _; omega, by omega⟩
      · rw [z2.2.2.2.2.2 11 1 0 (fun _ => ln_11 hL1) (by decide), gJ_sJ, if_pos ⟨rfl, rfl, rfl⟩]
      · have a1 : AlC (outS s1 o) (gR (outS s1 o) 2 p 2) L := by
          show AlC (outS s1 o) (gR s1 2 p 2) L
          rw [y2.1 2 p 2 (by omega), hrp.1.2.2]
          rw [hrp.1.2.2] at hAC
          refine hAC.cong (fun j => y2.1 0 p j (by omega)) ⟨by show gL s1 10 _ = _; rw [y2.2.1.1], by show gL s1 10 _ = _; rw [y2.2.1.1]⟩ (y2.2.2 0 p 2 (by omega) (by omega) (by omega) (by omega) (by omega) (by omega)) (fun j => ?_) (fun j => ?_)
          · rw [hrp.2.1.1]; exact y2.2.2 10 _ j (by omega) (by omega) (by omega) (by omega) (by omega) (by omega)
          · rw [hrp.2.1.2]; exact y2.2.2 10 _ j (by omega) (by omega) (by omega) (by omega) (by omega) (by omega)
        exact a1.fw hC1.1 z2 hO1
      · obtain ⟨q1, q2, q3⟩ := hAM
        refine ⟨by rw [z7]; show gI s1 9 1 9 = _; rw [y2.2.2 9 1 9 (by omega) (by omega) (by omega) (by omega) (by omega) (by omega)]; exact q1, q2, fun j v hj => ?_⟩
        rw [lr_9_1_6 (hL1.fw z2), z8]
        have := q3 j v hj
        rw [lr_9_1_6 hL] at this
        show gI s1 10 22 j = v
        rw [y2.2.2 10 22 j (by omega) (by omega) (by omega) (by omega) (by omega) (by omega)]
        exact this
      · rw [FW.crow z2 hL1 hO1 (by omega)]
        show gI s1 10 11 w = _
        rw [y2.2.2 10 11 w (by omega) (by omega) (by omega) (by omega) (by omega) (by omega)]
        exact hwC w hw
      · obtain ⟨q1, q2, q3, q4⟩ := hwM
        have e9 : ∀ j, gI (outS s1 o) 9 1 j = gI s 9 1 j := fun j => y2.2.2 9 1 j (by omega) (by omega) (by omega) (by omega) (by omega) (by omega)
        exact ⟨by rw [z9 40 (by omega) (by omega), e9]; exact q1, by rw [z9 41 (by omega) (by omega), e9]; exact q2, by rw [z9 42 (by omega) (by omega), e9]; exact q3, by rw [z9 43 (by omega) (by omega), e9]; exact q4⟩
      · rw [FW.i z2 (by decide) (by decide) (by decide) (by decide), z5]; exact y4
      · rw [FW.r z2 (by decide) (by decide) (by decide)]
        show gR s1 8 1 13 = _
        rw [y5]; exact h13
      · obtain ⟨-, -, -, c5, c6⟩ := id z3
        have j1 : cn (outS s1 o) = cn s := y2.2.1.2.2.1
        have j2 : sn (outS s1 o) = sn s := y2.2.1.2.2.2.1
        have j3 : mS s2 = mS s := by
          have : mS s2 = mS (outS s1 o) := by unfold mS; rw [z3.1, z3.2.1]
          rw [this]; exact k2
        have j4 : skn s2 10 = skn s 10 := by rw [hsk]; exact k1
        exact ⟨⟨by omega, by omega⟩, by omega⟩
    | inr c =>
      obtain ⟨s1, y1, y2, y3, y4, y5, y6, y7⟩ := A2 c hr
      refine ⟨s1, _, y1, y3.1.1.1, fun o => ?_⟩
      have hM1 := (hM.tl y2 hq12).out o
      have hD0 := hD.tl y2
      have hD1 : DJ (outS s1 o) := hD0
      have hC1 := y3.out o
      have hO1 := hM1.2.2.2.2
      have hL1 := hC1.1.1.1
      obtain ⟨k1, k2⟩ := tl_sk y2
      obtain ⟨-, B2⟩ := X9_tell (fu := fu) hM1 (T := T) (N := N) (fun j hj => ⟨(hT j (by omega)).1, by show gI s1 10 30 j = _; rw [y2.2.2 10 30 j (by omega) (by omega) (by omega) (by omega) (by omega) (by omega)]; exact (hT j (by omega)).2.1⟩) t1 hN t2 hfu
      obtain ⟨s2, z1, z2, z3, z4, z5, z6, z7, z9⟩ := B2 c hr y5
      obtain ⟨-, -, hsk⟩ := hC1.1.fw z2 hO1 hD1
      refine ⟨s2, 3 - p, _, _, _, c.2.1, teA x, u, c.2.2, y, z1, z6, ?_, ⟨⟨hC1.fw z2 hO1 hD1, z4, hD1.fw z2 hC1.1.2.2, ⟨fun i hi => (by cases hi), fun i _ _ => rfl, Nat.zero_le _, y5.2.1⟩⟩, ⟨?_, z7, y5.2.2.1⟩, ⟨fun w hw => ?_, ?_⟩, ⟨?_, ?_⟩, ⟨rfl, by omega, fun j hj => by omega⟩, ?_⟩, by show 6 * off (fun _ => ([] : List Pt)) 10 ≤ _; rw [off_nil]; omega, by omega⟩
      · rw [z2.2.2.2.2.2 11 1 0 (fun _ => ln_11 hL1) (by decide), gJ_sJ, if_pos ⟨rfl, rfl, rfl⟩]
      · have a1 : AlC (outS s1 o) (gR (outS s1 o) 2 (3 - p) 2) c.2.2 := y4
        exact a1.fw hC1.1 z2 hO1
      · rw [FW.crow z2 hL1 hO1 (by omega)]
        show gI s1 10 11 w = _
        rw [y2.2.2 10 11 w (by omega) (by omega) (by omega) (by omega) (by omega) (by omega)]
        exact hwC w hw
      · obtain ⟨q1, q2, q3, q4⟩ := hwM
        have e9 : ∀ j, gI (outS s1 o) 9 1 j = gI s 9 1 j := fun j => y2.2.2 9 1 j (by omega) (by omega) (by omega) (by omega) (by omega) (by omega)
        exact ⟨by rw [z9 40 (by omega) (by omega), e9]; exact q1, by rw [z9 41 (by omega) (by omega), e9]; exact q2, by rw [z9 42 (by omega) (by omega), e9]; exact q3, by rw [z9 43 (by omega) (by omega), e9]; exact q4⟩
      · rw [FW.i z2 (by decide) (by decide) (by decide) (by decide), z5]; exact y6
      · rw [FW.r z2 (by decide) (by decide) (by decide)]
        show gR s1 8 1 13 = _
        rw [y7]; omega
      · obtain ⟨-, -, -, c5, c6⟩ := id z3
        have j1 : cn (outS s1 o) = cn s := y2.2.1.2.2.1
        have j2 : sn (outS s1 o) = sn s := y2.2.1.2.2.2.1
        have j3 : mS s2 = mS s := by
          have : mS s2 = mS (outS s1 o) := by unfold mS; rw [z3.1, z3.2.1]
          rw [this]; exact k2
        have j4 : skn s2 10 = skn s 10 := by rw [hsk]; exact k1
        exact ⟨⟨by omega, by omega⟩, by omega⟩
  · refine Or.inl ⟨nX s, sI (sI (nX s) 9 1 3 0) 9 1 3 1, 0, ?_, ?_, by rw [gI_sI, if_pos ⟨rfl, rfl, rfl⟩], h'.look hg (CZ.x (CZ.rf s)) ((MS.s9 (nX s) (Or.inl rfl) 0).tr (MS.s9 _ (Or.inl rfl) 1))⟩
    · have hb12 : f_X8_tell_b12 fu s = some (nX s, .inl 2) := by
        unfold f_X8_tell_b12
        rw [if_neg (by rw [h'.rmb hg]; decide)]
      unfold f_X8_tell
      by_cases c : a < 0
      · rw [if_pos c]; exact hb12
      · rw [if_neg c, if_neg e10, hl14, if_neg (fun w => hv ⟨by rw [nu_lt, nu_0] at c; omega, by rw [nu_le, nu_nI (by omega)] at w; exact w⟩)]; exact hb12
    · have hb17 : f_X9_tell_b17 fu (sI (nX s) 9 1 3 0) 1 = some (sI (sI (nX s) 9 1 3 0) 9 1 3 1, 0) := by
        unfold f_X9_tell_b17
        rw [if_neg e10, X9_fail]
        rfl
      have g24 : gI (sI (nX s) 9 1 3 0) 9 1 24 = nI l := by rw [gI_sI, if_neg (by omega)]; exact hM.2.2.1.2.1.trans t1
      show f_X9_tell fu (nX s) 1 a = _
      unfold f_X9_tell
      rw [if_neg e10]
      simp only [lt]
      by_cases c : a < 0
      · rw [if_pos c]; exact hb17
      · rw [if_neg c, g24, if_neg (fun w => hv ⟨by rw [nu_lt, nu_0] at c; omega, by rw [nu_le, nu_nI (by omega)] at w; exact w⟩)]; exact hb17
end TLM
