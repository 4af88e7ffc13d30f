/-! ===== both sides hold at the start ===== -/
def x0 : Ab := ([], fun _ => 0, fun _ => [], fun _ => 0, fun _ => 0, (0, 0, 0, 0))
theorem si_lyR : ∀ q ∈ LyR, gR si q.1 q.2.1 q.2.2.1 = q.2.2.2 := by decide +kernel
theorem si_lyL : ∀ q ∈ LyL, gL si q.1 q.2.1 = q.2.2 := by decide +kernel
theorem si_lyN : ∀ q ∈ LyN, q.2 ≤ gN si q.1 := by decide +kernel
theorem si_lay : Lay si := ⟨si_lyR, si_lyL, si_lyN⟩
theorem si_14 : ∀ i, i < 10 → gR si 14 1 i = 0 := by decide +kernel
theorem si_12 : gR si 8 1 12 = 1 ∧ gR si 8 1 13 = 2 := by decide +kernel
theorem si_2 : gI si 2 1 3 = 3 ∧ gI si 2 1 4 = 4 := by decide +kernel
theorem si_pl : ∀ i, i < 3 → gI si 10 12 i = nI (usTs.getD i (0, 0)).1 ∧ gI si 10 13 i = nI (usTs.getD i (0, 0)).2 := by decide +kernel
theorem si_pm : ∀ i, i < 3 → gI si 10 20 i = nI (usTs.getD i (0, 0)).1 ∧ gI si 10 21 i = nI (usTs.getD i (0, 0)).2 := by decide +kernel
theorem si_8 : gI si 8 1 14 = 0 ∧ gI si 8 1 15 = -1 ∧ gI si 8 1 16 = 0 ∧ gI si 8 1 17 = 0 ∧ gI si 8 1 18 = 0 ∧ gI si 4 1 2 = 0 ∧ gI si 0 1 2 = 0 := by decide +kernel
theorem si_9 : (gI si 9 1 7 = 3 ∧ gI si 9 1 8 = 4 ∧ gI si 9 1 9 = 0) ∧ (gI si 9 1 15 = 0 ∧ gI si 9 1 16 = 0 ∧ gI si 9 1 17 = 0 ∧ gI si 9 1 18 = 0 ∧ gI si 9 1 22 = 0 ∧ gI si 9 1 24 = 0 ∧ gI si 9 1 33 = -1) ∧ gI si 9 1 40 = 0 ∧ gI si 9 1 41 = 0 ∧ gI si 9 1 42 = -1 ∧ gI si 9 1 43 = -1 := by decide +kernel
theorem si_rows : ∀ i, i < 10 → gI si 13 1 i = 0 ∧ gI si 10 23 i = 0 := by decide +kernel
theorem si_wh : ∀ w, w < 4 → gI si 10 11 w = q4 (0, 0, -1, -1) w := by decide +kernel
theorem si_mj : gR si 9 1 19 = 27 ∧ gR si 9 1 20 = 28 ∧ gR si 9 1 21 = 29 ∧ gR si 9 1 46 = 35 ∧ gR si 9 1 47 = 36 ∧ gR si 9 1 48 = 37 := by decide +kernel
theorem si_ml : gL si 10 27 = 512 ∧ gL si 10 28 = 512 ∧ gL si 10 29 = 512 ∧ gL si 10 35 = 512 ∧ gL si 10 36 = 512 ∧ gL si 10 37 = 512 ∧ gN si 10 = 38 := by decide +kernel
theorem si_rm : cn si ≤ 20000 ∧ sn si ≤ 20000 := by decide +kernel
theorem nI3 : nI 3 = 3 := rfl
theorem si_own : OwnM si := by
  obtain ⟨m1, m2, m3, m4, m5, m6⟩ := si_mj
  obtain ⟨l1, l2, l3, l4, l5, l6, l7⟩ := si_ml
  have v : ∀ j, Mj j → (j = 19 ∧ gR si 9 1 j = 27) ∨ (j = 20 ∧ gR si 9 1 j = 28) ∨ (j = 21 ∧ gR si 9 1 j = 29) ∨ (j = 46 ∧ gR si 9 1 j = 35) ∨ (j = 47 ∧ gR si 9 1 j = 36) ∨ (j = 48 ∧ gR si 9 1 j = 37) := fun j hj => by
    rcases hj with rfl | rfl | rfl | rfl | rfl | rfl
    · exact Or.inl ⟨rfl, m1⟩
    · exact Or.inr (Or.inl ⟨rfl, m2⟩)
    · exact Or.inr (Or.inr (Or.inl ⟨rfl, m3⟩))
    · exact Or.inr (Or.inr (Or.inr (Or.inl ⟨rfl, m4⟩)))
    · exact Or.inr (Or.inr (Or.inr (Or.inr (Or.inl ⟨rfl, m5⟩))))
    · exact Or.inr (Or.inr (Or.inr (Or.inr (Or.inr ⟨rfl, m6⟩))))
  refine ⟨fun j hj => ?_, fun j j' hj hj' e => ?_, ?_, ?_⟩
  · have := v j hj
    rw [l7]
    omega
  · have a := v j hj
    have b := v j' hj'
    omega
  · rw [m1, m2, m3, l1, l2, l3]; omega
  · rw [m4, m5, m6, l4, l5, l6]; omega
theorem si_iv : IV si 0 := by
  have hL := si_lay
  have hV : VP 3 (spI usTs) (kpI usTs) := VP_ts usTs_w (by decide)
  obtain ⟨a12, a13⟩ := si_12
  obtain ⟨a3, a4⟩ := si_2
  obtain ⟨b14, b15, b16, b17, b18, b4, b0⟩ := si_8
  obtain ⟨⟨c7, c8, c9⟩, ⟨c15, c16, c17, c18, c22, c24, c33⟩, c40, c41, c42, c43⟩ := si_9
  obtain ⟨m1, m2, m3, -⟩ := si_mj
  obtain ⟨l1, l2, l3, -⟩ := si_ml
  obtain ⟨r1, r2⟩ := si_rm
  have tsv : ∀ i, i < 3 → (1 ≤ (usTs.getD i (0, 0)).1 ∧ (usTs.getD i (0, 0)).1 ≤ 100000) ∧ 1 ≤ (usTs.getD i (0, 0)).2 ∧ (usTs.getD i (0, 0)).2 ≤ 20 := fun i hi => usTs_w.2.1 _ (List.mem_of_getElem? (getD_some hi))
  have hB : Bas si 1 3 (spI usTs) (kpI usTs) := by
    refine ⟨⟨hL, fun i j hi h0 => absurd (si_14 i hi) h0, fun i i' j j' hi hi' h0 => absurd (si_14 i hi) h0⟩, ⟨Or.inl rfl, a12, ⟨by decide, ⟨by rw [lr_2_1_0 hL]; decide, by rw [lr_2_1_1 hL]; decide⟩, ⟨by rw [lr_2_1_0 hL]; exact ll_10_12 hL, by rw [lr_2_1_1 hL]; exact ll_10_13 hL⟩, a3, fun i hi => ?_⟩, hV⟩, fun i hi h0 => absurd (si_14 i hi) h0, fun i i' hi hi' h0 => absurd (si_14 i hi) h0⟩
    obtain ⟨p1, p2⟩ := si_pl i hi
    obtain ⟨q1, q2⟩ := tsv i hi
    rw [lr_2_1_0 hL, lr_2_1_1 hL, p1, p2]
    exact ⟨nu_nI (by omega), nu_nI (by omega)⟩
  have hC : CI si 1 3 (spI usTs) (kpI usTs) 4 x0 := by
    refine ⟨hB, ⟨⟨⟨by decide, by rw [lr_4_1_0 hL]; decide, by rw [lr_4_1_1 hL]; decide⟩, ⟨by rw [lr_4_1_0 hL]; exact ll_10_5 hL, by rw [lr_4_1_1 hL]; exact ll_10_6 hL⟩, b4, fun j i hj => (by cases hj), fun i hi => (by cases hi)⟩, ⟨List.nodup_nil, fun i hi => (by cases hi), Nat.zero_le 10⟩⟩, fun i hi => (by cases hi), fun i hi => (by cases hi), ⟨a4, b14, b16, b17, b18⟩⟩
  have hM : MI si 3 (spI usTs) (kpI usTs) 4 x0 0 := by
    refine ⟨⟨hL, ⟨⟨by rw [lr_9_1_4 hL, lr_9_1_5 hL]; decide, by rw [lr_9_1_4 hL, lr_9_1_5 hL, ll_10_20 hL, ll_10_21 hL]; decide, c7, fun i hi => ?_⟩, hV⟩, ⟨fun i hi => ?_, ⟨List.nodup_nil, fun i hi => (by cases hi), Nat.zero_le 10⟩⟩, ⟨by rw [lr_9_1_11 hL]; decide, by rw [lr_9_1_11 hL, ll_10_23 hL], fun i hi => by rw [lr_9_1_11 hL]; exact (si_rows i hi).2⟩, ⟨by rw [m1, m2, m3]; decide, ?_, ?_, fun i hi j w hw => (by cases hw)⟩, ⟨fun i hi => List.Pairwise.nil, ?_⟩, fun i hi w hw => (by cases hw)⟩, fun i hi => (by cases hi), ⟨c8, c24, c16, c17, c18⟩, ⟨us_pw.mpr List.Pairwise.nil, fun i hi => (by cases hi), c15⟩, si_own⟩
    · obtain ⟨p1, p2⟩ := si_pm i hi
      obtain ⟨q1, q2⟩ := tsv i hi
      rw [lr_9_1_4 hL, lr_9_1_5 hL, p1, p2]
      exact ⟨nu_nI (by omega), nu_nI (by omega)⟩
    · rw [(si_rows i hi).1]
      show (0 : Int32) = if i ∈ ([] : List Nat) then 1 else 0
      rw [if_neg (by simp)]
    · show off (fun _ => ([] : List Pt)) 10 ≤ _ ∧ off (fun _ => ([] : List Pt)) 10 ≤ _ ∧ off (fun _ => ([] : List Pt)) 10 ≤ _
      rw [off_nil]
      exact ⟨Nat.zero_le _, Nat.zero_le _, Nat.zero_le _⟩
    · show _ = nI (off (fun _ => ([] : List Pt)) 10)
      rw [off_nil, c22]
      rfl
    · show off (fun _ => ([] : List Pt)) 10 ≤ 40000
      rw [off_nil]
      omega
  refine ⟨1, 3, spI usTs, kpI usTs, 4, x0, 0, 0, [], (0, 0, -1, -1), ⟨⟨hC, hM, fun i j j' hi h0 => absurd (si_14 i hi) h0, ⟨fun i hi => (by cases hi), fun i _ _ => rfl, Nat.zero_le _, by decide, by decide⟩⟩, ⟨⟨⟨by rw [lr_2_1_2 hL]; decide, by rw [lr_2_1_2 hL, lr_0_1_0 hL]; decide, by rw [lr_2_1_2 hL, lr_0_1_1 hL]; decide⟩, ⟨by rw [lr_2_1_2 hL, lr_0_1_0 hL]; exact ll_10_14 hL, by rw [lr_2_1_2 hL, lr_0_1_1 hL]; exact ll_10_15 hL⟩, ⟨by rw [lr_2_1_2 hL]; exact b0, Nat.zero_le _⟩, fun k o hk => (by cases hk), fun k f r v hk => (by cases hk)⟩, ⟨c9, Nat.zero_le _, fun j v hj => (by cases hj)⟩, Or.inl rfl⟩, ⟨si_wh, c40, c41, c42, c43⟩, ⟨by rw [b15, c33], a13⟩, ⟨rfl, Nat.zero_le _, fun j hj => by omega⟩, ⟨⟨by omega, by omega⟩, by omega⟩⟩, ?_, Nat.zero_le _⟩
  show off (fun _ => ([] : List Pt)) 10 + 0 ≤ 60 * 0
  rw [off_nil]
  omega
/-- the law answers 1 -/
theorem law_one (xs : Nat → Int32) {L : Nat} (hL : L ≤ 3584) : ∃ s', f_L_law 3000000 xs L st0 = some (s', 1) := by
  rw [ini_law ini_e]
  exact law_loop hL (Nat.le_refl _) (L / 7) 0 3000000 si (by omega) (by omega) si_iv
