/-! ===== the class: rows are made for an ID once ===== -/
section INN
variable {s : St} {o p : Nat}
theorem inS_j (s : St) (o p : Nat) {j : Nat} (hj : ¬ j = 0) : gR (inS s o p) 5 o j = gR (mkI (mkI (mkJ (mkI (mkI (mkI (mkI s o 1 4) o 2 4) o 3 16) o 4 16) o 16) o 6 16) o 7 16) 5 o j := by
  unfold inS
  rw [gR_sR, if_neg (fun q => hj q.2.2)]
  rfl
theorem inS_new (s : St) (o p : Nat) : (∀ j, Jn j → gN s 10 < gR (inS s o p) 5 o j) ∧ gN s 11 < gR (inS s o p) 5 o 5 := by
  have n1 : gN (mkI s o 1 4) 10 = gN s 10 + 1 := by rw [mkI_N, if_pos rfl]
  have m1 : gN (mkI s o 1 4) 11 = gN s 11 := by rw [mkI_N, if_neg (by decide)]
  generalize e1 : mkI s o 1 4 = s1 at n1 m1
  have n2 : gN (mkI s1 o 2 4) 10 = gN s1 10 + 1 := by rw [mkI_N, if_pos rfl]
  have m2 : gN (mkI s1 o 2 4) 11 = gN s1 11 := by rw [mkI_N, if_neg (by decide)]
  generalize e2 : mkI s1 o 2 4 = s2 at n2 m2
  have n3 : gN (mkI s2 o 3 16) 10 = gN s2 10 + 1 := by rw [mkI_N, if_pos rfl]
  have m3 : gN (mkI s2 o 3 16) 11 = gN s2 11 := by rw [mkI_N, if_neg (by decide)]
  generalize e3 : mkI s2 o 3 16 = s3 at n3 m3
  have n4 : gN (mkI s3 o 4 16) 10 = gN s3 10 + 1 := by rw [mkI_N, if_pos rfl]
  have m4 : gN (mkI s3 o 4 16) 11 = gN s3 11 := by rw [mkI_N, if_neg (by decide)]
  generalize e4 : mkI s3 o 4 16 = s4 at n4 m4
  have n5 : gN (mkJ s4 o 16) 10 = gN s4 10 := by rw [mkJ_N, if_neg (by decide)]
  generalize e5 : mkJ s4 o 16 = s5 at n5
  have n6 : gN (mkI s5 o 6 16) 10 = gN s5 10 + 1 := by rw [mkI_N, if_pos rfl]
  generalize e6 : mkI s5 o 6 16 = s6 at n6
  have k7 : ∀ j, ¬ j = 7 → gR (mkI s6 o 7 16) 5 o j = gR s6 5 o j := fun j hj => by rw [mkI_R, if_neg hj]
  have k6 : ∀ j, ¬ j = 6 → gR s6 5 o j = gR s5 5 o j := fun j hj => by rw [← e6, mkI_R, if_neg hj]
  have k5 : ∀ j, ¬ j = 5 → gR s5 5 o j = gR s4 5 o j := fun j hj => by rw [← e5, mkJ_R, if_neg hj]
  have k4 : ∀ j, ¬ j = 4 → gR s4 5 o j = gR s3 5 o j := fun j hj => by rw [← e4, mkI_R, if_neg hj]
  have k3 : ∀ j, ¬ j = 3 → gR s3 5 o j = gR s2 5 o j := fun j hj => by rw [← e3, mkI_R, if_neg hj]
  have k2 : ∀ j, ¬ j = 2 → gR s2 5 o j = gR s1 5 o j := fun j hj => by rw [← e2, mkI_R, if_neg hj]
  have v7 : gR (mkI s6 o 7 16) 5 o 7 = gN s6 10 + 1 := by rw [mkI_R, if_pos rfl]
  have v6 : gR s6 5 o 6 = gN s5 10 + 1 := by rw [← e6, mkI_R, if_pos rfl]
  have v5 : gR s5 5 o 5 = gN s4 11 + 1 := by rw [← e5, mkJ_R, if_pos rfl]
  have v4 : gR s4 5 o 4 = gN s3 10 + 1 := by rw [← e4, mkI_R, if_pos rfl]
  have v3 : gR s3 5 o 3 = gN s2 10 + 1 := by rw [← e3, mkI_R, if_pos rfl]
  have v2 : gR s2 5 o 2 = gN s1 10 + 1 := by rw [← e2, mkI_R, if_pos rfl]
  have v1 : gR s1 5 o 1 = gN s 10 + 1 := by rw [← e1, mkI_R, if_pos rfl]
  have J : ∀ j, ¬ j = 0 → gR (inS s o p) 5 o j = gR (mkI s6 o 7 16) 5 o j := fun j hj => by rw [inS_j s o p hj, e1, e2, e3, e4, e5, e6]
  refine ⟨fun j hj => ?_, ?_⟩
  · rcases hj with rfl | rfl | rfl | rfl | rfl | rfl
    · rw [J 1 (by decide), k7 1 (by decide), k6 1 (by decide), k5 1 (by decide), k4 1 (by decide), k3 1 (by decide), k2 1 (by decide), v1]; omega
    · rw [J 2 (by decide), k7 2 (by decide), k6 2 (by decide), k5 2 (by decide), k4 2 (by decide), k3 2 (by decide), v2]; omega
    · rw [J 3 (by decide), k7 3 (by decide), k6 3 (by decide), k5 3 (by decide), k4 3 (by decide), v3]; omega
    · rw [J 4 (by decide), k7 4 (by decide), k6 4 (by decide), k5 4 (by decide), v4]; omega
    · rw [J 6 (by decide), k7 6 (by decide), v6]; omega
    · rw [J 7 (by decide), v7]; omega
  · rw [J 5 (by decide), k7 5 (by decide), k6 5 (by decide), v5]; omega
end INN
section NEW2
variable {s : St} {p n fu : Nat} {S K : Nat → Int}
theorem Bas.new (h : Bas s p n S K) {id : Nat} (hid : id < 10) (h0 : gR s 14 1 id = 0) (hr1 : cn s + 8 ≤ 601024) (hr2 : sn s + 99 ≤ 7293034) :
    ∃ s', f_X8_rowsOf fu s 1 (nI id) = some (s', gR s' 14 1 id) ∧ ¬ gR s' 14 1 id = 0 ∧ Bas s' p n S K ∧ CF s s' ∧ (∀ h0 L i, i < 10 → SerI s p n S K h0 L i → SerI s' p n S K h0 L i) ∧ (∀ i, i < 10 → ¬ gR s 14 1 i = 0 → gR s' 14 1 i = gR s 14 1 i) ∧ (∀ i j, i < 10 → ¬ gR s 14 1 i = 0 → gI s' 5 (gR s 14 1 i) j = gI s 5 (gR s 14 1 i) j) ∧ Rmc s s' ∧ (∀ k i j, ¬ k = 5 → ¬ k = 10 → ¬ k = 11 → gI s' k i j = gI s k i j) ∧ (∀ a j, a ≤ gN s 10 → gI s' 10 a j = gI s 10 a j) := by
  have e10 : ¬ (1 = 0) := by decide
  obtain ⟨⟨hL, hS⟩, ⟨hp, hp12, hPl, hV⟩, hO⟩ := h
  have b : inb (nI id) 10 = true := nu_inbn (by omega) (by omega)
  have hN10 := ln_10 hL
  have hN11 := ln_11 hL
  let o := gN s 5 + 1
  let s5 := nW s 5 0 11
  have rr : rmb s5 = true := rmb_of (by show cn s + 1 ≤ _; omega) (by show sn s + 11 ≤ _; omega)
  have c5 : cn s5 = cn s + 1 := rfl
  have d5 : sn s5 = sn s + 11 := rfl
  have q5N : ∀ k, gN s5 k = if k = 5 then o else gN s k := fun k => gN_nW s 5 0 11 k
  have g8 : gR s5 8 1 12 = p := by
    show gR (nW s 5 0 11) 8 1 12 = p
    rw [gR_nW, if_neg (by omega)]; exact hp12
  obtain ⟨hOw, hAF, hc7, hs7⟩ := inS_own (s := s5) (o := o) (p := p) ⟨by show ¬ gN s 5 + 1 = 0; omega, by rw [q5N, if_pos rfl]; exact Nat.le_refl _⟩ (by rw [q5N, if_neg (by decide)]; exact hN10) (by rw [q5N, if_neg (by decide)]; exact hN11)
  obtain ⟨hn1, hn2⟩ := inS_new s5 o p
  have hini : f_X5_init fu s5 o p = some (inS s5 o p) := X5_init_e (by show ¬ gN s 5 + 1 = 0; omega) (by omega) (by omega)
  generalize hs7e : inS s5 o p = s7 at hOw hAF hc7 hs7 hn1 hn2 hini
  obtain ⟨a1, a2, a3, a4, a5⟩ := hAF
  have q5le : ∀ k, gN s k ≤ gN s5 k := fun k => by
    rw [q5N]
    by_cases c : k = 5
    · rw [if_pos c, c]; show gN s 5 ≤ gN s 5 + 1; omega
    · rw [if_neg c]; exact Nat.le_refl _
  have hnw : ∀ {k i : Nat}, nwk s k i → nwk s5 k i := fun hk => nwk_le q5le hk
  -- all but what is new stays
  have R : ∀ k i j, nwk s k i → ¬ (k = 5 ∧ i = o) → gR s7 k i j = gR s k i j := fun k i j hk hn => by
    rw [a1 k i j (hnw hk) hn]; show gR (nW s 5 0 11) k i j = _; rw [gR_nW, if_neg hn]
  have L : ∀ k i, nwk s k i → ¬ (k = 5 ∧ i = o) → gL s7 k i = gL s k i := fun k i hk hn => by
    rw [a2 k i (hnw hk)]; show gL (nW s 5 0 11) k i = _; rw [gL_nW, if_neg hn]
  have I : ∀ k i j, nwk s k i → ¬ (k = 5 ∧ i = o) → gI s7 k i j = gI s k i j := fun k i j hk hn => by
    rw [a4 k i j (hnw hk) hn]; show gI (nW s 5 0 11) k i j = _; rw [gI_nW, if_neg hn]
  have J : ∀ k i j, nwk s k i → ¬ (k = 5 ∧ i = o) → gJ s7 k i j = gJ s k i j := fun k i j hk hn => by
    rw [a5 k i j (hnw hk)]; show gJ (nW s 5 0 11) k i j = _; rw [gJ_nW, if_neg hn]
  have N : ∀ k, gN s k ≤ gN s7 k ∧ (¬ k = 5 → ¬ k = 10 → ¬ k = 11 → gN s7 k = gN s k) := fun k => by
    have w1 := a3 k
    have w2 := q5N k
    refine ⟨Nat.le_trans (q5le k) w1.1, fun k5 k10 k11 => by rw [w1.2 k10 k11, w2, if_neg k5]⟩
  have N10 : gN s5 10 = gN s 10 := by rw [q5N, if_neg (by decide)]
  have N11 : gN s5 11 = gN s 11 := by rw [q5N, if_neg (by decide)]
  rw [N10] at hn1
  rw [N11] at hn2
  let s9 := sR s7 14 1 id o
  have r9 : ∀ k i j, gR s9 k i j = if k = 14 ∧ i = 1 ∧ j = id then o else gR s7 k i j := fun k i j => gR_sR s7 14 1 id o k i j
  have r14 : gR s9 14 1 id = o := by rw [r9, if_pos ⟨rfl, rfl, rfl⟩]
  have r14n : ∀ i, ¬ i = id → gR s9 14 1 i = gR s 14 1 i := fun i hi => by rw [r9, if_neg (fun q => hi q.2.2), R 14 1 i (fun q => by omega) (fun q => by omega)]
  have r5 : ∀ o' j, gR s9 5 o' j = gR s7 5 o' j := fun o' j => by rw [r9, if_neg (fun q => by omega)]
  have olt : ∀ i, i < 10 → ¬ gR s 14 1 i = 0 → gR s 14 1 i ≤ gN s 5 := fun i hi h1 => by
    obtain ⟨c0, e0, h2, -⟩ := hO.1 i hi h1
    exact h2.1.2
  have one : ∀ i, i < 10 → ¬ gR s 14 1 i = 0 → ¬ gR s 14 1 i = o := fun i hi h1 q => by have := olt i hi h1; have : gR s 14 1 i = gN s 5 + 1 := q; omega
  have r5n : ∀ i j, i < 10 → ¬ gR s 14 1 i = 0 → gR s9 5 (gR s 14 1 i) j = gR s 5 (gR s 14 1 i) j := fun i j hi h1 => by rw [r5, R 5 _ j (fun q => by omega) (fun q => one i hi h1 q.2)]
  have lt10 : ∀ i j, i < 10 → ¬ gR s 14 1 i = 0 → Jn j → gR s 5 (gR s 14 1 i) j ≤ gN s 10 := fun i j hi h1 hj => by
    obtain ⟨c0, e0, h2, -⟩ := hO.1 i hi h1
    exact (h2.2.1 j hj).2
  have lt11 : ∀ i, i < 10 → ¬ gR s 14 1 i = 0 → gR s 5 (gR s 14 1 i) 5 ≤ gN s 11 := fun i hi h1 => by
    obtain ⟨c0, e0, h2, -⟩ := hO.1 i hi h1
    exact h2.2.2.1.2
  have hid' : ∀ i, ¬ gR s 14 1 i = 0 → ¬ i = id := fun i h1 q => h1 (by rw [q]; exact h0)
  have hOw9 : OwnC s9 o c16 := hOw.cong (fun j => r5 o j) ⟨Nat.le_refl _, Nat.le_refl _, Nat.le_refl _⟩ (fun _ _ => rfl) rfl
  have hCF : CF s s9 := by
    refine ⟨fun k i j k5 k10 k11 k14 => by rw [r9, if_neg (fun q => k14 q.1), R k i j (fun q => by omega) (fun q => k5 q.1)], fun k i hk k5 => L k i hk (fun q => k5 q.1), N, fun k i j hk k5 _ _ _ _ => I k i j hk (fun q => k5 q.1), fun k i j hk k5 k6 k11 => ?_, fun a ha => ?_, fun a ha => ?_⟩
    · exact J k i j hk (fun q => k5 q.1)
    · rcases ha with q | ⟨i, j, hi, hoi, hj, e⟩
      · exact Or.inl (Or.inl q)
      · by_cases q : i = id
        · rw [q, r14, r5] at e
          exact Or.inr (by rw [e]; exact hn1 j hj)
        · rw [r14n i q] at hoi e
          rw [r5n i j hi hoi] at e
          exact Or.inl (Or.inr ⟨i, j, hi, hoi, hj, e⟩)
    · obtain ⟨i, hi, hoi, e⟩ := ha
      by_cases q : i = id
      · rw [q, r14, r5] at e
        exact Or.inr (by rw [e]; exact hn2)
      · rw [r14n i q] at hoi e
        rw [r5n i 5 hi hoi] at e
        exact Or.inl ⟨i, hi, hoi, e⟩
  have hPl' := hPl.cf hL hS hp hCF
  have hmove : ∀ h0 L i, i < 10 → SerI s p n S K h0 L i → SerI s9 p n S K h0 L i := fun h1 L' i hi hI => by
    obtain ⟨h00, GG, g1, g2, g3⟩ := hI
    have q := hid' i h00
    refine ⟨by rw [r14n i q]; exact h00, GG, g1, g2, ?_⟩
    rw [r14n i q]
    exact g3.cong hPl' (fun j => r5n i j hi h00) (I 5 _ 8 (fun q => by omega) (fun q => one i hi h00 q.2)) (fun j hj => L 10 _ (fun _ => lt10 i j hi h00 hj) (fun q => by omega)) (L 11 _ (fun _ => lt11 i hi h00) (fun q => by omega)) (fun j m hj => I 10 _ m (fun _ => lt10 i j hi h00 hj) (fun q => by omega)) (fun m => J 11 _ m (fun _ => lt11 i hi h00) (fun q => by omega))
  refine ⟨s9, ?_, by rw [r14]; show ¬ gN s 5 + 1 = 0; omega, ⟨⟨hL.cf hCF, fun i j hi h1 hj => ?_, fun i i' j j' hi hi' h1 h1' hj hj' e' => ?_⟩, ⟨hp, by rw [hCF.1 8 1 12 (by decide) (by decide) (by decide) (by decide)]; exact hp12, hPl', hV⟩, fun i hi h1 => ?_, fun i i' hi hi' h1 h1' => ?_⟩, hCF, hmove, fun i _ h1 => r14n i (hid' i h1), fun i j hi h1 => I 5 _ j (fun q => by omega) (fun q => one i hi h1 q.2), ?_, fun k i j k5 k10 k11 => I k i j (fun q => by omega) (fun q => k5 q.1), fun a j ha => I 10 a j (fun _ => ha) (fun q => by omega)⟩
  · have l14 : gL s7 14 1 = 10 := by rw [L 14 1 (fun q => by omega) (fun q => by omega)]; exact ll_14_1 hL
    have z86 : gR s9 8 1 6 = 1 := by rw [hCF.1 8 1 6 (by decide) (by decide) (by decide) (by decide)]; exact lr_8_1_6 hL
    have z14 : gL s9 14 1 = 10 := l14
    unfold f_X8_rowsOf
    simp only [e10, reduceIte, lr_8_1_6 hL, ll_14_1 hL, b, Bool.true_eq_false, nu_ixn (show id < 2147483648 by omega), h0, lt]
    show (if rmb s5 = false then none else bV (f_X5_init fu s5 o (gR s5 8 1 12)) _) = _
    rw [if_neg (by rw [rr]; decide), g8, hini]
    simp only [bV]
    rw [if_neg (by rw [l14, b]; decide)]
    show f_X8_rowsOf_b26 fu s9 1 (nI id) = _
    unfold f_X8_rowsOf_b26
    rw [if_neg e10, z86, if_neg e10, z14, if_neg (by rw [b]; decide), nu_ixn (by omega)]
  · by_cases q : i = id
    · rw [q, r14]; exact (hOw9.2.1 j hj).1
    · rw [r14n i q] at h1 ⊢
      rw [r5n i j hi h1]; exact hS.1 i j hi h1 hj
  · by_cases q : i = id
    · by_cases q' : i' = id
      · rw [q, q', r14] at e'
        exact ⟨q.trans q'.symm, hOw9.2.2.2.1 j j' hj hj' e'⟩
      · rw [r14n i' q'] at h1' e'
        rw [q, r14, r5n i' j' hi' h1', r5] at e'
        have := hn1 j hj
        have := lt10 i' j' hi' h1' hj'
        omega
    · rw [r14n i q] at h1 e'
      by_cases q' : i' = id
      · rw [q', r14, r5n i j hi h1, r5] at e'
        have := hn1 j' hj'
        have := lt10 i j hi h1 hj
        omega
      · rw [r14n i' q'] at h1' e'
        rw [r5n i j hi h1, r5n i' j' hi' h1'] at e'
        exact hS.2 i i' j j' hi hi' h1 h1' hj hj' e'
  · by_cases q : i = id
    · rw [q, r14]; exact ⟨c16, 0, hOw9, ⟨rfl, rfl, rfl, rfl, rfl⟩, by decide, rfl, rfl⟩
    · rw [r14n i q] at h1 ⊢
      obtain ⟨c0, e0, h2, h3⟩ := hO.1 i hi h1
      exact ⟨c0, e0, h2.cong (fun j => r5n i j hi h1) ⟨(N 5).1, (N 10).1, (N 11).1⟩ (fun j hj => L 10 _ (fun _ => lt10 i j hi h1 hj) (fun q => by omega)) (L 11 _ (fun _ => lt11 i hi h1) (fun q => by omega)), h3⟩
  · by_cases q : i = id
    · by_cases q' : i' = id
      · rw [q, q']; exact ⟨fun _ => rfl, fun _ => rfl⟩
      · rw [r14n i' q'] at h1' ⊢
        rw [q, r14, r5n i' 5 hi' h1', r5]
        exact ⟨fun e => absurd e.symm (one i' hi' h1'), fun e => by have := lt11 i' hi' h1'; omega⟩
    · rw [r14n i q] at h1 ⊢
      by_cases q' : i' = id
      · rw [q', r14, r5n i 5 hi h1, r5]
        exact ⟨fun e => absurd e (one i hi h1), fun e => by have := lt11 i hi h1; omega⟩
      · rw [r14n i' q'] at h1' ⊢
        rw [r5n i 5 hi h1, r5n i' 5 hi' h1']
        exact hO.2 i i' hi hi' h1 h1'
  · have k1 : ∀ i, i < 10 → ¬ i = id → kS s9 i = kS s i := fun i hi q => by
      unfold kS
      rw [r14n i q]
      by_cases h1 : gR s 14 1 i = 0
      · rw [if_pos h1, if_pos h1]
      · rw [if_neg h1, if_neg h1, r5n i 3 hi h1]
        exact L 10 _ (fun _ => lt10 i 3 hi h1 jn3) (fun q => by omega)
    have k2 := (skn_one k1 10 (Nat.le_refl _)).2 hid
    have k3 : kS s id = 0 := by unfold kS; rw [if_pos h0]
    have k4 : kS s9 id = 16 := by
      unfold kS
      rw [r14, if_neg (show ¬ o = 0 from by show ¬ gN s 5 + 1 = 0; omega)]
      exact hOw9.2.2.2.2.1 3 jn3
    have q1 : cn s9 = cn s7 := rfl
    have q2 : sn s9 = sn s7 := rfl
    unfold Rmc
    omega
end NEW2
