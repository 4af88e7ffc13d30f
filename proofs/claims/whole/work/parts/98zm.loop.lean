/-! ===== the law's loop ===== -/
section LOP
variable {s : St} {fu L c : Nat} {xs : Nat → Int32} {k23 : St → Nat → Nat → Nat → Int32 → Option (St × Int32)} {l4 : Int32}
theorem S_feed (hI : IV s c) (hc : c < 512) (hin : ∀ j : Nat, j ≤ 6 → inb (l4 + nI j) L = true) (hfu : 50000 ≤ fu) : ∃ s2, f_L_law_b156 fu xs L k23 s 1 1 1 l4 = f_L_law_b1839 fu xs L k23 s2 1 1 1 l4 ∧ IV s2 (c + 1) := by
  have e10 : ¬ (1 = 0) := by decide
  have i1 : inb (l4 + 1) L = true := hin 1 (by omega)
  have i2 : inb (l4 + 2) L = true := hin 2 (by omega)
  have i3 : inb (l4 + 3) L = true := hin 3 (by omega)
  have i4 : inb (l4 + 4) L = true := hin 4 (by omega)
  have i5 : inb (l4 + 5) L = true := hin 5 (by omega)
  obtain ⟨p, n, S, K, mo, x, u, l, La, y, h, ho, hu⟩ := hI
  obtain ⟨s1, s2, w, x', l', c1, c2, c3, c4, c5⟩ := P_feed (fu := fu) h (xs (ix (l4 + 1))) (xs (ix (l4 + 2))) (xs (ix (l4 + 3))) (xs (ix (l4 + 4))) (xs (ix (l4 + 5))) (by omega)
  refine ⟨s2, ?_, p, n, S, K, mo, x', u, l', La, y, c3.up (by omega) (by omega), by rw [c4]; omega, by omega⟩
  unfold f_L_law_b156
  simp only [i1, i2, i3, i4, i5, Bool.true_eq_false, reduceIte, e10]
  rw [c1, bI_s, c2, bI_s, if_pos rfl]
theorem S_fault (hI : IV s c) (hc : c < 512) : ∃ s2, f_L_law_b341 fu xs L k23 s 1 1 1 l4 = f_L_law_b1839 fu xs L k23 s2 1 1 1 l4 ∧ IV s2 (c + 1) := by
  have e10 : ¬ (1 = 0) := by decide
  obtain ⟨p, n, S, K, mo, x, u, l, La, y, h, ho, hu⟩ := hI
  obtain ⟨q1, q2⟩ := Q_fault (fu := fu) h.2.2.2.1.1
  refine ⟨sI s 9 1 3 0, ?_, p, n, S, K, mo, x, u, l, La, y, (h.look (by omega) (CZ.rf s).cs (MS.s9 s (Or.inl rfl) 0)).up (by omega) (by omega), by omega, by omega⟩
  unfold f_L_law_b341
  simp only [reduceIte, e10]
  rw [q1, bI_s, q2, bI_s, if_pos rfl]
theorem S_gap (hI : IV s c) (hc : c < 512) (hin : ∀ j : Nat, j ≤ 6 → inb (l4 + nI j) L = true) (hfu : 50000 ≤ fu) : ∃ s2, f_L_law_b1253 fu xs L k23 s 1 1 1 l4 = f_L_law_b1839 fu xs L k23 s2 1 1 1 l4 ∧ IV s2 (c + 1) := by
  have e10 : ¬ (1 = 0) := by decide
  have i1 : inb (l4 + 1) L = true := hin 1 (by omega)
  have i2 : inb (l4 + 2) L = true := hin 2 (by omega)
  have i3 : inb (l4 + 3) L = true := hin 3 (by omega)
  have i4 : inb (l4 + 4) L = true := hin 4 (by omega)
  obtain ⟨p, n, S, K, mo, x, u, l, La, y, h, ho, hu⟩ := hI
  have hg : ∀ d : Int32, ∃ s1 k s2 v, f_L_gap fu s 1 (xs (ix (l4 + 1))) (xs (ix (l4 + 2))) (xs (ix (l4 + 3))) d 1 = some (s1, k) ∧ f_X9_gap fu s1 1 (xs (ix (l4 + 1))) (xs (ix (l4 + 2))) (xs (ix (l4 + 3))) d = some (s2, v) ∧ gI s2 9 1 3 = k ∧ (k = 0 → gJ s2 11 1 0 = Int32.toInt64 v) ∧ INV s2 p n S K mo x u l La y (20000 + 6 * c + 6) := fun d => by
    obtain ⟨s1, kk, s2, v, y1, y2, y3, y4, y5⟩ := look_I1 (o := f_X8_gap fu s 1 (xs (ix (l4 + 1))) (xs (ix (l4 + 2))) (xs (ix (l4 + 3))) d) (fm := fun s1 => f_X9_gap fu s1 1 (xs (ix (l4 + 1))) (xs (ix (l4 + 2))) (xs (ix (l4 + 3))) d) h (by omega) (by
      obtain ⟨t1, w, q1, q2, q3⟩ := Q_gap (fu := fu) h.1.1.cq (h.rmb (by omega)) hfu (xs (ix (l4 + 1))) (xs (ix (l4 + 2))) (xs (ix (l4 + 3))) d
      exact ⟨t1, w, q1, q2, fun s' hM _ _ => q3 s' hM.1⟩)
    refine ⟨s1, kk, s2, v, ?_, y2, y3, y4, y5⟩
    rw [← y1]
    unfold f_L_gap wI1
    simp only [e10, reduceIte]
  have go : ∀ d : Int32, (∀ t, f_L_law_b1286 fu xs L k23 s 1 1 1 l4 d (xs (ix (l4 + 3))) (xs (ix (l4 + 2))) (xs (ix (l4 + 1))) 1 = bI (f_L_gap fu s 1 (xs (ix (l4 + 1))) (xs (ix (l4 + 2))) (xs (ix (l4 + 3))) d 1) t → f_L_law_b1253 fu xs L k23 s 1 1 1 l4 = bI (f_L_gap fu s 1 (xs (ix (l4 + 1))) (xs (ix (l4 + 2))) (xs (ix (l4 + 3))) d 1) t) → f_L_law_b1286 fu xs L k23 s 1 1 1 l4 d (xs (ix (l4 + 3))) (xs (ix (l4 + 2))) (xs (ix (l4 + 1))) 1 = (bI (f_L_gap fu s 1 (xs (ix (l4 + 1))) (xs (ix (l4 + 2))) (xs (ix (l4 + 3))) d 1) fun s317 x318 => f_L_law_b1325 fu xs L k23 s317 1 1 1 l4 x318 d (xs (ix (l4 + 3))) (xs (ix (l4 + 2))) (xs (ix (l4 + 1))) 1) → ∃ s2, f_L_law_b1253 fu xs L k23 s 1 1 1 l4 = f_L_law_b1839 fu xs L k23 s2 1 1 1 l4 ∧ IV s2 (c + 1) := fun d h1 h2 => by
    obtain ⟨s1, kk, s2, v, y1, y2, y3, y4, y5⟩ := hg d
    refine ⟨s2, ?_, p, n, S, K, mo, x, u, l, La, y, y5.up (by omega) (by omega), by omega, by omega⟩
    rw [h1 _ h2, y1, bI_s]
    unfold f_L_law_b1325
    simp only [e10, reduceIte]
    show blkI fu (f_X9_gap fu s1 1 (xs (ix (l4 + 1))) (xs (ix (l4 + 2))) (xs (ix (l4 + 3))) d) kk (fun s155 => f_L_law_b1358 fu xs L k23 s155 1 1 1 l4) = _
    rw [blkI_ok y5.1.1.1.1.1 y2 y3 y4]
    rfl
  by_cases c4 : xs (ix (l4 + 4)) = 0
  · refine go 0 (fun t ht => ?_) ?_
    · rw [← ht]
      unfold f_L_law_b1253
      simp only [i1, i2, i3, i4, Bool.true_eq_false, reduceIte]
      rw [if_pos c4]
    · unfold f_L_law_b1286
      simp only [i1, i2, i3, i4, Bool.true_eq_false, reduceIte, c4]
  · refine go 1 (fun t ht => ?_) ?_
    · rw [← ht]
      unfold f_L_law_b1253
      simp only [i1, i2, i3, i4, Bool.true_eq_false, reduceIte]
      rw [if_neg c4]
    · unfold f_L_law_b1286
      simp only [i1, i2, i3, i4, Bool.true_eq_false, reduceIte, c4]
theorem IV.nop (hI : IV s c) (hc : c < 512) : IV s (c + 1) := by
  obtain ⟨p, n, S, K, mo, x, u, l, La, y, h, ho, hu⟩ := hI
  exact ⟨p, n, S, K, mo, x, u, l, La, y, h.up (by omega) (by omega), by omega, by omega⟩
theorem law_loop (hL : L ≤ 3584) (hfu : 3000000 ≤ fu) : ∀ (d c m : Nat) (s : St), c + d = L / 7 → d < m → IV s c → ∃ s', f_L_law_b23 fu xs L m s 1 1 1 (nI (7 * c)) = some (s', 1) := by
  have t7 : (7 : Int32).toInt = 7 := rfl
  intro d
  induction d with
  | zero =>
    intro c m s hc hm hI
    obtain ⟨m, rfl⟩ : ∃ m', m = m' + 1 := ⟨m - 1, by omega⟩
    refine ⟨s, ?_⟩
    unfold f_L_law_b23
    rw [if_pos (show nI L - 7 < nI (7 * c) by rw [nu_lt, nu_sub (by rw [nu_nI (by omega), t7]; omega) (by rw [nu_nI (by omega), t7]; omega), nu_nI (by omega), nu_nI (by omega), t7]; omega)]
  | succ d ih =>
    intro c m s hc hm hI
    obtain ⟨m, rfl⟩ : ∃ m', m = m' + 1 := ⟨m - 1, by omega⟩
    have h7 : 7 * c + 7 ≤ L := by omega
    have hc5 : c < 512 := by omega
    have hin : ∀ j : Nat, j ≤ 6 → inb (nI (7 * c) + nI j) L = true := fun j hj => by rw [ni_add (by omega)]; exact nu_inbn (by omega) (by omega)
    have hin0 : inb (nI (7 * c)) L = true := nu_inbn (by omega) (by omega)
    have nxt : ∀ s2, IV s2 (c + 1) → ∃ s', f_L_law_b1839 fu xs L (f_L_law_b23 fu xs L m) s2 1 1 1 (nI (7 * c)) = some (s', 1) := fun s2 h2 => by
      obtain ⟨s', y1⟩ := ih (c + 1) m s2 (by omega) (by omega) h2
      refine ⟨s', ?_⟩
      unfold f_L_law_b1839
      simp only [lt]
      have e : nI (7 * c) + 7 = nI (7 * (c + 1)) := by
        have := ni_add (a := 7 * c) (b := 7) (by omega)
        have e2 : 7 * (c + 1) = 7 * c + 7 := by omega
        rw [e2, ← this]
        rfl
      rw [e]
      exact y1
    have fin : ∀ o : Option (St × Int32), (∃ s2, o = f_L_law_b1839 fu xs L (f_L_law_b23 fu xs L m) s2 1 1 1 (nI (7 * c)) ∧ IV s2 (c + 1)) → ∃ s', o = some (s', 1) := fun o ⟨s2, h1, h2⟩ => by rw [h1]; exact nxt s2 h2
    have hfu5 : 50000 ≤ fu := by omega
    unfold f_L_law_b23
    rw [if_neg (show ¬ nI L - 7 < nI (7 * c) by rw [nu_lt, nu_sub (by rw [nu_nI (by omega), t7]; omega) (by rw [nu_nI (by omega), t7]; omega), nu_nI (by omega), nu_nI (by omega), t7]; omega), if_neg (by rw [hin0]; decide)]
    simp only [lt]
    generalize (xs (ix (nI (7 * c)))) &&& 31 = op
    apply fin
    by_cases c0 : op = 0
    · rw [if_pos c0]
      exact S_feed hI hc5 hin hfu5
    rw [if_neg c0]
    by_cases c1 : op = 1
    · rw [if_pos c1]
      exact S_tell hI hc5 hin hfu5
    rw [if_neg c1]
    by_cases c2 : op = 2
    · rw [if_pos c2]
      exact S_batch hI hc5 hin hfu5
    rw [if_neg c2]
    by_cases c3 : op = 3
    · rw [if_pos c3]
      exact S_fault hI hc5
    rw [if_neg c3]
    by_cases c4 : op = 4
    · rw [if_pos c4]
      exact S_put hI hc5 hin hfu5
    rw [if_neg c4]
    by_cases c5 : op = 5
    · rw [if_pos c5]
      exact S_tick hI hc5 hin hfu5
    rw [if_neg c5]
    by_cases c6 : op = 6
    · rw [if_pos c6]
      exact S_drop hI hc5 hin hfu5
    rw [if_neg c6]
    by_cases c7 : op = 7
    · rw [if_pos c7]
      exact S_sheet hI hc5 hin hfu5
    rw [if_neg c7]
    by_cases c8 : op = 8
    · rw [if_pos c8]
      exact S_why hI hc5 hin hfu
    rw [if_neg c8]
    by_cases c9 : op = 9
    · rw [if_pos c9]
      exact S_count hI hc5 hin hfu
    rw [if_neg c9]
    by_cases c10 : op = 10
    · rw [if_pos c10]
      exact S_tier hI hc5 hin hfu
    rw [if_neg c10]
    by_cases c11 : op = 11
    · rw [if_pos c11]
      exact S_used hI hc5 hin hfu
    rw [if_neg c11]
    by_cases c12 : op = 12
    · rw [if_pos c12]
      exact S_of hI hc5 hin hfu
    rw [if_neg c12]
    by_cases c13 : op = 13
    · rw [if_pos c13]
      exact S_seam hI hc5 hin hfu
    rw [if_neg c13]
    by_cases c14 : op = 14
    · rw [if_pos c14]
      exact S_buckets hI hc5 hin hfu
    rw [if_neg c14]
    by_cases c15 : op = 15
    · rw [if_pos c15]
      exact S_bucket hI hc5 hin hfu
    rw [if_neg c15]
    by_cases c16 : op = 16
    · rw [if_pos c16]
      exact S_at hI hc5 hin hfu
    rw [if_neg c16]
    by_cases c17 : op = 17
    · rw [if_pos c17]
      exact S_total hI hc5 hin hfu
    rw [if_neg c17]
    by_cases c18 : op = 18
    · rw [if_pos c18]
      exact S_gap hI hc5 hin hfu5
    rw [if_neg c18]
    by_cases c19 : op = 19
    · rw [if_pos c19]
      exact S_bar hI hc5 hin hfu
    rw [if_neg c19]
    by_cases c20 : op = 20
    · rw [if_pos c20]
      exact S_alarms hI hc5 hin hfu
    rw [if_neg c20]
    by_cases c21 : op = 21
    · rw [if_pos c21]
      exact S_would hI hc5 hin hfu
    rw [if_neg c21]
    by_cases c22 : op = 22
    · rw [if_pos c22]
      exact S_until hI hc5 hin hfu
    rw [if_neg c22]
    by_cases c23 : op = 23
    · rw [if_pos c23]
      exact S_trend hI hc5 hin hfu
    rw [if_neg c23]
    by_cases c24 : op = 24
    · rw [if_pos c24]
      exact S_both hI hc5 hin hfu
    rw [if_neg c24]
    exact ⟨s, rfl, hI.nop hc5⟩
end LOP
