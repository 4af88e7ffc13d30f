/-! ===== the law, call by call (printed by mk_law.py) ===== -/
section LAW
variable {s : St} {fu L c : Nat} {xs : Nat → Int32} {k23 : St → Nat → Nat → Nat → Int32 → Option (St × Int32)} {l4 : Int32}
theorem S_put (hI : IV s c) (hc : c < 512) (hin : ∀ j : Nat, j ≤ 6 → inb (l4 + nI j) L = true) (hfu : 50000 ≤ fu) : ∃ s2, f_L_law_b354 fu xs L k23 s 1 1 1 l4 = f_L_law_b1839 fu xs L k23 s2 1 1 1 l4 ∧ IV s2 (c + 1) := by
  have e10 : ¬ (1 = 0) := by decide
  have i1 : inb (l4 + 1) L = true := hin 1 (by omega)
  have i2 : inb (l4 + 2) L = true := hin 2 (by omega)
  have i3 : inb (l4 + 3) L = true := hin 3 (by omega)
  obtain ⟨p, n, S, K, mo, x, u, l, La, y, h, ho, hu⟩ := hI
  obtain ⟨s1, s2, w, x', u', y', c1, c2, c3, c4, c5⟩ := h.chg (fc := f_X8_put fu s 1 (xs (ix (l4 + 1))) (xs (ix (l4 + 2))) (xs (ix (l4 + 3)))) (fm := fun s2 => f_X9_put fu s2 1 (xs (ix (l4 + 1))) (xs (ix (l4 + 2))) (xs (ix (l4 + 3)))) (P_put h.1.1 h.1.2.2.2 (by omega) h.bdg (by omega) hfu _ _ _)
  refine ⟨s2, ?_, p, n, S, K, mo, x', u', l, La, y', c3.up (by omega) (by omega), by omega, by omega⟩
  unfold f_L_law_b354
  simp only [i1, i2, i3, Bool.true_eq_false, reduceIte, e10]
  rw [c1, bI_s]
  have c2' : f_X9_put fu s1 1 (xs (ix (l4 + 1))) (xs (ix (l4 + 2))) (xs (ix (l4 + 3))) = some (s2, w) := c2
  rw [c2', bI_s, if_pos rfl]
theorem S_tick (hI : IV s c) (hc : c < 512) (hin : ∀ j : Nat, j ≤ 6 → inb (l4 + nI j) L = true) (hfu : 50000 ≤ fu) : ∃ s2, f_L_law_b403 fu xs L k23 s 1 1 1 l4 = f_L_law_b1839 fu xs L k23 s2 1 1 1 l4 ∧ IV s2 (c + 1) := by
  have e10 : ¬ (1 = 0) := by decide
  have i1 : inb (l4 + 1) L = true := hin 1 (by omega)
  have i2 : inb (l4 + 2) L = true := hin 2 (by omega)
  obtain ⟨p, n, S, K, mo, x, u, l, La, y, h, ho, hu⟩ := hI
  obtain ⟨s1, s2, w, x', u', y', c1, c2, c3, c4, c5⟩ := h.chg (fc := f_X8_tick fu s 1 (xs (ix (l4 + 1))) (xs (ix (l4 + 2)))) (fm := fun s2 => f_X9_tick fu s2 1 (xs (ix (l4 + 1))) (xs (ix (l4 + 2)))) (P_tick h.1.1 h.1.2.2.2 (by omega) h.bdg (by omega) hfu _ _)
  refine ⟨s2, ?_, p, n, S, K, mo, x', u', l, La, y', c3.up (by omega) (by omega), by omega, by omega⟩
  unfold f_L_law_b403
  simp only [i1, i2, Bool.true_eq_false, reduceIte, e10]
  rw [c1, bI_s]
  have c2' : f_X9_tick fu s1 1 (xs (ix (l4 + 1))) (xs (ix (l4 + 2))) = some (s2, w) := c2
  rw [c2', bI_s, if_pos rfl]
theorem S_drop (hI : IV s c) (hc : c < 512) (hin : ∀ j : Nat, j ≤ 6 → inb (l4 + nI j) L = true) (hfu : 50000 ≤ fu) : ∃ s2, f_L_law_b440 fu xs L k23 s 1 1 1 l4 = f_L_law_b1839 fu xs L k23 s2 1 1 1 l4 ∧ IV s2 (c + 1) := by
  have e10 : ¬ (1 = 0) := by decide
  have i1 : inb (l4 + 1) L = true := hin 1 (by omega)
  obtain ⟨p, n, S, K, mo, x, u, l, La, y, h, ho, hu⟩ := hI
  obtain ⟨s1, s2, w, x', u', y', c1, c2, c3, c4, c5⟩ := h.chg (fc := f_X8_drop fu s 1 (xs (ix (l4 + 1)))) (fm := fun s2 => f_X9_drop fu s2 1 (xs (ix (l4 + 1)))) (P_drop h.1.1 h.1.2.2.2 hfu _)
  refine ⟨s2, ?_, p, n, S, K, mo, x', u', l, La, y', c3.up (by omega) (by omega), by omega, by omega⟩
  unfold f_L_law_b440
  simp only [i1, Bool.true_eq_false, reduceIte, e10]
  rw [c1, bI_s]
  have c2' : f_X9_drop fu s1 1 (xs (ix (l4 + 1))) = some (s2, w) := c2
  rw [c2', bI_s, if_pos rfl]
theorem S_sheet (hI : IV s c) (hc : c < 512) (hin : ∀ j : Nat, j ≤ 6 → inb (l4 + nI j) L = true) (hfu : 50000 ≤ fu) : ∃ s2, f_L_law_b465 fu xs L k23 s 1 1 1 l4 = f_L_law_b1839 fu xs L k23 s2 1 1 1 l4 ∧ IV s2 (c + 1) := by
  have e10 : ¬ (1 = 0) := by decide
  have i1 : inb (l4 + 1) L = true := hin 1 (by omega)
  have i2 : inb (l4 + 2) L = true := hin 2 (by omega)
  have i3 : inb (l4 + 3) L = true := hin 3 (by omega)
  have i4 : inb (l4 + 4) L = true := hin 4 (by omega)
  have i5 : inb (l4 + 5) L = true := hin 5 (by omega)
  have i6 : inb (l4 + 6) L = true := hin 6 (by omega)
  obtain ⟨p, n, S, K, mo, x, u, l, La, y, h, ho, hu⟩ := hI
  obtain ⟨s1, s2, w, x', u', y', c1, c2, c3, c4, c5⟩ := h.chg (fc := f_X8_sheet fu s 1 (xs (ix (l4 + 1))) (xs (ix (l4 + 2))) (xs (ix (l4 + 3))) (xs (ix (l4 + 4))) (xs (ix (l4 + 5))) (xs (ix (l4 + 6)))) (fm := fun s2 => f_X9_sheet fu s2 1 (xs (ix (l4 + 1))) (xs (ix (l4 + 2))) (xs (ix (l4 + 3))) (xs (ix (l4 + 4))) (xs (ix (l4 + 5))) (xs (ix (l4 + 6)))) (P_sheet h.1.1 h.1.2.2.2 (by omega) h.bdg (by omega) hfu _ _ _ _ _ _)
  refine ⟨s2, ?_, p, n, S, K, mo, x', u', l, La, y', c3.up (by omega) (by omega), by omega, by omega⟩
  unfold f_L_law_b465
  simp only [i1, i2, i3, i4, i5, i6, Bool.true_eq_false, reduceIte, e10]
  rw [c1, bI_s]
  have c2' : f_X9_sheet fu s1 1 (xs (ix (l4 + 1))) (xs (ix (l4 + 2))) (xs (ix (l4 + 3))) (xs (ix (l4 + 4))) (xs (ix (l4 + 5))) (xs (ix (l4 + 6))) = some (s2, w) := c2
  rw [c2', bI_s, if_pos rfl]
theorem S_tell (hI : IV s c) (hc : c < 512) (hin : ∀ j : Nat, j ≤ 6 → inb (l4 + nI j) L = true) (hfu : 50000 ≤ fu) : ∃ s2, f_L_law_b229 fu xs L k23 s 1 1 1 l4 = f_L_law_b1839 fu xs L k23 s2 1 1 1 l4 ∧ IV s2 (c + 1) := by
  have e10 : ¬ (1 = 0) := by decide
  have i1 : inb (l4 + 1) L = true := hin 1 (by omega)
  obtain ⟨p, n, S, K, mo, x, u, l, La, y, h, ho, hu⟩ := hI
  obtain ⟨s1, kk, s2, v, y1, y2, y3, y4, y5, y6⟩ := thw_ok (o := f_X8_tell fu s 1 (xs (ix (l4 + 1)))) (fm := fun s1 => f_X9_tell fu s1 1 (xs (ix (l4 + 1)))) h ho hu (P_tell h (by omega) hfu _)
  refine ⟨s2, ?_, y6⟩
  have e : f_L_tell fu s 1 (xs (ix (l4 + 1))) 1 = some (s1, kk) := by
    rw [← y1]
    unfold f_L_tell wI3
    simp only [e10, reduceIte]
  unfold f_L_law_b229
  simp only [i1, Bool.true_eq_false, reduceIte, e10]
  rw [e, bI_s]
  show blkI fu (f_X9_tell fu s1 1 (xs (ix (l4 + 1)))) kk (fun s155 => f_L_law_b282 fu xs L k23 s155 1 1 1 l4) = _
  rw [blkI_ok y5 y2 y3 y4]
  rfl
theorem S_batch (hI : IV s c) (hc : c < 512) (hin : ∀ j : Nat, j ≤ 6 → inb (l4 + nI j) L = true) (hfu : 50000 ≤ fu) : ∃ s2, f_L_law_b285 fu xs L k23 s 1 1 1 l4 = f_L_law_b1839 fu xs L k23 s2 1 1 1 l4 ∧ IV s2 (c + 1) := by
  have e10 : ¬ (1 = 0) := by decide
  have i1 : inb (l4 + 1) L = true := hin 1 (by omega)
  obtain ⟨p, n, S, K, mo, x, u, l, La, y, h, ho, hu⟩ := hI
  obtain ⟨s1, kk, s2, v, y1, y2, y3, y4, y5, y6⟩ := thw_ok (o := f_X8_batch fu s 1 (xs (ix (l4 + 1)))) (fm := fun s1 => f_X9_batch fu s1 1 (xs (ix (l4 + 1)))) h ho hu (P_batch h (by omega) (by omega) (by omega) hfu _)
  refine ⟨s2, ?_, y6⟩
  have e : f_L_batch fu s 1 (xs (ix (l4 + 1))) 1 = some (s1, kk) := by
    rw [← y1]
    unfold f_L_batch wI3
    simp only [e10, reduceIte]
  unfold f_L_law_b285
  simp only [i1, Bool.true_eq_false, reduceIte, e10]
  rw [e, bI_s]
  show blkI fu (f_X9_batch fu s1 1 (xs (ix (l4 + 1)))) kk (fun s155 => f_L_law_b338 fu xs L k23 s155 1 1 1 l4) = _
  rw [blkI_ok y5 y2 y3 y4]
  rfl
theorem S_why (hI : IV s c) (hc : c < 512) (hin : ∀ j : Nat, j ≤ 6 → inb (l4 + nI j) L = true) (hfu3 : 3000000 ≤ fu) : ∃ s2, f_L_law_b552 fu xs L k23 s 1 1 1 l4 = f_L_law_b1839 fu xs L k23 s2 1 1 1 l4 ∧ IV s2 (c + 1) := by
  have e10 : ¬ (1 = 0) := by decide
  have hfu : 50000 ≤ fu := by omega
  have i1 : inb (l4 + 1) L = true := hin 1 (by omega)
  obtain ⟨p, n, S, K, mo, x, u, l, La, y, h, ho, hu⟩ := hI
  obtain ⟨s1, kk, s2, v, y1, y2, y3, y4, y5⟩ := look_I1 (o := f_X8_why fu s 1 (xs (ix (l4 + 1)))) (fm := fun s1 => f_X9_why fu s1 1 (xs (ix (l4 + 1)))) h (by omega) (by
    obtain ⟨t1, w, q1, q2, q3⟩ := Q_why h.1.1.1.1.1 (h.rmb (by omega)) h.2.2.1.1 _
    exact ⟨t1, w, q1, q2, fun s' _ _ hw => q3 s' hw⟩)
  refine ⟨s2, ?_, p, n, S, K, mo, x, u, l, La, y, y5.up (by omega) (by omega), by omega, by omega⟩
  have e : f_L_why fu s 1 (xs (ix (l4 + 1))) 1 = some (s1, kk) := by
    rw [← y1]
    unfold f_L_why wI1
    simp only [e10, reduceIte]
  unfold f_L_law_b552
  simp only [i1, Bool.true_eq_false, reduceIte, e10]
  rw [e, bI_s]
  show blkI fu (f_X9_why fu s1 1 (xs (ix (l4 + 1)))) kk (fun s155 => f_L_law_b605 fu xs L k23 s155 1 1 1 l4) = _
  rw [blkI_ok y5.1.1.1.1.1 y2 y3 y4]
  rfl
theorem S_count (hI : IV s c) (hc : c < 512) (hin : ∀ j : Nat, j ≤ 6 → inb (l4 + nI j) L = true) (hfu3 : 3000000 ≤ fu) : ∃ s2, f_L_law_b608 fu xs L k23 s 1 1 1 l4 = f_L_law_b1839 fu xs L k23 s2 1 1 1 l4 ∧ IV s2 (c + 1) := by
  have e10 : ¬ (1 = 0) := by decide
  have hfu : 50000 ≤ fu := by omega
  have i1 : inb (l4 + 1) L = true := hin 1 (by omega)
  obtain ⟨p, n, S, K, mo, x, u, l, La, y, h, ho, hu⟩ := hI
  obtain ⟨s1, kk, s2, v, y1, y2, y3, y4, y5⟩ := look_I1 (o := f_X8_count fu s 1 (xs (ix (l4 + 1)))) (fm := fun s1 => f_X9_count fu s1 1 (xs (ix (l4 + 1)))) h (by omega) (by
    obtain ⟨t1, w, q1, q2, q3⟩ := Q_count h.1.1.cq h.2.1.1 h.1.1.2.2.2.2 (h.rmb (by omega)) hfu _
    exact ⟨t1, w, q1, q2, fun s' hM hAl _ => q3 s' hM.1 hAl hM.2.2.1⟩)
  refine ⟨s2, ?_, p, n, S, K, mo, x, u, l, La, y, y5.up (by omega) (by omega), by omega, by omega⟩
  have e : f_L_count fu s 1 (xs (ix (l4 + 1))) 1 = some (s1, kk) := by
    rw [← y1]
    unfold f_L_count wI1
    simp only [e10, reduceIte]
  unfold f_L_law_b608
  simp only [i1, Bool.true_eq_false, reduceIte, e10]
  rw [e, bI_s]
  show blkI fu (f_X9_count fu s1 1 (xs (ix (l4 + 1)))) kk (fun s155 => f_L_law_b661 fu xs L k23 s155 1 1 1 l4) = _
  rw [blkI_ok y5.1.1.1.1.1 y2 y3 y4]
  rfl
theorem S_tier (hI : IV s c) (hc : c < 512) (hin : ∀ j : Nat, j ≤ 6 → inb (l4 + nI j) L = true) (hfu3 : 3000000 ≤ fu) : ∃ s2, f_L_law_b664 fu xs L k23 s 1 1 1 l4 = f_L_law_b1839 fu xs L k23 s2 1 1 1 l4 ∧ IV s2 (c + 1) := by
  have e10 : ¬ (1 = 0) := by decide
  have hfu : 50000 ≤ fu := by omega
  have i1 : inb (l4 + 1) L = true := hin 1 (by omega)
  have i2 : inb (l4 + 2) L = true := hin 2 (by omega)
  obtain ⟨p, n, S, K, mo, x, u, l, La, y, h, ho, hu⟩ := hI
  obtain ⟨s1, kk, s2, v, y1, y2, y3, y4, y5⟩ := look_I1 (o := f_X8_tier fu s 1 (xs (ix (l4 + 1))) (xs (ix (l4 + 2)))) (fm := fun s1 => f_X9_tier fu s1 1 (xs (ix (l4 + 1))) (xs (ix (l4 + 2)))) h (by omega) (by
    obtain ⟨t1, w, q1, q2, q3⟩ := Q_tier h.1.1.cq (h.rmb (by omega)) _ _
    exact ⟨t1, w, q1, q2, fun s' hM _ _ => q3 s' hM.1⟩)
  refine ⟨s2, ?_, p, n, S, K, mo, x, u, l, La, y, y5.up (by omega) (by omega), by omega, by omega⟩
  have e : f_L_tier fu s 1 (xs (ix (l4 + 1))) (xs (ix (l4 + 2))) 1 = some (s1, kk) := by
    rw [← y1]
    unfold f_L_tier wI1
    simp only [e10, reduceIte]
  unfold f_L_law_b664
  simp only [i1, i2, Bool.true_eq_false, reduceIte, e10]
  rw [e, bI_s]
  show blkI fu (f_X9_tier fu s1 1 (xs (ix (l4 + 1))) (xs (ix (l4 + 2)))) kk (fun s155 => f_L_law_b729 fu xs L k23 s155 1 1 1 l4) = _
  rw [blkI_ok y5.1.1.1.1.1 y2 y3 y4]
  rfl
theorem S_used (hI : IV s c) (hc : c < 512) (hin : ∀ j : Nat, j ≤ 6 → inb (l4 + nI j) L = true) (hfu3 : 3000000 ≤ fu) : ∃ s2, f_L_law_b732 fu xs L k23 s 1 1 1 l4 = f_L_law_b1839 fu xs L k23 s2 1 1 1 l4 ∧ IV s2 (c + 1) := by
  have e10 : ¬ (1 = 0) := by decide
  have hfu : 50000 ≤ fu := by omega
  have i1 : inb (l4 + 1) L = true := hin 1 (by omega)
  obtain ⟨p, n, S, K, mo, x, u, l, La, y, h, ho, hu⟩ := hI
  obtain ⟨s1, kk, s2, v, y1, y2, y3, y4, y5⟩ := look_I1 (o := f_X8_used fu s 1 (xs (ix (l4 + 1)))) (fm := fun s1 => f_X9_used fu s1 1 (xs (ix (l4 + 1)))) h (by omega) (by
    obtain ⟨t1, w, q1, q2, q3⟩ := Q_used h.1.1.cq (h.rmb (by omega)) hfu _
    exact ⟨t1, w, q1, q2, fun s' hM _ _ => q3 s' hM.1 hM.2.2.2.1.1⟩)
  refine ⟨s2, ?_, p, n, S, K, mo, x, u, l, La, y, y5.up (by omega) (by omega), by omega, by omega⟩
  have e : f_L_used fu s 1 (xs (ix (l4 + 1))) 1 = some (s1, kk) := by
    rw [← y1]
    unfold f_L_used wI1
    simp only [e10, reduceIte]
  unfold f_L_law_b732
  simp only [i1, Bool.true_eq_false, reduceIte, e10]
  rw [e, bI_s]
  show blkI fu (f_X9_used fu s1 1 (xs (ix (l4 + 1)))) kk (fun s155 => f_L_law_b785 fu xs L k23 s155 1 1 1 l4) = _
  rw [blkI_ok y5.1.1.1.1.1 y2 y3 y4]
  rfl
theorem S_of (hI : IV s c) (hc : c < 512) (hin : ∀ j : Nat, j ≤ 6 → inb (l4 + nI j) L = true) (hfu3 : 3000000 ≤ fu) : ∃ s2, f_L_law_b788 fu xs L k23 s 1 1 1 l4 = f_L_law_b1839 fu xs L k23 s2 1 1 1 l4 ∧ IV s2 (c + 1) := by
  have e10 : ¬ (1 = 0) := by decide
  have hfu : 50000 ≤ fu := by omega
  have i1 : inb (l4 + 1) L = true := hin 1 (by omega)
  have i2 : inb (l4 + 2) L = true := hin 2 (by omega)
  obtain ⟨p, n, S, K, mo, x, u, l, La, y, h, ho, hu⟩ := hI
  obtain ⟨s1, kk, s2, v, y1, y2, y3, y4, y5⟩ := look_J1 (o := f_X8_of fu s 1 (xs (ix (l4 + 1))) (xs (ix (l4 + 2)))) (fm := fun s1 => f_X9_of fu s1 1 (xs (ix (l4 + 1))) (xs (ix (l4 + 2)))) h (by omega) (by
    obtain ⟨t1, w, q1, q2, q3⟩ := Q_of h.1.1.cq (h.rmb (by omega)) hfu h.1.1.2.2.2.1 _ _
    exact ⟨t1, w, q1, q2, fun s' hM _ _ => q3 s' hM.1 hM.2.1⟩)
  refine ⟨s2, ?_, p, n, S, K, mo, x, u, l, La, y, y5.up (by omega) (by omega), by omega, by omega⟩
  have e : f_L_of fu s 1 (xs (ix (l4 + 1))) (xs (ix (l4 + 2))) 1 = some (s1, kk) := by
    rw [← y1]
    unfold f_L_of wJ1
    simp only [e10, reduceIte]
  unfold f_L_law_b788
  simp only [i1, i2, Bool.true_eq_false, reduceIte, e10]
  rw [e, bI_s]
  show blkJ fu (f_X9_of fu s1 1 (xs (ix (l4 + 1))) (xs (ix (l4 + 2)))) kk (fun s155 => f_L_law_b852 fu xs L k23 s155 1 1 1 l4) = _
  rw [blkJ_ok y5.1.1.1.1.1 y2 y3 y4]
  rfl
theorem S_seam (hI : IV s c) (hc : c < 512) (hin : ∀ j : Nat, j ≤ 6 → inb (l4 + nI j) L = true) (hfu3 : 3000000 ≤ fu) : ∃ s2, f_L_law_b855 fu xs L k23 s 1 1 1 l4 = f_L_law_b1839 fu xs L k23 s2 1 1 1 l4 ∧ IV s2 (c + 1) := by
  have e10 : ¬ (1 = 0) := by decide
  have hfu : 50000 ≤ fu := by omega
  have i1 : inb (l4 + 1) L = true := hin 1 (by omega)
  have i2 : inb (l4 + 2) L = true := hin 2 (by omega)
  obtain ⟨p, n, S, K, mo, x, u, l, La, y, h, ho, hu⟩ := hI
  obtain ⟨s1, kk, s2, v, y1, y2, y3, y4, y5⟩ := look_I1 (o := f_X8_seam fu s 1 (xs (ix (l4 + 1))) (xs (ix (l4 + 2)))) (fm := fun s1 => f_X9_seam fu s1 1 (xs (ix (l4 + 1))) (xs (ix (l4 + 2)))) h (by omega) (by
    obtain ⟨t1, w, q1, q2, q3⟩ := Q_seam h.1.1.cq (h.rmb (by omega)) hfu _ _
    exact ⟨t1, w, q1, q2, fun s' hM _ _ => q3 s' hM.1⟩)
  refine ⟨s2, ?_, p, n, S, K, mo, x, u, l, La, y, y5.up (by omega) (by omega), by omega, by omega⟩
  have e : f_L_seam fu s 1 (xs (ix (l4 + 1))) (xs (ix (l4 + 2))) 1 = some (s1, kk) := by
    rw [← y1]
    unfold f_L_seam wI1
    simp only [e10, reduceIte]
  unfold f_L_law_b855
  simp only [i1, i2, Bool.true_eq_false, reduceIte, e10]
  rw [e, bI_s]
  show blkI fu (f_X9_seam fu s1 1 (xs (ix (l4 + 1))) (xs (ix (l4 + 2)))) kk (fun s155 => f_L_law_b920 fu xs L k23 s155 1 1 1 l4) = _
  rw [blkI_ok y5.1.1.1.1.1 y2 y3 y4]
  rfl
theorem S_buckets (hI : IV s c) (hc : c < 512) (hin : ∀ j : Nat, j ≤ 6 → inb (l4 + nI j) L = true) (hfu3 : 3000000 ≤ fu) : ∃ s2, f_L_law_b923 fu xs L k23 s 1 1 1 l4 = f_L_law_b1839 fu xs L k23 s2 1 1 1 l4 ∧ IV s2 (c + 1) := by
  have e10 : ¬ (1 = 0) := by decide
  have hfu : 50000 ≤ fu := by omega
  have i1 : inb (l4 + 1) L = true := hin 1 (by omega)
  have i2 : inb (l4 + 2) L = true := hin 2 (by omega)
  obtain ⟨p, n, S, K, mo, x, u, l, La, y, h, ho, hu⟩ := hI
  obtain ⟨s1, kk, s2, v, y1, y2, y3, y4, y5⟩ := look_I1 (o := f_X8_buckets fu s 1 (xs (ix (l4 + 1))) (xs (ix (l4 + 2)))) (fm := fun s1 => f_X9_buckets fu s1 1 (xs (ix (l4 + 1))) (xs (ix (l4 + 2)))) h (by omega) (by
    obtain ⟨t1, w, q1, q2, q3⟩ := Q_buckets h.1.1.cq (h.rmb (by omega)) hfu _ _
    exact ⟨t1, w, q1, q2, fun s' hM _ _ => q3 s' hM.1⟩)
  refine ⟨s2, ?_, p, n, S, K, mo, x, u, l, La, y, y5.up (by omega) (by omega), by omega, by omega⟩
  have e : f_L_buckets fu s 1 (xs (ix (l4 + 1))) (xs (ix (l4 + 2))) 1 = some (s1, kk) := by
    rw [← y1]
    unfold f_L_buckets wI1
    simp only [e10, reduceIte]
  unfold f_L_law_b923
  simp only [i1, i2, Bool.true_eq_false, reduceIte, e10]
  rw [e, bI_s]
  show blkI fu (f_X9_buckets fu s1 1 (xs (ix (l4 + 1))) (xs (ix (l4 + 2)))) kk (fun s155 => f_L_law_b988 fu xs L k23 s155 1 1 1 l4) = _
  rw [blkI_ok y5.1.1.1.1.1 y2 y3 y4]
  rfl
theorem S_bucket (hI : IV s c) (hc : c < 512) (hin : ∀ j : Nat, j ≤ 6 → inb (l4 + nI j) L = true) (hfu3 : 3000000 ≤ fu) : ∃ s2, f_L_law_b991 fu xs L k23 s 1 1 1 l4 = f_L_law_b1839 fu xs L k23 s2 1 1 1 l4 ∧ IV s2 (c + 1) := by
  have e10 : ¬ (1 = 0) := by decide
  have hfu : 50000 ≤ fu := by omega
  have i1 : inb (l4 + 1) L = true := hin 1 (by omega)
  have i2 : inb (l4 + 2) L = true := hin 2 (by omega)
  have i3 : inb (l4 + 3) L = true := hin 3 (by omega)
  have i4 : inb (l4 + 4) L = true := hin 4 (by omega)
  obtain ⟨p, n, S, K, mo, x, u, l, La, y, h, ho, hu⟩ := hI
  obtain ⟨s1, kk, s2, v, y1, y2, y3, y4, y5⟩ := look_J1 (o := f_X8_bucket fu s 1 (xs (ix (l4 + 1))) (xs (ix (l4 + 2))) (xs (ix (l4 + 3))) (xs (ix (l4 + 4)))) (fm := fun s1 => f_X9_bucket fu s1 1 (xs (ix (l4 + 1))) (xs (ix (l4 + 2))) (xs (ix (l4 + 3))) (xs (ix (l4 + 4)))) h (by omega) (by
    obtain ⟨t1, w, q1, q2, q3⟩ := Q_bucket h.1.1.cq (h.rmb (by omega)) hfu _ _ _ _
    exact ⟨t1, w, q1, q2, fun s' hM _ _ => q3 s' hM.1⟩)
  refine ⟨s2, ?_, p, n, S, K, mo, x, u, l, La, y, y5.up (by omega) (by omega), by omega, by omega⟩
  have e : f_L_bucket fu s 1 (xs (ix (l4 + 1))) (xs (ix (l4 + 2))) (xs (ix (l4 + 3))) (xs (ix (l4 + 4))) 1 = some (s1, kk) := by
    rw [← y1]
    unfold f_L_bucket wJ1
    simp only [e10, reduceIte]
  unfold f_L_law_b991
  simp only [i1, i2, i3, i4, Bool.true_eq_false, reduceIte, e10]
  rw [e, bI_s]
  show blkJ fu (f_X9_bucket fu s1 1 (xs (ix (l4 + 1))) (xs (ix (l4 + 2))) (xs (ix (l4 + 3))) (xs (ix (l4 + 4)))) kk (fun s155 => f_L_law_b1079 fu xs L k23 s155 1 1 1 l4) = _
  rw [blkJ_ok y5.1.1.1.1.1 y2 y3 y4]
  rfl
theorem S_at (hI : IV s c) (hc : c < 512) (hin : ∀ j : Nat, j ≤ 6 → inb (l4 + nI j) L = true) (hfu3 : 3000000 ≤ fu) : ∃ s2, f_L_law_b1082 fu xs L k23 s 1 1 1 l4 = f_L_law_b1839 fu xs L k23 s2 1 1 1 l4 ∧ IV s2 (c + 1) := by
  have e10 : ¬ (1 = 0) := by decide
  have hfu : 50000 ≤ fu := by omega
  have i1 : inb (l4 + 1) L = true := hin 1 (by omega)
  have i2 : inb (l4 + 2) L = true := hin 2 (by omega)
  have i3 : inb (l4 + 3) L = true := hin 3 (by omega)
  obtain ⟨p, n, S, K, mo, x, u, l, La, y, h, ho, hu⟩ := hI
  obtain ⟨s1, kk, s2, v, y1, y2, y3, y4, y5⟩ := look_I1 (o := f_X8_at fu s 1 (xs (ix (l4 + 1))) (xs (ix (l4 + 2))) (xs (ix (l4 + 3)))) (fm := fun s1 => f_X9_at fu s1 1 (xs (ix (l4 + 1))) (xs (ix (l4 + 2))) (xs (ix (l4 + 3)))) h (by omega) (by
    obtain ⟨t1, w, q1, q2, q3⟩ := Q_at h.1.1.cq (h.rmb (by omega)) hfu _ _ _
    exact ⟨t1, w, q1, q2, fun s' hM _ _ => q3 s' hM.1⟩)
  refine ⟨s2, ?_, p, n, S, K, mo, x, u, l, La, y, y5.up (by omega) (by omega), by omega, by omega⟩
  have e : f_L_at fu s 1 (xs (ix (l4 + 1))) (xs (ix (l4 + 2))) (xs (ix (l4 + 3))) 1 = some (s1, kk) := by
    rw [← y1]
    unfold f_L_at wI1
    simp only [e10, reduceIte]
  unfold f_L_law_b1082
  simp only [i1, i2, i3, Bool.true_eq_false, reduceIte, e10]
  rw [e, bI_s]
  show blkI fu (f_X9_at fu s1 1 (xs (ix (l4 + 1))) (xs (ix (l4 + 2))) (xs (ix (l4 + 3)))) kk (fun s155 => f_L_law_b1159 fu xs L k23 s155 1 1 1 l4) = _
  rw [blkI_ok y5.1.1.1.1.1 y2 y3 y4]
  rfl
theorem S_total (hI : IV s c) (hc : c < 512) (hin : ∀ j : Nat, j ≤ 6 → inb (l4 + nI j) L = true) (hfu3 : 3000000 ≤ fu) : ∃ s2, f_L_law_b1162 fu xs L k23 s 1 1 1 l4 = f_L_law_b1839 fu xs L k23 s2 1 1 1 l4 ∧ IV s2 (c + 1) := by
  have e10 : ¬ (1 = 0) := by decide
  have hfu : 50000 ≤ fu := by omega
  have i1 : inb (l4 + 1) L = true := hin 1 (by omega)
  have i2 : inb (l4 + 2) L = true := hin 2 (by omega)
  have i3 : inb (l4 + 3) L = true := hin 3 (by omega)
  have i4 : inb (l4 + 4) L = true := hin 4 (by omega)
  obtain ⟨p, n, S, K, mo, x, u, l, La, y, h, ho, hu⟩ := hI
  obtain ⟨s1, kk, s2, v, y1, y2, y3, y4, y5⟩ := look_J2 (o := f_X8_total fu s 1 (xs (ix (l4 + 1))) (xs (ix (l4 + 2))) (xs (ix (l4 + 3))) (xs (ix (l4 + 4)))) (fm := fun s1 => f_X9_total fu s1 1 (xs (ix (l4 + 1))) (xs (ix (l4 + 2))) (xs (ix (l4 + 3))) (xs (ix (l4 + 4)))) h (by omega) (by
    obtain ⟨t1, w, q1, q2, q3⟩ := Q_total h.1.1.cq (h.rmb (by omega)) hfu _ _ _ _
    exact ⟨t1, w, q1, q2, fun s' hM _ _ => q3 s' hM.1⟩)
  refine ⟨s2, ?_, p, n, S, K, mo, x, u, l, La, y, y5.up (by omega) (by omega), by omega, by omega⟩
  have e : f_L_total fu s 1 (xs (ix (l4 + 1))) (xs (ix (l4 + 2))) (xs (ix (l4 + 3))) (xs (ix (l4 + 4))) 1 = some (s1, kk) := by
    rw [← y1]
    unfold f_L_total wJ2
    simp only [e10, reduceIte]
  unfold f_L_law_b1162
  simp only [i1, i2, i3, i4, Bool.true_eq_false, reduceIte, e10]
  rw [e, bI_s]
  show blkJ fu (f_X9_total fu s1 1 (xs (ix (l4 + 1))) (xs (ix (l4 + 2))) (xs (ix (l4 + 3))) (xs (ix (l4 + 4)))) kk (fun s155 => f_L_law_b1250 fu xs L k23 s155 1 1 1 l4) = _
  rw [blkJ_ok y5.1.1.1.1.1 y2 y3 y4]
  rfl
theorem S_bar (hI : IV s c) (hc : c < 512) (hin : ∀ j : Nat, j ≤ 6 → inb (l4 + nI j) L = true) (hfu3 : 3000000 ≤ fu) : ∃ s2, f_L_law_b1361 fu xs L k23 s 1 1 1 l4 = f_L_law_b1839 fu xs L k23 s2 1 1 1 l4 ∧ IV s2 (c + 1) := by
  have e10 : ¬ (1 = 0) := by decide
  have hfu : 50000 ≤ fu := by omega
  have i1 : inb (l4 + 1) L = true := hin 1 (by omega)
  have i2 : inb (l4 + 2) L = true := hin 2 (by omega)
  have i3 : inb (l4 + 3) L = true := hin 3 (by omega)
  have i4 : inb (l4 + 4) L = true := hin 4 (by omega)
  obtain ⟨p, n, S, K, mo, x, u, l, La, y, h, ho, hu⟩ := hI
  obtain ⟨s1, kk, s2, v, y1, y2, y3, y4, y5⟩ := look_J2 (o := f_X8_bar fu s 1 (xs (ix (l4 + 1))) (xs (ix (l4 + 2))) (xs (ix (l4 + 3))) (xs (ix (l4 + 4)))) (fm := fun s1 => f_X9_bar fu s1 1 (xs (ix (l4 + 1))) (xs (ix (l4 + 2))) (xs (ix (l4 + 3))) (xs (ix (l4 + 4)))) h (by omega) (by
    obtain ⟨t1, w, q1, q2, q3⟩ := Q_bar h.1.1.cq (h.rmb (by omega)) hfu _ _ _ _
    exact ⟨t1, w, q1, q2, fun s' hM _ _ => q3 s' hM.1⟩)
  refine ⟨s2, ?_, p, n, S, K, mo, x, u, l, La, y, y5.up (by omega) (by omega), by omega, by omega⟩
  have e : f_L_bar fu s 1 (xs (ix (l4 + 1))) (xs (ix (l4 + 2))) (xs (ix (l4 + 3))) (xs (ix (l4 + 4))) 1 = some (s1, kk) := by
    rw [← y1]
    unfold f_L_bar wJ2
    simp only [e10, reduceIte]
  unfold f_L_law_b1361
  simp only [i1, i2, i3, i4, Bool.true_eq_false, reduceIte, e10]
  rw [e, bI_s]
  show blkJ fu (f_X9_bar fu s1 1 (xs (ix (l4 + 1))) (xs (ix (l4 + 2))) (xs (ix (l4 + 3))) (xs (ix (l4 + 4)))) kk (fun s155 => f_L_law_b1449 fu xs L k23 s155 1 1 1 l4) = _
  rw [blkJ_ok y5.1.1.1.1.1 y2 y3 y4]
  rfl
theorem S_alarms (hI : IV s c) (hc : c < 512) (hin : ∀ j : Nat, j ≤ 6 → inb (l4 + nI j) L = true) (hfu3 : 3000000 ≤ fu) : ∃ s2, f_L_law_b1452 fu xs L k23 s 1 1 1 l4 = f_L_law_b1839 fu xs L k23 s2 1 1 1 l4 ∧ IV s2 (c + 1) := by
  have e10 : ¬ (1 = 0) := by decide
  have hfu : 50000 ≤ fu := by omega
  have i1 : inb (l4 + 1) L = true := hin 1 (by omega)
  have i2 : inb (l4 + 2) L = true := hin 2 (by omega)
  obtain ⟨p, n, S, K, mo, x, u, l, La, y, h, ho, hu⟩ := hI
  obtain ⟨s1, kk, s2, v, y1, y2, y3, y4, y5⟩ := look_I1 (o := f_X8_alarms fu s 1 (xs (ix (l4 + 1))) (xs (ix (l4 + 2)))) (fm := fun s1 => f_X9_alarms fu s1 1 (xs (ix (l4 + 1))) (xs (ix (l4 + 2)))) h (by omega) (by
    obtain ⟨t1, w, q1, q2, q3⟩ := Q_alarms h.1.1.cq h.2.1.1 h.2.1.2.2 (h.rmb (by omega)) hfu _ _
    exact ⟨t1, w, q1, q2, fun s' hM hAl _ => q3 s' hM.1 hAl⟩)
  refine ⟨s2, ?_, p, n, S, K, mo, x, u, l, La, y, y5.up (by omega) (by omega), by omega, by omega⟩
  have e : f_L_alarms fu s 1 (xs (ix (l4 + 1))) (xs (ix (l4 + 2))) 1 = some (s1, kk) := by
    rw [← y1]
    unfold f_L_alarms wI1
    simp only [e10, reduceIte]
  unfold f_L_law_b1452
  simp only [i1, i2, Bool.true_eq_false, reduceIte, e10]
  rw [e, bI_s]
  show blkI fu (f_X9_alarms fu s1 1 (xs (ix (l4 + 1))) (xs (ix (l4 + 2)))) kk (fun s155 => f_L_law_b1517 fu xs L k23 s155 1 1 1 l4) = _
  rw [blkI_ok y5.1.1.1.1.1 y2 y3 y4]
  rfl
theorem S_would (hI : IV s c) (hc : c < 512) (hin : ∀ j : Nat, j ≤ 6 → inb (l4 + nI j) L = true) (hfu3 : 3000000 ≤ fu) : ∃ s2, f_L_law_b1520 fu xs L k23 s 1 1 1 l4 = f_L_law_b1839 fu xs L k23 s2 1 1 1 l4 ∧ IV s2 (c + 1) := by
  have e10 : ¬ (1 = 0) := by decide
  have hfu : 50000 ≤ fu := by omega
  have i1 : inb (l4 + 1) L = true := hin 1 (by omega)
  have i2 : inb (l4 + 2) L = true := hin 2 (by omega)
  have i3 : inb (l4 + 3) L = true := hin 3 (by omega)
  obtain ⟨p, n, S, K, mo, x, u, l, La, y, h, ho, hu⟩ := hI
  obtain ⟨s1, kk, s2, v, y1, y2, y3, y4, y5⟩ := look_I2 (o := f_X8_would fu s 1 (xs (ix (l4 + 1))) (xs (ix (l4 + 2))) (xs (ix (l4 + 3)))) (fm := fun s1 => f_X9_would fu s1 1 (xs (ix (l4 + 1))) (xs (ix (l4 + 2))) (xs (ix (l4 + 3)))) h (by omega) (by
    obtain ⟨t1, w, q1, q2, q3⟩ := Q_would h.1.1.cq (h.rmb (by omega)) h.thc hfu _ _ _
    exact ⟨t1, w, q1, q2, fun s' hM _ _ => q3 s' hM.1⟩)
  refine ⟨s2, ?_, p, n, S, K, mo, x, u, l, La, y, y5.up (by omega) (by omega), by omega, by omega⟩
  have e : f_L_would fu s 1 (xs (ix (l4 + 1))) (xs (ix (l4 + 2))) (xs (ix (l4 + 3))) 1 = some (s1, kk) := by
    rw [← y1]
    unfold f_L_would wI2
    simp only [e10, reduceIte]
  unfold f_L_law_b1520
  simp only [i1, i2, i3, Bool.true_eq_false, reduceIte, e10]
  rw [e, bI_s]
  show blkI fu (f_X9_would fu s1 1 (xs (ix (l4 + 1))) (xs (ix (l4 + 2))) (xs (ix (l4 + 3)))) kk (fun s155 => f_L_law_b1597 fu xs L k23 s155 1 1 1 l4) = _
  rw [blkI_ok y5.1.1.1.1.1 y2 y3 y4]
  rfl
theorem S_until (hI : IV s c) (hc : c < 512) (hin : ∀ j : Nat, j ≤ 6 → inb (l4 + nI j) L = true) (hfu3 : 3000000 ≤ fu) : ∃ s2, f_L_law_b1600 fu xs L k23 s 1 1 1 l4 = f_L_law_b1839 fu xs L k23 s2 1 1 1 l4 ∧ IV s2 (c + 1) := by
  have e10 : ¬ (1 = 0) := by decide
  have hfu : 50000 ≤ fu := by omega
  have i1 : inb (l4 + 1) L = true := hin 1 (by omega)
  have i2 : inb (l4 + 2) L = true := hin 2 (by omega)
  have i3 : inb (l4 + 3) L = true := hin 3 (by omega)
  obtain ⟨p, n, S, K, mo, x, u, l, La, y, h, ho, hu⟩ := hI
  obtain ⟨s1, kk, s2, v, y1, y2, y3, y4, y5⟩ := look_I2 (o := f_X8_until fu s 1 (xs (ix (l4 + 1))) (xs (ix (l4 + 2))) (xs (ix (l4 + 3)))) (fm := fun s1 => f_X9_until fu s1 1 (xs (ix (l4 + 1))) (xs (ix (l4 + 2))) (xs (ix (l4 + 3)))) h (by omega) (by
    obtain ⟨t1, w, q1, q2, q3⟩ := Q_until h.1.1.cq (h.rmb (by omega)) hfu3 _ _ _
    exact ⟨t1, w, q1, q2, fun s' hM _ _ => q3 s' hM.1⟩)
  refine ⟨s2, ?_, p, n, S, K, mo, x, u, l, La, y, y5.up (by omega) (by omega), by omega, by omega⟩
  have e : f_L_until fu s 1 (xs (ix (l4 + 1))) (xs (ix (l4 + 2))) (xs (ix (l4 + 3))) 1 = some (s1, kk) := by
    rw [← y1]
    unfold f_L_until wI2
    simp only [e10, reduceIte]
  unfold f_L_law_b1600
  simp only [i1, i2, i3, Bool.true_eq_false, reduceIte, e10]
  rw [e, bI_s]
  show blkI fu (f_X9_until fu s1 1 (xs (ix (l4 + 1))) (xs (ix (l4 + 2))) (xs (ix (l4 + 3)))) kk (fun s155 => f_L_law_b1677 fu xs L k23 s155 1 1 1 l4) = _
  rw [blkI_ok y5.1.1.1.1.1 y2 y3 y4]
  rfl
theorem S_trend (hI : IV s c) (hc : c < 512) (hin : ∀ j : Nat, j ≤ 6 → inb (l4 + nI j) L = true) (hfu3 : 3000000 ≤ fu) : ∃ s2, f_L_law_b1680 fu xs L k23 s 1 1 1 l4 = f_L_law_b1839 fu xs L k23 s2 1 1 1 l4 ∧ IV s2 (c + 1) := by
  have e10 : ¬ (1 = 0) := by decide
  have hfu : 50000 ≤ fu := by omega
  have i1 : inb (l4 + 1) L = true := hin 1 (by omega)
  have i2 : inb (l4 + 2) L = true := hin 2 (by omega)
  have i3 : inb (l4 + 3) L = true := hin 3 (by omega)
  obtain ⟨p, n, S, K, mo, x, u, l, La, y, h, ho, hu⟩ := hI
  obtain ⟨s1, kk, s2, v, y1, y2, y3, y4, y5⟩ := look_J1 (o := f_X8_trend fu s 1 (xs (ix (l4 + 1))) (xs (ix (l4 + 2))) (xs (ix (l4 + 3)))) (fm := fun s1 => f_X9_trend fu s1 1 (xs (ix (l4 + 1))) (xs (ix (l4 + 2))) (xs (ix (l4 + 3)))) h (by omega) (by
    obtain ⟨t1, w, q1, q2, q3⟩ := Q_trend h.1.1.cq (h.rmb (by omega)) hfu _ _ _
    exact ⟨t1, w, q1, q2, fun s' hM _ _ => q3 s' hM.1⟩)
  refine ⟨s2, ?_, p, n, S, K, mo, x, u, l, La, y, y5.up (by omega) (by omega), by omega, by omega⟩
  have e : f_L_trend fu s 1 (xs (ix (l4 + 1))) (xs (ix (l4 + 2))) (xs (ix (l4 + 3))) 1 = some (s1, kk) := by
    rw [← y1]
    unfold f_L_trend wJ1
    simp only [e10, reduceIte]
  unfold f_L_law_b1680
  simp only [i1, i2, i3, Bool.true_eq_false, reduceIte, e10]
  rw [e, bI_s]
  show blkJ fu (f_X9_trend fu s1 1 (xs (ix (l4 + 1))) (xs (ix (l4 + 2))) (xs (ix (l4 + 3)))) kk (fun s155 => f_L_law_b1756 fu xs L k23 s155 1 1 1 l4) = _
  rw [blkJ_ok y5.1.1.1.1.1 y2 y3 y4]
  rfl
theorem S_both (hI : IV s c) (hc : c < 512) (hin : ∀ j : Nat, j ≤ 6 → inb (l4 + nI j) L = true) (hfu3 : 3000000 ≤ fu) : ∃ s2, f_L_law_b1759 fu xs L k23 s 1 1 1 l4 = f_L_law_b1839 fu xs L k23 s2 1 1 1 l4 ∧ IV s2 (c + 1) := by
  have e10 : ¬ (1 = 0) := by decide
  have hfu : 50000 ≤ fu := by omega
  have i1 : inb (l4 + 1) L = true := hin 1 (by omega)
  have i2 : inb (l4 + 2) L = true := hin 2 (by omega)
  have i3 : inb (l4 + 3) L = true := hin 3 (by omega)
  obtain ⟨p, n, S, K, mo, x, u, l, La, y, h, ho, hu⟩ := hI
  obtain ⟨s1, kk, s2, v, y1, y2, y3, y4, y5⟩ := look_I1 (o := f_X8_both fu s 1 (xs (ix (l4 + 1))) (xs (ix (l4 + 2))) (xs (ix (l4 + 3)))) (fm := fun s1 => f_X9_both fu s1 1 (xs (ix (l4 + 1))) (xs (ix (l4 + 2))) (xs (ix (l4 + 3)))) h (by omega) (by
    obtain ⟨t1, w, q1, q2, q3⟩ := Q_both h.1.1.cq (h.rmb (by omega)) hfu _ _ _
    exact ⟨t1, w, q1, q2, fun s' hM _ _ => q3 s' hM.1⟩)
  refine ⟨s2, ?_, p, n, S, K, mo, x, u, l, La, y, y5.up (by omega) (by omega), by omega, by omega⟩
  have e : f_L_both fu s 1 (xs (ix (l4 + 1))) (xs (ix (l4 + 2))) (xs (ix (l4 + 3))) 1 = some (s1, kk) := by
    rw [← y1]
    unfold f_L_both wI1
    simp only [e10, reduceIte]
  unfold f_L_law_b1759
  simp only [i1, i2, i3, Bool.true_eq_false, reduceIte, e10]
  rw [e, bI_s]
  show blkI fu (f_X9_both fu s1 1 (xs (ix (l4 + 1))) (xs (ix (l4 + 2))) (xs (ix (l4 + 3)))) kk (fun s155 => f_L_law_b1836 fu xs L k23 s155 1 1 1 l4) = _
  rw [blkI_ok y5.1.1.1.1.1 y2 y3 y4]
  rfl
end LAW
