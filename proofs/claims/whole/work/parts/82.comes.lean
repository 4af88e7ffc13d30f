/-! ===== the reference: a point comes ===== -/
section COM
variable {s : St} {P : Nat → List Pt} {fu : Nat}
def sr3 (f : Nat → Int32) (N k i : Nat) (x : Int32) (fin : Bool) (j : Nat) : Int32 := if fin = true ∧ j = k then x else if i < j ∧ j ≤ N then f (j - 1) else f j
theorem X9_co_loop (hD : PD s) (h0 : ¬ gR s 9 1 19 = 0 ∧ ¬ gR s 9 1 20 = 0 ∧ ¬ gR s 9 1 21 = 0) {k N : Nat} (hk : k ≤ N) (hN : N ≤ 40000) (hl : N < gL s 10 (gR s 9 1 19) ∧ N < gL s 10 (gR s 9 1 20) ∧ N < gL s 10 (gR s 9 1 21)) (x y z : Int32) :
    ∀ (e i m : Nat) (s1 : St), i = k + e → i ≤ N → e < m → PF s s1 → gI s1 9 1 22 = nI N →
      (∀ j, gI s1 10 (gR s 9 1 19) j = sr3 (gI s 10 (gR s 9 1 19)) N k i x false j ∧ gI s1 10 (gR s 9 1 20) j = sr3 (gI s 10 (gR s 9 1 20)) N k i y false j ∧ gI s1 10 (gR s 9 1 21) j = sr3 (gI s 10 (gR s 9 1 21)) N k i z false j) →
      ∃ s2, f_X9_comes_b60 fu m s1 1 x y z (nI k) (nI i) = some s2 ∧ PF s s2 ∧ gI s2 9 1 22 = nI (N + 1) ∧
        ∀ j, gI s2 10 (gR s 9 1 19) j = sr3 (gI s 10 (gR s 9 1 19)) N k k x true j ∧ gI s2 10 (gR s 9 1 20) j = sr3 (gI s 10 (gR s 9 1 20)) N k k y true j ∧ gI s2 10 (gR s 9 1 21) j = sr3 (gI s 10 (gR s 9 1 21)) N k k z true j := by
  have e10 : ¬ (1 = 0) := by decide
  obtain ⟨n1, n2, n3⟩ := hD
  obtain ⟨z1, z2, z3⟩ := h0
  obtain ⟨l1, l2, l3⟩ := hl
  have rd : ∀ (s1 : St) (i : Nat) (a b c : Int32) (j : Nat), (gI (sI (sI (sI s1 10 (gR s 9 1 19) i a) 10 (gR s 9 1 20) i b) 10 (gR s 9 1 21) i c) 10 (gR s 9 1 19) j = if j = i then a else gI s1 10 (gR s 9 1 19) j) ∧ (gI (sI (sI (sI s1 10 (gR s 9 1 19) i a) 10 (gR s 9 1 20) i b) 10 (gR s 9 1 21) i c) 10 (gR s 9 1 20) j = if j = i then b else gI s1 10 (gR s 9 1 20) j) ∧ (gI (sI (sI (sI s1 10 (gR s 9 1 19) i a) 10 (gR s 9 1 20) i b) 10 (gR s 9 1 21) i c) 10 (gR s 9 1 21) j = if j = i then c else gI s1 10 (gR s 9 1 21) j) := by
    intro s1 i a b c j
    refine ⟨?_, ?_, ?_⟩
    · rw [gI_sI, if_neg (fun q => n2 q.2.1), gI_sI, if_neg (fun q => n1 q.2.1)]
      by_cases hj : j = i
      · rw [gI_sI, if_pos ⟨rfl, rfl, hj⟩, if_pos hj]
      · rw [gI_sI, if_neg (fun q => hj q.2.2), if_neg hj]
    · rw [gI_sI, if_neg (fun q => n3 q.2.1)]
      by_cases hj : j = i
      · rw [gI_sI, if_pos ⟨rfl, rfl, hj⟩, if_pos hj]
      · rw [gI_sI, if_neg (fun q => hj q.2.2), if_neg hj, gI_sI, if_neg (fun q => n1 q.2.1.symm)]
    · by_cases hj : j = i
      · rw [gI_sI, if_pos ⟨rfl, rfl, hj⟩, if_pos hj]
      · rw [gI_sI, if_neg (fun q => hj q.2.2), if_neg hj, gI_sI, if_neg (fun q => n3 q.2.1.symm), gI_sI, if_neg (fun q => n2 q.2.1.symm)]
  intro e
  induction e with
  | zero =>
    intro i m s1 hi hiN hm hw h22 hr
    have : i = k := by omega
    subst this
    cases m with
    | zero => omega
    | succ m =>
      have r0 : gR s1 = gR s := hw.1.1
      have r1 : gL s1 = gL s := hw.1.2.1
      have b1 : inb (nI i) (gL s 10 (gR s 9 1 19)) = true := nu_inbn (by omega) (by omega)
      have b2 : inb (nI i) (gL s 10 (gR s 9 1 20)) = true := nu_inbn (by omega) (by omega)
      have b3 : inb (nI i) (gL s 10 (gR s 9 1 21)) = true := nu_inbn (by omega) (by omega)
      have w1 := PF.w s1 i x y z
      rw [r0] at w1
      have h22' : gI (sI (sI (sI s1 10 (gR s 9 1 19) i x) 10 (gR s 9 1 20) i y) 10 (gR s 9 1 21) i z) 9 1 22 = nI N := by rw [gI_sI, if_neg (by omega), gI_sI, if_neg (by omega), gI_sI, if_neg (by omega)]; exact h22
      refine ⟨sI (sI (sI (sI s1 10 (gR s 9 1 19) i x) 10 (gR s 9 1 20) i y) 10 (gR s 9 1 21) i z) 9 1 22 (nI (N + 1)), ?_, (hw.tr w1).tr (PF.z _ _), by rw [gI_sI, if_pos ⟨rfl, rfl, rfl⟩], fun j => ?_⟩
      · unfold f_X9_comes_b60
        rw [if_pos ((ni_le (by omega) (by omega)).mpr (Nat.le_refl _))]
        simp only [e10, reduceIte, gR_sI, gL_sI, r0, r1, z1, z2, z3, b1, b2, b3, Bool.true_eq_false, lt, nu_ixn (show i < 2147483648 by omega), h22', nu_nIa]
      · have hz : ∀ a, gI (sI (sI (sI (sI s1 10 (gR s 9 1 19) i x) 10 (gR s 9 1 20) i y) 10 (gR s 9 1 21) i z) 9 1 22 (nI (N + 1))) 10 a j = gI (sI (sI (sI s1 10 (gR s 9 1 19) i x) 10 (gR s 9 1 20) i y) 10 (gR s 9 1 21) i z) 10 a j := fun a => by rw [gI_sI, if_neg (by omega)]
        obtain ⟨d1, d2, d3⟩ := rd s1 i x y z j
        obtain ⟨u1, u2, u3⟩ := hr j
        rw [hz, hz, hz, d1, d2, d3, u1, u2, u3]
        unfold sr3
        by_cases hj : j = i
        · simp only [hj, reduceIte, and_self]
        · simp only [hj, reduceIte, and_false, and_self]
  | succ e ih =>
    intro i m s1 hi hiN hm hw h22 hr
    cases m with
    | zero => omega
    | succ m =>
      have r0 : gR s1 = gR s := hw.1.1
      have r1 : gL s1 = gL s := hw.1.2.1
      have a1 : inb (nI (i - 1)) (gL s 10 (gR s 9 1 19)) = true := nu_inbn (by omega) (by omega)
      have a2 : inb (nI (i - 1)) (gL s 10 (gR s 9 1 20)) = true := nu_inbn (by omega) (by omega)
      have a3 : inb (nI (i - 1)) (gL s 10 (gR s 9 1 21)) = true := nu_inbn (by omega) (by omega)
      have b1 : inb (nI i) (gL s 10 (gR s 9 1 19)) = true := nu_inbn (by omega) (by omega)
      have b2 : inb (nI i) (gL s 10 (gR s 9 1 20)) = true := nu_inbn (by omega) (by omega)
      have b3 : inb (nI i) (gL s 10 (gR s 9 1 21)) = true := nu_inbn (by omega) (by omega)
      obtain ⟨v1, v2, v3⟩ := hr (i - 1)
      have hsv : ∀ (f : Nat → Int32) (q : Int32), sr3 f N k i q false (i - 1) = f (i - 1) := fun f q => by
        unfold sr3
        rw [if_neg (fun w => absurd w.1 (by decide)), if_neg (by omega)]
      rw [hsv] at v1 v2 v3
      have w1 := PF.w s1 i (gI s 10 (gR s 9 1 19) (i - 1)) (gI s 10 (gR s 9 1 20) (i - 1)) (gI s 10 (gR s 9 1 21) (i - 1))
      rw [r0] at w1
      have x2 : ∀ q, gI (sI s1 10 (gR s 9 1 19) i q) 10 (gR s 9 1 20) (i - 1) = gI s 10 (gR s 9 1 20) (i - 1) := fun q => by rw [gI_sI, if_neg (fun w => n1 w.2.1.symm)]; exact v2
      have x3 : ∀ q q', gI (sI (sI s1 10 (gR s 9 1 19) i q) 10 (gR s 9 1 20) i q') 10 (gR s 9 1 21) (i - 1) = gI s 10 (gR s 9 1 21) (i - 1) := fun q q' => by rw [gI_sI, if_neg (fun w => n3 w.2.1.symm), gI_sI, if_neg (fun w => n2 w.2.1.symm)]; exact v3
      obtain ⟨s2, y1⟩ := ih (i - 1) m _ (by omega) (by omega) (by omega) (hw.tr w1) (by rw [gI_sI, if_neg (by omega), gI_sI, if_neg (by omega), gI_sI, if_neg (by omega)]; exact h22) (fun j => by
        obtain ⟨u1, u2, u3⟩ := hr j
        obtain ⟨d1, d2, d3⟩ := rd s1 i (gI s 10 (gR s 9 1 19) (i - 1)) (gI s 10 (gR s 9 1 20) (i - 1)) (gI s 10 (gR s 9 1 21) (i - 1)) j
        have hif : ∀ (f : Nat → Int32) (q : Int32), (if j = i then f (i - 1) else sr3 f N k i q false j) = sr3 f N k (i - 1) q false j := fun f q => by
          have hff : ¬ (false = true ∧ j = k) := fun w => absurd w.1 (by decide)
          unfold sr3
          simp only [hff, reduceIte]
          by_cases hj : j = i
          · rw [if_pos hj, if_pos (by omega), hj]
          · rw [if_neg hj]
            by_cases hc : i < j ∧ j ≤ N
            · rw [if_pos hc, if_pos (by omega)]
            · rw [if_neg hc, if_neg (by omega)]
        rw [d1, d2, d3, u1, u2, u3, hif, hif, hif]
        exact ⟨rfl, rfl, rfl⟩)
      refine ⟨s2, ?_, y1.2⟩
      rw [← y1.1]
      conv => lhs; unfold f_X9_comes_b60
      rw [if_neg (fun q => by have := (ni_le (by omega) (by omega)).mp q; omega)]
      simp only [e10, gR_sI, gL_sI, r0, r1, z1, z2, z3, reduceIte, ni_dec (show 0 < i by omega) (show i < 2147483648 by omega), a1, a2, a3, b1, b2, b3, Bool.true_eq_false, lt, nu_ixn (show i - 1 < 2147483648 by omega), nu_ixn (show i < 2147483648 by omega), v1, x2, x3, ni_m (show 0 < i by omega) (show i < 2147483648 by omega)]
theorem X9_co45 (hP : PtM s P) (hW : PWf P) (hD : PD s) (hN : off P 10 < 40000) (hl : off P 10 < gL s 10 (gR s 9 1 19) ∧ off P 10 < gL s 10 (gR s 9 1 20) ∧ off P 10 < gL s 10 (gR s 9 1 21)) {id : Nat} (hid : id < 10) (t v : Int32) (hfu : 50000 ≤ fu) :
    ∃ s', f_X9_comes_b45 fu s 1 (nI id) t v = some s' ∧ PF s s' ∧ PtM s' (upP P id (ins (t, v) (P id))) := by
  have e10 : ¬ (1 = 0) := by decide
  have hpo := X9_po (fu := fu) hP hW hid (t := Int32.toInt64 t) hfu
  rw [nj_up] at hpo
  obtain ⟨h0, -, h22, hr⟩ := hP
  have ho1 : off P (id + 1) ≤ off P 10 := off_mono P (by omega)
  rw [off_s] at ho1
  have hcl := cl_len (P id) t.toInt
  have hlo := off_lo P id (ins (t, v) (P id))
  have hhi := off_hi P id (ins (t, v) (P id))
  have h10 := hhi 10 hid
  rw [ins_len] at h10
  obtain ⟨s2, y1, y2, y3, y4⟩ := X9_co_loop (fu := fu) hD h0 (k := off P id + cl (P id) t.toInt) (N := off P 10) (by omega) (by omega) hl (nI id) t v (off P 10 - (off P id + cl (P id) t.toInt)) (off P 10) fu s (by omega) (Nat.le_refl _) (by omega) (PF.rf s) h22 (fun j => by
    have : ∀ (f : Nat → Int32) (k : Nat) (q : Int32), sr3 f (off P 10) k (off P 10) q false j = f j := fun f k q => by
      unfold sr3
      rw [if_neg (fun w => absurd w.1 (by decide)), if_neg (by omega)]
    rw [this, this, this]
    exact ⟨rfl, rfl, rfl⟩)
  have r0 : gR s2 = gR s := y2.1.1
  have r1 : gL s2 = gL s := y2.1.2.1
  refine ⟨s2, ?_, y2, ⟨by rw [r0]; exact h0, by rw [r0, r1]; omega, by rw [y3]; congr 1; omega, fun i hi j q hq => ?_⟩⟩
  · unfold f_X9_comes_b45
    rw [if_neg e10, hpo]
    simp only [bI, lt]
    rw [h22]
    exact y1
  · rw [r0]
    have key : ∀ k k', ¬ k = off P id + cl (P id) t.toInt → k ≤ off P 10 → (if off P id + cl (P id) t.toInt < k then k - 1 else k) = k' → gI s2 10 (gR s 9 1 19) k = gI s 10 (gR s 9 1 19) k' ∧ gI s2 10 (gR s 9 1 20) k = gI s 10 (gR s 9 1 20) k' ∧ gI s2 10 (gR s 9 1 21) k = gI s 10 (gR s 9 1 21) k' := by
      intro k k' hne hk hkk
      obtain ⟨u1, u2, u3⟩ := y4 k
      have hs : ∀ (f : Nat → Int32) (q : Int32), sr3 f (off P 10) (off P id + cl (P id) t.toInt) (off P id + cl (P id) t.toInt) q true k = f k' := fun f q => by
        unfold sr3
        rw [if_neg (fun w => hne w.2)]
        by_cases hc : off P id + cl (P id) t.toInt < k
        · rw [if_pos ⟨hc, hk⟩, ← hkk, if_pos hc]
        · rw [if_neg (fun w => hc w.1), ← hkk, if_neg hc]
      rw [u1, u2, u3, hs, hs, hs]
      exact ⟨rfl, rfl, rfl⟩
    have hql := get_lt hq
    by_cases h : i = id
    · subst h
      have e1 : upP P i (ins (t, v) (P i)) i = ins (t, v) (P i) := by unfold upP; rw [if_pos rfl]
      rw [e1] at hq hql
      rw [ins_len] at hql
      have e2 : ins (t, v) (P i) = (P i).take (cl (P i) t.toInt) ++ (t, v) :: (P i).drop (cl (P i) t.toInt) := rfl
      rw [e2, ge_at, List.take_append_drop, List.length_take, Nat.min_eq_left hcl] at hq
      rw [hlo i (Nat.le_refl _)]
      by_cases hj : j = cl (P i) t.toInt
      · rw [if_pos hj] at hq
        have := Option.some.inj hq
        subst this
        obtain ⟨u1, u2, u3⟩ := y4 (off P i + j)
        have hs : ∀ (f : Nat → Int32) (q : Int32), sr3 f (off P 10) (off P i + cl (P i) t.toInt) (off P i + cl (P i) t.toInt) q true (off P i + j) = q := fun f q => by
          unfold sr3
          rw [if_pos ⟨rfl, by omega⟩]
        rw [u1, u2, u3, hs, hs, hs]
        exact ⟨rfl, rfl, rfl⟩
      · rw [if_neg hj] at hq
        by_cases hjl : j < cl (P i) t.toInt
        · rw [if_pos hjl] at hq
          obtain ⟨k1, k2, k3⟩ := key (off P i + j) (off P i + j) (by omega) (by omega) (by rw [if_neg (by omega)])
          rw [k1, k2, k3]
          exact hr i hi j q hq
        · rw [if_neg hjl] at hq
          obtain ⟨k1, k2, k3⟩ := key (off P i + j) (off P i + (j - 1)) (by omega) (by omega) (by rw [if_pos (by omega)]; omega)
          rw [k1, k2, k3]
          exact hr i hi (j - 1) q hq
    · have e1 : upP P id (ins (t, v) (P id)) i = P i := by unfold upP; rw [if_neg h]
      rw [e1] at hq hql
      have hoi : off P (i + 1) ≤ off P 10 := off_mono P (by omega)
      rw [off_s] at hoi
      by_cases hlt : i < id
      · have hoi2 : off P (i + 1) ≤ off P id := off_mono P (by omega)
        rw [off_s] at hoi2
        rw [hlo i (by omega)]
        obtain ⟨k1, k2, k3⟩ := key (off P i + j) (off P i + j) (by omega) (by omega) (by rw [if_neg (by omega)])
        rw [k1, k2, k3]
        exact hr i hi j q hq
      · have hh := hhi i (by omega)
        rw [ins_len] at hh
        have hoi3 : off P (id + 1) ≤ off P i := off_mono P (by omega)
        rw [off_s] at hoi3
        obtain ⟨k1, k2, k3⟩ := key (off (upP P id (ins (t, v) (P id))) i + j) (off P i + j) (by omega) (by omega) (by rw [if_pos (by omega)]; omega)
        rw [k1, k2, k3]
        exact hr i hi j q hq
end COM
