/-! ===== the reference lays aside ===== -/
section ASI
variable {s : St} {n mo u fu : Nat} {S K : Nat → Int} {x : Ab}
theorem X9_cop {a b c : Nat} (ha : ¬ a = 0) (hb : ¬ b = 0) (hne : ¬ a = b) (hc : c ≤ 65536) (la : c ≤ gL s 10 a) (lb : c ≤ gL s 10 b) (hf : c < fu) : ∃ s', f_X9_copies fu s a b (nI c) = some s' ∧ WR s s' a ∧ ∀ j, j < c → gI s' 10 a j = gI s 10 b j := by
  have loop : ∀ (e i m : Nat) (s1 : St), i + e = c → e < m → WR s s1 a → (∀ j, j < i → gI s1 10 a j = gI s 10 b j) → ∃ s2, f_X9_copies_b2 fu m s1 a b (nI c) (nI i) = some s2 ∧ WR s s2 a ∧ ∀ j, j < c → gI s2 10 a j = gI s 10 b j := by
    intro e
    induction e with
    | zero =>
      intro i m s1 hi hm hw h0
      obtain ⟨m, rfl⟩ : ∃ m', m = m' + 1 := ⟨m - 1, by omega⟩
      refine ⟨s1, ?_, hw, fun j hj => h0 j (by omega)⟩
      unfold f_X9_copies_b2
      rw [if_pos ((ni_le (by omega) (by omega)).mpr (by omega))]
    | succ e ih =>
      intro i m s1 hi hm hw h0
      obtain ⟨m, rfl⟩ : ∃ m', m = m' + 1 := ⟨m - 1, by omega⟩
      have l1 : gL s1 = gL s := hw.1.2.1
      have ba : inb (nI i) (gL s1 10 a) = true := by rw [l1]; exact nu_inbn (by omega) (by omega)
      have bb : inb (nI i) (gL s1 10 b) = true := by rw [l1]; exact nu_inbn (by omega) (by omega)
      have gb : gI s1 10 b i = gI s 10 b i := hw.2 10 b i (fun q => hne q.2.symm)
      obtain ⟨s2, y1, y2, y3⟩ := ih (i + 1) m (sI s1 10 a i (gI s 10 b i)) (by omega) (by omega) (hw.tr (WR.wr s1 a i _)) (fun j hj => by
        rw [gI_sI]
        by_cases c1 : j = i
        · rw [if_pos ⟨rfl, rfl, c1⟩, c1]
        · rw [if_neg (fun q => c1 q.2.2)]; exact h0 j (by omega))
      refine ⟨s2, ?_, y2, y3⟩
      conv => lhs; unfold f_X9_copies_b2
      rw [if_neg (fun q => by have := (ni_le (by omega) (by omega)).mp q; omega), if_neg hb, if_neg (by rw [bb]; decide), if_neg ha, if_neg (by rw [ba]; decide)]
      simp only [lt, nu_ixn (show i < 2147483648 by omega), gb, nu_nIa]
      exact y1
  exact loop c 0 fu s (by omega) hf (WR.rf s a) (fun j hj => by omega)
theorem lgS.la {s s' : St} {j : Nat} (h : lgS s s' j) (h1 : 46 ≤ j) (h2 : j ≤ 48) : LaF s s' := by
  obtain ⟨a1, a2, a3, a4, a5, a6, a7, a8, -⟩ := h
  refine ⟨fun k i m hk hq => a1 k i m hk (fun w => hq (by omega)), fun m h3 h4 => ?_, a6, fun k => ?_, fun k i m hk _ _ => a7 k i m hk, fun k i m hk => a8 k i m hk⟩
  · by_cases c : m = j
    · exact Or.inr (by rw [c, a3, a4]; omega)
    · exact Or.inl (a2 m c)
  · by_cases c : k = 10
    · rw [c, a4]; exact ⟨by omega, fun q => absurd rfl q⟩
    · rw [a5 k c]; exact ⟨Nat.le_refl _, fun _ => rfl⟩
/-- rows 46 to 48 twice as long -/
theorem X9_lg3 (hO : OwnM s) (h38 : 38 ≤ gN s 10) (hc : gL s 10 (gR s 9 1 46) ≤ 40000) (hr1 : cn s + 3 ≤ 601024) (hr2 : sn s + 240000 ≤ 7293034) (hfu : 50000 ≤ fu) :
    ∃ s1 s2 s3 s1' s2' s3', f_X9_longer fu s (gR s 9 1 46) = some (s1', gN s 10 + 1) ∧ s1 = sR s1' 9 1 46 (gN s 10 + 1) ∧ f_X9_longer fu s1 (gR s1 9 1 47) = some (s2', gN s1 10 + 1) ∧ s2 = sR s2' 9 1 47 (gN s1 10 + 1) ∧ f_X9_longer fu s2 (gR s2 9 1 48) = some (s3', gN s2 10 + 1) ∧ s3 = sR s3' 9 1 48 (gN s2 10 + 1) ∧ LaF s s3 ∧ OwnM s3 ∧ Rmm s s3 ∧ gL s3 10 (gR s3 9 1 46) = 2 * gL s 10 (gR s 9 1 46) := by
  obtain ⟨o1, o2, ⟨o3, o4, o5, o6⟩, ⟨o7, o8, o9, o10⟩⟩ := hO
  have p46 := o1 46 mj46
  have p47 := o1 47 mj47
  have p48 := o1 48 mj48
  obtain ⟨s1', y1, L1⟩ := X9_lg1 (s := s) (fu := fu) (j := 46) p46.1 p46.2.1 hc (by omega) (by omega) hfu
  generalize hs1 : sR s1' 9 1 46 (gN s 10 + 1) = s1 at L1
  have A1 := L1.la (by omega) (by omega)
  obtain ⟨a1, a2, a3, a4, a5, a6, a7, a8, a9, a10, a11, a12⟩ := L1
  have e47 : gR s1 9 1 47 = gR s 9 1 47 := a2 47 (by omega)
  have l47 : gL s1 10 (gR s1 9 1 47) = gL s 10 (gR s 9 1 46) := by rw [e47, a6 10 _ (fun _ => p47.2.1)]; exact o7
  obtain ⟨s2', y2, L2⟩ := X9_lg1 (s := s1) (fu := fu) (j := 47) (by rw [e47]; omega) (by rw [e47, a4]; omega) (by rw [l47]; exact hc) (by omega) (by omega) hfu
  generalize hs2 : sR s2' 9 1 47 (gN s1 10 + 1) = s2 at L2
  have A2 := L2.la (by omega) (by omega)
  obtain ⟨b1, b2, b3, b4, b5, b6, b7, b8, b9, b10, b11, b12⟩ := L2
  have e48 : gR s2 9 1 48 = gR s 9 1 48 := by rw [b2 48 (by omega), a2 48 (by omega)]
  have l48 : gL s2 10 (gR s2 9 1 48) = gL s 10 (gR s 9 1 46) := by rw [e48, b6 10 _ (fun _ => by omega), a6 10 _ (fun _ => p48.2.1)]; exact o8
  obtain ⟨s3', y3, L3⟩ := X9_lg1 (s := s2) (fu := fu) (j := 48) (by rw [e48]; omega) (by rw [e48]; omega) (by rw [l48]; exact hc) (by omega) (by omega) hfu
  generalize hs3 : sR s3' 9 1 48 (gN s2 10 + 1) = s3 at L3
  have A3 := L3.la (by omega) (by omega)
  obtain ⟨c1, c2, c3, c4, c5, c6, c7, c8, c9, c10, c11, c12⟩ := L3
  have lo : ∀ j, ¬ (46 ≤ j ∧ j ≤ 48) → gR s3 9 1 j = gR s 9 1 j := fun j hj => by rw [c2 j (by omega), b2 j (by omega), a2 j (by omega)]
  have h46 : gR s3 9 1 46 = gN s 10 + 1 := by rw [c2 46 (by omega), b2 46 (by omega), a3]
  have h47 : gR s3 9 1 47 = gN s 10 + 2 := by rw [c2 47 (by omega), b3, a4]
  have h48 : gR s3 9 1 48 = gN s 10 + 3 := by rw [c3, b4, a4]
  have hN3 : gN s3 10 = gN s 10 + 3 := by rw [c4, b4, a4]
  have len : ∀ i, i ≤ gN s 10 → gL s3 10 i = gL s 10 i := fun i hi => by rw [c6 10 i (fun _ => by omega), b6 10 i (fun _ => by omega), a6 10 i (fun _ => hi)]
  have n46 : gL s3 10 (gN s 10 + 1) = 2 * gL s 10 (gR s 9 1 46) := by rw [c6 10 _ (fun _ => by omega), b6 10 _ (fun _ => by omega), a9]
  have n47 : gL s3 10 (gN s 10 + 2) = 2 * gL s 10 (gR s 9 1 46) := by
    have : gN s 10 + 2 = gN s1 10 + 1 := by omega
    rw [this, c6 10 _ (fun _ => by omega), b9, l47]
  have n48 : gL s3 10 (gN s 10 + 3) = 2 * gL s 10 (gR s 9 1 46) := by
    have : gN s 10 + 3 = gN s2 10 + 1 := by omega
    rw [this, c9, l48]
  have hO3 : OwnM s3 := by
    have up : ∀ j, 46 ≤ j → j ≤ 48 → gR s3 9 1 j = gN s 10 + (j - 45) := fun j q1 q2 => by
      have : j = 46 ∨ j = 47 ∨ j = 48 := by omega
      rcases this with rfl | rfl | rfl
      · exact h46
      · exact h47
      · exact h48
    refine ⟨fun j hj => ?_, fun j j' hj hj' e => ?_, ?_, ?_⟩
    · by_cases c : 46 ≤ j ∧ j ≤ 48
      · rw [up j c.1 c.2, hN3]
        omega
      · rw [lo j c, hN3]
        have := o1 j hj
        omega
    · by_cases c : 46 ≤ j ∧ j ≤ 48
      · rw [up j c.1 c.2] at e
        by_cases c' : 46 ≤ j' ∧ j' ≤ 48
        · rw [up j' c'.1 c'.2] at e; omega
        · rw [lo j' c'] at e
          have := o1 j' hj'
          omega
      · rw [lo j c] at e
        by_cases c' : 46 ≤ j' ∧ j' ≤ 48
        · rw [up j' c'.1 c'.2] at e
          have := o1 j hj
          omega
        · rw [lo j' c'] at e
          exact o2 j j' hj hj' e
    · rw [lo 19 (by omega), lo 20 (by omega), lo 21 (by omega), len _ (o1 19 mj19).2.1, len _ (o1 20 mj20).2.1, len _ (o1 21 mj21).2.1]
      exact ⟨o3, o4, o5, o6⟩
    · rw [h46, h47, h48, n46, n47, n48]
      omega
  refine ⟨s1, s2, s3, s1', s2', s3', y1, hs1.symm, y2, hs2.symm, y3, hs3.symm, (A1.tr A2).tr A3, hO3, ?_, by rw [h46]; exact n46⟩
  unfold Rmm mS
  rw [lo 19 (by omega), len _ (o1 19 mj19).2.1, h46, n46]
  omega
end ASI
