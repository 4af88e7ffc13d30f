/-! ===== the roster: remove, copyFrom, clear ===== -/
section REM
variable {s : St} {R : List Nat} {H : Nat → Int32} {fu r : Nat}
theorem X4_rm_loop (hA : rsA s r) {N k : Nat} (hN : N < 10) (hz : gI s 4 r 2 = nI N) : ∀ (d i m : Nat) (s1 : St), i + d = N → k ≤ i → d < m → RF s s1 r → gI s1 4 r 2 = nI N → (∀ j, gI s1 10 (gR s 4 r 1) j = gI s 10 (gR s 4 r 1) j) → (∀ j, gI s1 10 (gR s 4 r 0) j = if k ≤ j ∧ j < i then gI s 10 (gR s 4 r 0) (j + 1) else gI s 10 (gR s 4 r 0) j) →
    ∃ s2, f_X4_remove_b24 fu m s1 r (nI i) = some s2 ∧ RF s s2 r ∧ gI s2 4 r 2 = nI N ∧ (∀ j, gI s2 10 (gR s 4 r 1) j = gI s 10 (gR s 4 r 1) j) ∧ ∀ j, gI s2 10 (gR s 4 r 0) j = if k ≤ j ∧ j < N then gI s 10 (gR s 4 r 0) (j + 1) else gI s 10 (gR s 4 r 0) j := by
  obtain ⟨⟨a1, a2, a3⟩, ⟨a4, a5⟩, a6⟩ := hA
  intro d
  induction d with
  | zero =>
    intro i m s1 hi hk hm hw h2 h1 h0
    have : i = N := by omega
    subst this
    cases m with
    | zero => omega
    | succ m =>
      refine ⟨s1, ?_, hw, h2, h1, h0⟩
      unfold f_X4_remove_b24
      rw [if_neg a1, h2, if_pos ((ni_le (by omega) (by omega)).mpr (Nat.le_refl _))]
  | succ d ih =>
    intro i m s1 hi hk hm hw h2 h1 h0
    cases m with
    | zero => omega
    | succ m =>
      have e0 : gR s1 = gR s := hw.1.1
      have e1 : gL s1 = gL s := hw.1.2.1
      have bi : inb (nI i) 10 = true := nu_inbn (by omega) (by omega)
      have bi' : inb (nI (i + 1)) 10 = true := nu_inbn (by omega) (by omega)
      have w1 : RF s (sI s1 10 (gR s 4 r 0) i (gI s 10 (gR s 4 r 0) (i + 1))) r := by
        have := hw.tr (RF.a s1 r i (gI s 10 (gR s 4 r 0) (i + 1)))
        rw [e0] at this
        exact this
      obtain ⟨s2, y⟩ := ih (i + 1) m (sI s1 10 (gR s 4 r 0) i (gI s 10 (gR s 4 r 0) (i + 1))) (by omega) (by omega) (by omega) w1 (by rw [gI_sI, if_neg (by omega)]; exact h2) (fun j => by rw [gI_sI, if_neg (fun q => a6 q.2.1)]; exact h1 j) (fun j => by
        rw [gI_sI]
        by_cases hj : j = i
        · rw [if_pos ⟨rfl, rfl, hj⟩, if_pos (by omega), hj]
        · rw [if_neg (fun q => hj q.2.2), h0]
          by_cases hc : k ≤ j ∧ j < i
          · rw [if_pos hc, if_pos (by omega)]
          · rw [if_neg hc, if_neg (by omega)])
      refine ⟨s2, ?_, y.2⟩
      rw [← y.1]
      conv => lhs; unfold f_X4_remove_b24
      rw [if_neg a1, h2, if_neg (fun q => by have := (ni_le (by omega) (by omega)).mp q; omega), e0, if_neg a2, e1, a4, nu_nIa, if_neg (by rw [bi']; decide), if_neg (by rw [bi]; decide), nu_ixn (by omega), nu_ixn (by omega), h0, if_neg (by omega)]
      rfl
theorem X4_rm (hR : Ros s r R H) (hne : ¬ gR s 4 r 1 = gR s 4 r 0) (hW : RW R) {A B : List Nat} {id : Nat} (e : R = A ++ id :: B) (hfu : 100 ≤ fu) :
    ∃ s', f_X4_remove fu s r (nI id) = some s' ∧ Ros s' r (A ++ B) H ∧ RF s s' r := by
  have hA := hR.a hne
  have hRl := hW.2.2
  have hlen : R.length = A.length + (B.length + 1) := by rw [e, List.length_append, List.length_cons]
  have hgx : R[A.length]? = some id := by rw [e, List.getElem?_append_right (Nat.le_refl _)]; simp
  have hpo := X4_po (fu := fu) hR hW hgx hfu
  obtain ⟨r1, r2, r3, r4, r5⟩ := hR
  have w0 := RF.z s r (nI (A.length + B.length))
  have hA1 : rsA (sI s 4 r 2 (nI (A.length + B.length))) r := hA
  have q0 : ∀ i j, gI (sI s 4 r 2 (nI (A.length + B.length))) 10 i j = gI s 10 i j := fun i j => by rw [gI_sI, if_neg (by omega)]
  have q2 : gI (sI s 4 r 2 (nI (A.length + B.length))) 4 r 2 = nI (A.length + B.length) := by rw [gI_sI, if_pos ⟨rfl, rfl, rfl⟩]
  obtain ⟨s2, y1, y2, y3, y4, y5⟩ := X4_rm_loop (fu := fu) hA1 (N := A.length + B.length) (k := A.length) (by omega) q2 B.length A.length fu (sI s 4 r 2 (nI (A.length + B.length))) rfl (Nat.le_refl _) (by omega) (RF.rf _ r) q2 (fun _ => rfl) (fun j => by rw [if_neg (by omega)])
  have z0 : gR s2 = gR s := y2.1.1
  have z1 : gL s2 = gL s := y2.1.2.1
  refine ⟨s2, ?_, ⟨by rw [z0]; exact r1, by rw [z0, z1]; exact r2, by rw [y3, List.length_append], fun j i hj => ?_, fun i hi => ?_⟩, w0.tr y2⟩
  · unfold f_X4_remove
    rw [if_neg r1.1, hpo]
    simp only [bI]
    rw [if_neg (ni_m1 (by omega)), r3, ni_dec (by omega) (by omega), show R.length - 1 = A.length + B.length by omega]
    exact y1
  · have hjl := get_lt hj
    rw [List.length_append] at hjl
    have y := y5 j
    rw [z0]
    have y' : gI s2 10 (gR s 4 r 0) j = _ := y
    rw [y']
    have hg := ge_at A B id
    by_cases hc : j < A.length
    · rw [if_neg (by omega)]
      show gI (sI s 4 r 2 _) 10 (gR s 4 r 0) j = _
      rw [q0]
      refine r4 j i ?_
      rw [e, hg, if_neg (by omega), if_pos hc]
      exact hj
    · rw [if_pos (by omega)]
      show gI (sI s 4 r 2 _) 10 (gR s 4 r 0) (j + 1) = _
      rw [q0]
      refine r4 (j + 1) i ?_
      rw [e, hg, if_neg (by omega), if_neg (by omega), Nat.add_sub_cancel]
      exact hj
  · rw [z0]
    have y' : gI s2 10 (gR s 4 r 1) i = gI (sI s 4 r 2 (nI (A.length + B.length))) 10 (gR s 4 r 1) i := y4 i
    rw [y', q0]
    refine r5 i ?_
    rw [e]
    rcases List.mem_append.mp hi with w | w
    · exact List.mem_append_left _ w
    · exact List.mem_append_right _ (List.mem_cons_of_mem _ w)
theorem X4_cp (hR : Ros s 1 R H) (hL : Lay s) (hl : R.length ≤ 10) (hb : ∀ i ∈ R, i < 10) (hfu : 100 ≤ fu) :
    ∃ s', f_X4_copyFrom fu s 2 1 = some s' ∧ Ros s' 2 R H ∧ RF s s' 2 := by
  have e20 : ¬ (2 = 0) := by decide
  have e10 : ¬ (1 = 0) := by decide
  have e5 : ¬ (5 = 0) := by decide
  have e6 : ¬ (6 = 0) := by decide
  have e7 : ¬ (7 = 0) := by decide
  have e8 : ¬ (8 = 0) := by decide
  obtain ⟨r1, r2, r3, r4, r5⟩ := hR
  rw [lr_4_1_0 hL] at r4
  rw [lr_4_1_1 hL] at r5
  have loop : ∀ (d i m : Nat) (s1 : St), i + d = 10 → d < m → RF s s1 2 → gI s1 4 2 2 = nI R.length → (∀ j, j < i → gI s1 10 7 j = gI s 10 5 j ∧ gI s1 10 8 j = gI s 10 6 j) → ∃ s2, f_X4_copyFrom_b10 fu m s1 2 1 (nI i) = some s2 ∧ RF s s2 2 ∧ gI s2 4 2 2 = nI R.length ∧ ∀ j, j < 10 → gI s2 10 7 j = gI s 10 5 j ∧ gI s2 10 8 j = gI s 10 6 j := by
    intro d
    induction d with
    | zero =>
      intro i m s1 hi hm hw h2 h0
      have : i = 10 := by omega
      subst this
      cases m with
      | zero => omega
      | succ m =>
        refine ⟨s1, ?_, hw, h2, h0⟩
        unfold f_X4_copyFrom_b10
        rw [if_pos (by decide)]
    | succ d ih =>
      intro i m s1 hi hm hw h2 h0
      cases m with
      | zero => omega
      | succ m =>
        have hL1 : Lay s1 := hL.same hw.1.1 hw.1.2.1 hw.1.2.2.1
        have bi : inb (nI i) 10 = true := nu_inbn (by omega) (by omega)
        have f5 : ∀ j, gI s1 10 5 j = gI s 10 5 j := fun j => hw.2 10 5 j (by omega) (by rw [lr_4_2_0 hL, lr_4_2_1 hL]; omega)
        have f6 : ∀ j, gI s1 10 6 j = gI s 10 6 j := fun j => hw.2 10 6 j (by omega) (by rw [lr_4_2_0 hL, lr_4_2_1 hL]; omega)
        have w1 : RF s (sI (sI s1 10 7 i (gI s 10 5 i)) 10 8 i (gI s 10 6 i)) 2 := by
          have := (hw.tr (RF.a s1 2 i (gI s 10 5 i))).tr (RF.h _ 2 i (gI s 10 6 i))
          rw [gR_sI, lr_4_2_0 hL1, lr_4_2_1 hL1] at this
          exact this
        obtain ⟨s2, y⟩ := ih (i + 1) m (sI (sI s1 10 7 i (gI s 10 5 i)) 10 8 i (gI s 10 6 i)) (by omega) (by omega) w1 (by rw [gI_sI, if_neg (by omega), gI_sI, if_neg (by omega)]; exact h2) (fun j hj => by
          refine ⟨?_, ?_⟩
          · rw [gI_sI, if_neg (by omega), gI_sI]
            by_cases hji : j = i
            · rw [if_pos ⟨rfl, rfl, hji⟩, hji]
            · rw [if_neg (fun q => hji q.2.2)]; exact (h0 j (by omega)).1
          · rw [gI_sI]
            by_cases hji : j = i
            · rw [if_pos ⟨rfl, rfl, hji⟩, hji]
            · rw [if_neg (fun q => hji q.2.2), gI_sI, if_neg (by omega)]; exact (h0 j (by omega)).2)
        refine ⟨s2, ?_, y.2⟩
        rw [← y.1]
        have g6 : ∀ v, gI (sI s1 10 7 i v) 10 6 i = gI s 10 6 i := fun v => by rw [gI_sI, if_neg (by omega), f6]
        conv => lhs; unfold f_X4_copyFrom_b10
        rw [if_neg (fun q => by have := (ni_le (a := 10) (by omega) (by omega)).mp q; omega)]
        simp only [e20, e10, e5, e6, e7, e8, reduceIte, lr_4_1_0 hL1, lr_4_1_1 hL1, lr_4_2_0 hL1, lr_4_2_1 hL1, ll_10_5 hL1, ll_10_6 hL1, ll_10_7 hL1, ll_10_8 hL1, bi, Bool.true_eq_false, nu_ixn (show i < 2147483648 by omega), lt, gR_sI, gL_sI, f5, g6, nu_nIa]
  obtain ⟨s2, y1, y2, y3, y4⟩ := loop 10 0 fu (sI s 4 2 2 (nI R.length)) rfl (by omega) (RF.z s 2 _) (by rw [gI_sI, if_pos ⟨rfl, rfl, rfl⟩]) (fun j hj => by omega)
  have z0 : gR s2 = gR s := y2.1.1
  have z1 : gL s2 = gL s := y2.1.2.1
  refine ⟨s2, ?_, ⟨?_, ?_, y3, fun j i hj => ?_, fun i hi => ?_⟩, y2⟩
  · unfold f_X4_copyFrom
    rw [if_neg e10, if_neg e20, r3]
    exact y1
  · rw [z0, lr_4_2_0 hL, lr_4_2_1 hL]; omega
  · rw [z0, z1, lr_4_2_0 hL, lr_4_2_1 hL]; exact ⟨ll_10_7 hL, ll_10_8 hL⟩
  · have := get_lt hj
    rw [z0, lr_4_2_0 hL, (y4 j (by omega)).1]; exact r4 j i hj
  · rw [z0, lr_4_2_1 hL, (y4 i (hb i hi)).2]; exact r5 i hi
end REM
