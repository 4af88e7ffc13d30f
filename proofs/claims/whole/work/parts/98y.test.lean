/-! ===== tests of an alarm, as they are read ===== -/
def aFc (T : Nat → Nat) (k : Tk) : Option Nat := if wdQ T k 7 then some 1 else if wdQ T k 8 then some 2 else if wdQ T k 9 then some 3 else if wdQ T k 10 then some 4 else if wdQ T k 11 then some 5 else if wdQ T k 3 then some 6 else none
def aRl (T : Nat → Nat) (k : Tk) : Option Nat := if sgQ T k 60 then some 0 else if sgQ T k 61 then some 1 else if sgQ T k 62 then some 2 else none
abbrev oN : AO := none
abbrev oA : AO := some none
abbrev oO : AO := some (some none)
abbrev oC (f r : Nat) (v : Int32) : AO := some (some (some (f, r, v)))
def aCm (T : Nat → Nat) (N : Nat) (k : Tk) (A : List AO) : Flt (Tk × List AO) := match aFc T k with
  | none => .inl (1, tB k)
  | some f => match aRl T (nx T N k) with
    | none => .inl (1, tB (nx T N k))
    | some r => match aTs T N (nx T N (nx T N k)) 9999999 with
      | .inl e => .inl e
      | .inr (k', v) => .inr (k', A ++ [oC f r v])
/-- 0 a unit, 1 units with 'and', 2 a test, 3 behind a unit, 4 behind units with 'and' -/
def aX (T : Nat → Nat) (N : Nat) : Nat → Nat → Tk → Nat → List AO → Flt (Tk × List AO)
  | 0, _, _, _, _ => .inl (0, 0)
  | d + 1, 0, k, e, A => if wdQ T k 6 then (if e = 6 then .inl (2, tB k) else match aX T N d 0 (nx T N k) (e + 1) A with
      | .inl f => .inl f
      | .inr (k', B) => .inr (k', B ++ [oN]))
    else if sgQ T k 40 then (if e = 6 then .inl (2, tB k) else match aX T N d 2 (nx T N k) (e + 1) A with
      | .inl f => .inl f
      | .inr (k', B) => match aSg T N k' 41 with
        | .inl f => .inl f
        | .inr k'' => .inr (k'', B))
    else aCm T N k A
  | d + 1, 1, k, e, A => match aX T N d 0 k e A with
    | .inl f => .inl f
    | .inr (k', B) => aX T N d 3 k' e B
  | d + 1, 2, k, e, A => match aX T N d 1 k e A with
    | .inl f => .inl f
    | .inr (k', B) => aX T N d 4 k' e B
  | d + 1, 3, k, e, A => if wdQ T k 12 then (match aX T N d 0 (nx T N k) e A with
      | .inl f => .inl f
      | .inr (k', B) => aX T N d 3 k' e (B ++ [oA]))
    else .inr (k, A)
  | d + 1, _, k, e, A => if wdQ T k 13 then (match aX T N d 1 (nx T N k) e A with
      | .inl f => .inl f
      | .inr (k', B) => aX T N d 4 k' e (B ++ [oO]))
    else .inr (k, A)
section TES
variable {T : Nat → Nat} {N : Nat}
theorem aX_0 (d : Nat) (k : Tk) (e : Nat) (A : List AO) : aX T N (d + 1) 0 k e A = if wdQ T k 6 then (if e = 6 then .inl (2, tB k) else match aX T N d 0 (nx T N k) (e + 1) A with
      | .inl f => .inl f
      | .inr (k', B) => .inr (k', B ++ [oN]))
    else if sgQ T k 40 then (if e = 6 then .inl (2, tB k) else match aX T N d 2 (nx T N k) (e + 1) A with
      | .inl f => .inl f
      | .inr (k', B) => match aSg T N k' 41 with
        | .inl f => .inl f
        | .inr k'' => .inr (k'', B))
    else aCm T N k A := rfl
theorem aX_1 (d : Nat) (k : Tk) (e : Nat) (A : List AO) : aX T N (d + 1) 1 k e A = match aX T N d 0 k e A with
    | .inl f => .inl f
    | .inr (k', B) => aX T N d 3 k' e B := rfl
theorem aX_2 (d : Nat) (k : Tk) (e : Nat) (A : List AO) : aX T N (d + 1) 2 k e A = match aX T N d 1 k e A with
    | .inl f => .inl f
    | .inr (k', B) => aX T N d 4 k' e B := rfl
theorem aX_3 (d : Nat) (k : Tk) (e : Nat) (A : List AO) : aX T N (d + 1) 3 k e A = if wdQ T k 12 then (match aX T N d 0 (nx T N k) e A with
      | .inl f => .inl f
      | .inr (k', B) => aX T N d 3 k' e (B ++ [oA]))
    else .inr (k, A) := rfl
theorem aX_4 (d : Nat) (k : Tk) (e : Nat) (A : List AO) : aX T N (d + 1) 4 k e A = if wdQ T k 13 then (match aX T N d 1 (nx T N k) e A with
      | .inl f => .inl f
      | .inr (k', B) => aX T N d 4 k' e (B ++ [oO]))
    else .inr (k, A) := rfl
theorem wd_len {k : Tk} {w : Nat} (h : wdQ T k w) : tE k - tB k = sL w := ((wv_iff T k w).mp h.2).1
/-- two words don't touch -/
theorem wd_gap {k : Tk} (h : TkW T N k) (h1 : tK k = 1) (h2 : tK (nx T N k) = 1) : tE k + 1 ≤ tB (nx T N k) := by
  have hn := h.nx
  have b3 := hn.1.b3 (by rw [h2]; decide)
  have l2 := (hn.1.2.2.2.2.2.1 h2).1
  have l1 := (h.2.2.2.2.2.1 h1).2
  rcases Nat.lt_or_ge (tE k) (tB (nx T N k)) with q | q
  · omega
  · have e : tB (nx T N k) = tE k := Nat.le_antisymm q hn.2
    rw [e] at l2 b3
    rw [l1 b3] at l2
    cases l2
theorem aFc_w {k : Tk} {f : Nat} (h : aFc T k = some f) : tK k = 1 ∧ 3 ≤ tE k - tB k ∧ 1 ≤ f ∧ f ≤ 6 := by
  have s7 : sL 7 = 5 := rfl
  have s8 : sL 8 = 3 := rfl
  have s9 : sL 9 = 5 := rfl
  have s10 : sL 10 = 8 := rfl
  have s11 : sL 11 = 4 := rfl
  have s3 : sL 3 = 4 := rfl
  unfold aFc at h
  split at h
  · rename_i q; cases h; exact ⟨q.1, by rw [wd_len q, s7]; decide, by decide, by decide⟩
  · split at h
    · rename_i q; cases h; exact ⟨q.1, by rw [wd_len q, s8]; decide, by decide, by decide⟩
    · split at h
      · rename_i q; cases h; exact ⟨q.1, by rw [wd_len q, s9]; decide, by decide, by decide⟩
      · split at h
        · rename_i q; cases h; exact ⟨q.1, by rw [wd_len q, s10]; decide, by decide, by decide⟩
        · split at h
          · rename_i q; cases h; exact ⟨q.1, by rw [wd_len q, s11]; decide, by decide, by decide⟩
          · split at h
            · rename_i q; cases h; exact ⟨q.1, by rw [wd_len q, s3]; decide, by decide, by decide⟩
            · cases h
theorem aRl_w {k : Tk} {r : Nat} (h : aRl T k = some r) : tK k = 3 ∧ r ≤ 2 := by
  unfold aRl at h
  split at h
  · rename_i q; cases h; exact ⟨q.1, by decide⟩
  · split at h
    · rename_i q; cases h; exact ⟨q.1, by decide⟩
    · split at h
      · rename_i q; cases h; exact ⟨q.1, by decide⟩
      · cases h
theorem aCm_w {k k' : Tk} {A B : List AO} (h : TkW T N k) (e : aCm T N k A = .inr (k', B)) : ∃ f r v, B = A ++ [oC f r v] ∧ TkW T N k' ∧ tB k + 5 ≤ tB k' ∧ (1 ≤ f ∧ f ≤ 6) ∧ r ≤ 2 ∧ tK k = 1 := by
  unfold aCm at e
  cases hf : aFc T k with
  | none => rw [hf] at e; cases e
  | some f =>
    simp only [hf] at e
    cases hr : aRl T (nx T N k) with
    | none => simp only [hr] at e; cases e
    | some r =>
      simp only [hr] at e
      cases hv : aTs T N (nx T N (nx T N k)) 9999999 with
      | inl f0 => simp only [hv] at e; cases e
      | inr kv =>
        obtain ⟨k1, v⟩ := kv
        simp only [hv] at e
        cases e
        obtain ⟨a1, a2, a3, a4⟩ := aFc_w hf
        obtain ⟨b1, b2⟩ := aRl_w hr
        have n1 := h.nx
        have n2 := n1.1.nx
        have hs := n1.1.2.2.2.1 (by rw [b1]; decide)
        obtain ⟨u1, u2, -, -⟩ := aTs_pos n2.1 hv
        exact ⟨f, r, v, rfl, u1, by have := n1.2; have := n2.2; omega, ⟨a3, a4⟩, b2, a1⟩
/-- what waits: one more; as many -/
def PSq (m : Nat) (X : List AO) : Prop := ∀ d C, d ≤ m → aoD (d + 1) C → aoD d (X ++ C)
def LSq (m : Nat) (X : List AO) : Prop := ∀ d C, d ≤ m → aoD (d + 1) C → aoD (d + 1) (X ++ C)
theorem aX_ok : ∀ (d : Nat) (k : Tk) (e : Nat) (A : List AO) (k' : Tk) (B : List AO) (q : Nat), e ≤ 6 → TkW T N k →
    (q ≤ tB k → (tK k = 1 → q + 1 ≤ tB k) → aX T N d 0 k e A = .inr (k', B) → ∃ X, B = A ++ X ∧ TkW T N k' ∧ tB k + 1 ≤ tB k' ∧ q + 4 * X.length + 2 ≤ tB k' ∧ PSq (2 * e + 2) X) ∧
    (q ≤ tB k → (tK k = 1 → q + 1 ≤ tB k) → aX T N d 1 k e A = .inr (k', B) → ∃ X, B = A ++ X ∧ TkW T N k' ∧ tB k + 1 ≤ tB k' ∧ q + 4 * X.length + 2 ≤ tB k' ∧ PSq (2 * e + 1) X) ∧
    (q ≤ tB k → (tK k = 1 → q + 1 ≤ tB k) → aX T N d 2 k e A = .inr (k', B) → ∃ X, B = A ++ X ∧ TkW T N k' ∧ tB k + 1 ≤ tB k' ∧ q + 4 * X.length + 2 ≤ tB k' ∧ PSq (2 * e) X) ∧
    (q + 2 ≤ tB k → aX T N d 3 k e A = .inr (k', B) → ∃ X, B = A ++ X ∧ TkW T N k' ∧ tB k ≤ tB k' ∧ q + 4 * X.length + 2 ≤ tB k' ∧ LSq (2 * e + 1) X) ∧
    (q + 2 ≤ tB k → aX T N d 4 k e A = .inr (k', B) → ∃ X, B = A ++ X ∧ TkW T N k' ∧ tB k ≤ tB k' ∧ q + 4 * X.length + 2 ≤ tB k' ∧ LSq (2 * e) X) := by
  intro d
  induction d with
  | zero =>
    intro k e A k' B q he hw
    exact ⟨fun _ _ h => (by cases h), fun _ _ h => (by cases h), fun _ _ h => (by cases h), fun _ h => (by cases h), fun _ h => (by cases h)⟩
  | succ d ih =>
    intro k e A k' B q he hw
    have hn := hw.nx
    have s6 : sL 6 = 3 := rfl
    have s12 : sL 12 = 3 := rfl
    have s13 : sL 13 = 2 := rfl
    refine ⟨fun h1 h2 h => ?_, fun h1 h2 h => ?_, fun h1 h2 h => ?_, fun h1 h => ?_, fun h1 h => ?_⟩
    · rw [aX_0] at h
      by_cases c6 : wdQ T k 6
      · rw [if_pos c6] at h
        by_cases ce : e = 6
        · rw [if_pos ce] at h; cases h
        · rw [if_neg ce] at h
          have hl := wd_len c6
          rw [s6] at hl
          cases hx : aX T N d 0 (nx T N k) (e + 1) A with
          | inl f => rw [hx] at h; cases h
          | inr kb =>
            obtain ⟨k1, B1⟩ := kb
            rw [hx] at h
            cases h
            obtain ⟨X, x1, x2, x3, x4, x5⟩ := (ih (nx T N k) (e + 1) A _ B1 (tE k) (by omega) hn.1).1 hn.2 (fun w => wd_gap hw c6.1 w) hx
            have := h2 c6.1
            refine ⟨X ++ [oN], by rw [x1, List.append_assoc], x2, by omega, by rw [List.length_append, List.length_singleton]; omega, fun d' C hd hC => ?_⟩
            rw [List.append_assoc]
            exact x5 d' _ (by omega) ⟨by omega, hC⟩
      · rw [if_neg c6] at h
        by_cases c4 : sgQ T k 40
        · rw [if_pos c4] at h
          by_cases ce : e = 6
          · rw [if_pos ce] at h; cases h
          · rw [if_neg ce] at h
            have hb := hw.2.2.2.1 (by rw [c4.1]; decide)
            cases hx : aX T N d 2 (nx T N k) (e + 1) A with
            | inl f => rw [hx] at h; cases h
            | inr kb =>
              obtain ⟨k1, B1⟩ := kb
              simp only [hx] at h
              cases hg : aSg T N k1 41 with
              | inl f => rw [hg] at h; cases h
              | inr k2 =>
                rw [hg] at h
                cases h
                obtain ⟨X, x1, x2, x3, x4, x5⟩ := (ih (nx T N k) (e + 1) A k1 B (tB k) (by omega) hn.1).2.2.1 (by have := hn.2; omega) (fun _ => by have := hn.2; omega) hx
                obtain ⟨g1, g2⟩ := aSg_pos x2 hg
                exact ⟨X, x1, g1, by have := hn.2; omega, by omega, fun d' C hd hC => x5 d' C (by omega) hC⟩
        · rw [if_neg c4] at h
          obtain ⟨f, r, v, x1, x2, x3, x4, x5, x6⟩ := aCm_w hw h
          have := h2 x6
          refine ⟨[oC f r v], x1, x2, by omega, by rw [List.length_singleton]; omega, fun d' C hd hC => ?_⟩
          exact ⟨by omega, ⟨x4, x5⟩, hC⟩
    · rw [aX_1] at h
      cases hx : aX T N d 0 k e A with
      | inl f => rw [hx] at h; cases h
      | inr kb =>
        obtain ⟨k1, B1⟩ := kb
        rw [hx] at h
        obtain ⟨X, x1, x2, x3, x4, x5⟩ := (ih k e A k1 B1 q he hw).1 h1 h2 hx
        obtain ⟨Y, y1, y2, y3, y4, y5⟩ := (ih k1 e B1 k' B (q + 4 * X.length) he x2).2.2.2.1 x4 h
        refine ⟨X ++ Y, by rw [y1, x1, List.append_assoc], y2, by omega, by rw [List.length_append]; omega, fun d' C hd hC => ?_⟩
        rw [List.append_assoc]
        exact x5 d' _ (by omega) (y5 d' C hd hC)
    · rw [aX_2] at h
      cases hx : aX T N d 1 k e A with
      | inl f => rw [hx] at h; cases h
      | inr kb =>
        obtain ⟨k1, B1⟩ := kb
        rw [hx] at h
        obtain ⟨X, x1, x2, x3, x4, x5⟩ := (ih k e A k1 B1 q he hw).2.1 h1 h2 hx
        obtain ⟨Y, y1, y2, y3, y4, y5⟩ := (ih k1 e B1 k' B (q + 4 * X.length) he x2).2.2.2.2 x4 h
        refine ⟨X ++ Y, by rw [y1, x1, List.append_assoc], y2, by omega, by rw [List.length_append]; omega, fun d' C hd hC => ?_⟩
        rw [List.append_assoc]
        exact x5 d' _ (by omega) (y5 d' C hd hC)
    · rw [aX_3] at h
      by_cases c : wdQ T k 12
      · rw [if_pos c] at h
        have hl := wd_len c
        rw [s12] at hl
        cases hx : aX T N d 0 (nx T N k) e A with
        | inl f => rw [hx] at h; cases h
        | inr kb =>
          obtain ⟨k1, B1⟩ := kb
          rw [hx] at h
          obtain ⟨X, x1, x2, x3, x4, x5⟩ := (ih (nx T N k) e A k1 B1 (tE k) he hn.1).1 hn.2 (fun w => wd_gap hw c.1 w) hx
          obtain ⟨Y, y1, y2, y3, y4, y5⟩ := (ih k1 e (B1 ++ [oA]) k' B (tE k + 4 * X.length) he x2).2.2.2.1 x4 h
          refine ⟨X ++ (oA :: Y), by rw [y1, x1]; simp, y2, by have := hn.2; omega, by rw [List.length_append, List.length_cons]; omega, fun d' C hd hC => ?_⟩
          rw [List.append_assoc]
          refine x5 (d' + 1) _ (by omega) ?_
          exact ⟨by omega, y5 d' C hd hC⟩
      · rw [if_neg c] at h
        cases h
        exact ⟨[], by rw [List.append_nil], hw, Nat.le_refl _, by rw [List.length_nil]; omega, fun d' C _ hC => hC⟩
    · rw [aX_4] at h
      by_cases c : wdQ T k 13
      · rw [if_pos c] at h
        have hl := wd_len c
        rw [s13] at hl
        cases hx : aX T N d 1 (nx T N k) e A with
        | inl f => rw [hx] at h; cases h
        | inr kb =>
          obtain ⟨k1, B1⟩ := kb
          rw [hx] at h
          obtain ⟨X, x1, x2, x3, x4, x5⟩ := (ih (nx T N k) e A k1 B1 (tE k) he hn.1).2.1 hn.2 (fun w => wd_gap hw c.1 w) hx
          obtain ⟨Y, y1, y2, y3, y4, y5⟩ := (ih k1 e (B1 ++ [oO]) k' B (tE k + 4 * X.length) he x2).2.2.2.2 x4 h
          refine ⟨X ++ (oO :: Y), by rw [y1, x1]; simp, y2, by have := hn.2; omega, by rw [List.length_append, List.length_cons]; omega, fun d' C hd hC => ?_⟩
          rw [List.append_assoc]
          refine x5 (d' + 1) _ (by omega) ?_
          exact ⟨by omega, y5 d' C hd hC⟩
      · rw [if_neg c] at h
        cases h
        exact ⟨[], by rw [List.append_nil], hw, Nat.le_refl _, by rw [List.length_nil]; omega, fun d' C _ hC => hC⟩
end TES
