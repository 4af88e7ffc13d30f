/-! ===== the start ===== -/
def st0 : St := (fun _ _ _ => 0, fun _ _ _ => 0, fun _ _ _ => 0, fun _ _ => 0, fun _ => 0, 0, 0)
/-- what the law makes at its start -/
def ini (fu : Nat) (s : St) : Option (St × Nat × Nat × Nat) :=
  lt (nW s 8 0 19 : St) fun s1 =>
  if rmb s1 = false then none else
  bV (f_X8_init fu s1 (gN s 8 + 1)) fun s3 =>
  lt (gN s 8 + 1 : Nat) fun x4 =>
  lt (nW s3 9 0 69 : St) fun s6 =>
  if rmb s6 = false then none else
  bV (f_X9_init fu s6 (gN s3 9 + 1)) fun s8 =>
  lt (gN s3 9 + 1 : Nat) fun x9 =>
  if szb 1 = false then none else
  lt (nW s8 11 (ix 1) (ix 1) : St) fun s12 =>
  if rmb s12 = false then none else
  lt (gN s8 11 + 1 : Nat) fun x14 =>
  some (s12, x4, x9, x14)
theorem ini_law {fu : Nat} {s s12 : St} {a b c : Nat} (h : ini fu s = some (s12, a, b, c)) (xs : Nat → Int32) (L : Nat) : f_L_law fu xs L s = f_L_law_b23 fu xs L fu s12 a b c 0 := by
  unfold ini at h
  unfold f_L_law
  simp only [lt] at h ⊢
  by_cases c1 : rmb (nW s 8 0 19) = false
  · rw [if_pos c1] at h; cases h
  · rw [if_neg c1] at h ⊢
    cases h3 : f_X8_init fu (nW s 8 0 19) (gN s 8 + 1) with
    | none => rw [h3] at h; cases h
    | some s3 =>
      rw [h3] at h
      simp only [bV] at h ⊢
      by_cases c2 : rmb (nW s3 9 0 69) = false
      · rw [if_pos c2] at h; cases h
      · rw [if_neg c2] at h ⊢
        cases h8 : f_X9_init fu (nW s3 9 0 69) (gN s3 9 + 1) with
        | none => rw [h8] at h; cases h
        | some s8 =>
          rw [h8] at h
          simp only at h ⊢
          by_cases c3 : szb 1 = false
          · rw [if_pos c3] at h; cases h
          · rw [if_neg c3] at h ⊢
            by_cases c4 : rmb (nW s8 11 (ix 1) (ix 1)) = false
            · rw [if_pos c4] at h; cases h
            · rw [if_neg c4] at h ⊢
              cases h
              rfl
def si : St := ((ini 3000000 st0).getD (st0, 0, 0, 0)).1
theorem ini_some : (ini 3000000 st0).isSome = true := by decide +kernel
theorem ini_abc : ((ini 3000000 st0).getD (st0, 0, 0, 0)).2 = (1, 1, 1) := by decide +kernel
theorem ini_e : ini 3000000 st0 = some (si, 1, 1, 1) := by
  cases h : ini 3000000 st0 with
  | none => have := ini_some; rw [h] at this; cases this
  | some q =>
    have h2 := ini_abc
    rw [h] at h2
    have h3 : q.2 = (1, 1, 1) := h2
    have h4 : si = q.1 := by unfold si; rw [h]; rfl
    rw [h4, ← h3]
