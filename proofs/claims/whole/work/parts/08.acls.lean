/-! ===== fields ===== -/
theorem in_tb {C : String} {T : u_T} {N : Nat} (h : (List.range N).all (fun j => decide (u_lay C T j ∈ lw_tbl) && goodWord (u_lay C T j)) = true) : ∀ w ∈ u_ws C T N, w ∈ tb := by
  intro w hw
  obtain ⟨j, hj, rfl⟩ := List.mem_map.mp hw
  have h1 := List.all_eq_true.mp h j hj
  simp only [Bool.and_eq_true, decide_eq_true_eq] at h1
  exact List.mem_filter.mpr h1
theorem itX0 : ∀ w ∈ u_ws RX0 TX0 3, w ∈ tb := in_tb (by decide +kernel)
theorem itX1 : ∀ w ∈ u_ws RX1 TX1 6, w ∈ tb := in_tb (by decide +kernel)
theorem itX2 : ∀ w ∈ u_ws RX2 TX2 5, w ∈ tb := in_tb (by decide +kernel)
theorem itX3 : ∀ w ∈ u_ws RX3 TX3 1, w ∈ tb := in_tb (by decide +kernel)
theorem itX4 : ∀ w ∈ u_ws RX4 TX4 3, w ∈ tb := in_tb (by decide +kernel)
theorem itX5 : ∀ w ∈ u_ws RX5 TX5 11, w ∈ tb := in_tb (by decide +kernel)
theorem itX6 : ∀ w ∈ u_ws RX6 TX6 5, w ∈ tb := in_tb (by decide +kernel)
theorem itX7 : ∀ w ∈ u_ws RX7 TX7 9, w ∈ tb := in_tb (by decide +kernel)
theorem itX8 : ∀ w ∈ u_ws RX8 TX8 19, w ∈ tb := in_tb (by decide +kernel)
theorem itX9 : ∀ w ∈ u_ws RX9 TX9 69, w ∈ tb := in_tb (by decide +kernel)
theorem dfX0 : ∀ j, j < 3 → defaultValue (tyX0 j) = if ft 0 j = 0 then Value.int 0 else if ft 0 j = 1 then Value.long 0 else Value.null := by decide +kernel
theorem dfX1 : ∀ j, j < 6 → defaultValue (tyX1 j) = if ft 1 j = 0 then Value.int 0 else if ft 1 j = 1 then Value.long 0 else Value.null := by decide +kernel
theorem dfX2 : ∀ j, j < 5 → defaultValue (tyX2 j) = if ft 2 j = 0 then Value.int 0 else if ft 2 j = 1 then Value.long 0 else Value.null := by decide +kernel
theorem dfX3 : ∀ j, j < 1 → defaultValue (tyX3 j) = if ft 3 j = 0 then Value.int 0 else if ft 3 j = 1 then Value.long 0 else Value.null := by decide +kernel
theorem dfX4 : ∀ j, j < 3 → defaultValue (tyX4 j) = if ft 4 j = 0 then Value.int 0 else if ft 4 j = 1 then Value.long 0 else Value.null := by decide +kernel
theorem dfX5 : ∀ j, j < 11 → defaultValue (tyX5 j) = if ft 5 j = 0 then Value.int 0 else if ft 5 j = 1 then Value.long 0 else Value.null := by decide +kernel
theorem dfX6 : ∀ j, j < 5 → defaultValue (tyX6 j) = if ft 6 j = 0 then Value.int 0 else if ft 6 j = 1 then Value.long 0 else Value.null := by decide +kernel
theorem dfX7 : ∀ j, j < 9 → defaultValue (tyX7 j) = if ft 7 j = 0 then Value.int 0 else if ft 7 j = 1 then Value.long 0 else Value.null := by decide +kernel
theorem dfX8 : ∀ j, j < 19 → defaultValue (tyX8 j) = if ft 8 j = 0 then Value.int 0 else if ft 8 j = 1 then Value.long 0 else Value.null := by decide +kernel
theorem dfX9 : ∀ j, j < 69 → defaultValue (tyX9 j) = if ft 9 j = 0 then Value.int 0 else if ft 9 j = 1 then Value.long 0 else Value.null := by decide +kernel
/-- a class of the table: its words, its types, its names -/
theorem cl_all {k : Nat} {C : String} {T : u_T} {N : Nat} (h : vwCl[k]? = some (C, T, N)) : k < 10 ∧ nf k = N ∧ (∀ w ∈ u_ws C T N, w ∈ tb) ∧ (∃ ty : Nat → FieldType, (∀ j, j < N → parseFieldDescriptor (T j).2.2.1 = some (ty j)) ∧ ∀ j, j < N → defaultValue (ty j) = if ft k j = 0 then Value.int 0 else if ft k j = 1 then Value.long 0 else Value.null) ∧ (∀ a, a < N → ∀ b, b < N → a ≠ b → (T a).2.1 ≠ (T b).2.1) := by
  match k, h with
  | 0, h => cases h; exact ⟨by decide, rfl, itX0, ⟨_, tyX0_ok, dfX0⟩, nmX0⟩
  | 1, h => cases h; exact ⟨by decide, rfl, itX1, ⟨_, tyX1_ok, dfX1⟩, nmX1⟩
  | 2, h => cases h; exact ⟨by decide, rfl, itX2, ⟨_, tyX2_ok, dfX2⟩, nmX2⟩
  | 3, h => cases h; exact ⟨by decide, rfl, itX3, ⟨_, tyX3_ok, dfX3⟩, nmX3⟩
  | 4, h => cases h; exact ⟨by decide, rfl, itX4, ⟨_, tyX4_ok, dfX4⟩, nmX4⟩
  | 5, h => cases h; exact ⟨by decide, rfl, itX5, ⟨_, tyX5_ok, dfX5⟩, nmX5⟩
  | 6, h => cases h; exact ⟨by decide, rfl, itX6, ⟨_, tyX6_ok, dfX6⟩, nmX6⟩
  | 7, h => cases h; exact ⟨by decide, rfl, itX7, ⟨_, tyX7_ok, dfX7⟩, nmX7⟩
  | 8, h => cases h; exact ⟨by decide, rfl, itX8, ⟨_, tyX8_ok, dfX8⟩, nmX8⟩
  | 9, h => cases h; exact ⟨by decide, rfl, itX9, ⟨_, tyX9_ok, dfX9⟩, nmX9⟩
  | k + 10, h => simp [vwCl] at h
