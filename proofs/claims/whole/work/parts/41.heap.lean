/-! ===== the picture, read and written ===== -/
theorem gI_sI (s : St) (k i j : Nat) (v : Int32) (k' i' j' : Nat) : gI (sI s k i j v) k' i' j' = if k' = k ∧ i' = i ∧ j' = j then v else gI s k' i' j' := rfl
theorem gJ_sI (s : St) (k i j : Nat) (v : Int32) : gJ (sI s k i j v) = gJ s := rfl
theorem gR_sI (s : St) (k i j : Nat) (v : Int32) : gR (sI s k i j v) = gR s := rfl
theorem gL_sI (s : St) (k i j : Nat) (v : Int32) : gL (sI s k i j v) = gL s := rfl
theorem gN_sI (s : St) (k i j : Nat) (v : Int32) : gN (sI s k i j v) = gN s := rfl
theorem cn_sI (s : St) (k i j : Nat) (v : Int32) : cn (sI s k i j v) = cn s := rfl
theorem sn_sI (s : St) (k i j : Nat) (v : Int32) : sn (sI s k i j v) = sn s := rfl
theorem gI_sJ (s : St) (k i j : Nat) (v : Int64) : gI (sJ s k i j v) = gI s := rfl
theorem gJ_sJ (s : St) (k i j : Nat) (v : Int64) (k' i' j' : Nat) : gJ (sJ s k i j v) k' i' j' = if k' = k ∧ i' = i ∧ j' = j then v else gJ s k' i' j' := rfl
theorem gR_sJ (s : St) (k i j : Nat) (v : Int64) : gR (sJ s k i j v) = gR s := rfl
theorem gL_sJ (s : St) (k i j : Nat) (v : Int64) : gL (sJ s k i j v) = gL s := rfl
theorem gN_sJ (s : St) (k i j : Nat) (v : Int64) : gN (sJ s k i j v) = gN s := rfl
theorem cn_sJ (s : St) (k i j : Nat) (v : Int64) : cn (sJ s k i j v) = cn s := rfl
theorem sn_sJ (s : St) (k i j : Nat) (v : Int64) : sn (sJ s k i j v) = sn s := rfl
theorem gI_sR (s : St) (k i j v : Nat) : gI (sR s k i j v) = gI s := rfl
theorem gJ_sR (s : St) (k i j v : Nat) : gJ (sR s k i j v) = gJ s := rfl
theorem gR_sR (s : St) (k i j v : Nat) (k' i' j' : Nat) : gR (sR s k i j v) k' i' j' = if k' = k ∧ i' = i ∧ j' = j then v else gR s k' i' j' := rfl
theorem gL_sR (s : St) (k i j v : Nat) : gL (sR s k i j v) = gL s := rfl
theorem gN_sR (s : St) (k i j v : Nat) : gN (sR s k i j v) = gN s := rfl
theorem cn_sR (s : St) (k i j v : Nat) : cn (sR s k i j v) = cn s := rfl
theorem sn_sR (s : St) (k i j v : Nat) : sn (sR s k i j v) = sn s := rfl
theorem gI_nX (s : St)  : gI (nX s) = gI s := rfl
theorem gJ_nX (s : St)  : gJ (nX s) = gJ s := rfl
theorem gR_nX (s : St)  : gR (nX s) = gR s := rfl
theorem gL_nX (s : St)  : gL (nX s) = gL s := rfl
theorem gN_nX (s : St)  : gN (nX s) = gN s := rfl
theorem cn_nX (s : St) : cn (nX s) = cn s + 1 := rfl
theorem sn_nX (s : St) : sn (nX s) = sn s + 6 := rfl
theorem gI_wI (s : St) (k i : Nat) (f : Nat → Int32) (k' i' j' : Nat) : gI (wI s k i f) k' i' j' = if k' = k ∧ i' = i then f j' else gI s k' i' j' := by
  show (u2 s.1 k i f k' i') j' = _
  unfold u2
  split <;> rfl
theorem gJ_wI (s : St) (k i : Nat) (f : Nat → Int32) : gJ (wI s k i f) = gJ s := rfl
theorem gR_wI (s : St) (k i : Nat) (f : Nat → Int32) : gR (wI s k i f) = gR s := rfl
theorem gL_wI (s : St) (k i : Nat) (f : Nat → Int32) : gL (wI s k i f) = gL s := rfl
theorem gN_wI (s : St) (k i : Nat) (f : Nat → Int32) : gN (wI s k i f) = gN s := rfl
theorem cn_wI (s : St) (k i : Nat) (f : Nat → Int32) : cn (wI s k i f) = cn s := rfl
theorem sn_wI (s : St) (k i : Nat) (f : Nat → Int32) : sn (wI s k i f) = sn s := rfl
theorem gI_wJ (s : St) (k i : Nat) (f : Nat → Int64) : gI (wJ s k i f) = gI s := rfl
theorem gJ_wJ (s : St) (k i : Nat) (f : Nat → Int64) (k' i' j' : Nat) : gJ (wJ s k i f) k' i' j' = if k' = k ∧ i' = i then f j' else gJ s k' i' j' := by
  show (u2 s.2.1 k i f k' i') j' = _
  unfold u2
  split <;> rfl
theorem gR_wJ (s : St) (k i : Nat) (f : Nat → Int64) : gR (wJ s k i f) = gR s := rfl
theorem gL_wJ (s : St) (k i : Nat) (f : Nat → Int64) : gL (wJ s k i f) = gL s := rfl
theorem gN_wJ (s : St) (k i : Nat) (f : Nat → Int64) : gN (wJ s k i f) = gN s := rfl
theorem cn_wJ (s : St) (k i : Nat) (f : Nat → Int64) : cn (wJ s k i f) = cn s := rfl
theorem sn_wJ (s : St) (k i : Nat) (f : Nat → Int64) : sn (wJ s k i f) = sn s := rfl
theorem gI_nW (s : St) (k n z k' i' j' : Nat) : gI (nW s k n z) k' i' j' = if k' = k ∧ i' = gN s k + 1 then 0 else gI s k' i' j' := by
  show (u2 s.1 k (gN s k + 1) (fun _ => 0) k' i') j' = _
  unfold u2
  split <;> rfl
theorem gJ_nW (s : St) (k n z k' i' j' : Nat) : gJ (nW s k n z) k' i' j' = if k' = k ∧ i' = gN s k + 1 then 0 else gJ s k' i' j' := by
  show (u2 s.2.1 k (gN s k + 1) (fun _ => 0) k' i') j' = _
  unfold u2
  split <;> rfl
theorem gR_nW (s : St) (k n z k' i' j' : Nat) : gR (nW s k n z) k' i' j' = if k' = k ∧ i' = gN s k + 1 then 0 else gR s k' i' j' := by
  show (u2 s.2.2.1 k (gN s k + 1) (fun _ => 0) k' i') j' = _
  unfold u2
  split <;> rfl
theorem gL_nW (s : St) (k n z k' i' : Nat) : gL (nW s k n z) k' i' = if k' = k ∧ i' = gN s k + 1 then n else gL s k' i' := rfl
theorem gN_nW (s : St) (k n z k' : Nat) : gN (nW s k n z) k' = if k' = k then gN s k + 1 else gN s k' := rfl
theorem cn_nW (s : St) (k n z : Nat) : cn (nW s k n z) = cn s + 1 := rfl
theorem sn_nW (s : St) (k n z : Nat) : sn (nW s k n z) = sn s + z := rfl
theorem st_ext {s t : St} (hI : ∀ k i j, gI s k i j = gI t k i j) (hJ : ∀ k i j, gJ s k i j = gJ t k i j) (hR : ∀ k i j, gR s k i j = gR t k i j) (hL : ∀ k i, gL s k i = gL t k i) (hN : ∀ k, gN s k = gN t k) (hc : cn s = cn t) (hs : sn s = sn t) : s = t := by
  obtain ⟨a1, a2, a3, a4, a5, a6, a7⟩ := s
  obtain ⟨b1, b2, b3, b4, b5, b6, b7⟩ := t
  have e1 : a1 = b1 := funext fun k => funext fun i => funext fun j => hI k i j
  have e2 : a2 = b2 := funext fun k => funext fun i => funext fun j => hJ k i j
  have e3 : a3 = b3 := funext fun k => funext fun i => funext fun j => hR k i j
  have e4 : a4 = b4 := funext fun k => funext fun i => hL k i
  have e5 : a5 = b5 := funext fun k => hN k
  have e6 : a6 = b6 := hc
  have e7 : a7 = b7 := hs
  subst e1; subst e2; subst e3; subst e4; subst e5; subst e6; subst e7
  rfl
/-- a row that is written once more -/
theorem sI_wI (s : St) (k i j : Nat) (f : Nat → Int32) (v : Int32) : sI (wI s k i f) k i j v = wI s k i (fun m => if m = j then v else f m) := by
  refine st_ext (fun k' i' j' => ?_) (fun _ _ _ => rfl) (fun _ _ _ => rfl) (fun _ _ => rfl) (fun _ => rfl) rfl rfl
  rw [gI_sI, gI_wI, gI_wI]
  by_cases h : k' = k ∧ i' = i
  · obtain ⟨rfl, rfl⟩ := h
    by_cases hj : j' = j
    · subst hj; rw [if_pos ⟨rfl, rfl, rfl⟩, if_pos ⟨rfl, rfl⟩, if_pos rfl]
    · rw [if_neg (fun q => hj q.2.2), if_pos ⟨rfl, rfl⟩, if_pos ⟨rfl, rfl⟩, if_neg hj]
  · rw [if_neg (fun q => h ⟨q.1, q.2.1⟩), if_neg h, if_neg h]
theorem wI_id (s : St) (k i : Nat) : wI s k i (gI s k i) = s := by
  refine st_ext (fun k' i' j' => ?_) (fun _ _ _ => rfl) (fun _ _ _ => rfl) (fun _ _ => rfl) (fun _ => rfl) rfl rfl
  rw [gI_wI]
  split
  · rename_i h; rw [h.1, h.2]
  · rfl
theorem wI_wI (s : St) (k i : Nat) (f g : Nat → Int32) : wI (wI s k i f) k i g = wI s k i g := by
  refine st_ext (fun k' i' j' => ?_) (fun _ _ _ => rfl) (fun _ _ _ => rfl) (fun _ _ => rfl) (fun _ => rfl) rfl rfl
  rw [gI_wI, gI_wI, gI_wI]
  split <;> rfl
theorem sI_eqw (s : St) (k i j : Nat) (v : Int32) : sI s k i j v = wI s k i (fun m => if m = j then v else gI s k i m) := by
  have h := sI_wI s k i j (gI s k i) v
  rw [wI_id] at h
  exact h
