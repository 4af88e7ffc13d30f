/-! ===== the reference: a point comes, with growth ===== -/
section CO2
variable {s : St} {P : Nat → List Pt} {fu : Nat}
/-- one row made longer, and put in its place -/
def lgS (s s' : St) (j : Nat) : Prop := (∀ k i m, nwk s k i → ¬ (k = 9 ∧ m = j) → gR s' k i m = gR s k i m) ∧ (∀ m, ¬ m = j → gR s' 9 1 m = gR s 9 1 m) ∧ gR s' 9 1 j = gN s 10 + 1 ∧ gN s' 10 = gN s 10 + 1 ∧ (∀ k, ¬ k = 10 → gN s' k = gN s k) ∧ (∀ k i, nwk s k i → gL s' k i = gL s k i) ∧
  (∀ k i m, nwk s k i → gI s' k i m = gI s k i m) ∧ (∀ k i m, nwk s k i → gJ s' k i m = gJ s k i m) ∧ gL s' 10 (gN s 10 + 1) = 2 * gL s 10 (gR s 9 1 j) ∧ (∀ m, m < gL s 10 (gR s 9 1 j) → gI s' 10 (gN s 10 + 1) m = gI s 10 (gR s 9 1 j) m) ∧ cn s' = cn s + 1 ∧ sn s' = sn s + 2 * gL s 10 (gR s 9 1 j)
theorem X9_lg1 {j : Nat} (h1 : 26 < gR s 9 1 j) (h2 : gR s 9 1 j ≤ gN s 10) (hc2 : gL s 10 (gR s 9 1 j) ≤ 40000) (hr1 : cn s + 1 ≤ 601024) (hr2 : sn s + 80000 ≤ 7293034) (hfu : 50000 ≤ fu) :
    ∃ s', f_X9_longer fu s (gR s 9 1 j) = some (s', gN s 10 + 1) ∧ lgS s (sR s' 9 1 j (gN s 10 + 1)) j := by
  obtain ⟨s', y1, ⟨b1, b2, b3, b4, b5⟩, ⟨c1, c2, c3, c4⟩, d1, d2, d3, d4⟩ := X9_lg (fu := fu) (s := s) (a := gR s 9 1 j) (by omega) h2 rfl hc2 hr1 (by omega) hfu
  refine ⟨s', y1, fun k i m hk hn => ?_, fun m hm => ?_, by rw [gR_sR, if_pos ⟨rfl, rfl, rfl⟩], c1, fun k hk => ?_, fun k i hk => b2 k i hk, fun k i m hk => ?_, fun k i m hk => b5 k i m hk, c2, d1, c3, c4⟩
  · rw [gR_sR, if_neg (fun q => hn ⟨q.1, q.2.2⟩)]
    by_cases c : k = 10
    · exact b1 k i m hk (fun q => by omega)
    · exact d2 k i m c
  · rw [gR_sR, if_neg (fun q => hm q.2.2)]
    exact d2 9 1 m (by decide)
  · exact d4 k hk
  · show gI s' k i m = _
    by_cases c : k = 10
    · exact b4 k i m hk (fun q => by omega)
    · exact d3 k i m c
end CO2
