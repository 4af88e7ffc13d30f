/-! ===== the reference: a point comes, with growth ===== -/
section CO2
variable {s : St} {P : Nat → List Pt} {fu : Nat}
/-- one row made longer, and put in its place -/
def lgS (s s' : St) (j : Nat) : Prop := (∀ k i m, nwk s k i → ¬ (k = 9 ∧ m = j) → gR s' k i m = gR s k i m) ∧ (∀ m, ¬ m = j → gR s' 9 1 m = gR s 9 1 m) ∧ gR s' 9 1 j = gN s 10 + 1 ∧ gN s' 10 = gN s 10 + 1 ∧ (∀ k, ¬ k = 10 → gN s' k = gN s k) ∧ (∀ k i, nwk s k i → gL s' k i = gL s k i) ∧
  (∀ k i m, nwk s k i → gI s' k i m = gI s k i m) ∧ (∀ k i m, nwk s k i → gJ s' k i m = gJ s k i m) ∧ gL s' 10 (gN s 10 + 1) = 2 * gL s 10 (gR s 9 1 j) ∧ (∀ m, m < gL s 10 (gR s 9 1 j) → gI s' 10 (gN s 10 + 1) m = gI s 10 (gR s 9 1 j) m) ∧ cn s' = cn s + 1 ∧ sn s' = sn s + 2 * gL s 10 (gR s 9 1 j)
theorem X9_lg1 {j : Nat} (h1 : 26 < gR s 9 1 j) (h2 : gR s 9 1 j ≤ gN s 10) (hc2 : gL s 10 (gR s 9 1 j) ≤ 40000) (hr1 : cn s + 1 ≤ 601024) (hr2 : sn s + 80000 ≤ 7293034) (hfu : 50000 ≤ fu) :
    ∃ s', f_X9_longer fu s (gR s 9 1 j) = some (s', gN s 10 + 1) ∧ lgS s (sR s' 9 1 j (gN s 10 + 1)) j := by
  obtain ⟨s', y1, ⟨b1, b2, b3, b4, b5⟩, ⟨c1, c2, c3, c4⟩, d1, d2, d3, d4⟩ := X9_lg (fu := fu) (s := s) (a := gR s 9 1 j) (by omega) h2 rfl hc2 hr1 (by omega) hfu
  refine ⟨s', y1, fun k i m hk hn => ?_, fun m hm => ?_, by rw [gR_sR, if_pos ⟨rfl, rfl, rfl⟩], c1, fun k hk => ?_, fun k i hk => b2 k i hk, fun k i m hk => ?_, fun k i m hk => b5 k i m hk, c2, d1, c3, c4⟩
  · rw [gR_sR, if_neg (fun q => hn ⟨q.1, q.2.2⟩)]
    by_cases c : k = 10
    · exact b1 k i m hk (fun q => by omega)
    · exact d2 k i m c
  · rw [gR_sR, if_neg (fun q => hm q.2.2)]
    exact d2 9 1 m (by decide)
  · exact d4 k hk
  · show gI s' k i m = _
    by_cases c : k = 10
    · exact b4 k i m hk (fun q => by omega)
    · exact d3 k i m c
theorem lgS.fx {s' : St} {j : Nat} (h : lgS s s' j) (h1 : 19 ≤ j) (h2 : j ≤ 21) (D E B : Nat → Prop) : Fx D E B s s' := by
  obtain ⟨a1, a2, a3, a4, a5, a6, a7, a8, -⟩ := h
  refine ⟨fun k i m hk hq => a1 k i m hk (fun w => hq (by omega)), fun m h3 h4 => ?_, a6, fun k => ?_, fun k i m hk _ _ _ => a7 k i m hk, fun k i m hk _ => a8 k i m hk⟩
  · by_cases c : m = j
    · exact Or.inr (by rw [c, a3, a4]; omega)
    · exact Or.inl (a2 m c)
  · by_cases c : k = 10
    · rw [c, a4]; exact ⟨by omega, fun q => absurd rfl q⟩
    · rw [a5 k c]; exact ⟨Nat.le_refl _, fun _ => rfl⟩
def mS (s : St) : Nat := gL s 10 (gR s 9 1 19) + gL s 10 (gR s 9 1 46)
/-- what is made is made for rows that are longer -/
def Rmm (s s' : St) : Prop := (sn s' + 6 * mS s ≤ sn s + 6 * mS s' ∧ mS s ≤ mS s') ∧ cn s' + mS s ≤ cn s + mS s'
theorem Rmm.rf (s : St) : Rmm s s := ⟨⟨Nat.le_refl _, Nat.le_refl _⟩, Nat.le_refl _⟩
theorem Rmm.tr {s t u : St} (h : Rmm s t) (h' : Rmm t u) : Rmm s u := by
  obtain ⟨a1, a2⟩ := h
  obtain ⟨b1, b2⟩ := h'
  exact ⟨by omega, by omega⟩
theorem Rmm.eq {s s' : St} (e1 : gR s' = gR s) (e2 : gL s' = gL s) (e3 : cn s' = cn s) (e4 : sn s' = sn s) : Rmm s s' := by
  unfold Rmm mS
  rw [e1, e2, e3, e4]
  exact ⟨⟨Nat.le_refl _, Nat.le_refl _⟩, Nat.le_refl _⟩
theorem X9_comes (hP : PtM s P) (hW : PWf P) (hO : OwnM s) (hO38 : 38 ≤ gN s 10) (hN : off P 10 < 40000) {id : Nat} (hid : id < 10) (t v : Int32) (hr1 : cn s + 3 ≤ 601024) (hr2 : sn s + 240000 ≤ 7293034) (hfu : 50000 ≤ fu) :
    ∃ s', f_X9_comes fu s 1 (nI id) t v = some s' ∧ Fx (fun j => j = 22) (fun _ => False) (fun _ => False) s s' ∧ PtM s' (upP P id (ins (t, v) (P id))) ∧ OwnM s' ∧ Rmm s s' := by
  have e10 : ¬ (1 = 0) := by decide
  have hP' := hP
  have hO' := hO
  obtain ⟨h0, ⟨l1, l2, l3⟩, h22, hr⟩ := hP
  obtain ⟨o1, o2, ⟨o3, o4, o5, o6⟩, ⟨o7, o8, o9, o10⟩⟩ := hO
  have p19 := o1 19 mj19
  have p20 := o1 20 mj20
  have p21 := o1 21 mj21
  have p46 := o1 46 mj46
  have p47 := o1 47 mj47
  have p48 := o1 48 mj48
  by_cases hc : off P 10 = gL s 10 (gR s 9 1 19)
  · obtain ⟨s1', y1, L1⟩ := X9_lg1 (s := s) (fu := fu) (j := 19) p19.1 p19.2.1 (by omega) (by omega) (by omega) hfu
    generalize hs1 : sR s1' 9 1 19 (gN s 10 + 1) = s1 at L1
    have L1' := L1
    obtain ⟨a1, a2, a3, a4, a5, a6, a7, a8, a9, a10, a11, a12⟩ := L1
    have r20 : gR s1 9 1 20 = gR s 9 1 20 := a2 20 (by decide)
    have r21 : gR s1 9 1 21 = gR s 9 1 21 := a2 21 (by decide)
    have q20 : gL s1 10 (gR s 9 1 20) = gL s 10 (gR s 9 1 20) := a6 10 _ (fun _ => p20.2.1)
    have q21 : gL s1 10 (gR s 9 1 21) = gL s 10 (gR s 9 1 21) := a6 10 _ (fun _ => p21.2.1)
    obtain ⟨s2', y2, L2⟩ := X9_lg1 (s := s1) (fu := fu) (j := 20) (by rw [r20]; omega) (by rw [r20, a4]; omega) (by rw [r20, q20]; omega) (by omega) (by omega) hfu
    generalize hs2 : sR s2' 9 1 20 (gN s1 10 + 1) = s2 at L2
    have L2' := L2
    obtain ⟨b1, b2, b3, b4, b5, b6, b7, b8, b9, b10, b11, b12⟩ := L2
    rw [r20, q20] at b9 b10 b12
    have r21' : gR s2 9 1 21 = gR s 9 1 21 := (b2 21 (by decide)).trans r21
    have q21' : gL s2 10 (gR s 9 1 21) = gL s 10 (gR s 9 1 21) := (b6 10 _ (fun _ => by rw [a4]; omega)).trans q21
    obtain ⟨s3', y3, L3⟩ := X9_lg1 (s := s2) (fu := fu) (j := 21) (by rw [r21']; omega) (by rw [r21', b4, a4]; omega) (by rw [r21', q21']; omega) (by omega) (by omega) hfu
    generalize hs3 : sR s3' 9 1 21 (gN s2 10 + 1) = s3 at L3
    have L3' := L3
    obtain ⟨c1, c2, c3, c4, c5, c6, c7, c8, c9, c10, c11, c12⟩ := L3
    rw [r21', q21'] at c9 c10 c12
    rw [a4] at b3 b4 b9 b10
    rw [b4] at c3 c4 c9 c10
    have z19 : gR s3 9 1 19 = gN s 10 + 1 := (c2 19 (by decide)).trans ((b2 19 (by decide)).trans a3)
    have z20 : gR s3 9 1 20 = gN s 10 + 1 + 1 := (c2 20 (by decide)).trans b3
    have zz : ∀ j, Mj j → ¬ j = 19 → ¬ j = 20 → ¬ j = 21 → gR s3 9 1 j = gR s 9 1 j := fun j _ h1 h2 h3 => (c2 j h3).trans ((b2 j h2).trans (a2 j h1))
    have lold : ∀ i, i ≤ gN s 10 → gL s3 10 i = gL s 10 i := fun i hi => (c6 10 i (fun _ => by rw [b4]; omega)).trans ((b6 10 i (fun _ => by rw [a4]; omega)).trans (a6 10 i (fun _ => hi)))
    have len1 : gL s3 10 (gN s 10 + 1) = 2 * off P 10 := by rw [c6 10 _ (fun _ => by rw [b4]; omega), b6 10 _ (fun _ => by rw [a4]; omega), a9, hc]
    have len2 : gL s3 10 (gN s 10 + 1 + 1) = 2 * off P 10 := by rw [c6 10 _ (fun _ => by rw [b4]; omega), b9, o3, hc]
    have len3 : gL s3 10 (gN s 10 + 1 + 1 + 1) = 2 * off P 10 := by rw [c9, o4, hc]
    have val1 : ∀ m, m < off P 10 → gI s3 10 (gN s 10 + 1) m = gI s 10 (gR s 9 1 19) m := fun m hm => by rw [c7 10 _ m (fun _ => by rw [b4]; omega), b7 10 _ m (fun _ => by rw [a4]; omega), a10 m (by omega)]
    have val2 : ∀ m, m < off P 10 → gI s3 10 (gN s 10 + 1 + 1) m = gI s 10 (gR s 9 1 20) m := fun m hm => by rw [c7 10 _ m (fun _ => by rw [b4]; omega), b10 m (by omega), a7 10 _ m (fun _ => p20.2.1)]
    have val3 : ∀ m, m < off P 10 → gI s3 10 (gN s 10 + 1 + 1 + 1) m = gI s 10 (gR s 9 1 21) m := fun m hm => by rw [c10 m (by omega), b7 10 _ m (fun _ => by rw [a4]; omega), a7 10 _ m (fun _ => p21.2.1)]
    have hF : Fx (fun j => j = 22) (fun _ => False) (fun _ => False) s s3 := ((L1'.fx (by omega) (by omega) _ _ _).tr (L2'.fx (by omega) (by omega) _ _ _)).tr (L3'.fx (by omega) (by omega) _ _ _)
    have m46 := zz 46 mj46 (by decide) (by decide) (by decide)
    have m47 := zz 47 mj47 (by decide) (by decide) (by decide)
    have m48 := zz 48 mj48 (by decide) (by decide) (by decide)
    have hO3 : OwnM s3 := by
      have hlt : ∀ j, Mj j → (gR s3 9 1 j = gR s 9 1 j ∧ ¬ j = 19 ∧ ¬ j = 20 ∧ ¬ j = 21) ∨ (j = 19 ∧ gR s3 9 1 j = gN s 10 + 1) ∨ (j = 20 ∧ gR s3 9 1 j = gN s 10 + 1 + 1) ∨ (j = 21 ∧ gR s3 9 1 j = gN s 10 + 1 + 1 + 1) := fun j hj => by
        by_cases k1 : j = 19
        · exact Or.inr (Or.inl ⟨k1, by rw [k1]; exact z19⟩)
        · by_cases k2 : j = 20
          · exact Or.inr (Or.inr (Or.inl ⟨k2, by rw [k2]; exact z20⟩))
          · by_cases k3 : j = 21
            · exact Or.inr (Or.inr (Or.inr ⟨k3, by rw [k3]; exact c3⟩))
            · exact Or.inl ⟨zz j hj k1 k2 k3, k1, k2, k3⟩
      refine ⟨fun j hj => ?_, fun j j' hj hj' e => ?_, ⟨by rw [z20, z19, len1, len2], by rw [c3, z19, len1, len3], by rw [z19, len1]; omega, by rw [z19, len1]; omega⟩, ⟨by rw [m47, m46, lold _ p47.2.1, lold _ p46.2.1]; exact o7, by rw [m48, m46, lold _ p48.2.1, lold _ p46.2.1]; exact o8, by rw [m46, lold _ p46.2.1]; exact o9, by rw [m46, lold _ p46.2.1]; exact o10⟩⟩
      · have := o1 j hj
        rw [c4]
        rcases hlt j hj with q | q | q | q <;> omega
      · have w1 := o1 j hj
        have w2 := o1 j' hj'
        rcases hlt j hj with q | q | q | q <;> rcases hlt j' hj' with q' | q' | q' | q'
        · exact o2 j j' hj hj' (by omega)
        all_goals omega
    have hP3 : PtM s3 P := by
      refine ⟨by rw [z19, z20, c3]; omega, by rw [z19, z20, c3, len1, len2, len3]; omega, ?_, fun i hi j p hp => ?_⟩
      · rw [c7 9 1 22 (fun q => by omega), b7 9 1 22 (fun q => by omega), a7 9 1 22 (fun q => by omega)]
        exact h22
      · have hlt := get_lt hp
        have h5 : off P (i + 1) ≤ off P 10 := off_mono P (by omega)
        rw [off_s] at h5
        rw [z19, z20, c3, val1 _ (by omega), val2 _ (by omega), val3 _ (by omega)]
        exact hr i hi j p hp
    obtain ⟨s', w1, w2, w3⟩ := X9_co45 (fu := fu) hP3 hW hO3.pd hN (by rw [z19, z20, c3, len1, len2, len3]; omega) hid t v hfu
    refine ⟨s', ?_, hF.tr (Fx.pf w2 rfl), w3, hO3.eq w2.1.1 w2.1.2.1 w2.1.2.2.1, Rmm.tr ?_ (Rmm.eq w2.1.1 w2.1.2.1 w2.1.2.2.2.1 w2.1.2.2.2.2.1)⟩
    · unfold f_X9_comes
      rw [if_neg e10, if_neg h0.1, h22, ← hc, if_pos rfl, y1]
      simp only [bI, lt]
      rw [hs1, y2]
      simp only [bI, lt]
      rw [hs2, y3]
      simp only [bI, lt]
      rw [hs3]
      exact w1
    · unfold Rmm mS
      rw [z19, len1, m46, lold _ p46.2.1]
      omega
  · obtain ⟨s', w1, w2, w3⟩ := X9_co45 (fu := fu) hP' hW hO'.pd hN (by omega) hid t v hfu
    refine ⟨s', ?_, Fx.pf w2 rfl, w3, hO'.eq w2.1.1 w2.1.2.1 w2.1.2.2.1, Rmm.eq w2.1.1 w2.1.2.1 w2.1.2.2.2.1 w2.1.2.2.2.2.1⟩
    unfold f_X9_comes
    rw [if_neg e10, if_neg h0.1, h22, if_neg (fun q => hc ((ni_eq (by omega) (by omega)).mp q))]
    exact w1
end CO2
