/-! ===== of ===== -/
section Q5
variable {s : St} {p n : Nat} {S K : Nat → Int} {R : List Nat} {H : Nat → Int32} {P : Nat → List Pt} {fu : Nat}
def LtC (s : St) (R : List Nat) (LT LS : Nat → Int32) : Prop := ∀ i ∈ R, gI s 5 (gR s 14 1 i) 9 = LT i ∧ gI s 5 (gR s 14 1 i) 10 = LS i
def LtM (s : St) (R : List Nat) (LT LS : Nat → Int32) : Prop := ∀ i ∈ R, gI s 10 24 i = LT i ∧ gI s 10 25 i = LS i
theorem LtM.ms {s s' : St} {LT LS : Nat → Int32} (h : LtM s R LT LS) (hm : MS s s') : LtM s' R LT LS := fun i hi => by
  rw [hm.2.1 10 24 i (by decide) (by omega), hm.2.1 10 25 i (by decide) (by omega)]
  exact h i hi
def ofA (h LTi LSi : Int32) (GG : List (List Pt)) (w : Nat) : Int64 := if w = 0 then (Int32.toInt64 h) else if w = 1 then (Int32.toInt64 (nI GG.length)) else if w = 2 then (Int32.toInt64 (nI GG.flatten.length)) else if w = 3 then (Int32.toInt64 LTi) else if w = 4 then (Int32.toInt64 LSi) else
  if w = 5 then (Int32.toInt64 (lv GG.flatten)) else if w = 6 then (Int32.toInt64 (gv GG.flatten)) else (s64 GG.flatten)
theorem Q_of (h : CQ s p n S K R H P) (hr : rmb (nX s) = true) (hfu : 50000 ≤ fu) {LT LS : Nat → Int32} (hLt : LtC s R LT LS) (a d : Int32) : ∃ s1 w, f_X8_of fu s 1 a d = some (s1, w) ∧ CS s s1 ∧
    ∀ s', RQ s' n S K R H P → LtM s' R LT LS → ∃ s2 v, f_X9_of fu s' 1 a d = some (s2, v) ∧ MS s' s2 ∧ cmpJ1 w v (gI s2 9 1 3) := by
  have e10 : ¬ (1 = 0) := by decide
  have z10 : ¬ ((1 : Int32) = 0) := by decide
  have hV := h.2.1.2.2.2
  rcases id_cases R a with ⟨i, hi, rfl⟩ | ha
  · have hid := h.id hi
    obtain ⟨ho, GG, hPi, W, C⟩ := h.2.2.2 i hi
    have hl := wf_len W
    have hta := X8_tAll (fu := fu) h.1.1 h.1.2 h.2.1.1 hid ho W C hfu
    obtain ⟨y1, y2, y3⟩ := tly_b GG
    obtain ⟨y4, y5⟩ := tly_l (L := GG) W.1.1 (fun g hg => wf_v W hg) (by omega)
    have bi : inb (nI i) 10 = true := nu_inbn (by omega) (by omega)
    obtain ⟨hL1, hL2⟩ := hLt i hi
    have hH := h.2.2.1.1.2.2.2.2 i hi
    rw [lr_4_1_1 h.1.1] at hH
    have e6 : ¬ (6 = 0) := by decide
    by_cases hd : 0 ≤ d.toInt ∧ d.toInt ≤ 7
    · obtain ⟨w, hw, rfl⟩ : ∃ w : Nat, w ≤ 7 ∧ d = nI w := ⟨d.toInt.toNat, by omega, nu_toN (by omega)⟩
      have q : ∀ k, k < 100 → ((nI w = nI k) ↔ w = k) := fun k hk => nI_c k hk w (by omega)
      have q0 : (nI w = 0) ↔ w = 0 := q 0 (by omega)
      have q1 : (nI w = 1) ↔ w = 1 := q 1 (by omega)
      have q2 : (nI w = 2) ↔ w = 2 := q 2 (by omega)
      have q3 : (nI w = 3) ↔ w = 3 := q 3 (by omega)
      have q4 : (nI w = 4) ↔ w = 4 := q 4 (by omega)
      have q5 : (nI w = 5) ↔ w = 5 := q 5 (by omega)
      have q6 : (nI w = 6) ↔ w = 6 := q 6 (by omega)
      have q7 : (nI w = 7) ↔ w = 7 := q 7 (by omega)
      refine ⟨tS s 1 (tly GG), .inr (ofA (H i) (LT i) (LS i) GG w), ?_, (tS_cz s 1 _).cs, fun s' h' hLm => ?_⟩
      · unfold f_X8_of ofA
        simp only [e10, reduceIte, h.kn hi (show 100 ≤ fu by omega), bX, hta, bV, q0, q1, q2, q3, q4, q5, q6, q7, (tS_g s _ _).1, (tS_g s _ _).2, lr_8_1_4 h.1.1, lr_4_1_1 h.1.1, e6, ll_10_6 h.1.1, bi, Bool.true_eq_false, nu_ixn (show i < 2147483648 by omega), tS_I s 1 (tly GG) (show ¬ 10 = 6 by decide), tS_I s 1 (tly GG) (show ¬ 5 = 6 by decide), hH, ho, C.2.2.1, hL1, hL2, lr_8_1_7 h.1.1, tS_1, tS_2, tS_3, tS_4, y2, y3, y4, y5]
        repeat' split
        all_goals first | rfl | omega
      · have h0 := h'.s0
        have hLm0 : LtM (sI s' 9 1 3 0) R LT LS := hLm.ms (MS.s9 s' (Or.inl rfl) 0)
        obtain ⟨m1, m2⟩ := hLm0 i hi
        obtain ⟨s2, a1, a2⟩ := X9_abk (fu := fu) h0 hid hPi W hfu
        have hpos := h0.pos hid hPi
        have hvP : ∀ p ∈ P i, -10000 ≤ p.2.toInt ∧ p.2.toInt ≤ 10000 := fun p hp => (W.2.2.1 p (by rw [← hPi]; exact hp)).2.2
        have ab := fun w hw => X9_ab (fu := fu) h0 hid hvP (w := w) hw hfu
        obtain ⟨hL, ⟨hPl, -⟩, ⟨hT, -⟩, ⟨d1, d2, d3⟩, hPt, hPW, hTm⟩ := h0
        have hsub : nI (off P i + GG.flatten.length) - nI (off P i) = nI GG.flatten.length := by
          rw [ni_sub (by omega) (by omega), Nat.add_sub_cancel_left]
        have e24 : ¬ (24 = 0) := by decide
        have e25 : ¬ (25 = 0) := by decide
        have n5 : (5 : Int32) = nI 5 := rfl
        have n6 : (6 : Int32) = nI 6 := rfl
        have n7 : (7 : Int32) = nI 7 := rfl
        by_cases hw1 : w = 1
        · subst hw1
          refine ⟨s2, Int32.toInt64 (nI GG.length), ?_, (MS.s9 s' (Or.inl rfl) 0).tr a2.1, ?_⟩
          · have n1 : ¬ nI 1 = 0 := by decide
            have n1' : nI 1 = 1 := rfl
            unfold f_X9_of
            simp only [e10, reduceIte, lt, X9_isS hL hT hi hid, bI, z10, n1, n1', a1]
          · exact ⟨by rw [a2.2]; exact f3 _ _, rfl⟩
        · refine ⟨sI s' 9 1 3 0, ofA (H i) (LT i) (LS i) GG w, ?_, MS.s9 s' (Or.inl rfl) 0, ?_⟩
          · unfold f_X9_of ofA f_X9_of_b112
            simp only [e10, reduceIte, lt, X9_isS hL hT hi hid, bI, z10, q0, q1, q2, q3, q4, hw1, q7, d1, d2, bi, Bool.true_eq_false, nu_ixn (show i < 2147483648 by omega), d3 i hid, X9_bo hPt hPW hTm hid hfu, X9_fo hPt hPW hTm hid hfu, off_s, hsub, lr_9_1_12 hL, lr_9_1_13 hL, e24, e25, ll_10_24 hL, ll_10_25 hL, m1, m2, n5, n6, n7, q 5 (show 5 < 100 by omega), q 6 (show 6 < 100 by omega), q 7 (show 7 < 100 by omega), ab 5 (Or.inl rfl), ab 6 (Or.inr (Or.inl rfl)), ab 7 (Or.inr (Or.inr rfl)), abv, Nat.reduceEqDiff, hPi]
            repeat' split
            all_goals first | rfl | omega
          · exact ⟨f3 _ _, rfl⟩
    · refine ⟨nX (tS s 1 (tly GG)), .inl 1, ?_, (tS_cz s 1 _).x, fun s' h' hLm => ⟨sI (sI s' 9 1 3 0) 9 1 3 1, 0, ?_, ms_f (MS.s9 s' (Or.inl rfl) 0) 1, ?_⟩⟩
      · have nz : ∀ k : Nat, k ≤ 7 → ¬ d = nI k := fun k hk q => hd (by rw [q, nu_nI (by omega)]; omega)
        have q0 : ¬ d = 0 := nz 0 (by omega)
        have q1 : ¬ d = 1 := nz 1 (by omega)
        have q2 : ¬ d = 2 := nz 2 (by omega)
        have q3 : ¬ d = 3 := nz 3 (by omega)
        have q4 : ¬ d = 4 := nz 4 (by omega)
        have q5 : ¬ d = 5 := nz 5 (by omega)
        have q6 : ¬ d = 6 := nz 6 (by omega)
        have q7 : ¬ d = 7 := nz 7 (by omega)
        unfold f_X8_of
        simp only [e10, reduceIte, h.kn hi (show 100 ≤ fu by omega), bX, hta, bV, q0, q1, q2, q3, q4, q5, q6, q7, (tS_cz s 1 (tly GG)).rm hr, Bool.true_eq_false]
      · have nz : ∀ k : Nat, k ≤ 7 → ¬ d = nI k := fun k hk q => hd (by rw [q, nu_nI (by omega)]; omega)
        have q0 : ¬ d = 0 := nz 0 (by omega)
        have q1 : ¬ d = 1 := nz 1 (by omega)
        have q2 : ¬ d = 2 := nz 2 (by omega)
        have q3 : ¬ d = 3 := nz 3 (by omega)
        have q4 : ¬ d = 4 := nz 4 (by omega)
        have q5 : ¬ d = 5 := nz 5 (by omega)
        have q6 : ¬ d = 6 := nz 6 (by omega)
        have q7 : ¬ d = 7 := nz 7 (by omega)
        obtain ⟨hL, ⟨hPl, -⟩, ⟨hT, -⟩, -⟩ := h'.s0
        unfold f_X9_of
        simp only [e10, reduceIte, lt, X9_isS hL hT hi hid, bI, z10, q0, q1, q2, q3, q4, q5, q6, q7, X9_fail]
        rfl
      · exact ⟨f3 _ _, rfl⟩
  · refine ⟨nX s, .inl 1, ?_, (CZ.rf s).x, fun s' h' hLm => ⟨sI (sI s' 9 1 3 0) 9 1 3 1, 0, ?_, ms_f (MS.s9 s' (Or.inl rfl) 0) 1, ?_⟩⟩
    · unfold f_X8_of
      simp only [e10, reduceIte, h.kx hr ha (show 100 ≤ fu by omega), bX]
    · obtain ⟨hL, -, ⟨hT, -⟩, -⟩ := h'.s0
      unfold f_X9_of
      simp only [e10, reduceIte, lt, X9_isSx hL hT ha, bI, X9_fail]
      rfl
    · exact ⟨f3 _ _, rfl⟩
end Q5
