/-! ===== bucket, gap, trend ===== -/
def bfact (κ : Int → Int) (g : List Pt) (w : Nat) : Int64 := if w = 0 then Int32.toInt64 (Int32.ofInt (ky κ g)) else if w = 1 then Int32.toInt64 (nI g.length) else if w = 2 then s64 g else if w = 3 then Int32.toInt64 (gmn g) else if w = 4 then Int32.toInt64 (gmx g) else Int32.toInt64 (mean g)
theorem nI_c (k : Nat) (hk : k < 100) (w : Nat) (hw : w < 100) : (nI w = nI k) ↔ w = k := ni_eq (by omega) (by omega)
theorem X5_fact {s : St} {o p n : Nat} {S K : Nat → Int} {h : Int} {GG : List (List Pt)} (W : WfG n S K h GG) (C : SerC s o p n S K h GG) {j : Nat} {g : List Pt} (hj : GG[j]? = some g) {w : Nat} (hw : w < 100) (fu : Nat) : f_X5_fact fu s o (nI j) (nI w) = some (s, bfact (ka n S K h) g w) := by
  have hl := wf_len W
  have hjl := get_lt hj
  obtain ⟨c1, c2, c3, c4, c5⟩ := C.2.2.2.2.2 j g hj
  obtain ⟨r1, r2, r3, r4, r5⟩ := C.2.2.2.1
  obtain ⟨l1, l2, l3, l4, l5⟩ := C.2.2.2.2.1
  have b1 : inb (nI j) (gL s 10 (gR s 5 o 3)) = true := nu_inbn (by omega) (by omega)
  have b2 : inb (nI j) (gL s 10 (gR s 5 o 4)) = true := nu_inbn (by omega) (by omega)
  have b3 : inb (nI j) (gL s 11 (gR s 5 o 5)) = true := nu_inbn (by omega) (by omega)
  have b4 : inb (nI j) (gL s 10 (gR s 5 o 6)) = true := nu_inbn (by omega) (by omega)
  have b5 : inb (nI j) (gL s 10 (gR s 5 o 7)) = true := nu_inbn (by omega) (by omega)
  have q0 : (nI w = 0) ↔ w = 0 := nI_c 0 (by omega) w hw
  have q1 : (nI w = 1) ↔ w = 1 := nI_c 1 (by omega) w hw
  have q2 : (nI w = 2) ↔ w = 2 := nI_c 2 (by omega) w hw
  have q3 : (nI w = 3) ↔ w = 3 := nI_c 3 (by omega) w hw
  have q4 : (nI w = 4) ↔ w = 4 := nI_c 4 (by omega) w hw
  unfold f_X5_fact bfact
  simp only [q0, q1, q2, q3, q4, C.1.1, reduceIte, r1, r2, r3, r4, r5, b1, b2, b3, b4, b5, Bool.true_eq_false, nu_ixn (show j < 2147483648 by omega), c1, c2, c3, c4, c5, X5_mean W C hj, bI]
  repeat' split
  all_goals rfl
/-- the reference's facts of the bucket that it has now -/
theorem bG_mean {s : St} {n : Nat} {S K : Nat → Int} {h : Int} {g : List Pt} (hv : ∀ p ∈ g, -10000 ≤ p.2.toInt ∧ p.2.toInt ≤ 10000) (hl : 0 < g.length ∧ g.length ≤ 40000) (fu : Nat) : f_X9_meanNow fu (bG s n S K h g) 1 = some (bG s n S K h g, mean g) := by
  have h1 := s64_bd hv hl.2
  rw [X9_mean (by unfold bG; rw [bS_53, nu_nI (by omega)]; omega) (by unfold bG; rw [bS_56]; omega) (by unfold bG; rw [bS_56]; omega)]
  unfold bG mean
  rw [bS_53, bS_56, nu_nI (by omega)]
section Q2
variable {s : St} {p n : Nat} {S K : Nat → Int} {R : List Nat} {H : Nat → Int32} {P : Nat → List Pt} {fu : Nat}
theorem X9_bk_loop (h : RQ s n S K R H P) {id : Nat} (hid : id < 10) {GG B : List (List Pt)} {g : List Pt} (hP : P id = GG.flatten) (W : WfG n S K (H id).toInt GG) (w : Int32) {idx : Nat} (hidx : idx ≤ 40000) (hfu : 50000 ≤ fu) :
    ∀ (L A : List (List Pt)) (m c : Nat) (s1 : St), GG = A ++ (L ++ g :: B) → MZ s s1 → c + L.length = idx → L.length + 2 ≤ m → ∃ s2 m' k, MZ s s2 ∧ f_X9_bucket_b57 fu m s1 1 (nI idx) w (nI (off P id + A.flatten.length)) (nI c) = f_X9_bucket_b57 fu (m' + 1) (bG s2 n S K (H id).toInt g) 1 (nI idx) w k (nI (idx + 1)) := by
  have e10 : ¬ (1 = 0) := by decide
  intro L
  induction L with
  | nil =>
    intro A m c s1 e hm hc hl
    cases m with
    | zero => omega
    | succ m =>
      cases m with
      | zero => simp at hl
      | succ m =>
        rw [List.length_nil] at hc
        refine ⟨s1, m, nI (off P id + (A ++ [g]).flatten.length), hm, ?_⟩
        conv => lhs; unfold f_X9_bucket_b57
        rw [if_neg (fun q => by have := (ni_lt (by omega) (by omega)).mp q; omega)]
        simp only [e10, reduceIte, X9_nb (h.mz hm) hid hP W (show GG = A ++ g :: B from e) hfu, bI, lt, nu_nIa]
        rw [show c + 1 = idx + 1 by omega]
  | cons b L ih =>
    intro A m c s1 e hm hc hl
    cases m with
    | zero => omega
    | succ m =>
      rw [List.length_cons] at hc hl
      have e2 : GG = (A ++ [b]) ++ (L ++ g :: B) := by rw [e, List.append_assoc]; rfl
      obtain ⟨s2, m', k, h1, h2⟩ := ih (A ++ [b]) m (c + 1) (bG s1 n S K (H id).toInt b) e2 (hm.tr (bG_ms _ _ _ _ _ _)) (by omega) (by omega)
      refine ⟨s2, m', k, h1, ?_⟩
      rw [← h2]
      conv => lhs; unfold f_X9_bucket_b57
      rw [if_neg (fun q => by have := (ni_lt (by omega) (by omega)).mp q; omega)]
      simp only [e10, reduceIte, X9_nb (h.mz hm) hid hP W (show GG = A ++ b :: (L ++ g :: B) from e) hfu, bI, lt, nu_nIa]
theorem Q_bucket (h : CQ s p n S K R H P) (hr : rmb (nX s) = true) (hfu : 50000 ≤ fu) (a b c d : Int32) : ∃ s1 w, f_X8_bucket fu s 1 a b c d = some (s1, w) ∧ CS s s1 ∧
    ∀ s', RQ s' n S K R H P → ∃ s2 v, f_X9_bucket fu s' 1 a b c d = some (s2, v) ∧ MS s' s2 ∧ cmpJ1 w v (gI s2 9 1 3) := by
  have e10 : ¬ (1 = 0) := by decide
  have z10 : ¬ ((1 : Int32) = 0) := by decide
  have hV := h.2.1.2.2.2
  have hn := hV.1
  have e5 : (5 : Int32).toInt = 5 := rfl
  have ej0 : (0 : Int64).toInt = 0 := rfl
  rcases id_cases R a with ⟨i, hi, rfl⟩ | ha
  · have hid := h.id hi
    obtain ⟨ho, GG, hPi, W, C⟩ := h.2.2.2 i hi
    rcases tier_cases n b with ⟨t, ht, rfl⟩ | hb
    · obtain ⟨A, M, B, e, c1, c2, c3, c4, c5, c6, c7, c8⟩ := tier_cut hV W ht
      obtain ⟨x1, x2⟩ := X5_tier hV W C ht e c1 c3 c4 c5 c6 hfu
      have hl := wf_len W
      have hM : A.length + M.length ≤ GG.length := by rw [e, List.length_append, List.length_append]; omega
      -- the reference's road
      have road : ∀ s', RQ s' n S K R H P → ∃ sm, MZ (sI s' 9 1 3 0) sm ∧ f_X9_bucket fu s' 1 (nI i) (nI t) c d = if 0 ≤ c.toInt ∧ c.toInt < M.length then f_X9_bucket_b57 fu fu sm 1 c d (nI (off P i + A.flatten.length)) 0 else some (sI sm 9 1 3 1, 0) := by
        intro s' h'
        obtain ⟨s2, m1, m2⟩ := X9_bin h'.s0 hid hPi W ht e c4 c7 c8 hfu
        obtain ⟨t1, -⟩ := X9_ends (h'.s0.mz m2) hid hPi W ht e c4 c7 c8 hfu
        obtain ⟨hL, ⟨hPl, -⟩, ⟨hT, -⟩, -⟩ := h'.s0
        refine ⟨s2, m2, ?_⟩
        have em : (nI M.length - 1).toInt = (M.length : Int) - 1 := by rw [nu_sub (by rw [nu_nI (by omega), nu_1]; omega) (by rw [nu_nI (by omega), nu_1]; omega), nu_nI (by omega), nu_1]
        unfold f_X9_bucket f_X9_bucket_b39
        simp only [e10, reduceIte, lt, X9_isS hL hT hi hid, bI, z10, X9_it hPl hV, nu_nI (show t < 2147483648 by omega), bt_t (show (0 : Int) ≤ t ∧ (t : Int) < n by omega), m1, X9_isIn, nj_up, em, ej0, X9_fail, t1]
        by_cases hc : 0 ≤ c.toInt ∧ c.toInt < M.length
        · rw [if_pos hc, bt_t (show 0 ≤ c.toInt ∧ c.toInt ≤ (M.length : Int) - 1 by omega), if_neg z10]
        · rw [if_neg hc, bt_f (show ¬ (0 ≤ c.toInt ∧ c.toInt ≤ (M.length : Int) - 1) by omega), if_pos rfl]
          rfl
      by_cases hd : 0 ≤ d.toInt ∧ d.toInt ≤ 5
      · obtain ⟨w, hw, rfl⟩ : ∃ w : Nat, w ≤ 5 ∧ d = nI w := ⟨d.toInt.toNat, by omega, nu_toN (by omega)⟩
        have hnw : f_X8_needWhat fu s (nI w) 5 = some (s, .inr ()) := X8_nw (by rw [nu_nI (by omega)]; omega) (by rw [nu_nI (by omega), e5]; omega) fu
        by_cases hc : 0 ≤ c.toInt ∧ c.toInt < M.length
        · obtain ⟨x, hx, rfl⟩ : ∃ x : Nat, x < M.length ∧ c = nI x := ⟨c.toInt.toNat, by omega, nu_toN (by omega)⟩
          have hMx : M[x]? = some M[x] := List.getElem?_eq_getElem hx
          obtain ⟨M1, M2, eM, hM1⟩ : ∃ M1 M2, M = M1 ++ M[x] :: M2 ∧ M1.length = x := ⟨M.take x, M.drop (x + 1), by rw [← List.drop_eq_getElem_cons hx, List.take_append_drop], by rw [List.length_take]; omega⟩
          generalize M[x] = g at hMx eM
          have hg : GG[A.length + x]? = some g := by
            rw [e, List.getElem?_append_right (by omega), Nat.add_sub_cancel_left, List.getElem?_append_left hx]
            exact hMx
          refine ⟨s, .inr (bfact (ka n S K (H i).toInt) g w), ?_, (CZ.rf s).cs, fun s' h' => ?_⟩
          · unfold f_X8_bucket
            have hc0 : ¬ nI x < 0 := by rw [nu_lt, nu_0]; omega
            have hcl : nI x < nI M.length := (ni_lt (by omega) (by omega)).mpr hx
            simp only [e10, reduceIte, h.kn hi (show 100 ≤ fu by omega), bX, h.nt ht, hnw, ho, x1, x2, bI, hc0, ni_sub (show A.length ≤ A.length + M.length by omega) (show A.length + M.length < 2147483648 by omega), Nat.add_sub_cancel_left, hcl, ni_add (show A.length + x < 2147483648 by omega), X5_fact W C hg (show w < 100 by omega)]
          · obtain ⟨sm, mz, hrd⟩ := road s' h'
            have e2 : GG = A ++ (M1 ++ g :: (M2 ++ B)) := by rw [e, eM, List.append_assoc]; rfl
            obtain ⟨s2, m', k, h1, h2⟩ := X9_bk_loop (h'.s0) hid hPi W (nI w) (show x ≤ 40000 by omega) hfu M1 A fu 0 sm e2 mz (by omega) (by omega)
            rw [if_pos (by rw [nu_nI (by omega)]; omega)] at hrd
            have hgG : g ∈ GG := List.mem_of_getElem? hg
            refine ⟨bG s2 n S K (H i).toInt g, bfact (ka n S K (H i).toInt) g w, ?_, (MS.s9 s' (Or.inl rfl) 0).tr (h1.tr (bG_ms _ _ _ _ _ _)).1, ?_⟩
            · rw [hrd]
              have z0 : nI 0 = 0 := rfl
              rw [z0] at h2
              rw [h2]
              unfold f_X9_bucket_b57
              rw [if_pos ((ni_lt (by omega) (by omega)).mpr (by omega))]
              have q0 : (nI w = 0) ↔ w = 0 := nI_c 0 (by omega) w (by omega)
              have q1 : (nI w = 1) ↔ w = 1 := nI_c 1 (by omega) w (by omega)
              have q2 : (nI w = 2) ↔ w = 2 := nI_c 2 (by omega) w (by omega)
              have q3 : (nI w = 3) ↔ w = 3 := nI_c 3 (by omega) w (by omega)
              have q4 : (nI w = 4) ↔ w = 4 := nI_c 4 (by omega) w (by omega)
              have q5 : (nI w = 5) ↔ w = 5 := nI_c 5 (by omega) w (by omega)
              simp only [q0, q1, q2, q3, q4, q5, e10, reduceIte, bG_mean (wf_v W hgG) (wf_gl W hgG), bI]
              unfold bG
              simp only [bS_52, bS_53, bS_54, bS_55, bS_56]
              unfold bfact
              repeat' split
              all_goals first | rfl | omega
            · exact ⟨by rw [(h1.tr (bG_ms _ _ _ _ _ _)).2]; exact f3 _ _, rfl⟩
        · refine ⟨nX s, .inl 1, ?_, (CZ.rf s).x, fun s' h' => ?_⟩
          · unfold f_X8_bucket f_X8_bucket_b43
            simp only [e10, reduceIte, h.kn hi (show 100 ≤ fu by omega), bX, h.nt ht, hnw, ho, x1, x2, bI, hr, Bool.true_eq_false, ni_sub (show A.length ≤ A.length + M.length by omega) (show A.length + M.length < 2147483648 by omega), Nat.add_sub_cancel_left, nu_lt, nu_0, nu_nI (show M.length < 2147483648 by omega)]
            by_cases h0 : c.toInt < 0
            · rw [if_pos h0]
            · rw [if_neg h0, if_neg (by omega)]
          · obtain ⟨sm, mz, hrd⟩ := road s' h'
            rw [if_neg hc] at hrd
            exact ⟨_, _, hrd, ms_f ((MS.s9 s' (Or.inl rfl) 0).tr mz.1) 1, f3 _ _, rfl⟩
      · refine ⟨nX s, .inl 1, ?_, (CZ.rf s).x, fun s' h' => ?_⟩
        · unfold f_X8_bucket
          simp only [e10, reduceIte, h.kn hi (show 100 ≤ fu by omega), bX, h.nt ht, X8_nx hr (show ¬ (0 ≤ d.toInt ∧ d.toInt ≤ (5 : Int32).toInt) from hd)]
        · obtain ⟨sm, mz, hrd⟩ := road s' h'
          by_cases hc : 0 ≤ c.toInt ∧ c.toInt < M.length
          · obtain ⟨x, hx, rfl⟩ : ∃ x : Nat, x < M.length ∧ c = nI x := ⟨c.toInt.toNat, by omega, nu_toN (by omega)⟩
            obtain ⟨M1, M2, eM, hM1⟩ : ∃ M1 M2, M = M1 ++ M[x] :: M2 ∧ M1.length = x := ⟨M.take x, M.drop (x + 1), by rw [← List.drop_eq_getElem_cons hx, List.take_append_drop], by rw [List.length_take]; omega⟩
            generalize M[x] = g at eM
            have e2 : GG = A ++ (M1 ++ g :: (M2 ++ B)) := by rw [e, eM, List.append_assoc]; rfl
            obtain ⟨s2, m', k, h1, h2⟩ := X9_bk_loop (h'.s0) hid hPi W d (show x ≤ 40000 by omega) hfu M1 A fu 0 sm e2 mz (by omega) (by omega)
            rw [if_pos hc] at hrd
            have z0 : nI 0 = 0 := rfl
            rw [z0] at h2
            refine ⟨sI (bG s2 n S K (H i).toInt g) 9 1 3 1, 0, ?_, ms_f ((MS.s9 s' (Or.inl rfl) 0).tr (h1.tr (bG_ms _ _ _ _ _ _)).1) 1, f3 _ _, rfl⟩
            rw [hrd, h2]
            unfold f_X9_bucket_b57
            rw [if_pos ((ni_lt (by omega) (by omega)).mpr (by omega))]
            have nz : ∀ k : Nat, k ≤ 5 → ¬ d = nI k := fun k hk q => hd (by rw [q, nu_nI (by omega)]; omega)
            have q0 : ¬ d = 0 := nz 0 (by omega)
            have q1 : ¬ d = 1 := nz 1 (by omega)
            have q2 : ¬ d = 2 := nz 2 (by omega)
            have q3 : ¬ d = 3 := nz 3 (by omega)
            have q4 : ¬ d = 4 := nz 4 (by omega)
            have q5 : ¬ d = 5 := nz 5 (by omega)
            simp only [q0, q1, q2, q3, q4, q5, e10, reduceIte, X9_fail, bI]
            rfl
          · rw [if_neg hc] at hrd
            exact ⟨_, _, hrd, ms_f ((MS.s9 s' (Or.inl rfl) 0).tr mz.1) 1, f3 _ _, rfl⟩
    · refine ⟨nX s, .inl 1, ?_, (CZ.rf s).x, fun s' h' => ⟨sI (sI s' 9 1 3 0) 9 1 3 1, 0, ?_, ms_f (MS.s9 s' (Or.inl rfl) 0) 1, ?_⟩⟩
      · unfold f_X8_bucket
        simp only [e10, reduceIte, h.kn hi (show 100 ≤ fu by omega), bX, h.ntx hr hb]
      · obtain ⟨hL, ⟨hPl, -⟩, ⟨hT, -⟩, -⟩ := h'.s0
        unfold f_X9_bucket f_X9_bucket_b39
        simp only [e10, reduceIte, lt, X9_isS hL hT hi hid, bI, z10, X9_it hPl hV, bt_f hb, X9_fail]
        rfl
      · exact ⟨f3 _ _, rfl⟩
  · refine ⟨nX s, .inl 1, ?_, (CZ.rf s).x, fun s' h' => ⟨sI (sI s' 9 1 3 0) 9 1 3 1, 0, ?_, ms_f (MS.s9 s' (Or.inl rfl) 0) 1, ?_⟩⟩
    · unfold f_X8_bucket
      simp only [e10, reduceIte, h.kx hr ha (show 100 ≤ fu by omega), bX]
    · obtain ⟨hL, -, ⟨hT, -⟩, -⟩ := h'.s0
      unfold f_X9_bucket f_X9_bucket_b39
      simp only [e10, reduceIte, lt, X9_isSx hL hT ha, bI, X9_fail]
      rfl
    · exact ⟨f3 _ _, rfl⟩
end Q2
