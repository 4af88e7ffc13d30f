/-! ===== why, count, tier, used, fault ===== -/
theorem fl_step {R : List Nat} (hn : R.Nodup) (f : Nat → Bool) (k : Nat) : (R.filter (fun o => decide (o < k + 1) && f o)).length = (R.filter (fun o => decide (o < k) && f o)).length + (if k ∈ R ∧ f k = true then 1 else 0) := by
  induction R with
  | nil => simp
  | cons a R ih =>
    have hn' := List.nodup_cons.mp hn
    have ih' := ih hn'.2
    by_cases ha : a = k
    · subst ha
      have h0 : ¬ (a ∈ R ∧ f a = true) := fun q => hn'.1 q.1
      rw [if_neg h0, Nat.add_zero] at ih'
      have e1 : (decide (a < a + 1) && f a) = f a := by rw [decide_eq_true (by omega), Bool.true_and]
      have e2 : (decide (a < a) && f a) = false := by rw [decide_eq_false (by omega), Bool.false_and]
      rw [List.filter_cons, List.filter_cons, e1, e2, if_neg (show ¬ (false = true) by decide)]
      cases hf : f a
      · rw [if_neg (show ¬ (false = true) by decide), if_neg (show ¬ (a ∈ a :: R ∧ false = true) from fun q => absurd q.2 (by decide)), ih']
      · rw [if_pos rfl, if_pos ⟨List.mem_cons_self, rfl⟩, List.length_cons, ih']
    · have e1 : (decide (a < k + 1) && f a) = (decide (a < k) && f a) := by
        rw [show (decide (a < k + 1)) = decide (a < k) from decide_eq_decide.mpr (by omega)]
      have e2 : (k ∈ a :: R ∧ f k = true) ↔ (k ∈ R ∧ f k = true) := by
        rw [List.mem_cons]
        constructor
        · rintro ⟨q | q, w⟩
          · exact absurd q.symm ha
          · exact ⟨q, w⟩
        · rintro ⟨q, w⟩; exact ⟨Or.inr q, w⟩
      rw [List.filter_cons, List.filter_cons, e1]
      simp only [e2]
      split
      · rw [List.length_cons, List.length_cons, ih']; omega
      · exact ih'
theorem fl_all {R : List Nat} (h : ∀ i ∈ R, i < 10) (f : Nat → Bool) : R.filter (fun o => decide (o < 10) && f o) = R.filter f := by
  apply List.filter_congr
  intro x hx
  rw [decide_eq_true (h x hx), Bool.true_and]
def WhC (s : St) (y : Q4) : Prop := ∀ w, w < 4 → gI s 10 11 w = q4 y w
def WhM (s : St) (y : Q4) : Prop := gI s 9 1 40 = y.1 ∧ gI s 9 1 41 = y.2.1 ∧ gI s 9 1 42 = y.2.2.1 ∧ gI s 9 1 43 = y.2.2.2
def CsC (s : St) (p : Nat) (mo : Int32) (c : Q4) : Prop := gI s 2 p 4 = mo ∧ gI s 8 1 14 = c.1 ∧ gI s 8 1 16 = c.2.1 ∧ gI s 8 1 17 = c.2.2.1 ∧ gI s 8 1 18 = c.2.2.2
def CsM (s : St) (mo : Int32) (c : Q4) : Prop := gI s 9 1 8 = mo ∧ gI s 9 1 24 = c.1 ∧ gI s 9 1 16 = c.2.1 ∧ gI s 9 1 17 = c.2.2.1 ∧ gI s 9 1 18 = c.2.2.2
/-- the latest use comes first -/
def UsO (s : St) (R : List Nat) : Prop := ∀ (A B : List Nat) (i : Nat), R = A ++ i :: B → (∀ o ∈ A, (gI s 10 26 i).toInt < (gI s 10 26 o).toInt) ∧ ∀ o ∈ B, (gI s 10 26 o).toInt < (gI s 10 26 i).toInt
section SML
variable {s : St} {p n : Nat} {S K : Nat → Int} {R : List Nat} {H : Nat → Int32} {P : Nat → List Pt} {fu : Nat}
theorem us_pl (hU : UsO s R) {A B : List Nat} {i : Nat} (e : R = A ++ i :: B) : (R.filter (fun o => decide ((gI s 10 26 i).toInt < (gI s 10 26 o).toInt))).length = A.length := by
  obtain ⟨h1, h2⟩ := hU A B i e
  rw [e, List.filter_append, List.filter_eq_self.mpr (fun o ho => decide_eq_true (h1 o ho)), List.filter_cons, if_neg (by rw [decide_eq_true_iff]; omega), List.filter_eq_nil_iff.mpr (fun o ho q => by have := of_decide_eq_true q; have := h2 o ho; omega), List.append_nil]
theorem X9_series (hL : Lay s) (hT : ThM s R) (hW : RW R) (hfu : 100 ≤ fu) : f_X9_series fu s 1 = some (s, nI R.length) := by
  have e10 : ¬ (1 = 0) := by decide
  have loop : ∀ (d k m : Nat), k + d = 10 → d < m → f_X9_series_b4 fu m s 1 (nI (R.filter (fun o => decide (o < k) && true)).length) (nI k) = some (s, nI R.length) := by
    intro d
    induction d with
    | zero =>
      intro k m hk hm
      have hk : k = 10 := by omega
      subst hk
      cases m with
      | zero => omega
      | succ m =>
        unfold f_X9_series_b4
        rw [if_pos (by decide), fl_all hW.2.1, List.filter_eq_self.mpr (fun _ _ => rfl)]
    | succ d ih =>
      intro k m hk hm
      cases m with
      | zero => omega
      | succ m =>
        have h1 := ih (k + 1) m (by omega) (by omega)
        rw [fl_step hW.1] at h1
        have bb : inb (nI k) 10 = true := nu_inbn (by omega) (by omega)
        unfold f_X9_series_b4 f_X9_series_b25
        rw [if_neg (fun q => by have := (ni_le (a := 10) (by omega) (by omega)).mp q; omega)]
        simp only [e10, reduceIte, lr_9_1_10 hL, ll_13_1 hL, bb, Bool.true_eq_false, nu_ixn (show k < 2147483648 by omega), hT k (by omega), lt, nu_nIa]
        by_cases hk : k ∈ R
        · rw [if_pos hk, if_neg (by decide)]
          rw [if_pos ⟨hk, rfl⟩] at h1
          exact h1
        · rw [if_neg hk, if_pos rfl]
          rw [if_neg (fun q => hk q.1), Nat.add_zero] at h1
          rw [show ∀ x : Int32, x + 0 = x from Int32.add_zero]
          exact h1
  have := loop 10 0 fu rfl (by omega)
  rw [List.filter_eq_nil_iff.mpr (fun x _ => by simp)] at this
  exact this
theorem X9_us_in (hL : Lay s) (hT : ThM s R) (hW : RW R) (a : Int32) (k7 : St → Nat → Int32 → Int32 → Option (St × Int32)) {i : Nat} (hi : i < 10) : ∀ (d k m : Nat), k + d = 10 → d < m →
    f_X9_used_b18 fu k7 m s 1 a (nI i) (nI (R.filter (fun o => decide (o < k) && decide ((gI s 10 26 i).toInt < (gI s 10 26 o).toInt))).length) (nI k) = if i ∈ R ∧ nI (R.filter (fun o => decide ((gI s 10 26 i).toInt < (gI s 10 26 o).toInt))).length = a then some (s, nI i) else k7 s 1 a (nI (i + 1)) := by
  have e10 : ¬ (1 = 0) := by decide
  have e26 : ¬ (26 = 0) := by decide
  have bi : inb (nI i) 10 = true := nu_inbn (by omega) (by omega)
  intro d
  induction d with
  | zero =>
    intro k m hk hm
    have hk : k = 10 := by omega
    subst hk
    cases m with
    | zero => omega
    | succ m =>
      unfold f_X9_used_b18 f_X9_used_b81
      rw [if_pos (by decide), fl_all hW.2.1]
      simp only [e10, reduceIte, lr_9_1_10 hL, ll_13_1 hL, bi, Bool.true_eq_false, nu_ixn (show i < 2147483648 by omega), hT i hi, lt, nu_nIa]
      by_cases hr : i ∈ R
      · rw [if_pos hr, if_neg (by decide)]
        by_cases hq : nI (R.filter (fun o => decide ((gI s 10 26 i).toInt < (gI s 10 26 o).toInt))).length = a
        · rw [if_pos hq, if_pos ⟨hr, hq⟩]
        · rw [if_neg hq, if_neg (fun z => hq z.2)]
      · rw [if_neg hr, if_pos rfl, if_neg (fun z => hr z.1)]
  | succ d ih =>
    intro k m hk hm
    cases m with
    | zero => omega
    | succ m =>
      have h1 := ih (k + 1) m (by omega) (by omega)
      rw [fl_step hW.1] at h1
      have bb : inb (nI k) 10 = true := nu_inbn (by omega) (by omega)
      unfold f_X9_used_b18 f_X9_used_b56 f_X9_used_b57
      rw [if_neg (fun q => by have := (ni_le (a := 10) (by omega) (by omega)).mp q; omega)]
      simp only [e10, reduceIte, lr_9_1_10 hL, ll_13_1 hL, bb, bi, Bool.true_eq_false, nu_ixn (show k < 2147483648 by omega), nu_ixn (show i < 2147483648 by omega), hT k (by omega), lt, nu_nIa, lr_9_1_14 hL, e26, ll_10_26 hL, show ∀ x : Int32, x + 0 = x from Int32.add_zero]
      by_cases hr : k ∈ R
      · rw [if_pos hr, if_neg (by decide)]
        by_cases hq : gI s 10 26 k ≤ gI s 10 26 i
        · rw [if_pos hq]
          rw [if_neg (fun z => by have := of_decide_eq_true z.2; have := nu_le.mp hq; omega), Nat.add_zero] at h1
          exact h1
        · rw [if_neg hq]
          rw [if_pos ⟨hr, decide_eq_true (by have : ¬ _ := fun w => hq (nu_le.mpr w); omega)⟩] at h1
          exact h1
      · rw [if_neg hr, if_pos rfl]
        rw [if_neg (fun z => hr z.1), Nat.add_zero] at h1
        exact h1
theorem X9_used_hit (hL : Lay s) (hT : ThM s R) (hW : RW R) (hU : UsO s R) {A B : List Nat} {i : Nat} (e : R = A ++ i :: B) (hfu : 100 ≤ fu) : ∀ (d k m : Nat), k + d = i → d < m → f_X9_used_b7 fu m s 1 (nI A.length) (nI k) = some (s, nI i) := by
  have hi : i < 10 := hW.2.1 i (by rw [e]; exact List.mem_append_right _ List.mem_cons_self)
  intro d
  induction d with
  | zero =>
    intro k m hk hm
    have hk : k = i := by omega
    subst hk
    cases m with
    | zero => omega
    | succ m =>
      have h1 := X9_us_in (fu := fu) hL hT hW (nI A.length) (f_X9_used_b7 fu m) hi 10 0 fu rfl (by omega)
      rw [List.filter_eq_nil_iff.mpr (fun x _ => by simp)] at h1
      unfold f_X9_used_b7
      rw [if_neg (fun q => by have := (ni_le (a := 10) (by omega) (by omega)).mp q; omega)]
      refine h1.trans ?_
      rw [if_pos ⟨by rw [e]; exact List.mem_append_right _ List.mem_cons_self, by rw [us_pl hU e]⟩]
  | succ d ih =>
    intro k m hk hm
    cases m with
    | zero => omega
    | succ m =>
      have h1 := X9_us_in (fu := fu) hL hT hW (nI A.length) (f_X9_used_b7 fu m) (i := k) (by omega) 10 0 fu rfl (by omega)
      rw [List.filter_eq_nil_iff.mpr (fun x _ => by simp)] at h1
      unfold f_X9_used_b7
      rw [if_neg (fun q => by have := (ni_le (a := 10) (by omega) (by omega)).mp q; omega)]
      refine h1.trans ?_
      rw [if_neg]
      · exact ih (k + 1) m (by omega) (by omega)
      · rintro ⟨q1, q2⟩
        obtain ⟨A', B', e'⟩ := List.append_of_mem q1
        rw [us_pl hU e'] at q2
        have hl : R.length = A'.length + (B'.length + 1) := by rw [e', List.length_append, List.length_cons]
        have hl2 : R.length = A.length + (B.length + 1) := by rw [e, List.length_append, List.length_cons]
        have := hW.2.2
        have q3 := (ni_eq (by omega) (by omega)).mp q2
        have g1 : R[A.length]? = some i := by rw [e, List.getElem?_append_right (Nat.le_refl _)]; simp
        have g2 : R[A'.length]? = some k := by rw [e', List.getElem?_append_right (Nat.le_refl _)]; simp
        rw [q3, g1] at g2
        have := Option.some.inj g2
        omega
theorem X9_used_miss (hL : Lay s) (hT : ThM s R) (hW : RW R) (hU : UsO s R) {a : Int32} (ha : ¬ (0 ≤ a.toInt ∧ a.toInt < R.length)) (hfu : 100 ≤ fu) : ∀ (d k m : Nat), k + d = 10 → d < m → f_X9_used_b7 fu m s 1 a (nI k) = some (sI s 9 1 3 1, 0) := by
  intro d
  induction d with
  | zero =>
    intro k m hk hm
    have hk : k = 10 := by omega
    subst hk
    cases m with
    | zero => omega
    | succ m =>
      unfold f_X9_used_b7
      rw [if_pos (by decide), if_neg (by decide), X9_fail]
      rfl
  | succ d ih =>
    intro k m hk hm
    cases m with
    | zero => omega
    | succ m =>
      have h1 := X9_us_in (fu := fu) hL hT hW a (f_X9_used_b7 fu m) (i := k) (by omega) 10 0 fu rfl (by omega)
      rw [List.filter_eq_nil_iff.mpr (fun x _ => by simp)] at h1
      unfold f_X9_used_b7
      rw [if_neg (fun q => by have := (ni_le (a := 10) (by omega) (by omega)).mp q; omega)]
      refine h1.trans ?_
      rw [if_neg]
      · exact ih (k + 1) m (by omega) (by omega)
      · rintro ⟨q1, q2⟩
        obtain ⟨A', B', e'⟩ := List.append_of_mem q1
        rw [us_pl hU e'] at q2
        have hl : R.length = A'.length + (B'.length + 1) := by rw [e', List.length_append, List.length_cons]
        have := hW.2.2
        apply ha
        rw [← q2, nu_nI (by omega)]
        omega
theorem UsO.ms {s s' : St} (h : UsO s R) (hm : MS s s') : UsO s' R := by
  intro A B i e
  have h1 := h A B i e
  have h2 : ∀ j, gI s' 10 26 j = gI s 10 26 j := fun j => hm.2.1 10 26 j (by decide) (by omega)
  exact ⟨fun o ho => by rw [h2, h2]; exact h1.1 o ho, fun o ho => by rw [h2, h2]; exact h1.2 o ho⟩
theorem Q_used (h : CQ s p n S K R H P) (hr : rmb (nX s) = true) (hfu : 50000 ≤ fu) (a : Int32) : ∃ s1 w, f_X8_used fu s 1 a = some (s1, w) ∧ CS s s1 ∧
    ∀ s', RQ s' n S K R H P → UsO s' R → ∃ s2 v, f_X9_used fu s' 1 a = some (s2, v) ∧ MS s' s2 ∧ cmpI1 w v (gI s2 9 1 3) := by
  have e10 : ¬ (1 = 0) := by decide
  have e50 : ¬ (5 = 0) := by decide
  have hRW := h.2.2.1.2
  obtain ⟨r1, r2, r3, r4, r5⟩ := h.2.2.1.1
  rw [lr_4_1_0 h.1.1] at r4
  by_cases ha : 0 ≤ a.toInt ∧ a.toInt < R.length
  · obtain ⟨j, hj, rfl⟩ : ∃ j : Nat, j < R.length ∧ a = nI j := ⟨a.toInt.toNat, by omega, nu_toN (by omega)⟩
    have hRl := hRW.2.2
    have hgx : R[j]? = some R[j] := List.getElem?_eq_getElem hj
    have he : R = R.take j ++ R[j] :: R.drop (j + 1) := by
      have := (List.take_append_drop j R).symm
      rw [List.drop_eq_getElem_cons hj] at this
      exact this
    have htl : (R.take j).length = j := by rw [List.length_take]; omega
    have bb : inb (nI j) 10 = true := nu_inbn (by omega) (by omega)
    refine ⟨s, .inr (nI R[j]), ?_, (CZ.rf s).cs, fun s' h' hU => ⟨sI s' 9 1 3 0, nI R[j], ?_, MS.s9 s' (Or.inl rfl) 0, f3 _ _, rfl⟩⟩
    · unfold f_X8_used
      rw [if_neg (fun q => by have := nu_lt.mp q; rw [nu_nI (by omega), nu_0] at this; omega)]
      simp only [e10, e50, reduceIte, lr_8_1_4 h.1.1, r3, ni_lt (show j < 2147483648 by omega) (show R.length < 2147483648 by omega), hj, lr_4_1_0 h.1.1, ll_10_5 h.1.1, bb, Bool.true_eq_false, nu_ixn (show j < 2147483648 by omega), r4 j _ hgx]
    · have h0 := h'.s0
      have := X9_used_hit (fu := fu) h0.1 h0.2.2.1.1 hRW (hU.ms (MS.s9 s' (Or.inl rfl) 0)) he (by omega) R[j] 0 fu (by omega) (by have := hRW.2.1 _ (List.getElem_mem hj); omega)
      rw [htl] at this
      unfold f_X9_used
      rw [if_neg e10]
      exact this
  · refine ⟨nX s, .inl 1, ?_, (CZ.rf s).x, fun s' h' hU => ⟨sI (sI s' 9 1 3 0) 9 1 3 1, 0, ?_, ms_f (MS.s9 s' (Or.inl rfl) 0) 1, f3 _ _, rfl⟩⟩
    · unfold f_X8_used f_X8_used_b15
      have hRl := hRW.2.2
      by_cases hz : a < 0
      · rw [if_pos hz, if_neg (by rw [hr]; decide)]
      · have : ¬ a < nI R.length := fun q => by
          have h1 := nu_lt.mp q
          rw [nu_nI (by omega)] at h1
          have h2 : ¬ a.toInt < 0 := fun w => hz (nu_lt.mpr w)
          omega
        simp only [hz, e10, reduceIte, lr_8_1_4 h.1.1, r3, this, hr, Bool.true_eq_false]
    · have h0 := h'.s0
      have := X9_used_miss (fu := fu) h0.1 h0.2.2.1.1 hRW (hU.ms (MS.s9 s' (Or.inl rfl) 0)) ha (by omega) 10 0 fu rfl (by omega)
      unfold f_X9_used
      rw [if_neg e10]
      exact this
theorem Q_why (hL : Lay s) (hr : rmb (nX s) = true) {y : Q4} (hy : WhC s y) (a : Int32) : ∃ s1 w, f_X8_why fu s 1 a = some (s1, w) ∧ CS s s1 ∧
    ∀ s', WhM s' y → ∃ s2 v, f_X9_why fu s' 1 a = some (s2, v) ∧ MS s' s2 ∧ cmpI1 w v (gI s2 9 1 3) := by
  have e10 : ¬ (1 = 0) := by decide
  have e11 : ¬ (11 = 0) := by decide
  rcases what_c a 3 (by omega) with ⟨w, hw3, rfl⟩ | hd
  · have hnw : f_X8_needWhat fu s (nI w) 3 = some (s, .inr ()) := CQ.nw w 3 (by show (w : Int) ≤ 3; omega) (by omega)
    have bw : inb (nI w) 4 = true := nu_inbn (by omega) (by omega)
    have u : ∀ k, k < 100 → ((nI w = nI k) ↔ w = k) := fun k hk => nI_c k hk w (by omega)
    refine ⟨s, .inr (q4 y w), ?_, (CZ.rf s).cs, fun s' h' => ⟨sI s' 9 1 3 0, q4 y w, ?_, MS.s9 s' (Or.inl rfl) 0, f3 _ _, rfl⟩⟩
    · unfold f_X8_why
      simp only [hnw, bX, e10, e11, reduceIte, lr_8_1_11 hL, ll_10_11 hL, bw, Bool.true_eq_false, nu_ixn (show w < 2147483648 by omega), hy w (by omega)]
    · obtain ⟨h1, h2, h3, h4⟩ := h'
      unfold f_X9_why
      rw [if_neg e10, show (0 : Int32) = nI 0 from rfl, show (1 : Int32) = nI 1 from rfl, show (2 : Int32) = nI 2 from rfl, show (3 : Int32) = nI 3 from rfl]
      have hrd : ∀ j x, ¬ j = 3 → gI (sI s' 9 1 3 x) 9 1 j = gI s' 9 1 j := fun j x hj => by rw [gI_sI, if_neg (fun q => hj q.2.2)]
      simp only [lt, u 0 (by omega), u 1 (by omega), u 2 (by omega), u 3 (by omega), hrd 40 _ (by decide), hrd 41 _ (by decide), hrd 42 _ (by decide), hrd 43 _ (by decide), h1, h2, h3, h4]
      have : w = 0 ∨ w = 1 ∨ w = 2 ∨ w = 3 := by omega
      rcases this with rfl | rfl | rfl | rfl <;> rfl
  · refine ⟨nX s, .inl 1, ?_, (CZ.rf s).x, fun s' h' => ⟨sI (sI s' 9 1 3 0) 9 1 3 1, 0, ?_, ms_f (MS.s9 s' (Or.inl rfl) 0) 1, f3 _ _, rfl⟩⟩
    · unfold f_X8_why
      simp only [bX, X8_nx hr (show ¬ (0 ≤ a.toInt ∧ a.toInt ≤ (3 : Int32).toInt) from hd)]
    · have u : ∀ k : Nat, k ≤ 3 → ¬ a = nI k := fun k hk q => hd (by rw [q, nu_nI (by omega)]; omega)
      unfold f_X9_why
      rw [if_neg e10]
      simp only [lt]
      rw [if_neg (show ¬ a = (0 : Int32) from u 0 (by omega)), if_neg (show ¬ a = (1 : Int32) from u 1 (by omega)), if_neg (show ¬ a = (2 : Int32) from u 2 (by omega)), if_neg (show ¬ a = (3 : Int32) from u 3 (by omega)), X9_fail]
      rfl
theorem Q_fault (hf : gI s 8 1 15 = gI s 9 1 33) : f_X8_fault fu s 1 = some (s, gI s 9 1 33) ∧ f_X9_fault fu s 1 = some (sI s 9 1 3 0, gI s 9 1 33) := by
  have e10 : ¬ (1 = 0) := by decide
  refine ⟨?_, ?_⟩
  · unfold f_X8_fault
    rw [if_neg e10, hf]
  · unfold f_X9_fault
    rw [if_neg e10]
    simp only [lt]
    rw [gI_sI, if_neg (fun q => absurd q.2.2 (by decide))]
theorem Q_tier (h : CQ s p n S K R H P) (hr : rmb (nX s) = true) (a d : Int32) : ∃ s1 w, f_X8_tier fu s 1 a d = some (s1, w) ∧ CS s s1 ∧
    ∀ s', RQ s' n S K R H P → ∃ s2 v, f_X9_tier fu s' 1 a d = some (s2, v) ∧ MS s' s2 ∧ cmpI1 w v (gI s2 9 1 3) := by
  have e10 : ¬ (1 = 0) := by decide
  have z10 : ¬ ((1 : Int32) = 0) := by decide
  have hV := h.2.1.2.2.2
  have hn := hV.1
  have ej0 : (0 : Int64).toInt = 0 := rfl
  have ej1 : (1 : Int64).toInt = 1 := rfl
  have p0 := h.p0
  obtain ⟨c0, ⟨c1, c2⟩, ⟨c3, c4⟩, c5, c6⟩ := h.2.1.2.2.1
  have h12 := h.2.1.2.1
  rcases tier_cases n a with ⟨t, ht, rfl⟩ | ha
  · have bt' : inb (nI t) 4 = true := nu_inbn (by omega) (by omega)
    rcases what_c d 1 (by omega) with ⟨w, hw3, rfl⟩ | hd
    · have hnw : f_X8_needWhat fu s (nI w) 1 = some (s, .inr ()) := CQ.nw w 1 (by show (w : Int) ≤ 1; omega) (by omega)
      have u0 : (nI w = 0) ↔ w = 0 := nI_c 0 (by omega) w (by omega)
      refine ⟨s, .inr (if w = 0 then gI s 10 (gR s 2 p 0) t else gI s 10 (gR s 2 p 1) t), ?_, (CZ.rf s).cs, fun s' h' => ⟨sI s' 9 1 3 0, if w = 0 then gI s 10 (gR s 2 p 0) t else gI s 10 (gR s 2 p 1) t, ?_, MS.s9 s' (Or.inl rfl) 0, f3 _ _, rfl⟩⟩
      · unfold f_X8_tier f_X8_tier_b35
        simp only [e10, reduceIte, h.nt ht, bX, hnw, u0, h12, p0, c1, c2, c3, c4, bt', Bool.true_eq_false, nu_ixn (show t < 2147483648 by omega)]
        split <;> rfl
      · obtain ⟨hL, ⟨hPl, -⟩, -⟩ := h'.s0
        obtain ⟨⟨d1, d2⟩, ⟨d3, d4⟩, d5, d6⟩ := hPl
        obtain ⟨k1, k2⟩ := d6 t ht
        obtain ⟨k3, k4⟩ := c6 t ht
        unfold f_X9_tier f_X9_tier_b50
        simp only [e10, reduceIte, lt, X9_it ⟨⟨d1, d2⟩, ⟨d3, d4⟩, d5, d6⟩ hV, bI, nu_nI (show t < 2147483648 by omega), bt_t (show (0 : Int) ≤ t ∧ (t : Int) < n by omega), z10, X9_isIn, nj_up, nu_nI (show w < 2147483648 by omega), ej0, ej1, bt_t (show (0 : Int) ≤ w ∧ (w : Int) ≤ 1 by omega), u0, d1, d2, d3, d4, bt', Bool.true_eq_false, nu_ixn (show t < 2147483648 by omega)]
        split
        · rw [nu_ext (k1.trans k3.symm)]
        · rw [nu_ext (k2.trans k4.symm)]
    · refine ⟨nX s, .inl 1, ?_, (CZ.rf s).x, fun s' h' => ⟨sI (sI s' 9 1 3 0) 9 1 3 1, 0, ?_, ms_f (MS.s9 s' (Or.inl rfl) 0) 1, f3 _ _, rfl⟩⟩
      · unfold f_X8_tier
        simp only [e10, reduceIte, h.nt ht, bX, X8_nx hr (show ¬ (0 ≤ d.toInt ∧ d.toInt ≤ (1 : Int32).toInt) from hd)]
      · obtain ⟨hL, ⟨hPl, -⟩, -⟩ := h'.s0
        unfold f_X9_tier f_X9_tier_b45 f_X9_tier_b50
        simp only [e10, reduceIte, lt, X9_it hPl hV, bI, nu_nI (show t < 2147483648 by omega), bt_t (show (0 : Int) ≤ t ∧ (t : Int) < n by omega), z10, X9_isIn, nj_up, ej0, ej1, bt_f (show ¬ (0 ≤ d.toInt ∧ d.toInt ≤ 1) from hd), X9_fail]
  · refine ⟨nX s, .inl 1, ?_, (CZ.rf s).x, fun s' h' => ⟨sI (sI s' 9 1 3 0) 9 1 3 1, 0, ?_, ms_f (MS.s9 s' (Or.inl rfl) 0) 1, f3 _ _, rfl⟩⟩
    · unfold f_X8_tier
      simp only [e10, reduceIte, h.ntx hr ha, bX]
    · obtain ⟨hL, ⟨hPl, -⟩, -⟩ := h'.s0
      unfold f_X9_tier f_X9_tier_b45 f_X9_tier_b50
      simp only [e10, reduceIte, lt, X9_it hPl hV, bI, bt_f ha, X9_fail]
theorem Q_count (h : CQ s p n S K R H P) {L : List AO} (hA : AlC s (gR s 2 p 2) L) {mo : Int32} {c : Q4} (hc : CsC s p mo c) (hr : rmb (nX s) = true) (hfu : 50000 ≤ fu) (a : Int32) : ∃ s1 w, f_X8_count fu s 1 a = some (s1, w) ∧ CS s s1 ∧
    ∀ s', RQ s' n S K R H P → AlM s' L → CsM s' mo c → ∃ s2 v, f_X9_count fu s' 1 a = some (s2, v) ∧ MS s' s2 ∧ cmpI1 w v (gI s2 9 1 3) := by
  have e10 : ¬ (1 = 0) := by decide
  have z10 : ¬ ((1 : Int32) = 0) := by decide
  have p0 := h.p0
  have h12 := h.2.1.2.1
  obtain ⟨c1, c2, c3, c4, c5⟩ := hc
  have n7 := h.2.1.2.2.1.2.2.2.1
  have rs := h.2.2.1.1.2.2.1
  rcases what_c a 7 (by omega) with ⟨w, hw3, rfl⟩ | hd
  · have u : ∀ k, k < 100 → ((nI w = nI k) ↔ w = k) := fun k hk => nI_c k hk w (by omega)
    refine ⟨s, .inr (if w = 0 then nI n else if w = 1 then mo else if w = 2 then bt (¬ L = []) else if w = 3 then nI R.length else if w = 4 then c.1 else if w = 5 then c.2.1 else if w = 6 then c.2.2.1 else c.2.2.2), ?_, (CZ.rf s).cs, fun s' h' hM hC => ⟨sI s' 9 1 3 0, if w = 0 then nI n else if w = 1 then mo else if w = 2 then bt (¬ L = []) else if w = 3 then nI R.length else if w = 4 then c.1 else if w = 5 then c.2.1 else if w = 6 then c.2.2.1 else c.2.2.2, ?_, MS.s9 s' (Or.inl rfl) 0, f3 _ _, rfl⟩⟩
    · unfold f_X8_count f_X8_count_b82
      simp only [show (nI w = (0 : Int32)) ↔ w = 0 from u 0 (by omega), show (nI w = (1 : Int32)) ↔ w = 1 from u 1 (by omega), show (nI w = (2 : Int32)) ↔ w = 2 from u 2 (by omega), show (nI w = (3 : Int32)) ↔ w = 3 from u 3 (by omega), show (nI w = (4 : Int32)) ↔ w = 4 from u 4 (by omega), show (nI w = (5 : Int32)) ↔ w = 5 from u 5 (by omega), show (nI w = (6 : Int32)) ↔ w = 6 from u 6 (by omega), show (nI w = (7 : Int32)) ↔ w = 7 from u 7 (by omega), e10, reduceIte, h12, p0, n7, c1, c2, c3, c4, c5, hA.1.1, X0_told hA, bI, lr_8_1_4 h.1.1, rs]
      by_cases hz : L = []
      · rw [bt_f (fun q => q hz)]
        have : w = 0 ∨ w = 1 ∨ w = 2 ∨ w = 3 ∨ w = 4 ∨ w = 5 ∨ w = 6 ∨ w = 7 := by omega
        rcases this with rfl | rfl | rfl | rfl | rfl | rfl | rfl | rfl <;> rfl
      · rw [bt_t hz]
        have : w = 0 ∨ w = 1 ∨ w = 2 ∨ w = 3 ∨ w = 4 ∨ w = 5 ∨ w = 6 ∨ w = 7 := by omega
        rcases this with rfl | rfl | rfl | rfl | rfl | rfl | rfl | rfl <;> rfl
    · have h0 := h'.s0
      obtain ⟨d1, d2, d3, d4, d5⟩ := hC
      have m7 := h'.2.1.1.2.2.1
      have hrd : ∀ j, ¬ j = 3 → gI (sI s' 9 1 3 0) 9 1 j = gI s' 9 1 j := fun j hj => by rw [gI_sI, if_neg (fun q => hj q.2.2)]
      have hse := X9_series (fu := fu) h0.1 h0.2.2.1.1 h.2.2.1.2 (by omega)
      have ht : (nI (L.flatMap aoE).length ≤ (0 : Int32)) ↔ L = [] := by
        rw [show (0 : Int32) = nI 0 from rfl, ni_le (by have := hM.2.1; omega) (by omega)]
        cases L with
        | nil => simp
        | cons o L => have := aoE_1 o; rw [List.flatMap_cons, List.length_append]; exact ⟨fun q => by omega, fun q => absurd q (by simp)⟩
      have e20 : ∀ k : Nat, (nI w = (nI k : Int32)) ↔ w = k ∨ 100 ≤ k ∧ nI w = nI k := fun k => by
        by_cases hk : k < 100
        · rw [u k hk]; omega
        · constructor
          · intro q; exact Or.inr ⟨by omega, q⟩
          · rintro (q | q)
            · omega
            · exact q.2
      unfold f_X9_count f_X9_count_b74
      rw [if_neg e10]
      simp only [lt, hrd 7 (by decide), hrd 8 (by decide), hrd 9 (by decide), hrd 24 (by decide), hrd 16 (by decide), hrd 17 (by decide), hrd 18 (by decide), m7, hM.1, d1, d2, d3, d4, d5, hse, bI, ht]
      have : w = 0 ∨ w = 1 ∨ w = 2 ∨ w = 3 ∨ w = 4 ∨ w = 5 ∨ w = 6 ∨ w = 7 := by omega
      by_cases hz : L = []
      · rw [bt_f (fun q => q hz), if_pos hz]
        rcases this with rfl | rfl | rfl | rfl | rfl | rfl | rfl | rfl <;> rfl
      · rw [bt_t hz, if_neg hz]
        rcases this with rfl | rfl | rfl | rfl | rfl | rfl | rfl | rfl <;> rfl
  · have u : ∀ k : Nat, k ≤ 7 → ¬ a = nI k := fun k hk q => hd (by rw [q, nu_nI (by omega)]; omega)
    refine ⟨nX s, .inl 1, ?_, (CZ.rf s).x, fun s' h' _ _ => ⟨sI (sI s' 9 1 3 0) 9 1 3 1, 0, ?_, ms_f (MS.s9 s' (Or.inl rfl) 0) 1, f3 _ _, rfl⟩⟩
    · unfold f_X8_count
      rw [if_neg (show ¬ a = (0 : Int32) from u 0 (by omega)), if_neg (show ¬ a = (1 : Int32) from u 1 (by omega)), if_neg (show ¬ a = (2 : Int32) from u 2 (by omega)), if_neg (show ¬ a = (3 : Int32) from u 3 (by omega)), if_neg (show ¬ a = (4 : Int32) from u 4 (by omega)), if_neg (show ¬ a = (5 : Int32) from u 5 (by omega)), if_neg (show ¬ a = (6 : Int32) from u 6 (by omega)), if_neg (show ¬ a = (7 : Int32) from u 7 (by omega)), if_neg (by rw [hr]; decide)]
    · unfold f_X9_count
      rw [if_neg e10]
      simp only [lt]
      rw [if_neg (show ¬ a = (0 : Int32) from u 0 (by omega)), if_neg (show ¬ a = (1 : Int32) from u 1 (by omega)), if_neg (show ¬ a = (2 : Int32) from u 2 (by omega)), if_neg (show ¬ a = (3 : Int32) from u 3 (by omega)), if_neg (show ¬ a = (4 : Int32) from u 4 (by omega)), if_neg (show ¬ a = (5 : Int32) from u 5 (by omega)), if_neg (show ¬ a = (6 : Int32) from u 6 (by omega)), if_neg (show ¬ a = (7 : Int32) from u 7 (by omega)), X9_fail]
      rfl
end SML
