/-! ===== what some buckets tell together; of ===== -/
theorem sn_ind {α : Type} {motive : List α → Prop} (nil : motive []) (snoc : ∀ (A : List α) (g : α), motive A → motive (A ++ [g])) (L : List α) : motive L := by
  have h : ∀ M : List α, motive M.reverse := by
    intro M
    induction M with
    | nil => exact nil
    | cons a M ih => rw [List.reverse_cons]; exact snoc _ _ ih
  have h2 := h L.reverse
  rw [List.reverse_reverse] at h2
  exact h2
abbrev T5 : Type := Int32 × Int32 × Int64 × Int32 × Int32
def tS (s : St) (τ : Nat) (q : T5) : St := sI (sI (sJ (sI (sI s 6 τ 0 q.1) 6 τ 1 q.2.1) 6 τ 2 q.2.2.1) 6 τ 3 q.2.2.2.1) 6 τ 4 q.2.2.2.2
def tst (q : T5) (g : List Pt) : T5 := (q.1 + 1, q.2.1 + nI g.length, q.2.2.1 + s64 g, if q.1 = 0 then gmn g else mn q.2.2.2.1 (gmn g), mx q.2.2.2.2 (gmx g))
def t0 : T5 := (0, 0, 0, -20000, -20000)
def tly (L : List (List Pt)) : T5 := L.foldl tst t0
theorem tly_s (A : List (List Pt)) (g : List Pt) : tly (A ++ [g]) = tst (tly A) g := by unfold tly; rw [List.foldl_append]; rfl
theorem tly_nil : tly [] = t0 := rfl
theorem tS_cz (s : St) (τ : Nat) (q : T5) : CZ s (tS s τ q) := ((((CZ.s6 s τ 0 _).tr (CZ.s6 _ τ 1 _)).tr (CZ.j6 _ τ 2 _)).tr (CZ.s6 _ τ 3 _)).tr (CZ.s6 _ τ 4 _)
theorem tS_step (s : St) (τ : Nat) (q q' : T5) : sI (sI (sJ (sI (sI (tS s τ q) 6 τ 3 q'.2.2.2.1) 6 τ 4 q'.2.2.2.2) 6 τ 2 q'.2.2.1) 6 τ 1 q'.2.1) 6 τ 0 q'.1 = tS s τ q' := by
  refine st_ext (fun k i j => ?_) (fun k i j => ?_) (fun _ _ _ => rfl) (fun _ _ => rfl) (fun _ => rfl) rfl rfl
  · simp only [tS, gI_sI, gJ_sI, gR_sI, gL_sI, gN_sI, cn_sI, sn_sI, gI_sJ, gJ_sJ, gR_sJ, gL_sJ, gN_sJ, cn_sJ, sn_sJ, gI_sR, gJ_sR, gR_sR, gL_sR, gN_sR, cn_sR, sn_sR, gI_nX, gJ_nX, gR_nX, gL_nX, gN_nX, cn_nX, sn_nX, gI_wI, gJ_wI, gR_wI, gL_wI, gN_wI, cn_wI, sn_wI, gI_wJ, gJ_wJ, gR_wJ, gL_wJ, gN_wJ, cn_wJ, sn_wJ, gI_nW, gJ_nW, gR_nW, gL_nW, gN_nW, cn_nW, sn_nW]
    repeat' split
    all_goals first | rfl | (exfalso; omega)
  · simp only [tS, gI_sI, gJ_sI, gR_sI, gL_sI, gN_sI, cn_sI, sn_sI, gI_sJ, gJ_sJ, gR_sJ, gL_sJ, gN_sJ, cn_sJ, sn_sJ, gI_sR, gJ_sR, gR_sR, gL_sR, gN_sR, cn_sR, sn_sR, gI_nX, gJ_nX, gR_nX, gL_nX, gN_nX, cn_nX, sn_nX, gI_wI, gJ_wI, gR_wI, gL_wI, gN_wI, cn_wI, sn_wI, gI_wJ, gJ_wJ, gR_wJ, gL_wJ, gN_wJ, cn_wJ, sn_wJ, gI_nW, gJ_nW, gR_nW, gL_nW, gN_nW, cn_nW, sn_nW]
    repeat' split
    all_goals first | rfl | (exfalso; omega)
theorem tS_cm (s : St) {τ τ' : Nat} (h : ¬ τ = τ') (q q' : T5) : tS (tS s τ q) τ' q' = tS (tS s τ' q') τ q := by
  refine st_ext (fun k i j => ?_) (fun k i j => ?_) (fun _ _ _ => rfl) (fun _ _ => rfl) (fun _ => rfl) rfl rfl
  · simp only [tS, gI_sI, gJ_sI, gR_sI, gL_sI, gN_sI, cn_sI, sn_sI, gI_sJ, gJ_sJ, gR_sJ, gL_sJ, gN_sJ, cn_sJ, sn_sJ, gI_sR, gJ_sR, gR_sR, gL_sR, gN_sR, cn_sR, sn_sR, gI_nX, gJ_nX, gR_nX, gL_nX, gN_nX, cn_nX, sn_nX, gI_wI, gJ_wI, gR_wI, gL_wI, gN_wI, cn_wI, sn_wI, gI_wJ, gJ_wJ, gR_wJ, gL_wJ, gN_wJ, cn_wJ, sn_wJ, gI_nW, gJ_nW, gR_nW, gL_nW, gN_nW, cn_nW, sn_nW]
    repeat' split
    all_goals first | rfl | (exfalso; omega)
  · simp only [tS, gI_sI, gJ_sI, gR_sI, gL_sI, gN_sI, cn_sI, sn_sI, gI_sJ, gJ_sJ, gR_sJ, gL_sJ, gN_sJ, cn_sJ, sn_sJ, gI_sR, gJ_sR, gR_sR, gL_sR, gN_sR, cn_sR, sn_sR, gI_nX, gJ_nX, gR_nX, gL_nX, gN_nX, cn_nX, sn_nX, gI_wI, gJ_wI, gR_wI, gL_wI, gN_wI, cn_wI, sn_wI, gI_wJ, gJ_wJ, gR_wJ, gL_wJ, gN_wJ, cn_wJ, sn_wJ, gI_nW, gJ_nW, gR_nW, gL_nW, gN_nW, cn_nW, sn_nW]
    repeat' split
    all_goals first | rfl | (exfalso; omega)
theorem tS_0 (s : St) (τ : Nat) (q : T5) : gI (tS s τ q) 6 τ 0 = q.1 := by simp only [tS, gI_sI, gJ_sI, gR_sI, gL_sI, gN_sI, cn_sI, sn_sI, gI_sJ, gJ_sJ, gR_sJ, gL_sJ, gN_sJ, cn_sJ, sn_sJ, gI_sR, gJ_sR, gR_sR, gL_sR, gN_sR, cn_sR, sn_sR, gI_nX, gJ_nX, gR_nX, gL_nX, gN_nX, cn_nX, sn_nX, gI_wI, gJ_wI, gR_wI, gL_wI, gN_wI, cn_wI, sn_wI, gI_wJ, gJ_wJ, gR_wJ, gL_wJ, gN_wJ, cn_wJ, sn_wJ, gI_nW, gJ_nW, gR_nW, gL_nW, gN_nW, cn_nW, sn_nW, Nat.reduceEqDiff, and_false, and_self, reduceIte]
theorem tS_1 (s : St) (τ : Nat) (q : T5) : gI (tS s τ q) 6 τ 1 = q.2.1 := by simp only [tS, gI_sI, gJ_sI, gR_sI, gL_sI, gN_sI, cn_sI, sn_sI, gI_sJ, gJ_sJ, gR_sJ, gL_sJ, gN_sJ, cn_sJ, sn_sJ, gI_sR, gJ_sR, gR_sR, gL_sR, gN_sR, cn_sR, sn_sR, gI_nX, gJ_nX, gR_nX, gL_nX, gN_nX, cn_nX, sn_nX, gI_wI, gJ_wI, gR_wI, gL_wI, gN_wI, cn_wI, sn_wI, gI_wJ, gJ_wJ, gR_wJ, gL_wJ, gN_wJ, cn_wJ, sn_wJ, gI_nW, gJ_nW, gR_nW, gL_nW, gN_nW, cn_nW, sn_nW, Nat.reduceEqDiff, and_false, and_self, reduceIte]
theorem tS_2 (s : St) (τ : Nat) (q : T5) : gJ (tS s τ q) 6 τ 2 = q.2.2.1 := by simp only [tS, gI_sI, gJ_sI, gR_sI, gL_sI, gN_sI, cn_sI, sn_sI, gI_sJ, gJ_sJ, gR_sJ, gL_sJ, gN_sJ, cn_sJ, sn_sJ, gI_sR, gJ_sR, gR_sR, gL_sR, gN_sR, cn_sR, sn_sR, gI_nX, gJ_nX, gR_nX, gL_nX, gN_nX, cn_nX, sn_nX, gI_wI, gJ_wI, gR_wI, gL_wI, gN_wI, cn_wI, sn_wI, gI_wJ, gJ_wJ, gR_wJ, gL_wJ, gN_wJ, cn_wJ, sn_wJ, gI_nW, gJ_nW, gR_nW, gL_nW, gN_nW, cn_nW, sn_nW, and_self, reduceIte]
theorem tS_3 (s : St) (τ : Nat) (q : T5) : gI (tS s τ q) 6 τ 3 = q.2.2.2.1 := by simp only [tS, gI_sI, gJ_sI, gR_sI, gL_sI, gN_sI, cn_sI, sn_sI, gI_sJ, gJ_sJ, gR_sJ, gL_sJ, gN_sJ, cn_sJ, sn_sJ, gI_sR, gJ_sR, gR_sR, gL_sR, gN_sR, cn_sR, sn_sR, gI_nX, gJ_nX, gR_nX, gL_nX, gN_nX, cn_nX, sn_nX, gI_wI, gJ_wI, gR_wI, gL_wI, gN_wI, cn_wI, sn_wI, gI_wJ, gJ_wJ, gR_wJ, gL_wJ, gN_wJ, cn_wJ, sn_wJ, gI_nW, gJ_nW, gR_nW, gL_nW, gN_nW, cn_nW, sn_nW, Nat.reduceEqDiff, and_false, and_self, reduceIte]
theorem tS_4 (s : St) (τ : Nat) (q : T5) : gI (tS s τ q) 6 τ 4 = q.2.2.2.2 := by simp only [tS, gI_sI, gJ_sI, gR_sI, gL_sI, gN_sI, cn_sI, sn_sI, gI_sJ, gJ_sJ, gR_sJ, gL_sJ, gN_sJ, cn_sJ, sn_sJ, gI_sR, gJ_sR, gR_sR, gL_sR, gN_sR, cn_sR, sn_sR, gI_nX, gJ_nX, gR_nX, gL_nX, gN_nX, cn_nX, sn_nX, gI_wI, gJ_wI, gR_wI, gL_wI, gN_wI, cn_wI, sn_wI, gI_wJ, gJ_wJ, gR_wJ, gL_wJ, gN_wJ, cn_wJ, sn_wJ, gI_nW, gJ_nW, gR_nW, gL_nW, gN_nW, cn_nW, sn_nW, Nat.reduceEqDiff, and_false, and_self, reduceIte]
theorem tS_g (s : St) (τ : Nat) (q : T5) : gR (tS s τ q) = gR s ∧ gL (tS s τ q) = gL s := ⟨rfl, rfl⟩
theorem tS_I (s : St) (τ : Nat) (q : T5) {k : Nat} (hk : ¬ k = 6) (i j : Nat) : gI (tS s τ q) k i j = gI s k i j := by simp only [tS, gI_sI, gJ_sI, gR_sI, gL_sI, gN_sI, cn_sI, sn_sI, gI_sJ, gJ_sJ, gR_sJ, gL_sJ, gN_sJ, cn_sJ, sn_sJ, gI_sR, gJ_sR, gR_sR, gL_sR, gN_sR, cn_sR, sn_sR, gI_nX, gJ_nX, gR_nX, gL_nX, gN_nX, cn_nX, sn_nX, gI_wI, gJ_wI, gR_wI, gL_wI, gN_wI, cn_wI, sn_wI, gI_wJ, gJ_wJ, gR_wJ, gL_wJ, gN_wJ, cn_wJ, sn_wJ, gI_nW, gJ_nW, gR_nW, gL_nW, gN_nW, cn_nW, sn_nW, hk, false_and, reduceIte]
theorem X6_clear (s : St) {τ : Nat} (h : ¬ τ = 0) (fu : Nat) : f_X6_clear fu s τ = some (tS s τ t0) := by
  unfold f_X6_clear
  rw [if_neg h]
  rfl
theorem X6_add {s : St} {τ : Nat} (hτ : ¬ τ = 0) {o p n : Nat} {S K : Nat → Int} {h : Int} {GG : List (List Pt)} (W : WfG n S K h GG) (q : T5) (C : SerC (tS s τ q) o p n S K h GG) {j : Nat} {g : List Pt} (hj : GG[j]? = some g) (fu : Nat) : f_X6_add fu (tS s τ q) τ o (nI j) = some (tS s τ (tst q g)) := by
  have hl := wf_len W
  have hjl := get_lt hj
  obtain ⟨c1, c2, c3, c4, c5⟩ := C.2.2.2.2.2 j g hj
  obtain ⟨r1, r2, r3, r4, r5⟩ := C.2.2.2.1
  obtain ⟨l1, l2, l3, l4, l5⟩ := C.2.2.2.2.1
  have b2 : inb (nI j) (gL (tS s τ q) 10 (gR (tS s τ q) 5 o 4)) = true := nu_inbn (by omega) (by omega)
  have b3 : inb (nI j) (gL (tS s τ q) 11 (gR (tS s τ q) 5 o 5)) = true := nu_inbn (by omega) (by omega)
  have b4 : inb (nI j) (gL (tS s τ q) 10 (gR (tS s τ q) 5 o 6)) = true := nu_inbn (by omega) (by omega)
  have b5 : inb (nI j) (gL (tS s τ q) 10 (gR (tS s τ q) 5 o 7)) = true := nu_inbn (by omega) (by omega)
  have key : ∀ v : Int32, v = (if q.1 = 0 then gmn g else mn q.2.2.2.1 (gmn g)) → f_X6_add_b30 fu (tS s τ q) τ o (nI j) v τ = some (tS s τ (tst q g)) := by
    intro v hv
    have hst := tS_step s τ q (tst q g)
    unfold f_X6_add_b30
    simp only [hτ, C.1.1, r2, r3, r4, r5, b2, b3, b4, b5, Bool.true_eq_false, reduceIte, lt, gI_sI, gJ_sI, gR_sI, gL_sI, gN_sI, cn_sI, sn_sI, gI_sJ, gJ_sJ, gR_sJ, gL_sJ, gN_sJ, cn_sJ, sn_sJ, gI_sR, gJ_sR, gR_sR, gL_sR, gN_sR, cn_sR, sn_sR, gI_nX, gJ_nX, gR_nX, gL_nX, gN_nX, cn_nX, sn_nX, gI_wI, gJ_wI, gR_wI, gL_wI, gN_wI, cn_wI, sn_wI, gI_wJ, gJ_wJ, gR_wJ, gL_wJ, gN_wJ, cn_wJ, sn_wJ, gI_nW, gJ_nW, gR_nW, gL_nW, gN_nW, cn_nW, sn_nW, Nat.reduceEqDiff, false_and, and_false, and_self, nu_ixn (show j < 2147483648 by omega), J_max, bI, c2, c3, c5, tS_0, tS_1, tS_2, tS_4]
    rw [hv]
    exact congrArg some hst
  unfold f_X6_add
  simp only [hτ, reduceIte, tS_0, C.1.1, r4, b4, Bool.true_eq_false, nu_ixn (show j < 2147483648 by omega), c4, tS_3, J_min, bI]
  by_cases h0 : q.1 = 0
  · rw [if_pos h0]
    exact key _ (by rw [if_pos h0])
  · rw [if_neg h0]
    exact key _ (by rw [if_neg h0])
section TALLY
variable {s : St} {p n : Nat} {S K : Nat → Int} {R : List Nat} {H : Nat → Int32} {P : Nat → List Pt} {fu : Nat}
theorem X8_tAll (hL : Lay s) (hS : Sep s) (hp : p = 1 ∨ p = 2) {i : Nat} (hid : i < 10) (ho : ¬ gR s 14 1 i = 0) {h : Int} {GG : List (List Pt)} (W : WfG n S K h GG) (C : SerC s (gR s 14 1 i) p n S K h GG) (hfu : 50000 ≤ fu) : f_X8_tallyAll fu s 1 (gR s 14 1 i) = some (tS s 1 (tly GG)) := by
  have e10 : ¬ (1 = 0) := by decide
  have hl := wf_len W
  have Ca := fun q => C.cs hL hS hp hid ho (tS_cz s 1 q).cs
  have loop : ∀ (B A : List (List Pt)) (m : Nat), GG = A ++ B → B.length < m → f_X8_tallyAll_b9 fu m (tS s 1 (tly A)) 1 (gR s 14 1 i) (nI A.length) = some (tS s 1 (tly GG)) := by
    intro B
    induction B with
    | nil =>
      intro A m e hm
      rw [List.append_nil] at e
      subst e
      cases m with
      | zero => omega
      | succ m =>
        unfold f_X8_tallyAll_b9
        simp only [ho, reduceIte, (Ca (tly GG)).2.2.1, ni_le (show GG.length < 2147483648 by omega) (show GG.length < 2147483648 by omega), Nat.le_refl]
    | cons g B ih =>
      intro A m e hm
      have hgx : GG[A.length]? = some g := by rw [e, List.getElem?_append_right (Nat.le_refl _)]; simp
      have hgl := get_lt hgx
      cases m with
      | zero => omega
      | succ m =>
        rw [List.length_cons] at hm
        have hih := ih (A ++ [g]) m (by rw [e, List.append_assoc]; rfl) (by omega)
        rw [tly_s, List.length_append, List.length_singleton] at hih
        unfold f_X8_tallyAll_b9
        simp only [ho, reduceIte, (Ca (tly A)).2.2.1, ni_le (show GG.length < 2147483648 by omega) (show A.length < 2147483648 by omega), show ¬ GG.length ≤ A.length by omega, e10, (tS_g s _ _).1, lr_8_1_7 hL, X6_add e10 W _ (Ca (tly A)) hgx, bV, lt, nu_nIa]
        exact hih
  unfold f_X8_tallyAll
  simp only [e10, reduceIte, lr_8_1_7 hL, X6_clear s e10, bV]
  exact loop GG [] fu rfl (by omega)
/-! what the tally of all is -/
theorem tly_b (L : List (List Pt)) : (tly L).1 = nI L.length ∧ (tly L).2.1 = nI L.flatten.length ∧ (tly L).2.2.1 = s64 L.flatten := by
  induction L using sn_ind with
  | nil => exact ⟨rfl, rfl, rfl⟩
  | snoc A g ih =>
    obtain ⟨h1, h2, h3⟩ := ih
    rw [tly_s]
    unfold tst
    refine ⟨?_, ?_, ?_⟩
    · show (tly A).1 + 1 = _
      rw [h1, nu_nIa, List.length_append, List.length_singleton]
    · show (tly A).2.1 + nI g.length = _
      rw [h2, fl_app, fl_one]
      unfold nI
      rw [Int32.ofNat_add]
    · show (tly A).2.2.1 + s64 g = _
      rw [h3, List.flatten_append, s64_app, List.flatten_cons, List.flatten_nil, List.append_nil]
def lv (L : List Pt) : Int32 := if L = [] then -20000 else gmn L
def gv (L : List Pt) : Int32 := if L = [] then -20000 else gmx L
theorem fl_ne {A : List (List Pt)} (h : ∀ g ∈ A, g ≠ []) : A.flatten = [] ↔ A = [] := by
  cases A with
  | nil => exact ⟨fun _ => rfl, fun _ => rfl⟩
  | cons g A =>
    have := h g List.mem_cons_self
    constructor
    · intro q
      rw [List.flatten_cons, List.append_eq_nil_iff] at q
      exact absurd q.1 this
    · intro q; cases q
theorem tly_l {L : List (List Pt)} (hne : ∀ g ∈ L, g ≠ []) (hv : ∀ g ∈ L, ∀ p ∈ g, -10000 ≤ p.2.toInt ∧ p.2.toInt ≤ 10000) (hl : L.length ≤ 100000) : (tly L).2.2.2.1 = lv L.flatten ∧ (tly L).2.2.2.2 = gv L.flatten := by
  induction L using sn_ind with
  | nil => exact ⟨rfl, rfl⟩
  | snoc A g ih =>
    rw [List.length_append, List.length_singleton] at hl
    have hneA : ∀ b ∈ A, b ≠ [] := fun b hb => hne b (List.mem_append_left _ hb)
    have hg : g ≠ [] := hne g (List.mem_append_right _ List.mem_cons_self)
    obtain ⟨h1, h2⟩ := ih hneA (fun b hb => hv b (List.mem_append_left _ hb)) (by omega)
    have hvg := hv g (List.mem_append_right _ List.mem_cons_self)
    have hb := (tly_b A).1
    rw [tly_s]
    unfold tst
    have ef : (A ++ [g]).flatten = A.flatten ++ g := by rw [List.flatten_append, List.flatten_cons, List.flatten_nil, List.append_nil]
    have hnf : ¬ A.flatten ++ g = [] := fun q => hg (List.append_eq_nil_iff.mp q).2
    rw [ef]
    have m20 : (-20000 : Int32).toInt = -20000 := by decide
    by_cases hA : A = []
    · subst hA
      refine ⟨?_, ?_⟩
      · show (if (tly []).1 = 0 then gmn g else mn (tly []).2.2.2.1 (gmn g)) = lv ([] ++ g)
        rw [if_pos (show (tly []).1 = 0 from rfl), List.nil_append]
        unfold lv
        rw [if_neg hg]
      · show mx (-20000) (gmx g) = gv ([] ++ g)
        rw [List.nil_append]
        unfold gv
        rw [if_neg hg]
        refine nu_ext ?_
        have := gmx_bd hg hvg
        rw [mx_i, m20]
        omega
    · have hAf : ¬ A.flatten = [] := fun q => hA ((fl_ne hneA).mp q)
      have hz : ¬ (tly A).1 = 0 := by
        rw [hb]
        have : 0 < A.length := List.length_pos_iff.mpr hA
        exact fun q => by have := (ni_eq (b := 0) (by omega) (by omega)).mp q; omega
      refine ⟨?_, ?_⟩
      · show (if (tly A).1 = 0 then gmn g else mn (tly A).2.2.2.1 (gmn g)) = lv (A.flatten ++ g)
        rw [if_neg hz, h1]
        unfold lv
        rw [if_neg hAf, if_neg hnf, gmn_app hAf hg]
      · show mx (tly A).2.2.2.2 (gmx g) = gv (A.flatten ++ g)
        rw [h2]
        unfold gv
        rw [if_neg hAf, if_neg hnf, gmx_app hAf hg]
/-! the reference's own -/
theorem X9_abk (h : RQ s n S K R H P) {id : Nat} (hid : id < 10) {GG : List (List Pt)} (hP : P id = GG.flatten) (W : WfG n S K (H id).toInt GG) (hfu : 50000 ≤ fu) : ∃ s2, f_X9_allBuckets fu s 1 (nI id) = some (s2, nI GG.length) ∧ MZ s s2 := by
  have e10 : ¬ (1 = 0) := by decide
  have hpos := h.pos hid hP
  have hl := wf_len W
  have loop : ∀ (M A : List (List Pt)) (m c : Nat) (s1 : St), GG = A ++ M → MZ s s1 → M.length < m → c + M.length ≤ 100000 → ∃ s2, f_X9_allBuckets_b15 fu m s1 1 (nI c) (nI (off P id + GG.flatten.length)) (nI (off P id + A.flatten.length)) = some (s2, nI (c + M.length)) ∧ MZ s s2 := by
    intro M
    induction M with
    | nil =>
      intro A m c s1 e hm hl hc
      cases m with
      | zero => omega
      | succ m =>
        refine ⟨s1, ?_, hm⟩
        rw [List.append_nil] at e
        subst e
        unfold f_X9_allBuckets_b15
        rw [if_pos ((ni_le (by omega) (by omega)).mpr (Nat.le_refl _))]
        rfl
    | cons g M ih =>
      intro A m c s1 e hm hl hc
      cases m with
      | zero => omega
      | succ m =>
        have hg : g ∈ GG := by rw [e]; exact List.mem_append_right _ List.mem_cons_self
        have hgl := wf_gl W hg
        have hA : A.flatten.length + g.length ≤ GG.flatten.length := by rw [e, fl_app, fl_cons]; omega
        have e2 : GG = (A ++ [g]) ++ M := by rw [e, List.append_assoc]; rfl
        rw [List.length_cons] at hl hc
        obtain ⟨s2, h2, h3⟩ := ih (A ++ [g]) m (c + 1) (bG s1 n S K (H id).toInt g) e2 (hm.tr (bG_ms _ _ _ _ _ _)) (by omega) (by omega)
        refine ⟨s2, ?_, h3⟩
        unfold f_X9_allBuckets_b15
        rw [if_neg (fun q => by have := (ni_le (by omega) (by omega)).mp q; omega)]
        simp only [lt, e10, reduceIte, nu_nIa, X9_nb (h.mz hm) hid hP W e hfu, bI]
        rw [h2, List.length_cons]
        congr 3
        omega
  obtain ⟨hL, -, -, -, hPt, hPW, hTm⟩ := h
  obtain ⟨s2, h2, h3⟩ := loop GG [] fu 0 s rfl (MZ.rf s) (by omega) (by omega)
  refine ⟨s2, ?_, h3⟩
  unfold f_X9_allBuckets
  simp only [e10, reduceIte, X9_bo hPt hPW hTm hid hfu, X9_fo hPt hPW hTm hid hfu, bI, off_s, hP]
  rw [Nat.zero_add] at h2
  exact h2
theorem J_minJ (fu : Nat) (s : St) (a b : Int32) : f_J9_min_f86c9 fu s (Int32.toInt64 a) (Int32.toInt64 b) = some (s, Int32.toInt64 (mn a b)) := by
  unfold f_J9_min_f86c9 f_J9_min_f86c9_b11 mn
  have e : (0 < lg_cmp (Int32.toInt64 a) (Int32.toInt64 b)) ↔ b < a := by rw [lg_gt, nj_up, nj_up, nu_lt]
  simp only [e]
  split <;> rfl
theorem J_maxJ (fu : Nat) (s : St) (a b : Int32) : f_J9_max_f86c9 fu s (Int32.toInt64 a) (Int32.toInt64 b) = some (s, Int32.toInt64 (mx a b)) := by
  unfold f_J9_max_f86c9 f_J9_max_f86c9_b11 mx
  have e : (lg_cmp (Int32.toInt64 a) (Int32.toInt64 b) < 0) ↔ a < b := by rw [lg_lt, nj_up, nj_up, nu_lt]
  simp only [e]
  split <;> rfl
def abv (w : Nat) (L : List Pt) : Int64 := if w = 7 then s64 L else if w = 5 then Int32.toInt64 (lv L) else Int32.toInt64 (gv L)
theorem X9_ab (h : RQ s n S K R H P) {id : Nat} (hid : id < 10) (hv : ∀ p ∈ P id, -10000 ≤ p.2.toInt ∧ p.2.toInt ≤ 10000) {w : Nat} (hw : w = 5 ∨ w = 6 ∨ w = 7) (hfu : 50000 ≤ fu) : f_X9_allBy fu s 1 (nI id) (nI w) = some (s, abv w (P id)) := by
  have e10 : ¬ (1 = 0) := by decide
  have h1 := off_mono P (i := id + 1) (j := 10) (by omega)
  obtain ⟨hL, -, -, -, hPt, hPW, hTm⟩ := h
  have hsz := hPW.2
  rw [off_s] at h1
  have hPt' := hPt
  obtain ⟨⟨r1, r2, r3⟩, ⟨l1, l2, l3⟩, hpn, hc⟩ := hPt
  have q7 : (nI w = 7) ↔ w = 7 := nI_c 7 (by omega) w (by omega)
  have q5 : (nI w = 5) ↔ w = 5 := nI_c 5 (by omega) w (by omega)
  have m20 : (-20000 : Int32).toInt = -20000 := by decide
  have mj : (-20000 : Int64) = Int32.toInt64 (-20000) := by decide
  have loop : ∀ (B A : List Pt) (m : Nat), P id = A ++ B → B.length < m → f_X9_allBy_b28 fu m s 1 (nI w) (nI (off P id + (P id).length)) (abv w A) (nI (off P id + A.length)) = some (s, abv w (P id)) := by
    intro B
    induction B with
    | nil =>
      intro A m e hm
      rw [List.append_nil] at e
      subst e
      cases m with
      | zero => omega
      | succ m =>
        unfold f_X9_allBy_b28
        rw [if_pos ((ni_le (by omega) (by omega)).mpr (Nat.le_refl _))]
    | cons x B ih =>
      intro A m e hm
      have hlen : (P id).length = A.length + (B.length + 1) := by rw [e, List.length_append, List.length_cons]
      cases m with
      | zero => omega
      | succ m =>
        rw [List.length_cons] at hm
        have hx : (P id)[A.length]? = some x := by rw [e, List.getElem?_append_right (Nat.le_refl _)]; simp
        obtain ⟨-, -, e3⟩ := hc id hid A.length x hx
        have b3 : inb (nI (off P id + A.length)) (gL s 10 (gR s 9 1 21)) = true := nu_inbn (by omega) (by omega)
        have hih := ih (A ++ [x]) m (by rw [e, List.append_assoc]; rfl) (by omega)
        rw [List.length_append, List.length_singleton, ← Nat.add_assoc] at hih
        have hvA : ∀ p ∈ A, -10000 ≤ p.2.toInt ∧ p.2.toInt ≤ 10000 := fun p hp => hv p (by rw [e]; exact List.mem_append_left _ hp)
        unfold f_X9_allBy_b28
        rw [if_neg (fun q => by have := (ni_le (by omega) (by omega)).mp q; omega)]
        simp only [q7, q5, e10, r3, b3, reduceIte, Bool.true_eq_false, nu_ixn (show off P id + A.length < 2147483648 by omega), e3, lt, f_X9_allBy_b110, f_X9_allBy_b112, nu_nIa, lg_z]
        have hAne : ¬ A ++ [x] = [] := by simp
        rcases hw with rfl | rfl | rfl
        · simp only [Nat.reduceEqDiff, reduceIte, abv] at hih ⊢
          by_cases hA : A = []
          · subst hA
            have : Int32.toInt64 (lv []) = -20000 := mj.symm
            rw [if_pos this]
            have e4 : lv ([] ++ [x]) = x.2 := by unfold lv; rw [List.nil_append, if_neg (List.cons_ne_nil _ _), gmn_one]
            rw [e4] at hih
            exact hih
          · have hb := gmn_bd hA hvA
            have : ¬ Int32.toInt64 (lv A) = -20000 := fun q => by
              have h2 : (Int32.toInt64 (lv A)).toInt = (-20000 : Int64).toInt := by rw [q]
              rw [nj_up] at h2
              unfold lv at h2
              rw [if_neg hA] at h2
              have h3 : (-20000 : Int64).toInt = -20000 := by decide
              omega
            rw [if_neg this, J_minJ]
            simp only [bI]
            have e4 : lv (A ++ [x]) = mn (lv A) x.2 := by unfold lv; rw [if_neg hAne, if_neg hA, gmn_app hA (List.cons_ne_nil _ _), gmn_one]
            rw [e4] at hih
            exact hih
        · simp only [Nat.reduceEqDiff, reduceIte, abv] at hih ⊢
          by_cases hA : A = []
          · subst hA
            have : Int32.toInt64 (gv []) = -20000 := mj.symm
            rw [if_pos this]
            have e4 : gv ([] ++ [x]) = x.2 := by unfold gv; rw [List.nil_append, if_neg (List.cons_ne_nil _ _), gmx_one]
            rw [e4] at hih
            exact hih
          · have hb := gmx_bd hA hvA
            have : ¬ Int32.toInt64 (gv A) = -20000 := fun q => by
              have h2 : (Int32.toInt64 (gv A)).toInt = (-20000 : Int64).toInt := by rw [q]
              rw [nj_up] at h2
              unfold gv at h2
              rw [if_neg hA] at h2
              have h3 : (-20000 : Int64).toInt = -20000 := by decide
              omega
            rw [if_neg this, J_maxJ]
            simp only [bI]
            have e4 : gv (A ++ [x]) = mx (gv A) x.2 := by unfold gv; rw [if_neg hAne, if_neg hA, gmx_app hA (List.cons_ne_nil _ _), gmx_one]
            rw [e4] at hih
            exact hih
        · simp only [reduceIte, abv] at hih ⊢
          have e4 : s64 (A ++ [x]) = s64 A + Int32.toInt64 x.2 := by rw [s64_app, s64_cons]; rw [show s64 [] = 0 from rfl, Int64.add_zero]
          rw [e4] at hih
          exact hih
  have hbeg := loop (P id) [] fu rfl (by omega)
  rw [List.length_nil, Nat.add_zero] at hbeg
  unfold f_X9_allBy f_X9_allBy_b19
  simp only [e10, reduceIte, X9_bo hPt' hPW hTm hid hfu, X9_fo hPt' hPW hTm hid hfu, bI, off_s, q7]
  rcases hw with rfl | rfl | rfl
  · rw [if_neg (by decide)]
    exact hbeg
  · rw [if_neg (by decide)]
    exact hbeg
  · rw [if_pos rfl]
    exact hbeg
end TALLY
