/-! ===== the class's answers, a row of four; trend ===== -/
abbrev Q4 : Type := Int32 × Int32 × Int32 × Int32
def aF (q : Q4) (f : Nat → Int32) : Nat → Int32 := fun j => if j = 0 then q.1 else if j = 1 then q.2.1 else if j = 2 then q.2.2.1 else if j = 3 then q.2.2.2 else f j
def aS (s : St) (q : Q4) : St := wI s 10 9 (aF q (gI s 10 9))
theorem aS_cz (s : St) (q : Q4) : CZ s (aS s q) := CZ.wa (Or.inl rfl) _
theorem aS_w {s : St} {q q' : Q4} {j : Nat} {v : Int32} (h : ∀ m f, (if m = j then v else aF q f m) = aF q' f m) : sI (aS s q) 10 9 j v = aS s q' := by
  unfold aS
  rw [sI_wI]
  congr 1
  funext m
  exact h m _
theorem aF_st (q : Q4) (j : Nat) (v : Int32) (q' : Q4) (h : q' = if j = 0 then (v, q.2) else if j = 1 then (q.1, v, q.2.2) else if j = 2 then (q.1, q.2.1, v, q.2.2.2) else (q.1, q.2.1, q.2.2.1, v)) (hj : j < 4) : ∀ m f, (if m = j then v else aF q f m) = aF q' f m := by
  intro m f
  have hj' : j = 0 ∨ j = 1 ∨ j = 2 ∨ j = 3 := by omega
  rcases hj' with rfl | rfl | rfl | rfl
  · simp only [reduceIte] at h
    subst h
    unfold aF
    repeat' split
    all_goals first | rfl | omega
  · simp only [Nat.reduceEqDiff, reduceIte] at h
    subst h
    unfold aF
    repeat' split
    all_goals first | rfl | omega
  · simp only [Nat.reduceEqDiff, reduceIte] at h
    subst h
    unfold aF
    repeat' split
    all_goals first | rfl | omega
  · simp only [Nat.reduceEqDiff, reduceIte] at h
    subst h
    unfold aF
    repeat' split
    all_goals first | rfl | omega
theorem aS_0 (s : St) (q : Q4) (v : Int32) : sI (aS s q) 10 9 0 v = aS s (v, q.2) := aS_w (aF_st q 0 v _ rfl (by omega))
theorem aS_1 (s : St) (q : Q4) (v : Int32) : sI (aS s q) 10 9 1 v = aS s (q.1, v, q.2.2) := aS_w (aF_st q 1 v _ rfl (by omega))
theorem aS_2 (s : St) (q : Q4) (v : Int32) : sI (aS s q) 10 9 2 v = aS s (q.1, q.2.1, v, q.2.2.2) := aS_w (aF_st q 2 v _ rfl (by omega))
theorem aS_3 (s : St) (q : Q4) (v : Int32) : sI (aS s q) 10 9 3 v = aS s (q.1, q.2.1, q.2.2.1, v) := aS_w (aF_st q 3 v _ rfl (by omega))
theorem aS_r0 (s : St) (q : Q4) : gI (aS s q) 10 9 0 = q.1 := by unfold aS aF; rw [gI_wI]; rfl
theorem aS_r1 (s : St) (q : Q4) : gI (aS s q) 10 9 1 = q.2.1 := by unfold aS aF; rw [gI_wI]; rfl
theorem aS_r2 (s : St) (q : Q4) : gI (aS s q) 10 9 2 = q.2.2.1 := by unfold aS aF; rw [gI_wI]; rfl
theorem aS_r3 (s : St) (q : Q4) : gI (aS s q) 10 9 3 = q.2.2.2 := by unfold aS aF; rw [gI_wI]; rfl
theorem aS_g (s : St) (q : Q4) : gR (aS s q) = gR s ∧ gL (aS s q) = gL s := ⟨rfl, rfl⟩
theorem aS_id (s : St) : aS s (gI s 10 9 0, gI s 10 9 1, gI s 10 9 2, gI s 10 9 3) = s := by
  have : aF (gI s 10 9 0, gI s 10 9 1, gI s 10 9 2, gI s 10 9 3) (gI s 10 9) = gI s 10 9 := by
    funext j
    unfold aF
    repeat' split
    all_goals first | rfl | (rename_i h; subst h; rfl)
  unfold aS
  rw [this, wI_id]
def q4 (q : Q4) (w : Nat) : Int32 := if w = 0 then q.1 else if w = 1 then q.2.1 else if w = 2 then q.2.2.1 else q.2.2.2
theorem aS_rw (s : St) (q : Q4) {w : Nat} (hw : w < 4) : gI (aS s q) 10 9 w = q4 q w := by
  have hj' : w = 0 ∨ w = 1 ∨ w = 2 ∨ w = 3 := by omega
  rcases hj' with rfl | rfl | rfl | rfl
  · exact aS_r0 s q
  · exact aS_r1 s q
  · exact aS_r2 s q
  · exact aS_r3 s q
/-- a first write of all four -/
theorem aS_four (s : St) (a b c d : Int32) : sI (sI (sI (sI s 10 9 0 a) 10 9 1 b) 10 9 2 c) 10 9 3 d = aS s (a, b, c, d) := by
  have h := aS_id s
  conv => lhs; rw [← h]
  rw [aS_0, aS_1, aS_2, aS_3]
def trS (q : Q4) (d st : Int32) : Q4 := (q.1 + (if d ≤ 0 then 0 else 1), q.2.1 + (if 0 ≤ d then 0 else 1), if d ≤ q.2.2.1 then q.2.2.1 else d, if d ≤ q.2.2.1 then q.2.2.2 else st)
def trR (κ : Int → Int) : Int32 → Q4 → List (List Pt) → Q4
  | _, q, [] => q
  | pv, q, g :: L => trR κ (mean g) (trS q (mean g - pv) (Int32.ofInt (ky κ g))) L
def trA (κ : Int → Int) (M : List (List Pt)) : Q4 := match M with
  | [] => (0, 0, 0, -20000)
  | g :: L => trR κ (mean g) (0, 0, 0, -20000) L
section Q4S
variable {s : St} {p n : Nat} {S K : Nat → Int} {R : List Nat} {H : Nat → Int32} {P : Nat → List Pt} {fu : Nat}
theorem X5_tr_loop (hL : Lay s) (hS : Sep s) (hp : p = 1 ∨ p = 2) {i : Nat} (hid : i < 10) (ho : ¬ gR s 14 1 i = 0) {h : Int} {GG B : List (List Pt)} (V : VP n S K) (W : WfG n S K h GG) (C : SerC s (gR s 14 1 i) p n S K h GG) :
    ∀ (L A : List (List Pt)) (g : List Pt) (m : Nat) (q : Q4), GG = A ++ g :: (L ++ B) → L.length < m → f_X5_surveyTrend_b33 fu m (aS s q) (gR s 14 1 i) 9 (nI (A.length + 1 + L.length)) (nI (A.length + 1)) = some (aS s (trR (ka n S K h) (mean g) q L)) := by
  have hl := wf_len W
  have b0 : inb 0 4 = true := by decide
  have b1 : inb 1 4 = true := by decide
  have b2 : inb 2 4 = true := by decide
  have b3 : inb 3 4 = true := by decide
  have e9 : ¬ (9 = 0) := by decide
  have i0 : ix 0 = 0 := rfl
  have i1 : ix 1 = 1 := rfl
  have i2 : ix 2 = 2 := rfl
  have i3 : ix 3 = 3 := rfl
  intro L
  induction L with
  | nil =>
    intro A g m q e hm
    have hGl : A.length + 1 ≤ GG.length := by rw [e, List.length_append, List.length_cons]; omega
    cases m with
    | zero => omega
    | succ m =>
      unfold f_X5_surveyTrend_b33 trR
      rw [List.length_nil, Nat.add_zero, if_pos ((ni_le (by omega) (by omega)).mpr (Nat.le_refl _))]
  | cons b L ih =>
    intro A g m q e hm
    have hGl : A.length + 1 + (L.length + 1) ≤ GG.length := by rw [e, List.length_append, List.length_cons, List.length_append, List.length_cons]; omega
    cases m with
    | zero => omega
    | succ m =>
      have hgx : GG[A.length]? = some g := by rw [e, List.getElem?_append_right (Nat.le_refl _)]; simp
      have hbx : GG[A.length + 1]? = some b := by rw [e, List.getElem?_append_right (by omega)]; simp
      rw [List.length_cons] at hm
      have e2 : GG = (A ++ [g]) ++ b :: (L ++ B) := by rw [e, List.append_assoc]; rfl
      have hih := ih (A ++ [g]) b m (trS q (mean b - mean g) (Int32.ofInt (ky (ka n S K h) b))) e2 (by omega)
      rw [List.length_append, List.length_singleton, show A.length + 1 + 1 + L.length = A.length + 1 + (L.length + 1) by omega] at hih
      have Ca := fun q => C.cs hL hS hp hid ho (aS_cz s q).cs
      obtain ⟨r1, -⟩ := C.2.2.2.1
      obtain ⟨l1, -⟩ := C.2.2.2.2.1
      have bb : inb (nI (A.length + 1)) (gL s 10 (gR s 5 (gR s 14 1 i) 3)) = true := nu_inbn (by omega) (by omega)
      have hst : ∀ q, gI (aS s q) 10 (gR s 5 (gR s 14 1 i) 3) (A.length + 1) = Int32.ofInt (ky (ka n S K h) b) := fun q => ((Ca q).2.2.2.2.2 _ b hbx).1
      have key : ∀ (t0 t0' : Int32), t0 = (if mean b - mean g ≤ 0 then 0 else 1) → t0' = (if 0 ≤ mean b - mean g then 0 else 1) →
          f_X5_surveyTrend_b86 fu (f_X5_surveyTrend_b33 fu m) (aS s (q.1 + t0, q.2)) (gR s 14 1 i) 9 (nI (A.length + 1 + (L.length + 1))) (nI (A.length + 1)) (mean b - mean g) t0' q.2.1 1 9 = some (aS s (trR (ka n S K h) (mean g) q (b :: L))) := by
        intro t0 t0' h0 h0'
        unfold f_X5_surveyTrend_b86 f_X5_surveyTrend_b111
        simp only [e9, reduceIte, (aS_g s _).2, (aS_g s _).1, ll_10_9 hL, b1, b2, b3, Bool.true_eq_false, lt, i1, i2, i3, aS_1, aS_r2, nu_nIa, C.1.1, gI_sI, gJ_sI, gR_sI, gL_sI, gN_sI, cn_sI, sn_sI, gI_sJ, gJ_sJ, gR_sJ, gL_sJ, gN_sJ, cn_sJ, sn_sJ, gI_sR, gJ_sR, gR_sR, gL_sR, gN_sR, cn_sR, sn_sR, gI_nX, gJ_nX, gR_nX, gL_nX, gN_nX, cn_nX, sn_nX, gI_wI, gJ_wI, gR_wI, gL_wI, gN_wI, cn_wI, sn_wI, gI_wJ, gJ_wJ, gR_wJ, gL_wJ, gN_wJ, cn_wJ, sn_wJ, gI_nW, gJ_nW, gR_nW, gL_nW, gN_nW, cn_nW, sn_nW, r1, bb, nu_ixn (show A.length + 1 < 2147483648 by omega), aS_2, hst, aS_3]
        by_cases hq : mean b - mean g ≤ q.2.2.1
        · rw [if_pos hq]
          have : trS q (mean b - mean g) (Int32.ofInt (ky (ka n S K h) b)) = (q.1 + t0, q.2.1 + t0', q.2.2.1, q.2.2.2) := by
            unfold trS; rw [← h0, ← h0', if_pos hq, if_pos hq]
          rw [this] at hih
          rw [hih]
          show _ = some (aS s (trR (ka n S K h) (mean b) (trS q (mean b - mean g) (Int32.ofInt (ky (ka n S K h) b))) L))
          rw [this]
        · rw [if_neg hq]
          have : trS q (mean b - mean g) (Int32.ofInt (ky (ka n S K h) b)) = (q.1 + t0, q.2.1 + t0', mean b - mean g, Int32.ofInt (ky (ka n S K h) b)) := by
            unfold trS; rw [← h0, ← h0', if_neg hq, if_neg hq]
          rw [this] at hih
          rw [hih]
          show _ = some (aS s (trR (ka n S K h) (mean b) (trS q (mean b - mean g) (Int32.ofInt (ky (ka n S K h) b))) L))
          rw [this]
      have key2 : ∀ (t0 : Int32), t0 = (if mean b - mean g ≤ 0 then 0 else 1) →
          f_X5_surveyTrend_b70 fu (f_X5_surveyTrend_b33 fu m) (aS s q) (gR s 14 1 i) 9 (nI (A.length + 1 + (L.length + 1))) (nI (A.length + 1)) (mean b - mean g) t0 q.1 0 9 = some (aS s (trR (ka n S K h) (mean g) q (b :: L))) := by
        intro t0 h0
        unfold f_X5_surveyTrend_b70
        simp only [e9, reduceIte, (aS_g s _).2, ll_10_9 hL, b0, b1, Bool.true_eq_false, lt, i0, i1, aS_0, aS_r1]
        by_cases hq : 0 ≤ mean b - mean g
        · rw [if_pos hq]
          exact key t0 0 h0 (by rw [if_pos hq])
        · rw [if_neg hq]
          exact key t0 1 h0 (by rw [if_neg hq])
      unfold f_X5_surveyTrend_b33
      rw [List.length_cons, if_neg (fun q => by have := (ni_le (by omega) (by omega)).mp q; omega)]
      simp only [C.1.1, reduceIte, X5_mean W (Ca q) hbx, bI, ni_dec (show 0 < A.length + 1 by omega) (show A.length + 1 < 2147483648 by omega), Nat.add_sub_cancel, X5_mean W (Ca q) hgx, lt, e9, (aS_g s _).2, ll_10_9 hL, b0, Bool.true_eq_false, i0, aS_r0]
      by_cases hq : mean b - mean g ≤ 0
      · rw [if_pos hq]
        exact key2 0 (by rw [if_pos hq])
      · rw [if_neg hq]
        exact key2 1 (by rw [if_neg hq])
theorem mean_ne {n : Nat} {S K : Nat → Int} {h : Int} {GG : List (List Pt)} (W : WfG n S K h GG) {g : List Pt} (hg : g ∈ GG) : ¬ mean g = (-20000 : Int32) := fun q => by
  have h1 := mean_bd (wf_v W hg) (wf_gl W hg).2 (wf_gl W hg).1
  rw [q] at h1
  have : (-20000 : Int32).toInt = -20000 := by decide
  omega
theorem X9_tr_loop (h : RQ s n S K R H P) {id : Nat} (hid : id < 10) {GG B : List (List Pt)} (hP : P id = GG.flatten) (W : WfG n S K (H id).toInt GG) (w : Int32) (hfu : 50000 ≤ fu) :
    ∀ (L A : List (List Pt)) (m : Nat) (pv : Int32) (q : Q4) (s1 : St), GG = A ++ (L ++ B) → ¬ pv = -20000 → MZ s s1 → L.length < m →
      ∃ s2 m' , MZ s s2 ∧ f_X9_trend_b75 fu m s1 1 w q.1 q.2.1 q.2.2.1 q.2.2.2 (nI (off P id + (A ++ L).flatten.length)) (nI (off P id + A.flatten.length)) pv =
        (let r := trR (ka n S K (H id).toInt) pv q L; some (s2, Int32.toInt64 (if w = 0 then r.1 else if w = 1 then r.2.1 else if w = 2 then r.2.2.1 else r.2.2.2))) ∧ m' = m := by
  have e10 : ¬ (1 = 0) := by decide
  have hpos := h.pos hid hP
  intro L
  induction L with
  | nil =>
    intro A m pv q s1 e hpv hm hl
    cases m with
    | zero => omega
    | succ m =>
      refine ⟨s1, _, hm, ?_, rfl⟩
      have hA : A.flatten.length ≤ GG.flatten.length := by rw [e, fl_app]; omega
      unfold f_X9_trend_b75 trR f_X9_trend_b202
      rw [List.append_nil, if_pos ((ni_le (by omega) (by omega)).mpr (Nat.le_refl _))]
      dsimp only
      repeat' split
      all_goals rfl
  | cons g L ih =>
    intro A m pv q s1 e hpv hm hl
    cases m with
    | zero => omega
    | succ m =>
      rw [List.length_cons] at hl
      have hg : g ∈ GG := by rw [e]; exact List.mem_append_right _ (List.mem_append_left _ List.mem_cons_self)
      have hgl := wf_gl W hg
      have hA : A.flatten.length + g.length + L.flatten.length ≤ GG.flatten.length := by rw [e, fl_app, fl_app, fl_cons]; omega
      have e2 : GG = (A ++ [g]) ++ (L ++ B) := by rw [e, List.append_assoc]; rfl
      have e3 : A ++ g :: L = (A ++ [g]) ++ L := by rw [List.append_assoc]; rfl
      have hmz := hm.tr (bG_ms s1 n S K (H id).toInt g)
      have st52 : gI (bG s1 n S K (H id).toInt g) 9 1 52 = Int32.ofInt (ky (ka n S K (H id).toInt) g) := by unfold bG; rw [bS_52]
      obtain ⟨s2, m', h1, h2, -⟩ := ih (A ++ [g]) m (mean g) (trS q (mean g - pv) (Int32.ofInt (ky (ka n S K (H id).toInt) g))) (bG s1 n S K (H id).toInt g) e2 (mean_ne W hg) hmz (by omega)
      refine ⟨s2, _, h1, ?_, rfl⟩
      unfold f_X9_trend_b75
      rw [if_neg (fun q => by have := (ni_le (by rw [fl_app, fl_cons]; omega) (by omega)).mp q; rw [fl_app, fl_cons] at this; omega)]
      simp only [e10, reduceIte, X9_nb (h.mz hm) hid hP W (show GG = A ++ g :: (L ++ B) from e) hfu, bI, hpv, bG_mean (wf_v W hg) hgl]
      rw [e3]
      have e4 : trR (ka n S K (H id).toInt) pv q (g :: L) = trR (ka n S K (H id).toInt) (mean g) (trS q (mean g - pv) (Int32.ofInt (ky (ka n S K (H id).toInt) g))) L := rfl
      rw [e4]
      refine Eq.trans ?_ h2
      unfold f_X9_trend_b109 f_X9_trend_b123 f_X9_trend_b138 f_X9_trend_b158 trS
      simp only [lt, e10, reduceIte, bG_mean (wf_v W hg) hgl, bI, st52]
      by_cases c1 : mean g - pv ≤ 0 <;> by_cases c2 : 0 ≤ mean g - pv <;> by_cases c3 : mean g - pv ≤ q.2.2.1 <;> simp only [c1, c2, c3, reduceIte]
theorem Q_trend (h : CQ s p n S K R H P) (hr : rmb (nX s) = true) (hfu : 50000 ≤ fu) (a b d : Int32) : ∃ s1 w, f_X8_trend fu s 1 a b d = some (s1, w) ∧ CS s s1 ∧
    ∀ s', RQ s' n S K R H P → ∃ s2 v, f_X9_trend fu s' 1 a b d = some (s2, v) ∧ MS s' s2 ∧ cmpJ1 w v (gI s2 9 1 3) := by
  have e10 : ¬ (1 = 0) := by decide
  have z10 : ¬ ((1 : Int32) = 0) := by decide
  have hV := h.2.1.2.2.2
  have hn := hV.1
  have e3 : (3 : Int32).toInt = 3 := rfl
  have ej0 : (0 : Int64).toInt = 0 := rfl
  have ej3 : (3 : Int64).toInt = 3 := rfl
  have b0 : inb 0 4 = true := by decide
  have b1 : inb 1 4 = true := by decide
  have b2 : inb 2 4 = true := by decide
  have b3 : inb 3 4 = true := by decide
  have e9 : ¬ (9 = 0) := by decide
  have i0 : ix 0 = 0 := rfl
  have i1 : ix 1 = 1 := rfl
  have i2 : ix 2 = 2 := rfl
  have i3 : ix 3 = 3 := rfl
  rcases id_cases R a with ⟨i, hi, rfl⟩ | ha
  · have hid := h.id hi
    obtain ⟨ho, GG, hPi, W, C⟩ := h.2.2.2 i hi
    rcases tier_cases n b with ⟨t, ht, rfl⟩ | hb
    · by_cases hd : 0 ≤ d.toInt ∧ d.toInt ≤ 3
      · obtain ⟨w, hw, rfl⟩ : ∃ w : Nat, w ≤ 3 ∧ d = nI w := ⟨d.toInt.toNat, by omega, nu_toN (by omega)⟩
        have hnw : f_X8_needWhat fu s (nI w) 3 = some (s, .inr ()) := X8_nw (by rw [nu_nI (by omega)]; omega) (by rw [nu_nI (by omega), e3]; omega) fu
        have bw : inb (nI w) 4 = true := nu_inbn (by omega) (by omega)
        obtain ⟨A, M, B, e, c1, c2, c3, c4, c5, c6, c7, c8⟩ := tier_cut hV W ht
        have hl := wf_len W
        have hM : A.length + M.length ≤ GG.length := by rw [e, List.length_append, List.length_append]; omega
        have hcls : f_X5_surveyTrend fu s (gR s 14 1 i) (nI t) 9 = some (aS s (trA (ka n S K (H i).toInt) M)) := by
          have C0 := C.cs h.1.1 h.1.2 h.2.1.1 hid ho (aS_cz s (0, 0, 0, -20000)).cs
          obtain ⟨x1, x2⟩ := X5_tier hV W C0 ht e c1 c3 c4 c5 c6 hfu
          unfold f_X5_surveyTrend
          simp only [e9, reduceIte, gI_sI, gJ_sI, gR_sI, gL_sI, gN_sI, cn_sI, sn_sI, gI_sJ, gJ_sJ, gR_sJ, gL_sJ, gN_sJ, cn_sJ, sn_sJ, gI_sR, gJ_sR, gR_sR, gL_sR, gN_sR, cn_sR, sn_sR, gI_nX, gJ_nX, gR_nX, gL_nX, gN_nX, cn_nX, sn_nX, gI_wI, gJ_wI, gR_wI, gL_wI, gN_wI, cn_wI, sn_wI, gI_wJ, gJ_wJ, gR_wJ, gL_wJ, gN_wJ, cn_wJ, sn_wJ, gI_nW, gJ_nW, gR_nW, gL_nW, gN_nW, cn_nW, sn_nW, ll_10_9 h.1.1, b0, b1, b2, b3, Bool.true_eq_false, lt, i0, i1, i2, i3, aS_four, ho, x1, x2, bI, nu_nIa]
          cases hM' : M with
          | nil =>
            subst hM'
            cases fu with
            | zero => omega
            | succ fu =>
              unfold f_X5_surveyTrend_b33 trA
              rw [List.length_nil, Nat.add_zero, if_pos ((ni_le (by omega) (by omega)).mpr (by omega))]
          | cons g L =>
            subst hM'
            rw [List.length_cons] at hM ⊢
            have := X5_tr_loop (fu := fu) h.1.1 h.1.2 h.2.1.1 hid ho hV W C L A g fu (0, 0, 0, -20000) e (by omega)
            rw [show A.length + 1 + L.length = A.length + (L.length + 1) by omega] at this
            exact this
        refine ⟨aS s (trA (ka n S K (H i).toInt) M), .inr (Int32.toInt64 (q4 (trA (ka n S K (H i).toInt) M) w)), ?_, (aS_cz s _).cs, fun s' h' => ?_⟩
        · unfold f_X8_trend
          simp only [e10, reduceIte, h.kn hi (show 100 ≤ fu by omega), bX, h.nt ht, hnw, ho, lr_8_1_9 h.1.1, hcls, bV, (aS_g s _).1, (aS_g s _).2, e9, ll_10_9 h.1.1, bw, Bool.true_eq_false, nu_ixn (show w < 2147483648 by omega), aS_rw s _ (show w < 4 by omega)]
        · obtain ⟨q1, q2⟩ := X9_ends h'.s0 hid hPi W ht e c4 c7 c8 hfu
          have h0 := h'.s0
          obtain ⟨hL, ⟨hPl, -⟩, ⟨hT, -⟩, -⟩ := h'.s0
          have hpos := h0.pos hid hPi
          have u0 : (nI w = 0) ↔ w = 0 := nI_c 0 (by omega) w (by omega)
          have u1 : (nI w = 1) ↔ w = 1 := nI_c 1 (by omega) w (by omega)
          have u2 : (nI w = 2) ↔ w = 2 := nI_c 2 (by omega) w (by omega)
          have hfirst : f_X9_trend fu s' 1 (nI i) (nI t) (nI w) = f_X9_trend_b75 fu fu (sI s' 9 1 3 0) 1 (nI w) 0 0 0 (-20000) (nI (off P i + (A ++ M).flatten.length)) (nI (off P i + A.flatten.length)) (-20000) := by
            unfold f_X9_trend
            simp only [e10, reduceIte, lt, X9_isS hL hT hi hid, bI, z10, X9_it hPl hV, nu_nI (show t < 2147483648 by omega), bt_t (show (0 : Int) ≤ t ∧ (t : Int) < n by omega), X9_isIn, nj_up, nu_nI (show w < 2147483648 by omega), ej0, ej3, bt_t (show (0 : Int) ≤ w ∧ (w : Int) ≤ 3 by omega), q1, q2]
          rw [hfirst]
          cases hM' : M with
          | nil =>
            subst hM'
            refine ⟨sI s' 9 1 3 0, Int32.toInt64 (q4 (0, 0, 0, -20000) w), ?_, MS.s9 s' (Or.inl rfl) 0, f3 _ _, rfl⟩
            have hA : A.flatten.length ≤ GG.flatten.length := by rw [e, fl_app]; omega
            cases fu with
            | zero => omega
            | succ fu =>
              unfold f_X9_trend_b75 f_X9_trend_b202 q4
              rw [List.append_nil, if_pos ((ni_le (by omega) (by omega)).mpr (Nat.le_refl _))]
              simp only [u0, u1, u2]
              repeat' split
              all_goals rfl
          | cons g L =>
            subst hM'
            have hg : g ∈ GG := by rw [e]; exact List.mem_append_right _ (List.mem_append_left _ List.mem_cons_self)
            have hgl := wf_gl W hg
            have hA : A.flatten.length + g.length + L.flatten.length ≤ GG.flatten.length := by rw [e, fl_app, fl_app, fl_cons]; omega
            have e2 : GG = (A ++ [g]) ++ (L ++ B) := by rw [e, List.append_assoc]; rfl
            have e3' : A ++ g :: L = (A ++ [g]) ++ L := by rw [List.append_assoc]; rfl
            have hmz := bG_ms (sI s' 9 1 3 0) n S K (H i).toInt g
            rw [List.length_cons] at hM
            cases hfe : fu with
            | zero => omega
            | succ f =>
              obtain ⟨s2, m', v1, v2, -⟩ := X9_tr_loop (fu := f + 1) h0 hid hPi W (nI w) (by omega) L (A ++ [g]) f (mean g) (0, 0, 0, -20000) (bG (sI s' 9 1 3 0) n S K (H i).toInt g) e2 (mean_ne W hg) hmz (by omega)
              refine ⟨s2, _, ?_, (MS.s9 s' (Or.inl rfl) 0).tr v1.1, by rw [v1.2]; exact f3 _ _, rfl⟩
              unfold f_X9_trend_b75
              rw [if_neg (fun q => by have := (ni_le (by rw [fl_app, fl_cons]; omega) (by omega)).mp q; rw [fl_app, fl_cons] at this; omega)]
              have zz : (0 : Int32) ≤ 0 := by decide
              have za : (0 : Int32) + 0 = 0 := by decide
              simp only [e10, reduceIte, X9_nb h0 hid hPi W (show GG = A ++ g :: (L ++ B) from e) (show 50000 ≤ f + 1 by omega), bI, f_X9_trend_b109, f_X9_trend_b123, f_X9_trend_b138, f_X9_trend_b158, zz, za, lt, bG_mean (wf_v W hg) hgl]
              rw [e3']
              refine v2.trans ?_
              dsimp only
              simp only [u0, u1, u2]
              rfl
      · refine ⟨nX s, .inl 1, ?_, (CZ.rf s).x, fun s' h' => ⟨sI (sI s' 9 1 3 0) 9 1 3 1, 0, ?_, ms_f (MS.s9 s' (Or.inl rfl) 0) 1, ?_⟩⟩
        · unfold f_X8_trend
          simp only [e10, reduceIte, h.kn hi (show 100 ≤ fu by omega), bX, h.nt ht, X8_nx hr (show ¬ (0 ≤ d.toInt ∧ d.toInt ≤ (3 : Int32).toInt) from hd)]
        · obtain ⟨hL, ⟨hPl, -⟩, ⟨hT, -⟩, -⟩ := h'.s0
          unfold f_X9_trend f_X9_trend_b33
          simp only [e10, reduceIte, lt, X9_isS hL hT hi hid, bI, z10, X9_it hPl hV, nu_nI (show t < 2147483648 by omega), bt_t (show (0 : Int) ≤ t ∧ (t : Int) < n by omega), X9_isIn, nj_up, ej0, ej3, bt_f hd, X9_fail]
          rfl
        · exact ⟨f3 _ _, rfl⟩
    · refine ⟨nX s, .inl 1, ?_, (CZ.rf s).x, fun s' h' => ⟨sI (sI s' 9 1 3 0) 9 1 3 1, 0, ?_, ms_f (MS.s9 s' (Or.inl rfl) 0) 1, ?_⟩⟩
      · unfold f_X8_trend
        simp only [e10, reduceIte, h.kn hi (show 100 ≤ fu by omega), bX, h.ntx hr hb]
      · obtain ⟨hL, ⟨hPl, -⟩, ⟨hT, -⟩, -⟩ := h'.s0
        unfold f_X9_trend f_X9_trend_b33
        simp only [e10, reduceIte, lt, X9_isS hL hT hi hid, bI, z10, X9_it hPl hV, bt_f hb, X9_fail]
        rfl
      · exact ⟨f3 _ _, rfl⟩
  · refine ⟨nX s, .inl 1, ?_, (CZ.rf s).x, fun s' h' => ⟨sI (sI s' 9 1 3 0) 9 1 3 1, 0, ?_, ms_f (MS.s9 s' (Or.inl rfl) 0) 1, ?_⟩⟩
    · unfold f_X8_trend
      simp only [e10, reduceIte, h.kx hr ha (show 100 ≤ fu by omega), bX]
    · obtain ⟨hL, -, ⟨hT, -⟩, -⟩ := h'.s0
      unfold f_X9_trend f_X9_trend_b33
      simp only [e10, reduceIte, lt, X9_isSx hL hT ha, bI, X9_fail]
      rfl
    · exact ⟨f3 _ _, rfl⟩
end Q4S
