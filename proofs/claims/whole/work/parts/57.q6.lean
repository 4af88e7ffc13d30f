/-! ===== total, bar ===== -/
def TM (s : St) (q : T5) : Prop := gI s 9 1 61 = q.1 ∧ gI s 9 1 58 = q.2.1 ∧ gJ s 9 1 57 = q.2.2.1 ∧ gI s 9 1 59 = q.2.2.2.1 ∧ gI s 9 1 60 = q.2.2.2.2
def rS (s : St) (q : T5) : St := sI (sI (sI (sI (sJ s 9 1 57 q.2.2.1) 9 1 59 q.2.2.2.1) 9 1 60 q.2.2.2.2) 9 1 58 q.2.1) 9 1 61 q.1
theorem rS_mz (s : St) (q : T5) : MZ s (rS s q) := ((((MZ.j9 s 57 _).tr (MZ.s9 _ (by omega) _)).tr (MZ.s9 _ (by omega) _)).tr (MZ.s9 _ (by omega) _)).tr (MZ.s9 _ (by omega) _)
theorem rS_tm (s : St) (q : T5) : TM (rS s q) q := by
  unfold TM rS
  simp only [gI_sI, gJ_sI, gR_sI, gL_sI, gN_sI, cn_sI, sn_sI, gI_sJ, gJ_sJ, gR_sJ, gL_sJ, gN_sJ, cn_sJ, sn_sJ, gI_sR, gJ_sR, gR_sR, gL_sR, gN_sR, cn_sR, sn_sR, gI_nX, gJ_nX, gR_nX, gL_nX, gN_nX, cn_nX, sn_nX, gI_wI, gJ_wI, gR_wI, gL_wI, gN_wI, cn_wI, sn_wI, gI_wJ, gJ_wJ, gR_wJ, gL_wJ, gN_wJ, cn_wJ, sn_wJ, gI_nW, gJ_nW, gR_nW, gL_nW, gN_nW, cn_nW, sn_nW, Nat.reduceEqDiff, and_false, and_self, reduceIte]
theorem rS_f (s : St) (q : T5) {j : Nat} (hj : j < 57 ∨ 61 < j) : gI (rS s q) 9 1 j = gI s 9 1 j := by
  simp only [rS, gI_sI, gJ_sI, gR_sI, gL_sI, gN_sI, cn_sI, sn_sI, gI_sJ, gJ_sJ, gR_sJ, gL_sJ, gN_sJ, cn_sJ, sn_sJ, gI_sR, gJ_sR, gR_sR, gL_sR, gN_sR, cn_sR, sn_sR, gI_nX, gJ_nX, gR_nX, gL_nX, gN_nX, cn_nX, sn_nX, gI_wI, gJ_wI, gR_wI, gL_wI, gN_wI, cn_wI, sn_wI, gI_wJ, gJ_wJ, gR_wJ, gL_wJ, gN_wJ, cn_wJ, sn_wJ, gI_nW, gJ_nW, gR_nW, gL_nW, gN_nW, cn_nW, sn_nW]
  repeat' split
  all_goals first | rfl | (exfalso; omega)
theorem TM.w {s : St} {q : T5} (h : TM s q) {j : Nat} (hj : j < 57 ∨ 61 < j) (v : Int32) : TM (sI s 9 1 j v) q := by
  obtain ⟨h1, h2, h3, h4, h5⟩ := h
  exact ⟨by rw [gI_sI, if_neg (fun q => by omega)]; exact h1, by rw [gI_sI, if_neg (fun q => by omega)]; exact h2, h3, by rw [gI_sI, if_neg (fun q => by omega)]; exact h4, by rw [gI_sI, if_neg (fun q => by omega)]; exact h5⟩
theorem bG_tm {s : St} {q : T5} (h : TM s q) (n : Nat) (S K : Nat → Int) (hh : Int) (g : List Pt) : TM (bG s n S K hh g) q := by
  obtain ⟨h1, h2, h3, h4, h5⟩ := h
  unfold bG
  exact ⟨by rw [bS_f _ _ _ _ _ _ _ (Or.inr (by omega))]; exact h1, by rw [bS_f _ _ _ _ _ _ _ (Or.inr (by omega))]; exact h2, by rw [bS_J _ _ _ _ _ _ _ (by omega)]; exact h3, by rw [bS_f _ _ _ _ _ _ _ (Or.inr (by omega))]; exact h4, by rw [bS_f _ _ _ _ _ _ _ (Or.inr (by omega))]; exact h5⟩
theorem bG_f (s : St) (n : Nat) (S K : Nat → Int) (hh : Int) (g : List Pt) {j : Nat} (hj : j < 51 ∨ 55 < j) : gI (bG s n S K hh g) 9 1 j = gI s 9 1 j := bS_f _ _ _ _ _ _ _ hj
theorem t0_4 : t0.2.2.2.2 = -20000 := rfl
theorem t0_0 : t0.1 = 0 := rfl
theorem t0_1 : t0.2.1 = 0 := rfl
theorem X9_clears (s : St) (fu : Nat) : f_X9_clears fu s 1 = some (rS s t0) := by
  have e10 : ¬ (1 = 0) := by decide
  unfold f_X9_clears
  simp only [e10, reduceIte, lt]
  congr 1
  refine st_ext (fun k i j => ?_) (fun k i j => ?_) (fun _ _ _ => rfl) (fun _ _ => rfl) (fun _ => rfl) rfl rfl
  · simp only [rS, gI_sI, gJ_sI, gR_sI, gL_sI, gN_sI, cn_sI, sn_sI, gI_sJ, gJ_sJ, gR_sJ, gL_sJ, gN_sJ, cn_sJ, sn_sJ, gI_sR, gJ_sR, gR_sR, gL_sR, gN_sR, cn_sR, sn_sR, gI_nX, gJ_nX, gR_nX, gL_nX, gN_nX, cn_nX, sn_nX, gI_wI, gJ_wI, gR_wI, gL_wI, gN_wI, cn_wI, sn_wI, gI_wJ, gJ_wJ, gR_wJ, gL_wJ, gN_wJ, cn_wJ, sn_wJ, gI_nW, gJ_nW, gR_nW, gL_nW, gN_nW, cn_nW, sn_nW, t0]
    repeat' split
    all_goals first | rfl | (exfalso; omega)
  · simp only [rS, gI_sI, gJ_sI, gR_sI, gL_sI, gN_sI, cn_sI, sn_sI, gI_sJ, gJ_sJ, gR_sJ, gL_sJ, gN_sJ, cn_sJ, sn_sJ, gI_sR, gJ_sR, gR_sR, gL_sR, gN_sR, cn_sR, sn_sR, gI_nX, gJ_nX, gR_nX, gL_nX, gN_nX, cn_nX, sn_nX, gI_wI, gJ_wI, gR_wI, gL_wI, gN_wI, cn_wI, sn_wI, gI_wJ, gJ_wJ, gR_wJ, gL_wJ, gN_wJ, cn_wJ, sn_wJ, gI_nW, gJ_nW, gR_nW, gL_nW, gN_nW, cn_nW, sn_nW, t0]
theorem X9_adds_e (u : St) (fu : Nat) : f_X9_adds fu u 1 = some (rS u (gI u 9 1 61 + 1, gI u 9 1 58 + gI u 9 1 53, gJ u 9 1 57 + gJ u 9 1 56, (if gI u 9 1 58 = 0 then gI u 9 1 54 else mn (gI u 9 1 59) (gI u 9 1 54)), if gI u 9 1 58 = 0 then gI u 9 1 55 else mx (gI u 9 1 60) (gI u 9 1 55))) := by
  have e10 : ¬ (1 = 0) := by decide
  have k68 : ∀ (v : St) (t : Int32), f_X9_adds_b68 fu v 1 t 1 = some (sI (sI (sI v 9 1 60 t) 9 1 58 (gI v 9 1 58 + gI v 9 1 53)) 9 1 61 (gI v 9 1 61 + 1)) := fun v t => by
    unfold f_X9_adds_b68
    simp only [e10, reduceIte, lt, gI_sI, gJ_sI, gR_sI, gL_sI, gN_sI, cn_sI, sn_sI, gI_sJ, gJ_sJ, gR_sJ, gL_sJ, gN_sJ, cn_sJ, sn_sJ, gI_sR, gJ_sR, gR_sR, gL_sR, gN_sR, cn_sR, sn_sR, gI_nX, gJ_nX, gR_nX, gL_nX, gN_nX, cn_nX, sn_nX, gI_wI, gJ_wI, gR_wI, gL_wI, gN_wI, cn_wI, sn_wI, gI_wJ, gJ_wJ, gR_wJ, gL_wJ, gN_wJ, cn_wJ, sn_wJ, gI_nW, gJ_nW, gR_nW, gL_nW, gN_nW, cn_nW, sn_nW, Nat.reduceEqDiff, and_false]
  have k39 : ∀ (v : St) (t : Int32), f_X9_adds_b39 fu v 1 t 1 = f_X9_adds_b68 fu (sI v 9 1 59 t) 1 (if gI v 9 1 58 = 0 then gI v 9 1 55 else mx (gI v 9 1 60) (gI v 9 1 55)) 1 := fun v t => by
    unfold f_X9_adds_b39
    simp only [e10, reduceIte, lt, gI_sI, gJ_sI, gR_sI, gL_sI, gN_sI, cn_sI, sn_sI, gI_sJ, gJ_sJ, gR_sJ, gL_sJ, gN_sJ, cn_sJ, sn_sJ, gI_sR, gJ_sR, gR_sR, gL_sR, gN_sR, cn_sR, sn_sR, gI_nX, gJ_nX, gR_nX, gL_nX, gN_nX, cn_nX, sn_nX, gI_wI, gJ_wI, gR_wI, gL_wI, gN_wI, cn_wI, sn_wI, gI_wJ, gJ_wJ, gR_wJ, gL_wJ, gN_wJ, cn_wJ, sn_wJ, gI_nW, gJ_nW, gR_nW, gL_nW, gN_nW, cn_nW, sn_nW, Nat.reduceEqDiff, and_false, J_max, bI]
    by_cases hq : gI v 9 1 58 = 0
    · rw [if_pos hq, if_pos hq]
    · rw [if_neg hq, if_neg hq]
  unfold f_X9_adds
  simp only [e10, reduceIte, lt, J_min, bI]
  have r58 : ∀ w, gI (sJ u 9 1 57 w) = gI u := fun _ => rfl
  rw [r58]
  by_cases hq : gI u 9 1 58 = 0
  · rw [if_pos hq, if_pos hq, if_pos hq, k39, k68, r58, if_pos hq]
    simp only [gI_sI, Nat.reduceEqDiff, and_false, reduceIte, r58]
    rfl
  · rw [if_neg hq, if_neg hq, if_neg hq, k39, k68, r58, if_neg hq]
    simp only [gI_sI, Nat.reduceEqDiff, and_false, reduceIte, r58]
    rfl
theorem X9_adds {s : St} {X : List (List Pt)} (h : TM s (tly X)) (hX : ∀ b ∈ X, b ≠ []) (hl : X.flatten.length ≤ 40000) (hl2 : X.length ≤ 40000) {n : Nat} {S K : Nat → Int} {hh : Int} {g : List Pt} (hg : g ≠ []) (hv : ∀ p ∈ g, -10000 ≤ p.2.toInt ∧ p.2.toInt ≤ 10000) (fu : Nat) : f_X9_adds fu (bG s n S K hh g) 1 = some (rS (bG s n S K hh g) (tly (X ++ [g]))) := by
  have e10 : ¬ (1 = 0) := by decide
  obtain ⟨h1, h2, h3, h4, h5⟩ := bG_tm h n S K hh g
  obtain ⟨y1, y2, y3⟩ := tly_b X
  have hz : (tly X).2.1 = 0 ↔ (tly X).1 = 0 := by
    rw [y1, y2]
    have a1 : (nI X.flatten.length = 0) ↔ X.flatten.length = 0 := ni_eq (b := 0) (by omega) (by omega)
    have a2 : (nI X.length = 0) ↔ X.length = 0 := ni_eq (b := 0) (by omega) (by omega)
    rw [a1, a2]
    have := fl_ne hX
    rw [← List.length_eq_zero_iff, ← List.length_eq_zero_iff] at this
    exact this
  have hgr : (tly X).1 = 0 → gmx g = mx (tly X).2.2.2.2 (gmx g) := by
    intro q
    rw [y1] at q
    have a2 : (nI X.length = 0) ↔ X.length = 0 := ni_eq (b := 0) (by omega) (by omega)
    have hX0 : X = [] := List.length_eq_zero_iff.mp (a2.mp q)
    subst hX0
    have b := gmx_bd hg hv
    have m20 : (-20000 : Int32).toInt = -20000 := by decide
    refine nu_ext ?_
    rw [tly_nil, mx_i, t0_4, m20]
    omega
  rw [tly_s, X9_adds_e]
  have g53 : gI (bG s n S K hh g) 9 1 53 = nI g.length := by unfold bG; rw [bS_53]
  have g54 : gI (bG s n S K hh g) 9 1 54 = gmn g := by unfold bG; rw [bS_54]
  have g55 : gI (bG s n S K hh g) 9 1 55 = gmx g := by unfold bG; rw [bS_55]
  have g56 : gJ (bG s n S K hh g) 9 1 56 = s64 g := by unfold bG; rw [bS_56]
  rw [h1, h2, h3, h4, h5, g53, g54, g55, g56]
  congr 2
  unfold tst
  by_cases hq : (tly X).1 = 0
  · rw [if_pos (hz.mpr hq), if_pos (hz.mpr hq), if_pos hq, ← hgr hq]
  · rw [if_neg (fun q => hq (hz.mp q)), if_neg (fun q => hq (hz.mp q)), if_neg hq]
theorem X9_b76 {v : St} (p1 : ¬ gR v 9 1 4 = 0) (b : inb (gI v 9 1 51) (gL v 10 (gR v 9 1 4)) = true) {fu : Nat} {k : St → Nat → Int32 → Int32 → Int32 → Int32 → Option St} {F T e x : Int32} :
    f_X9_totals_b76 fu k v 1 F T e x = if T ≤ F then k v 1 F T e x else if T ≤ gI v 9 1 52 then k v 1 F T e x else if gI v 9 1 52 + gI v 10 (gR v 9 1 4) (ix (gI v 9 1 51)) ≤ F then k v 1 F T e x else k (sI (sI v 9 1 63 (gI v 9 1 63 + 1)) 9 1 62 (gI v 9 1 62 + gI v 9 1 53)) 1 F T e x := by
  have e10 : ¬ (1 = 0) := by decide
  have a1 : gI (sI v 9 1 63 (gI v 9 1 63 + 1)) 9 1 62 = gI v 9 1 62 := by rw [gI_sI, if_neg (fun q => by omega)]
  have a2 : gI (sI v 9 1 63 (gI v 9 1 63 + 1)) 9 1 53 = gI v 9 1 53 := by rw [gI_sI, if_neg (fun q => by omega)]
  unfold f_X9_totals_b76
  simp only [e10, reduceIte, p1, b, Bool.true_eq_false, lt, a1, a2]
def spn (n : Nat) (S K : Nat → Int) (h : Int) (g : List Pt) : Int := match tq (sm n S K h) n (ky (ka n S K h) g) with
  | none => 1
  | some i => S i
theorem spn_of {n : Nat} {S K : Nat → Int} {h : Int} {g : List Pt} {i : Nat} (hi : TI (sm n S K h) n (ky (ka n S K h) g) i) : spn n S K h g = S i := by unfold spn; rw [tq_some.mpr hi]
def fin (n : Nat) (S K : Nat → Int) (h F T : Int) (g : List Pt) : Bool := decide (F ≤ ky (ka n S K h) g ∧ ky (ka n S K h) g + spn n S K h g ≤ T)
def fpa (n : Nat) (S K : Nat → Int) (h F T : Int) (g : List Pt) : Bool := decide (¬ (F ≤ ky (ka n S K h) g ∧ ky (ka n S K h) g + spn n S K h g ≤ T) ∧ (F < T ∧ ky (ka n S K h) g < T ∧ F < ky (ka n S K h) g + spn n S K h g))
theorem ft_s {f : List Pt → Bool} (A : List (List Pt)) (g : List Pt) : (A ++ [g]).filter f = if f g = true then A.filter f ++ [g] else A.filter f := by
  rw [List.filter_append]
  by_cases h : f g = true
  · rw [if_pos h, List.filter_cons_of_pos h, List.filter_nil]
  · rw [if_neg h, List.filter_cons_of_neg h, List.filter_nil, List.append_nil]
theorem ft_len (f : List Pt → Bool) (A : List (List Pt)) : (A.filter f).flatten.length ≤ A.flatten.length ∧ (A.filter f).length ≤ A.length := by
  refine ⟨?_, List.length_filter_le _ _⟩
  induction A with
  | nil => exact Nat.le_refl _
  | cons g A ih =>
    rw [fl_cons]
    by_cases h : f g = true
    · rw [List.filter_cons_of_pos h, fl_cons]; omega
    · rw [List.filter_cons_of_neg h]; omega
section Q6
variable {s : St} {p n : Nat} {S K : Nat → Int} {R : List Nat} {H : Nat → Int32} {P : Nat → List Pt} {fu : Nat}
theorem X8_ts (hL : Lay s) (hS : Sep s) (hp : p = 1 ∨ p = 2) {i : Nat} (hid : i < 10) (ho : ¬ gR s 14 1 i = 0) {h : Int} {GG : List (List Pt)} (V : VP n S K) (W : WfG n S K h GG) (C : SerC s (gR s 14 1 i) p n S K h GG) (F T : Int32) (hfu : 50000 ≤ fu) :
    f_X8_tallyStretch fu s 1 (gR s 14 1 i) F T = some (tS (tS s 1 (tly (GG.filter (fin n S K h F.toInt T.toInt)))) 2 (tly (GG.filter (fpa n S K h F.toInt T.toInt)))) := by
  have e10 : ¬ (1 = 0) := by decide
  have e20 : ¬ (2 = 0) := by decide
  have hl := wf_len W
  have hcz := fun q q' => (tS_cz s 1 q).tr (tS_cz (tS s 1 q) 2 q')
  have Ca := fun q q' => C.cs hL hS hp hid ho (hcz q q').cs
  have loop : ∀ (B A : List (List Pt)) (m : Nat), GG = A ++ B → B.length < m → f_X8_tallyStretch_b17 fu m (tS (tS s 1 (tly (A.filter (fin n S K h F.toInt T.toInt)))) 2 (tly (A.filter (fpa n S K h F.toInt T.toInt)))) 1 (gR s 14 1 i) F T (nI A.length) = some (tS (tS s 1 (tly (GG.filter (fin n S K h F.toInt T.toInt)))) 2 (tly (GG.filter (fpa n S K h F.toInt T.toInt)))) := by
    intro B
    induction B with
    | nil =>
      intro A m e hm
      rw [List.append_nil] at e
      subst e
      cases m with
      | zero => omega
      | succ m =>
        unfold f_X8_tallyStretch_b17
        simp only [ho, reduceIte, (Ca _ _).2.2.1, ni_le (show GG.length < 2147483648 by omega) (show GG.length < 2147483648 by omega), Nat.le_refl]
    | cons g B ih =>
      intro A m e hm
      have hgx : GG[A.length]? = some g := by rw [e, List.getElem?_append_right (Nat.le_refl _)]; simp
      have hgl := get_lt hgx
      have hg := List.mem_of_getElem? hgx
      obtain ⟨t, ht, -, bg, -⟩ := wf_g V W hg
      have hs := V.sp ht.1
      have hsp := spn_of ht
      cases m with
      | zero => omega
      | succ m =>
        rw [List.length_cons] at hm
        have hih := ih (A ++ [g]) m (by rw [e, List.append_assoc]; rfl) (by omega)
        rw [List.length_append, List.length_singleton, ft_s, ft_s] at hih
        obtain ⟨w, x1, x2⟩ := X5_sp V W (Ca (tly (A.filter (fin n S K h F.toInt T.toInt))) (tly (A.filter (fpa n S K h F.toInt T.toInt)))) hgx ht (fu := fu) (by omega)
        have hst := (Ca (tly (A.filter (fin n S K h F.toInt T.toInt))) (tly (A.filter (fpa n S K h F.toInt T.toInt)))).st V W hgx
        obtain ⟨r1, -⟩ := (Ca (tly (A.filter (fin n S K h F.toInt T.toInt))) (tly (A.filter (fpa n S K h F.toInt T.toInt)))).2.2.2.1
        obtain ⟨l1, -⟩ := (Ca (tly (A.filter (fin n S K h F.toInt T.toInt))) (tly (A.filter (fpa n S K h F.toInt T.toInt)))).2.2.2.2.1
        have hc1 : (tS (tS s 1 (tly (A.filter (fin n S K h F.toInt T.toInt)))) 2 (tly (A.filter (fpa n S K h F.toInt T.toInt)))) = (tS (tS s 2 (tly (A.filter (fpa n S K h F.toInt T.toInt)))) 1 (tly (A.filter (fin n S K h F.toInt T.toInt)))) := tS_cm s (by decide) _ _
        have add1 : f_X6_add fu (tS (tS s 1 (tly (A.filter (fin n S K h F.toInt T.toInt)))) 2 (tly (A.filter (fpa n S K h F.toInt T.toInt)))) 1 (gR s 14 1 i) (nI A.length) = some (tS (tS s 1 (tly (A.filter (fin n S K h F.toInt T.toInt) ++ [g]))) 2 (tly (A.filter (fpa n S K h F.toInt T.toInt)))) := by
          have hC := Ca (tly (A.filter (fin n S K h F.toInt T.toInt))) (tly (A.filter (fpa n S K h F.toInt T.toInt)))
          rw [hc1] at hC ⊢
          rw [X6_add e10 W _ hC hgx, ← tly_s, tS_cm s (τ := 2) (τ' := 1) (by decide)]
        have add2 : f_X6_add fu (tS (tS s 1 (tly (A.filter (fin n S K h F.toInt T.toInt)))) 2 (tly (A.filter (fpa n S K h F.toInt T.toInt)))) 2 (gR s 14 1 i) (nI A.length) = some (tS (tS s 1 (tly (A.filter (fin n S K h F.toInt T.toInt)))) 2 (tly (A.filter (fpa n S K h F.toInt T.toInt) ++ [g]))) := by
          rw [X6_add e20 W _ (Ca (tly (A.filter (fin n S K h F.toInt T.toInt))) (tly (A.filter (fpa n S K h F.toInt T.toInt)))) hgx, ← tly_s]
        have f1 : fin n S K h F.toInt T.toInt g = true ↔ (F.toInt ≤ ky (ka n S K h) g ∧ ky (ka n S K h) g + S t ≤ T.toInt) := by unfold fin; rw [decide_eq_true_eq, hsp]
        have f2 : fpa n S K h F.toInt T.toInt g = true ↔ (¬ (F.toInt ≤ ky (ka n S K h) g ∧ ky (ka n S K h) g + S t ≤ T.toInt) ∧ (F.toInt < T.toInt ∧ ky (ka n S K h) g < T.toInt ∧ F.toInt < ky (ka n S K h) g + S t)) := by unfold fpa; rw [decide_eq_true_eq, hsp]
        generalize hU : (tS (tS s 1 (tly (A.filter (fin n S K h F.toInt T.toInt)))) 2 (tly (A.filter (fpa n S K h F.toInt T.toInt)))) = U at hst r1 l1 x1 add1 add2 ⊢
        have hUR : gR U = gR s := by rw [← hU]; rfl
        have hU8 : gI U 5 (gR s 14 1 i) 8 = nI GG.length := by rw [← hU]; exact (Ca _ _).2.2.1
        have b1 : inb (nI A.length) (gL U 10 (gR U 5 (gR s 14 1 i) 3)) = true := nu_inbn (by omega) (by omega)
        have en : (gI U 10 (gR U 5 (gR s 14 1 i) 3) A.length + w).toInt = ky (ka n S K h) g + S t := by rw [nu_add (by rw [hst, x2]; omega) (by rw [hst, x2]; omega), hst, x2]
        unfold f_X8_tallyStretch_b17 f_X8_tallyStretch_b71 f_X8_tallyStretch_b96
        simp only [ho, reduceIte, hU8, ni_le (show GG.length < 2147483648 by omega) (show A.length < 2147483648 by omega), show ¬ GG.length ≤ A.length by omega, r1, b1, Bool.true_eq_false, lt, nu_ixn (show A.length < 2147483648 by omega), x1, bI, nu_lt, hst, en, e10, J_max, J_min, nu_le, mx_i, mn_i, nu_nIa]
        simp only [hUR, lr_8_1_7 hL, lr_8_1_8 hL, e10, e20, reduceIte, add1, add2, bV]
        by_cases c1 : ky (ka n S K h) g < F.toInt
        · have n1 : ¬ fin n S K h F.toInt T.toInt g = true := fun q => by have := f1.mp q; omega
          rw [if_neg n1] at hih
          rw [if_pos c1]
          by_cases c3 : min (ky (ka n S K h) g + S t) T.toInt ≤ max (ky (ka n S K h) g) F.toInt
          · have n2 : ¬ fpa n S K h F.toInt T.toInt g = true := fun q => by have := f2.mp q; omega
            rw [if_neg n2, hU] at hih
            rw [if_pos c3]
            exact hih
          · have n2 : fpa n S K h F.toInt T.toInt g = true := f2.mpr (by omega)
            rw [if_pos n2] at hih
            rw [if_neg c3]
            exact hih
        · rw [if_neg c1]
          by_cases c2 : T.toInt < ky (ka n S K h) g + S t
          · have n1 : ¬ fin n S K h F.toInt T.toInt g = true := fun q => by have := f1.mp q; omega
            rw [if_neg n1] at hih
            rw [if_pos c2]
            by_cases c3 : min (ky (ka n S K h) g + S t) T.toInt ≤ max (ky (ka n S K h) g) F.toInt
            · have n2 : ¬ fpa n S K h F.toInt T.toInt g = true := fun q => by have := f2.mp q; omega
              rw [if_neg n2, hU] at hih
              rw [if_pos c3]
              exact hih
            · have n2 : fpa n S K h F.toInt T.toInt g = true := f2.mpr (by omega)
              rw [if_pos n2] at hih
              rw [if_neg c3]
              exact hih
          · have n1 : fin n S K h F.toInt T.toInt g = true := f1.mpr (by omega)
            have n2 : ¬ fpa n S K h F.toInt T.toInt g = true := fun q => by have := f2.mp q; omega
            rw [if_pos n1, if_neg n2] at hih
            rw [if_neg c2]
            exact hih
  unfold f_X8_tallyStretch
  simp only [e10, e20, reduceIte, lr_8_1_7 hL, lr_8_1_8 hL, X6_clear s e10, bV, (tS_g s _ _).1, X6_clear _ e20]
  exact loop GG [] fu rfl (by omega)
theorem X9_totals (h : RQ s n S K R H P) {id : Nat} (hid : id < 10) {GG : List (List Pt)} (hP : P id = GG.flatten) (W : WfG n S K (H id).toInt GG) (F T : Int32) (hfu : 50000 ≤ fu) :
    ∃ s2, f_X9_totals fu s 1 (nI id) F T = some s2 ∧ MZ s s2 ∧ TM s2 (tly (GG.filter (fin n S K (H id).toInt F.toInt T.toInt))) ∧ gI s2 9 1 63 = (tly (GG.filter (fpa n S K (H id).toInt F.toInt T.toInt))).1 ∧ gI s2 9 1 62 = (tly (GG.filter (fpa n S K (H id).toInt F.toInt T.toInt))).2.1 := by
  have e10 : ¬ (1 = 0) := by decide
  have hpos := h.pos hid hP
  have hl := wf_len W
  have hV := h.2.1.2
  have hn := hV.1
  have loop : ∀ (B A : List (List Pt)) (m : Nat) (s1 : St), GG = A ++ B → MZ s s1 → B.length < m → TM s1 (tly (A.filter (fin n S K (H id).toInt F.toInt T.toInt))) → gI s1 9 1 63 = (tly (A.filter (fpa n S K (H id).toInt F.toInt T.toInt))).1 → gI s1 9 1 62 = (tly (A.filter (fpa n S K (H id).toInt F.toInt T.toInt))).2.1 →
      ∃ s2, f_X9_totals_b28 fu m s1 1 F T (nI (off P id + GG.flatten.length)) (nI (off P id + A.flatten.length)) = some s2 ∧ MZ s s2 ∧ TM s2 (tly (GG.filter (fin n S K (H id).toInt F.toInt T.toInt))) ∧ gI s2 9 1 63 = (tly (GG.filter (fpa n S K (H id).toInt F.toInt T.toInt))).1 ∧ gI s2 9 1 62 = (tly (GG.filter (fpa n S K (H id).toInt F.toInt T.toInt))).2.1 := by
    intro B
    induction B with
    | nil =>
      intro A m s1 e hm hl ht h63 h62
      rw [List.append_nil] at e
      subst e
      cases m with
      | zero => omega
      | succ m =>
        refine ⟨s1, ?_, hm, ht, h63, h62⟩
        unfold f_X9_totals_b28
        rw [if_pos ((ni_le (by omega) (by omega)).mpr (Nat.le_refl _))]
    | cons g B ih =>
      intro A m s1 e hm hl htm h63 h62
      have hg : g ∈ GG := by rw [e]; exact List.mem_append_right _ List.mem_cons_self
      have hgl := wf_gl W hg
      obtain ⟨t, ht, -, bg, hgne⟩ := wf_g hV W hg
      have hs := hV.sp ht.1
      have hsp := spn_of ht
      have htn := ht.1
      have hA : A.flatten.length + g.length ≤ GG.flatten.length := by rw [e, fl_app, fl_cons]; omega
      have hAl : A.length ≤ GG.length := by rw [e, List.length_append]; omega
      have e2 : GG = (A ++ [g]) ++ B := by rw [e, List.append_assoc]; rfl
      cases m with
      | zero => omega
      | succ m =>
        rw [List.length_cons] at hl
        have hmz := hm.tr (bG_ms s1 n S K (H id).toInt g)
        obtain ⟨-, ⟨⟨⟨p1, p2⟩, ⟨p3, p4⟩, p5, p6⟩, -⟩, -⟩ := h.mz hmz
        obtain ⟨q1, -⟩ := p6 t htn
        have bt' : inb (nI t) 4 = true := nu_inbn (by omega) (by omega)
        have kg : (Int32.ofInt (ky (ka n S K (H id).toInt) g)).toInt = ky (ka n S K (H id).toInt) g := nu_of (by omega) (by omega)
        have s52 : gI (bG s1 n S K (H id).toInt g) 9 1 52 = Int32.ofInt (ky (ka n S K (H id).toInt) g) := by unfold bG; rw [bS_52]
        have s51 : gI (bG s1 n S K (H id).toInt g) 9 1 51 = nI t := by unfold bG; rw [bS_51, tq_some.mpr ht]; rfl
        have s53 : gI (bG s1 n S K (H id).toInt g) 9 1 53 = nI g.length := by unfold bG; rw [bS_53]
        have en : (Int32.ofInt (ky (ka n S K (H id).toInt) g) + gI (bG s1 n S K (H id).toInt g) 10 (gR (bG s1 n S K (H id).toInt g) 9 1 4) t).toInt = ky (ka n S K (H id).toInt) g + S t := by rw [nu_add (by rw [kg, q1]; omega) (by rw [kg, q1]; omega), kg, q1]
        have f1 : fin n S K (H id).toInt F.toInt T.toInt g = true ↔ (F.toInt ≤ ky (ka n S K (H id).toInt) g ∧ ky (ka n S K (H id).toInt) g + S t ≤ T.toInt) := by unfold fin; rw [decide_eq_true_eq, hsp]
        have f2 : fpa n S K (H id).toInt F.toInt T.toInt g = true ↔ (¬ (F.toInt ≤ ky (ka n S K (H id).toInt) g ∧ ky (ka n S K (H id).toInt) g + S t ≤ T.toInt) ∧ (F.toInt < T.toInt ∧ ky (ka n S K (H id).toInt) g < T.toInt ∧ F.toInt < ky (ka n S K (H id).toInt) g + S t)) := by unfold fpa; rw [decide_eq_true_eq, hsp]
        have fl1 := ft_len (fin n S K (H id).toInt F.toInt T.toInt) A
        have hadd := X9_adds (fu := fu) (n := n) (S := S) (K := K) (hh := (H id).toInt) htm (fun b hb => W.1.1 b (by rw [e]; exact List.mem_append_left _ (List.mem_filter.mp hb).1)) (by omega) (by omega) hgne (wf_v W hg)
        have t63 := (bG_f s1 n S K (H id).toInt g (j := 63) (Or.inr (by omega))).trans h63
        have t62 := (bG_f s1 n S K (H id).toInt g (j := 62) (Or.inr (by omega))).trans h62
        have ttm := bG_tm htm n S K (H id).toInt g
        have hnb := X9_nb (h.mz hm) hid hP W e (fu := fu) hfu
        generalize hU : bG s1 n S K (H id).toInt g = U at hmz p1 p3 q1 s52 s51 s53 en hadd t63 t62 ttm hnb
        -- three ways on
        have go1 : fin n S K (H id).toInt F.toInt T.toInt g = true → ∃ s2, f_X9_totals_b28 fu m (rS U (tly (A.filter (fin n S K (H id).toInt F.toInt T.toInt) ++ [g]))) 1 F T (nI (off P id + GG.flatten.length)) (nI (off P id + (A ++ [g]).flatten.length)) = some s2 ∧ MZ s s2 ∧ TM s2 (tly (GG.filter (fin n S K (H id).toInt F.toInt T.toInt))) ∧ gI s2 9 1 63 = (tly (GG.filter (fpa n S K (H id).toInt F.toInt T.toInt))).1 ∧ gI s2 9 1 62 = (tly (GG.filter (fpa n S K (H id).toInt F.toInt T.toInt))).2.1 := by
          intro c
          have n2 : ¬ fpa n S K (H id).toInt F.toInt T.toInt g = true := fun q => by have := f2.mp q; have := f1.mp c; omega
          refine ih (A ++ [g]) m _ e2 (hmz.tr (rS_mz _ _)) (by omega) ?_ ?_ ?_
          · rw [ft_s, if_pos c]; exact rS_tm _ _
          · rw [ft_s, if_neg n2, rS_f _ _ (Or.inr (by omega))]; exact t63
          · rw [ft_s, if_neg n2, rS_f _ _ (Or.inr (by omega))]; exact t62
        have go2 : ¬ fin n S K (H id).toInt F.toInt T.toInt g = true → ∃ s2, f_X9_totals_b76 fu (f_X9_totals_b28 fu m) U 1 F T (nI (off P id + GG.flatten.length)) (nI (off P id + (A ++ [g]).flatten.length)) = some s2 ∧ MZ s s2 ∧ TM s2 (tly (GG.filter (fin n S K (H id).toInt F.toInt T.toInt))) ∧ gI s2 9 1 63 = (tly (GG.filter (fpa n S K (H id).toInt F.toInt T.toInt))).1 ∧ gI s2 9 1 62 = (tly (GG.filter (fpa n S K (H id).toInt F.toInt T.toInt))).2.1 := by
          intro c
          have c' : ¬ (F.toInt ≤ ky (ka n S K (H id).toInt) g ∧ ky (ka n S K (H id).toInt) g + S t ≤ T.toInt) := fun q => c (f1.mpr q)
          have skip : ¬ fpa n S K (H id).toInt F.toInt T.toInt g = true → ∃ s2, f_X9_totals_b28 fu m U 1 F T (nI (off P id + GG.flatten.length)) (nI (off P id + (A ++ [g]).flatten.length)) = some s2 ∧ MZ s s2 ∧ TM s2 (tly (GG.filter (fin n S K (H id).toInt F.toInt T.toInt))) ∧ gI s2 9 1 63 = (tly (GG.filter (fpa n S K (H id).toInt F.toInt T.toInt))).1 ∧ gI s2 9 1 62 = (tly (GG.filter (fpa n S K (H id).toInt F.toInt T.toInt))).2.1 := by
            intro d
            refine ih (A ++ [g]) m _ e2 hmz (by omega) ?_ ?_ ?_
            · rw [ft_s, if_neg c]; exact ttm
            · rw [ft_s, if_neg d]; exact t63
            · rw [ft_s, if_neg d]; exact t62
          rw [X9_b76 p1 (by rw [p3, s51]; exact bt')]
          rw [s51, nu_ixn (show t < 2147483648 by omega), s52]
          simp only [nu_le, kg, en]
          by_cases c1 : T.toInt ≤ F.toInt
          · rw [if_pos c1]
            exact skip (fun q => by have := f2.mp q; omega)
          · rw [if_neg c1]
            by_cases c2 : T.toInt ≤ ky (ka n S K (H id).toInt) g
            · rw [if_pos c2]
              exact skip (fun q => by have := f2.mp q; omega)
            · rw [if_neg c2]
              by_cases c3 : ky (ka n S K (H id).toInt) g + S t ≤ F.toInt
              · rw [if_pos c3]
                exact skip (fun q => by have := f2.mp q; omega)
              · rw [if_neg c3]
                have d : fpa n S K (H id).toInt F.toInt T.toInt g = true := f2.mpr ⟨c', by omega⟩
                refine ih (A ++ [g]) m _ e2 ((hmz.tr (MZ.s9 _ (by omega) _)).tr (MZ.s9 _ (by omega) _)) (by omega) ?_ ?_ ?_
                · rw [ft_s, if_neg c]
                  exact (ttm.w (Or.inr (by omega)) _).w (Or.inr (by omega)) _
                · rw [ft_s, if_pos d, tly_s]
                  rw [gI_sI, if_neg (fun q => by omega), gI_sI, if_pos ⟨rfl, rfl, rfl⟩, t63]
                  rfl
                · rw [ft_s, if_pos d, tly_s]
                  rw [gI_sI, if_pos ⟨rfl, rfl, rfl⟩, t62, s53]
                  rfl
        unfold f_X9_totals_b28
        rw [if_neg (fun q => by have := (ni_le (by omega) (by omega)).mp q; omega)]
        simp only [e10, reduceIte, hnb, bI, nu_lt, s52, s51, kg, p1, p3, bt', Bool.true_eq_false, nu_ixn (show t < 2147483648 by omega), en, hadd, bV]
        by_cases c1 : ky (ka n S K (H id).toInt) g < F.toInt
        · rw [if_pos c1]
          exact go2 (fun q => by have := f1.mp q; omega)
        · rw [if_neg c1]
          by_cases c2 : T.toInt < ky (ka n S K (H id).toInt) g + S t
          · rw [if_pos c2]
            exact go2 (fun q => by have := f1.mp q; omega)
          · rw [if_neg c2]
            exact go1 (f1.mpr (by omega))
  have hm0 : MZ s (sI (sI (rS s t0) 9 1 62 0) 9 1 63 0) := ((rS_mz s t0).tr (MZ.s9 _ (by omega) _)).tr (MZ.s9 _ (by omega) _)
  obtain ⟨-, -, -, -, hPt, hPW, hTm⟩ := h.mz hm0
  obtain ⟨s2, x1, x2⟩ := loop GG [] fu (sI (sI (rS s t0) 9 1 62 0) 9 1 63 0) rfl hm0 (by omega) (((rS_tm s t0).w (Or.inr (by omega)) _).w (Or.inr (by omega)) _) (by simp only [gI_sI, gJ_sI, gR_sI, gL_sI, gN_sI, cn_sI, sn_sI, gI_sJ, gJ_sJ, gR_sJ, gL_sJ, gN_sJ, cn_sJ, sn_sJ, gI_sR, gJ_sR, gR_sR, gL_sR, gN_sR, cn_sR, sn_sR, gI_nX, gJ_nX, gR_nX, gL_nX, gN_nX, cn_nX, sn_nX, gI_wI, gJ_wI, gR_wI, gL_wI, gN_wI, cn_wI, sn_wI, gI_wJ, gJ_wJ, gR_wJ, gL_wJ, gN_wJ, cn_wJ, sn_wJ, gI_nW, gJ_nW, gR_nW, gL_nW, gN_nW, cn_nW, sn_nW, and_self, reduceIte, List.filter_nil, tly_nil, t0_0]) (by simp only [gI_sI, gJ_sI, gR_sI, gL_sI, gN_sI, cn_sI, sn_sI, gI_sJ, gJ_sJ, gR_sJ, gL_sJ, gN_sJ, cn_sJ, sn_sJ, gI_sR, gJ_sR, gR_sR, gL_sR, gN_sR, cn_sR, sn_sR, gI_nX, gJ_nX, gR_nX, gL_nX, gN_nX, cn_nX, sn_nX, gI_wI, gJ_wI, gR_wI, gL_wI, gN_wI, cn_wI, sn_wI, gI_wJ, gJ_wJ, gR_wJ, gL_wJ, gN_wJ, cn_wJ, sn_wJ, gI_nW, gJ_nW, gR_nW, gL_nW, gN_nW, cn_nW, sn_nW, Nat.reduceEqDiff, and_false, and_self, reduceIte, List.filter_nil, tly_nil, t0_1])
  refine ⟨s2, ?_, x2⟩
  unfold f_X9_totals
  simp only [e10, reduceIte, X9_clears, bV, lt, X9_bo hPt hPW hTm hid hfu, X9_fo hPt hPW hTm hid hfu, bI, off_s, hP]
  exact x1
end Q6
