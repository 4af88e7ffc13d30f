/-! ===== alarms: the reference ===== -/
def QM (s : St) (q : Q4) : Prop := gI s 9 1 65 = q.1 ∧ gI s 9 1 66 = q.2.1 ∧ gI s 9 1 67 = q.2.2.1 ∧ gI s 9 1 68 = q.2.2.2
theorem QM.to {s s' : St} {q : Q4} (h : QM s q) (e : ∀ j, 55 < j → gI s' 9 1 j = gI s 9 1 j) : QM s' q := by
  unfold QM
  rw [e 65 (by omega), e 66 (by omega), e 67 (by omega), e 68 (by omega)]
  exact h
theorem cut_u {κ : Int → Int} {c : Int} {A B A' B' : List (List Pt)} (e : A ++ B = A' ++ B') (h1 : ∀ g ∈ A, ky κ g < c) (h2 : ∀ g ∈ B, c ≤ ky κ g) (h1' : ∀ g ∈ A', ky κ g < c) (h2' : ∀ g ∈ B', c ≤ ky κ g) : A = A' ∧ B = B' := by
  have f : ∀ A B : List (List Pt), (∀ g ∈ A, ky κ g < c) → (∀ g ∈ B, c ≤ ky κ g) → (A ++ B).filter (fun g => decide (ky κ g < c)) = A := by
    intro A B h1 h2
    rw [List.filter_append, List.filter_eq_self.mpr (fun g hg => decide_eq_true (h1 g hg)), List.filter_eq_nil_iff.mpr (fun g hg q => by have := of_decide_eq_true q; have := h2 g hg; omega), List.append_nil]
  have ea : A = A' := by rw [← f A B h1 h2, e, f A' B' h1' h2']
  subst ea
  exact ⟨rfl, List.append_cancel_left e⟩
section Q14
variable {s : St} {p n : Nat} {S K : Nat → Int} {R : List Nat} {H : Nat → Int32} {P : Nat → List Pt} {fu : Nat}
theorem al_pv (h : Int) (L : List AO) : ∀ (X : List (List Pt)) (t : AT), X = [] ∨ (X.foldl (alS n S K h L) t).1 ∈ X := by
  intro X
  induction X with
  | nil => intro t; exact Or.inl rfl
  | cons g X ih =>
    intro t
    right
    rw [List.foldl_cons]
    rcases ih (alS n S K h L t g) with q | q
    · subst q
      rw [List.foldl_nil, alS_1]
      exact List.mem_cons_self
    · exact List.mem_cons_of_mem _ q
theorem X9_b109 {v : St} {q : Q4} (hq : QM v q) {t : Nat} (ht : t < 4) (p1 : ¬ gR v 9 1 4 = 0) (p2 : gL v 10 (gR v 9 1 4) = 4) {sp st : Int32} (hsp : gI v 10 (gR v 9 1 4) t = sp) (hst : gI v 9 1 52 = st) {r : Nat} {rs : Int32} (hrs : rs = st + sp - nI r * sp) (k31 : St → Nat → Int32 → Int32 → Option St) (k58 : St → Nat → Int32 → Int32 → Int32 → Int32 → Int32 → Int32 → Option St) (a E pos : Int32) :
    ∃ v', f_X9_tellAlarms_b109 fu k31 k58 v 1 a (nI t) E pos 1 (nI r) = k58 v' 1 a (nI t) E (nI r) (st + sp) pos ∧ MZ v v' ∧ QM v' (alU q r rs st) := by
  have e10 : ¬ (1 = 0) := by decide
  have z10 : ¬ ((1 : Int32) = 0) := by decide
  have bb : inb (nI t) 4 = true := nu_inbn ht (by omega)
  obtain ⟨q1, q2, q3, q4⟩ := hq
  have key : ∀ x, ∃ v', f_X9_tellAlarms_b151 fu k31 k58 v 1 a (nI t) E (nI r) (st + sp) pos x 1 = k58 v' 1 a (nI t) E (nI r) (st + sp) pos ∧ MZ v v' ∧ QM v' (q.1 + 1, x, if nI r ≤ q.2.2.1 then q.2.2.1 else nI r, if nI r ≤ q.2.2.1 then q.2.2.2 else rs) := by
    intro x
    have g65 : gI (sI v 9 1 66 x) 9 1 65 = q.1 := by rw [gI_sI, if_neg (by omega)]; exact q1
    have g67 : gI (sI (sI v 9 1 66 x) 9 1 65 (q.1 + 1)) 9 1 67 = q.2.2.1 := by rw [gI_sI, if_neg (by omega), gI_sI, if_neg (by omega)]; exact q3
    have m0 : MZ v (sI (sI v 9 1 66 x) 9 1 65 (q.1 + 1)) := (MZ.s9 v (by omega) x).tr (MZ.s9 _ (by omega) _)
    by_cases c : nI r ≤ q.2.2.1
    · refine ⟨sI (sI v 9 1 66 x) 9 1 65 (q.1 + 1), ?_, m0, ?_⟩
      · have c' : ¬ q.2.2.1 < nI r := fun w => by have h1 := nu_lt.mp w; have h2 := nu_le.mp c; omega
        unfold f_X9_tellAlarms_b151
        simp only [e10, reduceIte, lt, g65, g67, c']
      · unfold QM
        rw [if_pos c, if_pos c]
        refine ⟨?_, ?_, g67, ?_⟩
        · rw [gI_sI, if_pos ⟨rfl, rfl, rfl⟩]
        · rw [gI_sI, if_neg (by omega), gI_sI, if_pos ⟨rfl, rfl, rfl⟩]
        · rw [gI_sI, if_neg (by omega), gI_sI, if_neg (by omega)]; exact q4
    · refine ⟨sI (sI (sI (sI v 9 1 66 x) 9 1 65 (q.1 + 1)) 9 1 67 (nI r)) 9 1 68 rs, ?_, (m0.tr (MZ.s9 _ (by omega) _)).tr (MZ.s9 _ (by omega) _), ?_⟩
      · have c' : q.2.2.1 < nI r := nu_lt.mpr (by have h2 : ¬ _ := fun w => c (nu_le.mpr w); omega)
        have gs : gI (sI (sI (sI v 9 1 66 x) 9 1 65 (q.1 + 1)) 9 1 67 (nI r)) 10 (gR v 9 1 4) t = sp := by rw [gI_sI, if_neg (by omega), gI_sI, if_neg (by omega), gI_sI, if_neg (by omega)]; exact hsp
        unfold f_X9_tellAlarms_b151
        simp only [e10, reduceIte, lt, g65, g67, c']
        have hR : gR (sI (sI (sI v 9 1 66 x) 9 1 65 (q.1 + 1)) 9 1 67 (nI r)) = gR v := rfl
        have hLn : gL (sI (sI (sI v 9 1 66 x) 9 1 65 (q.1 + 1)) 9 1 67 (nI r)) = gL v := rfl
        rw [hR, hLn, if_neg p1, p2, if_neg (by rw [bb]; decide), nu_ixn (by omega), gs, ← hrs]
      · unfold QM
        rw [if_neg c, if_neg c]
        refine ⟨?_, ?_, ?_, ?_⟩
        · rw [gI_sI, if_neg (by omega), gI_sI, if_neg (by omega), gI_sI, if_pos ⟨rfl, rfl, rfl⟩]
        · rw [gI_sI, if_neg (by omega), gI_sI, if_neg (by omega), gI_sI, if_neg (by omega), gI_sI, if_pos ⟨rfl, rfl, rfl⟩]
        · rw [gI_sI, if_neg (by omega), gI_sI, if_pos ⟨rfl, rfl, rfl⟩]
        · rw [gI_sI, if_pos ⟨rfl, rfl, rfl⟩]
  unfold f_X9_tellAlarms_b109 alU
  rw [if_neg e10, if_neg p1, p2, if_neg (by rw [bb]; decide), nu_ixn (by omega), hsp, hst]
  simp only [lt]
  rw [if_neg z10, q1, q2]
  by_cases c : q.1 = 0
  · rw [if_pos c, if_pos c]; exact key st
  · rw [if_neg c, if_neg c]; exact key q.2.1
theorem X9_b109z {v : St} {t : Nat} (ht : t < 4) (p1 : ¬ gR v 9 1 4 = 0) (p2 : gL v 10 (gR v 9 1 4) = 4) {sp st : Int32} (hsp : gI v 10 (gR v 9 1 4) t = sp) (hst : gI v 9 1 52 = st) (x : Int32) (k31 : St → Nat → Int32 → Int32 → Option St) (k58 : St → Nat → Int32 → Int32 → Int32 → Int32 → Int32 → Int32 → Option St) (a E pos : Int32) :
    f_X9_tellAlarms_b109 fu k31 k58 v 1 a (nI t) E pos 0 x = k58 v 1 a (nI t) E x (st + sp) pos := by
  have bb : inb (nI t) 4 = true := nu_inbn ht (by omega)
  unfold f_X9_tellAlarms_b109
  rw [if_neg (by decide), if_neg p1, p2, if_neg (by rw [bb]; decide), nu_ixn (by omega), hsp, hst]
  simp only [lt, if_true]
theorem X9_ta_in (h : RQ s n S K R H P) {L : List AO} (hA : AlM s L) (hw : aoW L) {id : Nat} (hid : id < 10) {GG : List (List Pt)} (hP : P id = GG.flatten) (W : WfG n S K (H id).toInt GG) {t : Nat} (ht : t < n) {sp : Int32} (hsp : gI s 10 (gR s 9 1 4) t = sp) (hfu : 50000 ≤ fu) (k31 : St → Nat → Int32 → Int32 → Option St) (a : Int32) {C : List (List Pt)} :
    ∀ (M X : List (List Pt)) (m : Nat) (s1 : St) (r : Nat) (next : Int32) (T : AT), GG = X ++ (M ++ C) → (∀ g ∈ M, TI (sm n S K (H id).toInt) n (ky (ka n S K (H id).toInt) g) t) → MZ s s1 → QM s1 T.2.2.2 →
      (r = 0 ∧ (T.2.1 = 0 ∨ ∀ g ∈ M, alB n S K (H id).toInt T.1 g = false)) ∨ (0 < r ∧ T.2.1 = r ∧ T.1 ∈ GG ∧ TI (sm n S K (H id).toInt) n (ky (ka n S K (H id).toInt) T.1) t ∧ next = Int32.ofInt (ky (ka n S K (H id).toInt) T.1) + sp ∧ T.2.2.1 = next - nI r * sp) → r ≤ X.length → M.length < m →
      ∃ s2, f_X9_tellAlarms_b58 fu k31 m s1 1 a (nI t) (nI (off P id + (X ++ M).flatten.length)) (nI r) next (nI (off P id + X.flatten.length)) = k31 s2 1 a (nI t + (-1)) ∧ MZ s s2 ∧ QM s2 (M.foldl (alS n S K (H id).toInt L) T).2.2.2 := by
  have e10 : ¬ (1 = 0) := by decide
  have hpos := h.pos hid hP
  have hlen := wf_len W
  have hV := h.2.1.2
  have hn := hV.1
  have hsp' : sp.toInt = S t := by rw [← hsp]; exact (h.2.1.1.2.2.2 t ht).1
  have hS := hV.2.1 t ht
  intro M
  induction M with
  | nil =>
    intro X m s1 r next T e hM hm hq hR hr hl
    cases m with
    | zero => omega
    | succ m =>
      refine ⟨s1, ?_, hm, hq⟩
      have hX : X.flatten.length ≤ GG.flatten.length := by rw [e, fl_app]; omega
      unfold f_X9_tellAlarms_b58
      rw [List.append_nil, if_pos ((ni_le (by omega) (by omega)).mpr (Nat.le_refl _))]
      rfl
  | cons g M ih =>
    intro X m s1 r next T e hM hm hq hR hr hl
    cases m with
    | zero => omega
    | succ m =>
      rw [List.length_cons] at hl
      have hg : g ∈ GG := by rw [e]; exact List.mem_append_right _ (List.mem_append_left _ List.mem_cons_self)
      have hgl := wf_gl W hg
      obtain ⟨t', ht', -, bg, -⟩ := wf_g hV W hg
      have hgt := hM g List.mem_cons_self
      have hA' : X.flatten.length + g.length + M.flatten.length ≤ GG.flatten.length := by rw [e, fl_app, fl_app, fl_cons]; omega
      have hXl : X.length < GG.length := by rw [e, List.length_append, List.length_append, List.length_cons]; omega
      have e2 : GG = (X ++ [g]) ++ (M ++ C) := by rw [e, List.append_assoc]; rfl
      have e3 : X ++ g :: M = (X ++ [g]) ++ M := by rw [List.append_assoc]; rfl
      have hmz := hm.tr (bG_ms s1 n S K (H id).toInt g)
      have h1 := h.mz hmz
      obtain ⟨v, v1, v2⟩ := X9_al h1.1 (hA.ms hmz.1) hw (bG_bm s1 n S K (H id).toInt g) (wf_v W hg) hgl hfu
      have hvz := hmz.tr v2.mz
      have s52 : gI v 9 1 52 = Int32.ofInt (ky (ka n S K (H id).toInt) g) := by
        rw [v2.2.1 9 1 52 (by omega)]
        unfold bG
        rw [bS_52]
      have hqv : QM v T.2.2.2 := (hq.to (fun j hj => bG_f s1 n S K (H id).toInt g (Or.inr hj))).to (fun j _ => v2.2.1 9 1 j (by omega))
      have hv0 := h.mz hvz
      obtain ⟨⟨y1, -⟩, ⟨y2, -⟩, -⟩ := hv0.2.1.1
      have hspv : gI v 10 (gR v 9 1 4) t = sp := by rw [hvz.1.1.1, hvz.1.2.1 10 _ _ (by decide) (by omega)]; exact hsp
      have hih := fun s1 r next T => ih (X ++ [g]) m s1 r next T e2 (fun b hb => hM b (List.mem_cons_of_mem _ hb))
      rw [List.length_append, List.length_singleton, ← e3] at hih
      rw [List.foldl_cons]
      unfold f_X9_tellAlarms_b58
      rw [if_neg (fun q => by have := (ni_le (by rw [fl_app, fl_cons]; omega) (by omega)).mp q; rw [fl_app, fl_cons] at this; omega)]
      simp only [e10, reduceIte, X9_nb (h.mz hm) hid hP W (show GG = X ++ g :: (M ++ C) from e) hfu, bI, v1]
      generalize hst : Int32.ofInt (ky (ka n S K (H id).toInt) g) = st at s52
      have hsti : st.toInt = ky (ka n S K (H id).toInt) g := by rw [← hst]; exact nu_of (by omega) (by omega)
      have new : ¬ (0 < T.2.1 ∧ alB n S K (H id).toInt T.1 g = true) → alc n S K (H id).toInt L g = true → ∃ s2, f_X9_tellAlarms_b108 fu k31 (f_X9_tellAlarms_b58 fu k31 m) v 1 a (nI t) (nI (off P id + (X ++ g :: M).flatten.length)) (nI (off P id + (X ++ [g]).flatten.length)) 1 = k31 s2 1 a (nI t + (-1)) ∧ MZ s s2 ∧ QM s2 (M.foldl (alS n S K (H id).toInt L) (alS n S K (H id).toInt L T g)).2.2.2 := by
        intro hno hc
        have hs : alS n S K (H id).toInt L T g = (g, 1, st, alU T.2.2.2 1 st st) := by
          unfold alS
          rw [if_pos hc, if_neg hno, hst]
        obtain ⟨v', w1, w2, w3⟩ := X9_b109 (fu := fu) hqv (show t < 4 by omega) y1 y2 hspv s52 (r := 1) (rs := st) (by exact (i32b st sp).symm) k31 (f_X9_tellAlarms_b58 fu k31 m) a (nI (off P id + (X ++ g :: M).flatten.length)) (nI (off P id + (X ++ [g]).flatten.length))
        obtain ⟨s2, x1, x2, x3⟩ := hih v' 1 (st + sp) (g, 1, st, alU T.2.2.2 1 st st) (hvz.tr w2) w3 (Or.inr ⟨by omega, rfl, hg, hgt, by rw [hst], (i32b st sp).symm⟩) (by omega) (by omega)
        rw [hs]
        refine ⟨s2, ?_, x2, x3⟩
        unfold f_X9_tellAlarms_b108
        exact w1.trans x1
      by_cases hc : alc n S K (H id).toInt L g = true
      · rw [bt_t hc, if_neg (by decide)]
        rcases hR with ⟨r0, hR⟩ | ⟨r0, R1, R2, R3, R4, R5⟩
        · subst r0
          rw [if_pos (by decide)]
          refine new (fun q => ?_) hc
          rcases hR with hR | hR
          · omega
          · rw [hR g List.mem_cons_self] at q
            exact absurd q.2 (by decide)
        · have bp := (wf_g hV W R2)
          obtain ⟨i', hi', -, bp, -⟩ := bp
          have hbe : (st = next) ↔ alB n S K (H id).toInt T.1 g = true := by
            unfold alB
            rw [decide_eq_true_iff, tq_some.mpr R3, tq_some.mpr hgt, spn_of hgt, R4, nu_eq, nu_add (by rw [nu_of (by omega) (by omega)]; omega) (by rw [nu_of (by omega) (by omega)]; omega), nu_of (by omega) (by omega), hsti, hsp']
            constructor
            · intro q; exact ⟨rfl, by omega⟩
            · rintro ⟨-, q⟩; omega
          rw [if_neg (fun q => by have := (ni_le (b := 0) (by omega) (by omega)).mp q; omega), s52]
          by_cases hb : alB n S K (H id).toInt T.1 g = true
          · rw [if_pos (hbe.mpr hb)]
            have hs : alS n S K (H id).toInt L T g = (g, r + 1, T.2.2.1, alU T.2.2.2 (r + 1) T.2.2.1 st) := by
              unfold alS
              rw [if_pos hc, if_pos ⟨by omega, hb⟩, hst, R1]
            have hrs : T.2.2.1 = st + sp - nI (r + 1) * sp := by rw [R5, hbe.mpr hb, ← nu_nIa, i32a]
            obtain ⟨v', w1, w2, w3⟩ := X9_b109 (fu := fu) hqv (show t < 4 by omega) y1 y2 hspv s52 hrs k31 (f_X9_tellAlarms_b58 fu k31 m) a (nI (off P id + (X ++ g :: M).flatten.length)) (nI (off P id + (X ++ [g]).flatten.length))
            obtain ⟨s2, x1, x2, x3⟩ := hih v' (r + 1) (st + sp) (g, r + 1, T.2.2.1, alU T.2.2.2 (r + 1) T.2.2.1 st) (hvz.tr w2) w3 (Or.inr ⟨by omega, rfl, hg, hgt, by rw [hst], hrs⟩) (by omega) (by omega)
            rw [hs, nu_nIa]
            exact ⟨s2, w1.trans x1, x2, x3⟩
          · rw [if_neg (fun q => hb (hbe.mp q))]
            exact new (fun q => hb q.2) hc
      · have hs : alS n S K (H id).toInt L T g = (g, 0, T.2.2.1, T.2.2.2) := by
          unfold alS
          rw [if_neg hc]
        obtain ⟨s2, x1, x2, x3⟩ := hih v 0 (st + sp) (g, 0, T.2.2.1, T.2.2.2) hvz hqv (Or.inl ⟨rfl, Or.inl rfl⟩) (by omega) (by omega)
        rw [bt_f hc, if_pos rfl, hs, X9_b109z (show t < 4 by omega) y1 y2 hspv s52]
        exact ⟨s2, x1, x2, x3⟩
theorem X9_ta_out (h : RQ s n S K R H P) {L : List AO} (hA : AlM s L) (hw : aoW L) {id : Nat} (hid : id < 10) {GG : List (List Pt)} (hP : P id = GG.flatten) (W : WfG n S K (H id).toInt GG) (hfu : 50000 ≤ fu) :
    ∀ (u : Nat) (X Y : List (List Pt)) (m : Nat) (s1 : St), u ≤ n → GG = X ++ Y → (u = 0 → Y = []) → (0 < u → (∀ g ∈ X, ky (ka n S K (H id).toInt) g < sm n S K (H id).toInt (u - 1)) ∧ ∀ g ∈ Y, sm n S K (H id).toInt (u - 1) ≤ ky (ka n S K (H id).toInt) g) → MZ s s1 → QM s1 (X.foldl (alS n S K (H id).toInt L) aT0).2.2.2 → u < m →
      ∃ s2, f_X9_tellAlarms_b31 fu m s1 1 (nI id) (nI u + (-1)) = some s2 ∧ MZ s s2 ∧ QM s2 (GG.foldl (alS n S K (H id).toInt L) aT0).2.2.2 := by
  have e10 : ¬ (1 = 0) := by decide
  have hV := h.2.1.2
  have hn := hV.1
  have hlen := wf_len W
  intro u
  induction u with
  | zero =>
    intro X Y m s1 hu e hY hc hm hq hl
    rw [hY rfl, List.append_nil] at e
    subst e
    cases m with
    | zero => omega
    | succ m =>
      refine ⟨s1, ?_, hm, hq⟩
      unfold f_X9_tellAlarms_b31
      rw [if_pos (by decide)]
  | succ u ih =>
    intro X Y m s1 hu e hY hc hm hq hl
    cases m with
    | zero => omega
    | succ m =>
      obtain ⟨A, M, C, e', c1, c2, c3, c4, c5, c6, c7, c8⟩ := tier_cut hV W (show u < n by omega)
      obtain ⟨hX, hY'⟩ := hc (by omega)
      rw [Nat.add_sub_cancel] at hX hY'
      obtain ⟨rfl, rfl⟩ := cut_u (κ := ka n S K (H id).toInt) (e.symm.trans e') hX hY' c1 c3
      have h1 := h.mz hm
      obtain ⟨q1, q2⟩ := X9_ends h1 hid hP W (show u < n by omega) e' c4 c7 c8 hfu
      have hsp : gI s 10 (gR s 9 1 4) u = gI s 10 (gR s 9 1 4) u := rfl
      obtain ⟨s2, x1, x2, x3⟩ := X9_ta_in h hA hw hid hP W (show u < n by omega) hsp hfu (f_X9_tellAlarms_b31 fu m) (nI id) (C := C) M X fu s1 0 (-20000) (X.foldl (alS n S K (H id).toInt L) aT0) e' c2 hm hq (Or.inl ⟨rfl, by
        rcases al_pv (n := n) (S := S) (K := K) (H id).toInt L X aT0 with q | q
        · left; subst q; rfl
        · right
          intro g hg
          unfold alB
          refine decide_eq_false (fun w => ?_)
          rw [tq_some.mpr (c2 g hg)] at w
          have := (tq_some.mp w.1).2.1
          have := hX _ q
          omega⟩) (Nat.zero_le _) (by
        have : M.length ≤ GG.length := by rw [e', List.length_append, List.length_append]; omega
        omega)
      rw [← List.foldl_append] at x3
      obtain ⟨s3, y1, y2, y3⟩ := ih (X ++ M) C m s2 (by omega) (by rw [e', List.append_assoc]) c4 (fun hu => ⟨c6 (by omega), c5 (by omega)⟩) x2 x3 (by omega)
      refine ⟨s3, ?_, y2, y3⟩
      unfold f_X9_tellAlarms_b31
      rw [ni_m (by omega) (by omega), Nat.add_sub_cancel, if_neg (fun q => by have := nu_lt.mp q; rw [nu_nI (by omega), nu_0] at this; omega)]
      simp only [e10, reduceIte, q1, q2, bI]
      exact x1.trans y1
theorem Q_alarms (h : CQ s p n S K R H P) {L : List AO} (hA : AlC s (gR s 2 p 2) L) (hw : aoW L) (hr : rmb (nX s) = true) (hfu : 50000 ≤ fu) (a d : Int32) : ∃ s1 w, f_X8_alarms fu s 1 a d = some (s1, w) ∧ CS s s1 ∧
    ∀ s', RQ s' n S K R H P → AlM s' L → ∃ s2 v, f_X9_alarms fu s' 1 a d = some (s2, v) ∧ MS s' s2 ∧ cmpI1 w v (gI s2 9 1 3) := by
  have e10 : ¬ (1 = 0) := by decide
  have z10 : ¬ ((1 : Int32) = 0) := by decide
  have hV := h.2.1.2.2.2
  have hn := hV.1
  have ej0 : (0 : Int64).toInt = 0 := rfl
  have ej3 : (3 : Int64).toInt = 3 := rfl
  have b0 : inb 0 4 = true := by decide
  have b1 : inb 1 4 = true := by decide
  have b2 : inb 2 4 = true := by decide
  have b3 : inb 3 4 = true := by decide
  have e9 : ¬ (9 = 0) := by decide
  have i0 : ix 0 = 0 := rfl
  have i1 : ix 1 = 1 := rfl
  have i2 : ix 2 = 2 := rfl
  have i3 : ix 3 = 3 := rfl
  rcases id_cases R a with ⟨i, hi, rfl⟩ | ha
  · have hid := h.id hi
    obtain ⟨ho, GG, hPi, W, C⟩ := h.2.2.2 i hi
    have hl := wf_len W
    rcases what_c d 3 (by omega) with ⟨w, hw3, rfl⟩ | hd
    · have hnw : f_X8_needWhat fu s (nI w) 3 = some (s, .inr ()) := CQ.nw w 3 (by show (w : Int) ≤ 3; omega) (by omega)
      have bw : inb (nI w) 4 = true := nu_inbn (by omega) (by omega)
      have hAa : ∀ q, AlC (aS s q) (gR s 2 p 2) L := fun q => by
        obtain ⟨A1, A2, A3, A4, A5⟩ := hA
        have hp := h.2.1.1
        have hns : ¬ gR s 0 (gR s 2 p 2) 0 = 9 ∧ ¬ gR s 0 (gR s 2 p 2) 1 = 9 := by
          rcases hp with rfl | rfl
          · rw [lr_2_1_2 h.1.1, lr_0_1_0 h.1.1, lr_0_1_1 h.1.1]; omega
          · rw [lr_2_2_2 h.1.1, lr_0_2_0 h.1.1, lr_0_2_1 h.1.1]; omega
        have hz := aS_cz s q
        refine ⟨A1, A2, ⟨A3.1, A3.2⟩, fun k o hk => ?_, fun k f r v hk => ?_⟩
        · have := A4 k o hk
          unfold aS
          rw [gI_wI, if_neg (fun q => hns.1 q.2)]
          exact this
        · have := A5 k f r v hk
          unfold aS
          rw [gI_wI, if_neg (fun q => hns.2 q.2)]
          exact this
      have p0 := h.p0
      have hcls : f_X5_surveyAlarms fu s (gR s 14 1 i) 9 = some (aS s (GG.foldl (alS n S K (H i).toInt L) aT0).2.2.2) := by
        unfold f_X5_surveyAlarms
        simp only [e9, reduceIte, gI_sI, gJ_sI, gR_sI, gL_sI, gN_sI, cn_sI, sn_sI, gI_sJ, gJ_sJ, gR_sJ, gL_sJ, gN_sJ, cn_sJ, sn_sJ, gI_sR, gJ_sR, gR_sR, gL_sR, gN_sR, cn_sR, sn_sR, gI_nX, gJ_nX, gR_nX, gL_nX, gN_nX, cn_nX, sn_nX, gI_wI, gJ_wI, gR_wI, gL_wI, gN_wI, cn_wI, sn_wI, gI_wJ, gJ_wJ, gR_wJ, gL_wJ, gN_wJ, cn_wJ, sn_wJ, gI_nW, gJ_nW, gR_nW, gL_nW, gN_nW, cn_nW, sn_nW, ll_10_9 h.1.1, b0, b1, b2, b3, Bool.true_eq_false, lt, i0, i1, i2, i3, aS_four, ho, (aS_g s _).1, C.1.2.1, p0, hA.1.1, X0_told (hAa _), bI]
        by_cases hz : L = []
        · rw [bt_f (fun q => q hz), if_pos rfl]
          have : ∀ (G : List (List Pt)) (t : AT), (G.foldl (alS n S K (H i).toInt L) t).2.2.2 = t.2.2.2 := by
            intro G
            induction G with
            | nil => intro t; rfl
            | cons g G ih =>
              intro t
              rw [List.foldl_cons, ih]
              unfold alS
              rw [if_neg (by subst hz; exact (by decide : ¬ (false = true)))]
          rw [this]
          rfl
        · rw [bt_t hz, if_neg (by decide)]
          rcases hw with q | hw
          · exact absurd q hz
          · exact X5_sa_loop h.1.1 h.1.2 h.2.1.1 hid ho hV W C rfl hAa hw hfu GG [] fu aT0 rfl (fun q => absurd q (by decide)) (Nat.le_refl _) (by omega)
      refine ⟨aS s (GG.foldl (alS n S K (H i).toInt L) aT0).2.2.2, .inr (q4 (GG.foldl (alS n S K (H i).toInt L) aT0).2.2.2 w), ?_, (aS_cz s _).cs, fun s' h' hM => ?_⟩
      · unfold f_X8_alarms
        simp only [e10, reduceIte, h.kn hi (show 100 ≤ fu by omega), bX, hnw, ho, lr_8_1_9 h.1.1, hcls, bV, (aS_g s _).1, (aS_g s _).2, e9, ll_10_9 h.1.1, bw, Bool.true_eq_false, nu_ixn (show w < 2147483648 by omega), aS_rw s _ (show w < 4 by omega)]
      · have h0 := h'.s0
        obtain ⟨hL, ⟨hPl, -⟩, ⟨hT, -⟩, -⟩ := h'.s0
        have u0 : (nI w = 0) ↔ w = 0 := nI_c 0 (by omega) w (by omega)
        have u1 : (nI w = 1) ↔ w = 1 := nI_c 1 (by omega) w (by omega)
        have u2 : (nI w = 2) ↔ w = 2 := nI_c 2 (by omega) w (by omega)
        have m5 : MZ (sI s' 9 1 3 0) (sI (sI (sI (sI (sI s' 9 1 3 0) 9 1 65 0) 9 1 66 (-20000)) 9 1 67 0) 9 1 68 (-20000)) := (((MZ.s9 _ (by omega) _).tr (MZ.s9 _ (by omega) _)).tr (MZ.s9 _ (by omega) _)).tr (MZ.s9 _ (by omega) _)
        have hq5 : QM (sI (sI (sI (sI (sI s' 9 1 3 0) 9 1 65 0) 9 1 66 (-20000)) 9 1 67 0) 9 1 68 (-20000)) (0, -20000, 0, -20000) := by
          refine ⟨?_, ?_, ?_, ?_⟩
          · rw [gI_sI, if_neg (by omega), gI_sI, if_neg (by omega), gI_sI, if_neg (by omega), gI_sI, if_pos ⟨rfl, rfl, rfl⟩]
          · rw [gI_sI, if_neg (by omega), gI_sI, if_neg (by omega), gI_sI, if_pos ⟨rfl, rfl, rfl⟩]
          · rw [gI_sI, if_neg (by omega), gI_sI, if_pos ⟨rfl, rfl, rfl⟩]
          · rw [gI_sI, if_pos ⟨rfl, rfl, rfl⟩]
        have h7 : gI (sI (sI (sI (sI (sI s' 9 1 3 0) 9 1 65 0) 9 1 66 (-20000)) 9 1 67 0) 9 1 68 (-20000)) 9 1 7 = nI n := by
          rw [m5.1.2.2.1 7 (by omega) (by omega)]; exact hPl.2.2.1
        obtain ⟨s2, x1, x2, x3⟩ := X9_ta_out (fu := fu) h0 (hM.ms (MS.s9 s' (Or.inl rfl) 0)) hw hid hPi W hfu n [] GG fu _ (Nat.le_refl _) rfl (fun q => by omega) (fun _ => ⟨fun g hg => by simp at hg, fun g hg => by
          obtain ⟨j, hj, -⟩ := wf_g hV W hg
          have := sm_anti hV (H i).toInt (show j ≤ n - 1 by have := hj.1; omega) (by omega)
          have := hj.2.1
          omega⟩) m5 hq5 (by omega)
        have hx6 : nI n - 1 = nI n + (-1) := by rw [ni_m (by omega) (by omega), ni_dec (by omega) (by omega)]
        refine ⟨s2, q4 (GG.foldl (alS n S K (H i).toInt L) aT0).2.2.2 w, ?_, (MS.s9 s' (Or.inl rfl) 0).tr x2.1, by rw [x2.2]; exact f3 _ _, rfl⟩
        obtain ⟨k1, k2, k3, k4⟩ := x3
        unfold f_X9_alarms f_X9_alarms_b75 f_X9_tellAlarms
        simp only [e10, reduceIte, lt, X9_isS hL hT hi hid, bI, z10, X9_isIn, nj_up, nu_nI (show w < 2147483648 by omega), ej0, ej3, bt_t (show (0 : Int) ≤ w ∧ (w : Int) ≤ 3 by omega), h7, hx6, x1, bV, u0, u1, u2, k1, k2, k3, k4]
        unfold q4
        have : w = 0 ∨ w = 1 ∨ w = 2 ∨ w = 3 := by omega
        rcases this with rfl | rfl | rfl | rfl <;> rfl
    · refine ⟨nX s, .inl 1, ?_, (CZ.rf s).x, fun s' h' _ => ⟨sI (sI s' 9 1 3 0) 9 1 3 1, 0, ?_, ms_f (MS.s9 s' (Or.inl rfl) 0) 1, f3 _ _, rfl⟩⟩
      · unfold f_X8_alarms
        simp only [e10, reduceIte, h.kn hi (show 100 ≤ fu by omega), bX, X8_nx hr (show ¬ (0 ≤ d.toInt ∧ d.toInt ≤ (3 : Int32).toInt) from hd)]
      · obtain ⟨hL, ⟨hPl, -⟩, ⟨hT, -⟩, -⟩ := h'.s0
        unfold f_X9_alarms f_X9_alarms_b25
        simp only [e10, reduceIte, lt, X9_isS hL hT hi hid, bI, z10, X9_isIn, nj_up, ej0, ej3, bt_f (show ¬ (0 ≤ d.toInt ∧ d.toInt ≤ 3) from hd), X9_fail]
  · refine ⟨nX s, .inl 1, ?_, (CZ.rf s).x, fun s' h' _ => ⟨sI (sI s' 9 1 3 0) 9 1 3 1, 0, ?_, ms_f (MS.s9 s' (Or.inl rfl) 0) 1, f3 _ _, rfl⟩⟩
    · unfold f_X8_alarms
      simp only [e10, reduceIte, h.kx hr ha (show 100 ≤ fu by omega), bX]
    · obtain ⟨hL, -, ⟨hT, -⟩, -⟩ := h'.s0
      unfold f_X9_alarms f_X9_alarms_b25
      simp only [e10, reduceIte, lt, X9_isSx hL hT ha, bI, X9_fail]
end Q14
