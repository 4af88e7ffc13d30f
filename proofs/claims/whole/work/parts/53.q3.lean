/-! ===== gap, trend ===== -/
def gapR (κ : Int → Int) (sp : Int) (i many : Int32) : Int → Nat → List (List Pt) → Nat ⊕ Int32
  | _, c, [] => if i = -1 then .inr (nI c) else .inl 1
  | pv, c, g :: L => if ky κ g = pv + sp then gapR κ sp i many (ky κ g) c L else if nI c = i then .inr (if many = 0 then Int32.ofInt (pv + sp) else Int32.ofInt ((ky κ g - (pv + sp)) / sp)) else gapR κ sp i many (ky κ g) (c + 1) L
theorem gapR_e (κ : Int → Int) (sp : Int) (i many : Int32) : ∀ (L : List (List Pt)) (pv : Int) (c : Nat) (e : Nat), gapR κ sp i many pv c L = .inl e → e = 1 := by
  intro L
  induction L with
  | nil =>
    intro pv c e h
    unfold gapR at h
    split at h
    · cases h
    · cases h; rfl
  | cons g L ih =>
    intro pv c e h
    unfold gapR at h
    split at h
    · exact ih _ _ e h
    · split at h
      · cases h
      · exact ih _ _ e h
def resX {α : Type} (s : St) (w : Nat ⊕ α) : Option (St × (Nat ⊕ α)) := match w with
  | .inl e => some (nX s, .inl e)
  | .inr x => some (s, .inr x)
def resM (s : St) (w : Nat ⊕ Int32) : Option (St × Int32) := match w with
  | .inl _ => some (sI s 9 1 3 1, 0)
  | .inr x => some (s, x)
section Q3
variable {s : St} {p n : Nat} {S K : Nat → Int} {R : List Nat} {H : Nat → Int32} {P : Nat → List Pt} {fu : Nat}
theorem X8_gap_loop (hr : rmb (nX s) = true) {o : Nat} {h : Int} {GG B : List (List Pt)} (V : VP n S K) (W : WfG n S K h GG) (C : SerC s o p n S K h GG) {t : Nat} (ht : t < n) {sp : Int32} (hsp : sp.toInt = S t) (i many : Int32) :
    ∀ (L A : List (List Pt)) (g : List Pt) (m c : Nat), GG = A ++ g :: (L ++ B) → L.length < m → c ≤ 100000 → c + L.length ≤ 100000 → f_X8_gap_b44 fu m s i many o sp (nI (A.length + 1 + L.length)) (nI c) (nI (A.length + 1)) = resX s (gapR (ka n S K h) (S t) i many (ky (ka n S K h) g) c L) := by
  have hl := wf_len W
  obtain ⟨r1, -⟩ := C.2.2.2.1
  obtain ⟨l1, -⟩ := C.2.2.2.2.1
  have hs := V.sp ht
  intro L
  induction L with
  | nil =>
    intro A g m c e hm hc hc2
    have hGl : A.length + 1 ≤ GG.length := by rw [e, List.length_append, List.length_cons]; omega
    cases m with
    | zero => omega
    | succ m =>
      unfold f_X8_gap_b44 gapR
      rw [List.length_nil, Nat.add_zero, if_pos ((ni_le (by omega) (by omega)).mpr (Nat.le_refl _))]
      split
      · rfl
      · rw [hr]; rfl
  | cons b L ih =>
    intro A g m c e hm hc hc2
    have hGl : A.length + 1 + (L.length + 1) ≤ GG.length := by rw [e, List.length_append, List.length_cons, List.length_append, List.length_cons]; omega
    cases m with
    | zero => omega
    | succ m =>
      have hgx : GG[A.length]? = some g := by rw [e, List.getElem?_append_right (Nat.le_refl _)]; simp
      have hbx : GG[A.length + 1]? = some b := by rw [e, List.getElem?_append_right (by omega)]; simp
      have k1 := C.st V W hgx
      have k2 := C.st V W hbx
      obtain ⟨-, -, -, bg, -⟩ := wf_g V W (List.mem_of_getElem? hgx)
      obtain ⟨-, -, -, bb, -⟩ := wf_g V W (List.mem_of_getElem? hbx)
      have i1 : inb (nI A.length) (gL s 10 (gR s 5 o 3)) = true := nu_inbn (by omega) (by omega)
      have i2 : inb (nI (A.length + 1)) (gL s 10 (gR s 5 o 3)) = true := nu_inbn (by omega) (by omega)
      have ex : (gI s 10 (gR s 5 o 3) A.length + sp).toInt = ky (ka n S K h) g + S t := by rw [nu_add (by rw [k1, hsp]; omega) (by rw [k1, hsp]; omega), k1, hsp]
      have ex2 : gI s 10 (gR s 5 o 3) A.length + sp = Int32.ofInt (ky (ka n S K h) g + S t) := by rw [← ex, Int32.ofInt_toInt]
      rw [List.length_cons] at hm hc2
      have e2 : GG = (A ++ [g]) ++ b :: (L ++ B) := by rw [e, List.append_assoc]; rfl
      have hi1 := ih (A ++ [g]) b m c e2 (by omega) hc (by omega)
      have hi2 := ih (A ++ [g]) b m (c + 1) e2 (by omega) (by omega) (by omega)
      rw [List.length_append, List.length_singleton] at hi1 hi2
      rw [show A.length + 1 + 1 + L.length = A.length + 1 + (L.length + 1) by omega] at hi1 hi2
      unfold f_X8_gap_b44 gapR
      rw [List.length_cons, if_neg (fun q => by have := (ni_le (by omega) (by omega)).mp q; omega)]
      simp only [C.1.1, reduceIte, r1, ni_dec (show 0 < A.length + 1 by omega) (show A.length + 1 < 2147483648 by omega), Nat.add_sub_cancel, i1, i2, Bool.true_eq_false, lt, nu_ixn (show A.length < 2147483648 by omega), nu_ixn (show A.length + 1 < 2147483648 by omega), f_X8_gap_b119, f_X8_gap_b115, nu_nIa]
      have hq : (gI s 10 (gR s 5 o 3) (A.length + 1) = gI s 10 (gR s 5 o 3) A.length + sp) ↔ ky (ka n S K h) b = ky (ka n S K h) g + S t := by rw [nu_eq, k2, ex]
      by_cases h1 : ky (ka n S K h) b = ky (ka n S K h) g + S t
      · rw [if_pos (hq.mpr h1), if_pos h1]
        exact hi1
      · rw [if_neg (fun q => h1 (hq.mp q)), if_neg h1]
        by_cases h2 : nI c = i
        · rw [if_pos h2, if_pos h2]
          by_cases h3 : many = 0
          · rw [if_pos h3, if_pos h3, ex2]; rfl
          · rw [if_neg h3, if_neg h3, X8_quo (by rw [hsp]; exact hs.1), nj_up, hsp]
            rw [nu_sub (by rw [k2, ex]; omega) (by rw [k2, ex]; omega), k2, ex]
            rfl
        · rw [if_neg h2, if_neg h2]
          exact hi2
theorem X9_gap_loop (h : RQ s n S K R H P) {id : Nat} (hid : id < 10) {GG B : List (List Pt)} (hP : P id = GG.flatten) (W : WfG n S K (H id).toInt GG) {t : Nat} (ht : t < n) (i many : Int32) (hfu : 50000 ≤ fu) :
    ∀ (L A : List (List Pt)) (m c : Nat) (pv : Int) (s1 : St), GG = A ++ (L ++ B) → (∀ g ∈ L, TI (sm n S K (H id).toInt) n (ky (ka n S K (H id).toInt) g) t ∧ pv + S t ≤ ky (ka n S K (H id).toInt) g ∧ S t ∣ ky (ka n S K (H id).toInt) g) → (-9400000 ≤ pv ∧ pv ≤ 1000000 ∧ S t ∣ pv) → MZ s s1 → L.length < m → c + L.length ≤ 100000 →
      ∃ s2, f_X9_gap_b54 fu m s1 1 (nI t) i many (nI (off P id + (A ++ L).flatten.length)) (Int32.ofInt (pv + S t)) (nI c) 1 (nI (off P id + A.flatten.length)) = resM s2 (gapR (ka n S K (H id).toInt) (S t) i many pv c L) ∧ MZ s s2 := by
  have e10 : ¬ (1 = 0) := by decide
  have z10 : ¬ ((1 : Int32) = 0) := by decide
  have hpos := h.pos hid hP
  have hV := h.2.1.2
  have hn := hV.1
  have hs := hV.sp ht
  intro L
  induction L with
  | nil =>
    intro A m c pv s1 e hL hpv hm hl hc
    cases m with
    | zero => omega
    | succ m =>
      refine ⟨s1, ?_, hm⟩
      have hA : A.flatten.length ≤ GG.flatten.length := by rw [e, fl_app]; omega
      unfold f_X9_gap_b54 gapR f_X9_gap_b151
      rw [List.append_nil, if_pos ((ni_le (by omega) (by omega)).mpr (Nat.le_refl _))]
      split
      · rfl
      · simp only [e10, reduceIte, X9_fail, bI]; rfl
  | cons g L ih =>
    intro A m c pv s1 e hL hpv hm hl hc
    cases m with
    | zero => omega
    | succ m =>
      rw [List.length_cons] at hl hc
      have hg : g ∈ GG := by rw [e]; exact List.mem_append_right _ (List.mem_append_left _ List.mem_cons_self)
      have hgl := wf_gl W hg
      obtain ⟨-, -, -, bg, -⟩ := wf_g hV W hg
      obtain ⟨g1, g2, g3⟩ := hL g List.mem_cons_self
      have hA : A.flatten.length + g.length + L.flatten.length ≤ GG.flatten.length := by rw [e, fl_app, fl_app, fl_cons]; omega
      have e2 : GG = (A ++ [g]) ++ (L ++ B) := by rw [e, List.append_assoc]; rfl
      have e3 : A ++ g :: L = (A ++ [g]) ++ L := by rw [List.append_assoc]; rfl
      have hord : ∀ b ∈ L, ky (ka n S K (H id).toInt) g + S t ≤ ky (ka n S K (H id).toInt) b := fun b hb => by
        have hGd := W.1
        rw [e] at hGd
        have h1 := (Gd.app.mp (Gd.app.mp hGd).2.1).1
        have h2 := (Gd.cons.mp h1).2.2 b hb
        exact dv_gap hs.1 g3 (hL b (List.mem_cons_of_mem _ hb)).2.2 h2
      have hL2 : ∀ b ∈ L, TI (sm n S K (H id).toInt) n (ky (ka n S K (H id).toInt) b) t ∧ ky (ka n S K (H id).toInt) g + S t ≤ ky (ka n S K (H id).toInt) b ∧ S t ∣ ky (ka n S K (H id).toInt) b := fun b hb => ⟨(hL b (List.mem_cons_of_mem _ hb)).1, hord b hb, (hL b (List.mem_cons_of_mem _ hb)).2.2⟩
      have hmz := hm.tr (bG_ms s1 n S K (H id).toInt g)
      have b4 : inb (nI t) 4 = true := nu_inbn (by omega) (by omega)
      obtain ⟨-, ⟨⟨⟨p1, p2⟩, ⟨p3, p4⟩, p5, p6⟩, -⟩, -⟩ := h.mz hmz
      obtain ⟨q1, -⟩ := p6 t ht
      have kg : (Int32.ofInt (ky (ka n S K (H id).toInt) g)).toInt = ky (ka n S K (H id).toInt) g := nu_of (by omega) (by omega)
      have kp' : (Int32.ofInt (pv + S t)).toInt = pv + S t := nu_of (by omega) (by omega)
      have st52 : gI (bG s1 n S K (H id).toInt g) 9 1 52 = Int32.ofInt (ky (ka n S K (H id).toInt) g) := by unfold bG; rw [bS_52]
      have nxt : Int32.ofInt (ky (ka n S K (H id).toInt) g) + gI (bG s1 n S K (H id).toInt g) 10 (gR (bG s1 n S K (H id).toInt g) 9 1 4) t = Int32.ofInt (ky (ka n S K (H id).toInt) g + S t) := by
        refine nu_ext ?_
        rw [nu_add (by rw [kg, q1]; omega) (by rw [kg, q1]; omega), kg, q1, nu_of (by omega) (by omega)]
      have key : ∀ c', c' + L.length ≤ 100000 → ∃ s2, f_X9_gap_b117 fu (f_X9_gap_b54 fu m) (bG s1 n S K (H id).toInt g) 1 (nI t) i many (nI (off P id + (A ++ g :: L).flatten.length)) (nI c') (nI (off P id + (A ++ [g]).flatten.length)) = resM s2 (gapR (ka n S K (H id).toInt) (S t) i many (ky (ka n S K (H id).toInt) g) c' L) ∧ MZ s s2 := by
        intro c' hc'
        obtain ⟨s2, h2, h3⟩ := ih (A ++ [g]) m c' (ky (ka n S K (H id).toInt) g) (bG s1 n S K (H id).toInt g) e2 hL2 ⟨bg.1, bg.2, g3⟩ hmz (by omega) hc'
        refine ⟨s2, ?_, h3⟩
        unfold f_X9_gap_b117
        simp only [e10, reduceIte, p1, p3, b4, Bool.true_eq_false, lt, nu_ixn (show t < 2147483648 by omega), st52]
        rw [nxt, e3]
        exact h2
      unfold f_X9_gap_b54 gapR
      rw [if_neg (fun q => by have := (ni_le (by rw [fl_app, fl_cons]; omega) (by omega)).mp q; rw [fl_app, fl_cons] at this; omega)]
      simp only [e10, reduceIte, X9_nb (h.mz hm) hid hP W (show GG = A ++ g :: (L ++ B) from e) hfu, bI, z10, st52, nu_le, kg, kp', f_X9_gap_b113]
      by_cases h1 : ky (ka n S K (H id).toInt) g = pv + S t
      · rw [if_pos (by omega), if_pos h1]
        exact key c (by omega)
      · rw [if_neg (by omega), if_neg h1]
        by_cases h2 : nI c = i
        · rw [if_pos h2, if_pos h2]
          refine ⟨bG s1 n S K (H id).toInt g, ?_, hmz⟩
          by_cases h3 : many = 0
          · rw [if_pos h3, if_pos h3]; rfl
          · rw [if_neg h3, if_neg h3]
            have hq0 : ¬ gI (bG s1 n S K (H id).toInt g) 10 (gR (bG s1 n S K (H id).toInt g) 9 1 4) t = 0 := fun q => by
              have : (gI (bG s1 n S K (H id).toInt g) 10 (gR (bG s1 n S K (H id).toInt g) 9 1 4) t).toInt = 0 := by rw [q]; rfl
              omega
            simp only [p1, p3, b4, Bool.true_eq_false, reduceIte, nu_ixn (show t < 2147483648 by omega), hq0]
            have hd : (Int32.ofInt (ky (ka n S K (H id).toInt) g) - Int32.ofInt (pv + S t)).toInt = ky (ka n S K (H id).toInt) g - (pv + S t) := by rw [nu_sub (by rw [kg, kp']; omega) (by rw [kg, kp']; omega), kg, kp']
            have hq : (Int32.ofInt (ky (ka n S K (H id).toInt) g) - Int32.ofInt (pv + S t)) / gI (bG s1 n S K (H id).toInt g) 10 (gR (bG s1 n S K (H id).toInt g) 9 1 4) t = Int32.ofInt ((ky (ka n S K (H id).toInt) g - (pv + S t)) / S t) := by
              rw [← Int32.ofInt_toInt (_ / _), nu_div (by rw [q1]; exact hs.1), hd, q1, td_nn (by omega)]
            rw [hq]
            rfl
        · rw [if_neg h2, if_neg h2, nu_nIa]
          exact key (c + 1) (by omega)
theorem wf_dv {h : Int} {GG : List (List Pt)} (V : VP n S K) (W : WfG n S K h GG) {g : List Pt} (hg : g ∈ GG) {t : Nat} (ht : TI (sm n S K h) n (ky (ka n S K h) g) t) : S t ∣ ky (ka n S K h) g := by
  obtain ⟨i, hi, h2, -, h4⟩ := wf_g V W hg
  have := hi.u ht
  subst this
  obtain ⟨q, hq, -⟩ := ky_mem (κ := ka n S K h) h4
  rw [← (h2 q hq).2]
  exact al_dv _ _
def gapA (κ : Int → Int) (sp : Int) (i many : Int32) (M : List (List Pt)) : Nat ⊕ Int32 := match M with
  | [] => if i = -1 then .inr 0 else .inl 1
  | g :: L => gapR κ sp i many (ky κ g) 0 L
theorem gapA_e {κ : Int → Int} {sp : Int} {i many : Int32} {M : List (List Pt)} {e : Nat} (h : gapA κ sp i many M = .inl e) : e = 1 := by
  cases M with
  | nil =>
    simp only [gapA] at h
    by_cases q : i = -1
    · rw [if_pos q] at h; cases h
    · rw [if_neg q] at h; cases h; rfl
  | cons g L => exact gapR_e _ _ _ _ _ _ _ _ h
theorem Q_gap (h : CQ s p n S K R H P) (hr : rmb (nX s) = true) (hfu : 50000 ≤ fu) (a b c d : Int32) : ∃ s1 w, f_X8_gap fu s 1 a b c d = some (s1, w) ∧ CS s s1 ∧
    ∀ s', RQ s' n S K R H P → ∃ s2 v, f_X9_gap fu s' 1 a b c d = some (s2, v) ∧ MS s' s2 ∧ cmpI1 w v (gI s2 9 1 3) := by
  have e10 : ¬ (1 = 0) := by decide
  have z10 : ¬ ((1 : Int32) = 0) := by decide
  have hV := h.2.1.2.2.2
  have hn := hV.1
  rcases id_cases R a with ⟨i, hi, rfl⟩ | ha
  · have hid := h.id hi
    obtain ⟨ho, GG, hPi, W, C⟩ := h.2.2.2 i hi
    rcases tier_cases n b with ⟨t, ht, rfl⟩ | hb
    · obtain ⟨A, M, B, e, c1, c2, c3, c4, c5, c6, c7, c8⟩ := tier_cut hV W ht
      obtain ⟨x1, x2⟩ := X5_tier hV W C ht e c1 c3 c4 c5 c6 hfu
      have hl := wf_len W
      have hM : A.length + M.length ≤ GG.length := by rw [e, List.length_append, List.length_append]; omega
      have b4 : inb (nI t) 4 = true := nu_inbn (by omega) (by omega)
      obtain ⟨p0, ⟨p1, p2⟩, ⟨p3, p4⟩, p5, p6⟩ := h.2.1.2.2.1
      have hs := hV.sp ht
      have hcls : f_X8_gap fu s 1 (nI i) (nI t) c d = resX s (gapA (ka n S K (H i).toInt) (S t) c d M) := by
        unfold f_X8_gap
        simp only [e10, reduceIte, h.kn hi (show 100 ≤ fu by omega), bX, h.nt ht, h.2.1.2.1, p0, p1, p3, b4, Bool.true_eq_false, lt, nu_ixn (show t < 2147483648 by omega), ho, x1, x2, bI, nu_nIa]
        cases hM' : M with
        | nil =>
          subst hM'
          cases fu with
          | zero => omega
          | succ fu =>
            unfold f_X8_gap_b44 gapA
            rw [List.length_nil, Nat.add_zero, if_pos ((ni_le (by omega) (by omega)).mpr (by omega))]
            split
            · rfl
            · rw [hr]; rfl
        | cons g L =>
          subst hM'
          rw [List.length_cons] at hM ⊢
          have := X8_gap_loop hr (fu := fu) (o := gR s 14 1 i) hV W C ht (p6 t ht).1 c d L A g fu 0 e (by omega) (by omega) (by omega)
          rw [show A.length + 1 + L.length = A.length + (L.length + 1) by omega] at this
          exact this
      have hmod : ∀ s', RQ s' n S K R H P → ∃ s2, f_X9_gap fu s' 1 (nI i) (nI t) c d = resM s2 (gapA (ka n S K (H i).toInt) (S t) c d M) ∧ MZ (sI s' 9 1 3 0) s2 := by
        intro s' h'
        obtain ⟨q1, q2⟩ := X9_ends h'.s0 hid hPi W ht e c4 c7 c8 hfu
        have h0 := h'.s0
        obtain ⟨hL, ⟨hPl, -⟩, ⟨hT, -⟩, -⟩ := h'.s0
        have hpos := h0.pos hid hPi
        have hfirst : f_X9_gap fu s' 1 (nI i) (nI t) c d = f_X9_gap_b54 fu fu (sI s' 9 1 3 0) 1 (nI t) c d (nI (off P i + (A ++ M).flatten.length)) (-20000) 0 0 (nI (off P i + A.flatten.length)) := by
          unfold f_X9_gap
          simp only [e10, reduceIte, lt, X9_isS hL hT hi hid, bI, z10, X9_it hPl hV, nu_nI (show t < 2147483648 by omega), bt_t (show (0 : Int) ≤ t ∧ (t : Int) < n by omega), q1, q2]
        rw [hfirst]
        cases hM' : M with
        | nil =>
          subst hM'
          refine ⟨sI s' 9 1 3 0, ?_, MZ.rf _⟩
          have hA : A.flatten.length ≤ GG.flatten.length := by rw [e, fl_app]; omega
          cases fu with
          | zero => omega
          | succ fu =>
            unfold f_X9_gap_b54 gapA f_X9_gap_b151
            rw [List.append_nil, if_pos ((ni_le (by omega) (by omega)).mpr (Nat.le_refl _))]
            split
            · rfl
            · simp only [e10, reduceIte, X9_fail, bI]; rfl
        | cons g L =>
          subst hM'
          have hg : g ∈ GG := by rw [e]; exact List.mem_append_right _ (List.mem_append_left _ List.mem_cons_self)
          have hgl := wf_gl W hg
          obtain ⟨-, -, -, bg, -⟩ := wf_g hV W hg
          have hA : A.flatten.length + g.length + L.flatten.length ≤ GG.flatten.length := by rw [e, fl_app, fl_app, fl_cons]; omega
          have g1 := c2 g List.mem_cons_self
          have g3 := wf_dv hV W hg g1
          have e2 : GG = (A ++ [g]) ++ (L ++ B) := by rw [e, List.append_assoc]; rfl
          have e3 : A ++ g :: L = (A ++ [g]) ++ L := by rw [List.append_assoc]; rfl
          have hmz := bG_ms (sI s' 9 1 3 0) n S K (H i).toInt g
          obtain ⟨-, ⟨⟨⟨m1, m2⟩, ⟨m3, m4⟩, m5, m6⟩, -⟩, -⟩ := h0.mz hmz
          obtain ⟨u1, -⟩ := m6 t ht
          have kg : (Int32.ofInt (ky (ka n S K (H i).toInt) g)).toInt = ky (ka n S K (H i).toInt) g := nu_of (by omega) (by omega)
          have st52 : gI (bG (sI s' 9 1 3 0) n S K (H i).toInt g) 9 1 52 = Int32.ofInt (ky (ka n S K (H i).toInt) g) := by unfold bG; rw [bS_52]
          have nxt : Int32.ofInt (ky (ka n S K (H i).toInt) g) + gI (bG (sI s' 9 1 3 0) n S K (H i).toInt g) 10 (gR (bG (sI s' 9 1 3 0) n S K (H i).toInt g) 9 1 4) t = Int32.ofInt (ky (ka n S K (H i).toInt) g + S t) := by
            refine nu_ext ?_
            rw [nu_add (by rw [kg, u1]; omega) (by rw [kg, u1]; omega), kg, u1, nu_of (by omega) (by omega)]
          have hL2 : ∀ b ∈ L, TI (sm n S K (H i).toInt) n (ky (ka n S K (H i).toInt) b) t ∧ ky (ka n S K (H i).toInt) g + S t ≤ ky (ka n S K (H i).toInt) b ∧ S t ∣ ky (ka n S K (H i).toInt) b := fun b hb => by
            have hbG : b ∈ GG := by rw [e]; exact List.mem_append_right _ (List.mem_append_left _ (List.mem_cons_of_mem _ hb))
            have b1 := c2 b (List.mem_cons_of_mem _ hb)
            have b3 := wf_dv hV W hbG b1
            have hGd := W.1
            rw [e] at hGd
            have y1 := (Gd.app.mp (Gd.app.mp hGd).2.1).1
            have y2 := (Gd.cons.mp y1).2.2 b hb
            exact ⟨b1, dv_gap hs.1 g3 b3 y2, b3⟩
          cases hfe : fu with
          | zero => omega
          | succ f =>
            obtain ⟨s2, v2, v3⟩ := X9_gap_loop (fu := f + 1) h0 hid hPi W ht c d (by omega) L (A ++ [g]) f 0 (ky (ka n S K (H i).toInt) g) _ e2 hL2 ⟨bg.1, bg.2, g3⟩ hmz (by rw [List.length_cons] at hM; omega) (by rw [List.length_cons] at hM; omega)
            refine ⟨s2, ?_, v3⟩
            unfold f_X9_gap_b54 gapA
            rw [if_neg (fun q => by have := (ni_le (by rw [fl_app, fl_cons]; omega) (by omega)).mp q; rw [fl_app, fl_cons] at this; omega)]
            simp only [e10, reduceIte, X9_nb h0 hid hPi W (show GG = A ++ g :: (L ++ B) from e) (show 50000 ≤ f + 1 by omega), bI, f_X9_gap_b117, m1, m3, b4, Bool.true_eq_false, lt, nu_ixn (show t < 2147483648 by omega), st52]
            rw [nxt, e3]
            exact v2
      cases hg : gapA (ka n S K (H i).toInt) (S t) c d M with
      | inl k =>
        have hk : k = 1 := gapA_e hg
        subst hk
        rw [hg] at hcls
        refine ⟨nX s, .inl 1, hcls, (CZ.rf s).x, fun s' h' => ?_⟩
        obtain ⟨s2, y1, y2⟩ := hmod s' h'
        rw [hg] at y1
        exact ⟨sI s2 9 1 3 1, 0, y1, ms_f ((MS.s9 s' (Or.inl rfl) 0).tr y2.1) 1, f3 _ _, rfl⟩
      | inr x =>
        rw [hg] at hcls
        refine ⟨s, .inr x, hcls, (CZ.rf s).cs, fun s' h' => ?_⟩
        obtain ⟨s2, y1, y2⟩ := hmod s' h'
        rw [hg] at y1
        exact ⟨s2, x, y1, (MS.s9 s' (Or.inl rfl) 0).tr y2.1, by rw [y2.2]; exact f3 _ _, rfl⟩
    · refine ⟨nX s, .inl 1, ?_, (CZ.rf s).x, fun s' h' => ⟨sI (sI s' 9 1 3 0) 9 1 3 1, 0, ?_, ms_f (MS.s9 s' (Or.inl rfl) 0) 1, ?_⟩⟩
      · unfold f_X8_gap
        simp only [e10, reduceIte, h.kn hi (show 100 ≤ fu by omega), bX, h.ntx hr hb]
      · obtain ⟨hL, ⟨hPl, -⟩, ⟨hT, -⟩, -⟩ := h'.s0
        unfold f_X9_gap f_X9_gap_b21
        simp only [e10, reduceIte, lt, X9_isS hL hT hi hid, bI, z10, X9_it hPl hV, bt_f hb, X9_fail]
      · exact ⟨f3 _ _, rfl⟩
  · refine ⟨nX s, .inl 1, ?_, (CZ.rf s).x, fun s' h' => ⟨sI (sI s' 9 1 3 0) 9 1 3 1, 0, ?_, ms_f (MS.s9 s' (Or.inl rfl) 0) 1, ?_⟩⟩
    · unfold f_X8_gap
      simp only [e10, reduceIte, h.kx hr ha (show 100 ≤ fu by omega), bX]
    · obtain ⟨hL, -, ⟨hT, -⟩, -⟩ := h'.s0
      unfold f_X9_gap f_X9_gap_b21
      simp only [e10, reduceIte, lt, X9_isSx hL hT ha, bI, X9_fail]
    · exact ⟨f3 _ _, rfl⟩
end Q3
