/-! ===== at, until ===== -/
section Q8
variable {s : St} {p n : Nat} {S K : Nat → Int} {R : List Nat} {H : Nat → Int32} {P : Nat → List Pt} {fu : Nat}
theorem hs_ser {o : Nat} {h : Int} {GG : List (List Pt)} (V : VP n S K) (W : WfG n S K h GG) (C : SerC s o p n S K h GG) {A B : List (List Pt)} {g : List Pt} (e : GG = A ++ g :: B) {t : Int32} (ht : ky (ka n S K h) g = t.toInt) : f_X5_hasStart fu s o (nI A.length) t = some (s, 1) := by
  have hl := wf_len W
  have hgx : GG[A.length]? = some g := by rw [e, List.getElem?_append_right (Nat.le_refl _)]; simp
  have hgl := get_lt hgx
  have b1 : inb (nI A.length) (gL s 10 (gR s 5 o 3)) = true := nu_inbn (by have := C.2.2.2.2.1.1; omega) (by omega)
  have hst := C.st V W hgx
  unfold f_X5_hasStart f_X5_hasStart_b23
  simp only [C.1.1, reduceIte, C.2.2.1, ni_le (show GG.length < 2147483648 by omega) (show A.length < 2147483648 by omega), show ¬ GG.length ≤ A.length by omega, C.2.2.2.1.1, b1, Bool.true_eq_false, nu_ixn (show A.length < 2147483648 by omega), zb1]
  rw [if_pos (nu_ext (by rw [hst]; exact ht))]
theorem hs_no {o : Nat} {h : Int} {GG : List (List Pt)} (V : VP n S K) (W : WfG n S K h GG) (C : SerC s o p n S K h GG) {A B : List (List Pt)} (e : GG = A ++ B) {t : Int32} (ht : ∀ g ∈ B, ¬ ky (ka n S K h) g = t.toInt) : f_X5_hasStart fu s o (nI A.length) t = some (s, 0) := by
  have hl := wf_len W
  have hAl : A.length ≤ GG.length := by rw [e, List.length_append]; omega
  unfold f_X5_hasStart f_X5_hasStart_b22 f_X5_hasStart_b23
  simp only [C.1.1, reduceIte, C.2.2.1, ni_le (show GG.length < 2147483648 by omega) (show A.length < 2147483648 by omega), zb0, Bool.true_eq_false]
  by_cases hx : GG.length ≤ A.length
  · rw [if_pos hx]
  · rw [if_neg hx]
    have hBl : 0 < B.length := by rw [e, List.length_append] at hx; omega
    have hgx : GG[A.length]? = some B[0] := by
      rw [e, List.getElem?_append_right (Nat.le_refl _), Nat.sub_self]
      exact List.getElem?_eq_getElem hBl
    have b1 : inb (nI A.length) (gL s 10 (gR s 5 o 3)) = true := nu_inbn (by have := C.2.2.2.2.1.1; omega) (by omega)
    have hst := C.st V W hgx
    simp only [C.2.2.2.1.1, b1, Bool.true_eq_false, reduceIte, nu_ixn (show A.length < 2147483648 by omega)]
    rw [if_neg (fun q => ht _ (List.getElem_mem hBl) (by rw [← hst, q]))]
/-- the bucket of a time, if there is one -/
theorem one_cut {h : Int} {GG : List (List Pt)} (V : VP n S K) (W : WfG n S K h GG) {u : Int} {t : Nat} (hu : TI (sm n S K h) n u t) : ∃ A M C, GG = A ++ (M ++ C) ∧ (∀ g ∈ A, ky (ka n S K h) g < al u (S t)) ∧ (∀ g ∈ M ++ C, al u (S t) ≤ ky (ka n S K h) g) ∧ (∀ g ∈ C, al u (S t) + S t ≤ ky (ka n S K h) g) ∧
    cl GG.flatten (al u (S t)) = A.flatten.length ∧ cl GG.flatten (al u (S t) + S t) = (A ++ M).flatten.length ∧ (M = [] ∨ ∃ g, M = [g] ∧ ky (ka n S K h) g = al u (S t)) := by
  have hs := V.sp hu.1
  have hself := kp_self V hu
  have th1 : ∀ p ∈ GG.flatten, tm p < al u (S t) ↔ ka n S K h (tm p) < al u (S t) := by
    intro p hp
    obtain ⟨j, hj, e⟩ := wf_p V W hp
    have h1 := al_le (x := tm p) (V.sp hj.1).1
    rw [e]
    constructor
    · intro q; omega
    · intro q
      rcases Int.lt_or_le (tm p) (al u (S t)) with w | w
      · exact w
      · have := (kp_mono V hself.1 hj w).2
        rw [hself.2] at this
        omega
  have inb' : ∀ (w : Int) (j : Nat), TI (sm n S K h) n w j → al w (S j) = w → al u (S t) ≤ w → w < al u (S t) + S t → w = al u (S t) := by
    intro w j hj hw h1 h2
    obtain ⟨a1, a2⟩ := kp_in V hu h1 h2
    have := a1.u hj
    subst this
    omega
  have th2 : ∀ p ∈ GG.flatten, tm p < al u (S t) + S t ↔ ka n S K h (tm p) < al u (S t) + S t := by
    intro p hp
    obtain ⟨j, hj, e⟩ := wf_p V W hp
    have h1 := al_le (x := tm p) (V.sp hj.1).1
    rw [e]
    constructor
    · intro q; omega
    · intro q
      rcases Int.lt_or_le (tm p) (al u (S t) + S t) with w | w
      · exact w
      · exfalso
        have hm := (kp_mono V hself.1 hj (by omega)).2
        rw [hself.2] at hm
        have hsj := kp_self V hj
        have hk := inb' _ j hsj.1 hsj.2 hm q
        have := (kp_eq V hu hj).mp hk.symm
        omega
  obtain ⟨A, M, C, e, x1, x2, x3, x4, x5, x6⟩ := two_cut W.1 (T1 := al u (S t)) (T2 := al u (S t) + S t) (by omega) th1 th2
  refine ⟨A, M, C, e, x1, x2, x4, x5, x6, ?_⟩
  have hM : ∀ g ∈ M, ky (ka n S K h) g = al u (S t) := by
    intro g hg
    have hgG : g ∈ GG := by rw [e]; exact List.mem_append_right _ (List.mem_append_left _ hg)
    obtain ⟨j, hj, h2, -, h4⟩ := wf_g V W hgG
    obtain ⟨q, hq, -⟩ := ky_mem (κ := ka n S K h) h4
    have h5 := h2 q hq
    have h6 : al (ky (ka n S K h) g) (S j) = ky (ka n S K h) g := by
      rw [← h5.2]
      exact (kp_self V h5.1).2
    exact inb' _ j hj h6 (x2 g (List.mem_append_left _ hg)) (x3 g (List.mem_append_right _ hg))
  match M, hM, e with
  | [], _, _ => exact Or.inl rfl
  | [g], hM, _ => exact Or.inr ⟨g, rfl, hM g List.mem_cons_self⟩
  | g :: b :: L, hM, e =>
    exfalso
    have hGd := W.1
    rw [e] at hGd
    have h1 := (Gd.app.mp (Gd.app.mp hGd).2.1).1
    have h2 := (Gd.cons.mp h1).2.2 b List.mem_cons_self
    have h3 := hM g List.mem_cons_self
    have h4 := hM b (List.mem_cons_of_mem _ List.mem_cons_self)
    omega
theorem Q_at (h : CQ s p n S K R H P) (hr : rmb (nX s) = true) (hfu : 50000 ≤ fu) (a b d : Int32) : ∃ s1 w, f_X8_at fu s 1 a b d = some (s1, w) ∧ CS s s1 ∧
    ∀ s', RQ s' n S K R H P → ∃ s2 v, f_X9_at fu s' 1 a b d = some (s2, v) ∧ MS s' s2 ∧ cmpI1 w v (gI s2 9 1 3) := by
  have e10 : ¬ (1 = 0) := by decide
  have z10 : ¬ ((1 : Int32) = 0) := by decide
  have hV := h.2.1.2.2.2
  have hn := hV.1
  have e2 : (2 : Int32).toInt = 2 := rfl
  have ej0 : (0 : Int64).toInt = 0 := rfl
  have ej2 : (2 : Int64).toInt = 2 := rfl
  have hp0 := h.p0
  rcases id_cases R a with ⟨i, hi, rfl⟩ | ha
  · have hid := h.id hi
    obtain ⟨ho, GG, hPi, W, C⟩ := h.2.2.2 i hi
    have bi : inb (nI i) 10 = true := nu_inbn (by omega) (by omega)
    rcases what_c d 2 (by omega) with ⟨w, hw, rfl⟩ | hd
    · have hnw : f_X8_needWhat fu s (nI w) 2 = some (s, .inr ()) := CQ.nw w 2 (by rw [e2]; omega) (by omega)
      have u0 : (nI w = 0) ↔ w = 0 := nI_c 0 (by omega) w (by omega)
      have u1 : (nI w = 1) ↔ w = 1 := nI_c 1 (by omega) w (by omega)
      by_cases ht : -1000000 ≤ b.toInt ∧ b.toInt ≤ 1000000
      · have hto := X5_to hV W C b (fu := fu) (by omega)
        cases htq : tq (sm n S K (H i).toInt) n b.toInt with
        | none =>
          refine ⟨s, .inr (if w = 0 then -1 else if w = 1 then -20000 else 0), ?_, (CZ.rf s).cs, fun s' h' => ⟨sI s' 9 1 3 0, if w = 0 then -1 else if w = 1 then -20000 else 0, ?_, MS.s9 s' (Or.inl rfl) 0, f3 _ _, rfl⟩⟩
          · unfold f_X8_at f_X8_at_b64
            simp only [e10, reduceIte, h.kn hi (show 100 ≤ fu by omega), bX, hnw, X8_isTime, bI, nj_up, bt_t ht, z10, ho, hto, htq, tc_none, u0, u1]
            repeat' split
            all_goals first | rfl | omega
          · obtain ⟨hL, ⟨hPl, -⟩, ⟨hT, -⟩, ⟨d1, d2, d3⟩, -⟩ := h'.s0
            unfold f_X9_at f_X9_at_b78
            simp only [e10, reduceIte, lt, X9_isS hL hT hi hid, bI, z10, X9_isTime, nj_up, bt_t ht, X9_isIn, nu_nI (show w < 2147483648 by omega), ej0, ej2, bt_t (show (0 : Int) ≤ w ∧ (w : Int) ≤ 2 by omega), d1, d2, bi, Bool.true_eq_false, nu_ixn (show i < 2147483648 by omega), d3 i hid, X9_tb hV hPl W.2.2.2.2.1 W.2.2.2.2.2 (show 100 ≤ fu by omega), htq, tc_none, u0, u1]
            repeat' split
            all_goals first | rfl | omega
        | some t =>
          have hti := tq_some.mp htq
          have htn := hti.1
          have hs := hV.sp htn
          have btt : inb (nI t) 4 = true := nu_inbn (by omega) (by omega)
          have em : ¬ tc (some t) = (-1 : Int32) := ni_m1 (by omega)
          have et : tc (some t) = nI t := rfl
          obtain ⟨A, M, B, e, x1, x2, x4, x5, x6, x7⟩ := one_cut hV W hti
          obtain ⟨p0, ⟨p1, p2⟩, ⟨p3, p4⟩, p5, p6⟩ := h.2.1.2.2.1
          obtain ⟨q1, -⟩ := p6 t htn
          have hmu := mu_i (a := b) (b := gI s 10 (gR s 2 p 0) t) (by rw [q1]; exact hs.1) (by rw [q1]; omega)
          rw [q1] at hmu
          have a1 := al_le (x := b.toInt) hs.1
          have a2 := al_lt (x := b.toInt) hs.1
          have hmo : mu b (gI s 10 (gR s 2 p 0) t) = Int32.ofInt (al b.toInt (S t)) := by rw [← hmu, Int32.ofInt_toInt]
          have hl := wf_len W
          have hcnt : f_X5_pointsFrom fu s (gR s 14 1 i) (mu b (gI s 10 (gR s 2 p 0) t)) = some (s, nI M.flatten.length) := by
            have hff := ff_ser hV W C (t := mu b (gI s 10 (gR s 2 p 0) t)) e (by rw [hmu]; exact x1) (by rw [hmu]; exact x2) hfu
            unfold f_X5_pointsFrom f_X5_pointsFrom_b25
            rcases x7 with hM | ⟨g, hM, hk⟩
            · subst hM
              have hno := hs_no hV W C (fu := fu) (t := mu b (gI s 10 (gR s 2 p 0) t)) (B := B) e (fun g hg q => by have := x4 g hg; rw [q, hmu] at this; omega)
              simp only [ho, reduceIte, hff, bI, hno]
              rfl
            · subst hM
              have hyes := hs_ser hV W C (fu := fu) (t := mu b (gI s 10 (gR s 2 p 0) t)) (A := A) (B := B) (g := g) e (by rw [hmu]; exact hk)
              have hgx : GG[A.length]? = some g := by rw [e, List.getElem?_append_right (Nat.le_refl _)]; simp
              have hgl := get_lt hgx
              have b1 : inb (nI A.length) (gL s 10 (gR s 5 (gR s 14 1 i) 4)) = true := nu_inbn (by have := C.2.2.2.2.1.2.1; omega) (by omega)
              simp only [ho, reduceIte, hff, bI, hyes, z10, C.2.2.2.1.2.1, b1, Bool.true_eq_false, nu_ixn (show A.length < 2147483648 by omega), (C.2.2.2.2.2 _ g hgx).2.1, fl_one]
          rw [hmo] at hcnt
          refine ⟨s, .inr (if w = 0 then nI t else if w = 1 then Int32.ofInt (al b.toInt (S t)) else nI M.flatten.length), ?_, (CZ.rf s).cs, fun s' h' => ⟨sI s' 9 1 3 0, if w = 0 then nI t else if w = 1 then Int32.ofInt (al b.toInt (S t)) else nI M.flatten.length, ?_, MS.s9 s' (Or.inl rfl) 0, f3 _ _, rfl⟩⟩
          · unfold f_X8_at f_X8_at_b98
            simp only [e10, reduceIte, h.kn hi (show 100 ≤ fu by omega), bX, hnw, X8_isTime, bI, nj_up, bt_t ht, z10, ho, hto, htq, u0, u1, em]
            rw [et]
            simp only [h.2.1.2.1, hp0, p1, p3, btt, Bool.true_eq_false, reduceIte, nu_ixn (show t < 2147483648 by omega), X8_mu (a := b) (b := gI s 10 (gR s 2 p 0) t) (show 0 < (gI s 10 (gR s 2 p 0) t).toInt by rw [q1]; exact hs.1), bI, hcnt, hmo]
            repeat' split
            all_goals first | rfl | omega
          · have h0 := h'.s0
            have hpos := h0.pos hid hPi
            have hfl : A.flatten.length + M.flatten.length + B.flatten.length = GG.flatten.length := by rw [e, fl_app, fl_app]; omega
            obtain ⟨hL, ⟨hPl, -⟩, ⟨hT, -⟩, ⟨d1, d2, d3⟩, hPt, hPW, hTm⟩ := h0
            obtain ⟨⟨m1, m2⟩, ⟨m3, m4⟩, m5, m6⟩ := hPl
            obtain ⟨u3, -⟩ := m6 t htn
            have hm2 : (Int32.toInt64 (Int32.ofInt (al b.toInt (S t))) + Int32.toInt64 (gI (sI s' 9 1 3 0) 10 (gR (sI s' 9 1 3 0) 9 1 4) t)).toInt = al b.toInt (S t) + S t := by
              rw [nj_add (by rw [nj_up, nj_up, nu_of (by omega) (by omega), u3]; omega) (by rw [nj_up, nj_up, nu_of (by omega) (by omega), u3]; omega), nj_up, nj_up, nu_of (by omega) (by omega), u3]
            have hm3 : (Int32.toInt64 (Int32.ofInt (al b.toInt (S t)))).toInt = al b.toInt (S t) := by rw [nj_up, nu_of (by omega) (by omega)]
            have hsub : nI (off P i + (A ++ M).flatten.length) - nI (off P i + A.flatten.length) = nI M.flatten.length := by
              rw [ni_sub (by rw [fl_app]; omega) (by rw [fl_app]; omega), fl_app]
              congr 1
              omega
            unfold f_X9_at f_X9_at_b138
            simp only [e10, reduceIte, lt, X9_isS hL hT hi hid, bI, z10, X9_isTime, nj_up, bt_t ht, X9_isIn, nu_nI (show w < 2147483648 by omega), ej0, ej2, bt_t (show (0 : Int) ≤ w ∧ (w : Int) ≤ 2 by omega), d1, d2, bi, Bool.true_eq_false, nu_ixn (show i < 2147483648 by omega), d3 i hid, X9_tb hV ⟨⟨m1, m2⟩, ⟨m3, m4⟩, m5, m6⟩ W.2.2.2.2.1 W.2.2.2.2.2 (show 100 ≤ fu by omega), htq, em]
            rw [et]
            simp only [m1, m3, btt, Bool.true_eq_false, reduceIte, nu_ixn (show t < 2147483648 by omega), X9_mult (v := Int32.toInt64 b) (n := gI (sI s' 9 1 3 0) 10 (gR (sI s' 9 1 3 0) 9 1 4) t) (by rw [u3]; exact hs.1) (by rw [nj_up]; omega) (by rw [nj_up]; omega), bI, nj_up, u3]
            rw [X9_po hPt hPW hid hfu]
            simp only [bI]
            rw [X9_po hPt hPW hid hfu]
            simp only [bI, hm2, hm3, hPi, x5, x6, hsub, u0, u1]
            repeat' split
            all_goals first | rfl | omega
      · refine ⟨nX s, .inl 1, ?_, (CZ.rf s).x, fun s' h' => ⟨sI (sI s' 9 1 3 0) 9 1 3 1, 0, ?_, ms_f (MS.s9 s' (Or.inl rfl) 0) 1, f3 _ _, rfl⟩⟩
        · unfold f_X8_at
          simp only [e10, reduceIte, h.kn hi (show 100 ≤ fu by omega), bX, hnw, X8_isTime, bI, nj_up, bt_f ht, hr, Bool.true_eq_false]
        · obtain ⟨hL, ⟨hPl, -⟩, ⟨hT, -⟩, -⟩ := h'.s0
          unfold f_X9_at f_X9_at_b33
          simp only [e10, reduceIte, lt, X9_isS hL hT hi hid, bI, z10, X9_isTime, nj_up, bt_f ht, X9_fail]
    · refine ⟨nX s, .inl 1, ?_, (CZ.rf s).x, fun s' h' => ⟨sI (sI s' 9 1 3 0) 9 1 3 1, 0, ?_, ms_f (MS.s9 s' (Or.inl rfl) 0) 1, f3 _ _, rfl⟩⟩
      · unfold f_X8_at
        simp only [e10, reduceIte, h.kn hi (show 100 ≤ fu by omega), bX, X8_nx hr (show ¬ (0 ≤ d.toInt ∧ d.toInt ≤ (2 : Int32).toInt) from hd)]
      · obtain ⟨hL, ⟨hPl, -⟩, ⟨hT, -⟩, -⟩ := h'.s0
        unfold f_X9_at f_X9_at_b33
        simp only [e10, reduceIte, lt, X9_isS hL hT hi hid, bI, z10, X9_isTime, nj_up, X9_isIn, ej0, ej2, bt_f (show ¬ (0 ≤ d.toInt ∧ d.toInt ≤ 2) from hd), X9_fail, bt_z]
        by_cases ht : -1000000 ≤ b.toInt ∧ b.toInt ≤ 1000000
        · rw [if_neg (fun q => q ht)]
        · rw [if_pos ht]
  · refine ⟨nX s, .inl 1, ?_, (CZ.rf s).x, fun s' h' => ⟨sI (sI s' 9 1 3 0) 9 1 3 1, 0, ?_, ms_f (MS.s9 s' (Or.inl rfl) 0) 1, f3 _ _, rfl⟩⟩
    · unfold f_X8_at
      simp only [e10, reduceIte, h.kx hr ha (show 100 ≤ fu by omega), bX]
    · obtain ⟨hL, -, ⟨hT, -⟩, -⟩ := h'.s0
      unfold f_X9_at f_X9_at_b33
      simp only [e10, reduceIte, lt, X9_isSx hL hT ha, bI, X9_fail]
/-! the least head -/
theorem au_ge (x : Int) {b : Int} (hb : 0 < b) : x ≤ au x b ∧ au x b < x + b := by
  have h1 := al_le (x := -x) hb
  have h2 := al_lt (x := -x) hb
  unfold au
  omega
theorem au_al {L v b : Int} (hb : 0 < b) : au L b ≤ v ↔ L ≤ al v b := by
  constructor
  · intro h
    have hd : b ∣ au L b := by unfold au; exact Int.dvd_neg.mpr (al_dv _ _)
    have h1 := al_ge hb hd h
    have h2 := au_ge L hb
    omega
  · intro h
    have hd : b ∣ -(al v b) := Int.dvd_neg.mpr (al_dv _ _)
    have h1 := al_ge hb hd (show -(al v b) ≤ -L by omega)
    have h2 := al_le (x := v) hb
    unfold au
    omega
def stp (n : Nat) (S K : Nat → Int) (i : Nat) (L : Int) : Int := (if i + 1 < n then au L (S (i + 1)) else L) + K i * S i
def lhR (n : Nat) (S K : Nat → Int) : Nat → Int → Int
  | 0, L => au (L - S 0) (S 0)
  | i + 1, L => lhR n S K i (stp n S K i L)
theorem lh_iff (V : VP n S K) (h : Int) : ∀ (i : Nat) (L : Int), i ≤ n → (lhR n S K i L ≤ h ↔ L ≤ pre n S K h i) := by
  have hn := V.1
  intro i
  induction i with
  | zero =>
    intro L _
    have hs := V.sp (i := 0) (by omega)
    show au (L - S 0) (S 0) ≤ h ↔ L ≤ al h (S 0) + S 0
    rw [au_al hs.1]
    omega
  | succ i ih =>
    intro L hi
    show lhR n S K i (stp n S K i L) ≤ h ↔ L ≤ sm n S K h i
    rw [ih _ (by omega), sm_pre i, sa, stp]
    by_cases hl : i + 1 < n
    · rw [if_pos hl, if_pos hl]
      have hs := V.sp hl
      have := au_al (L := L) (v := pre n S K h i - K i * S i) hs.1
      omega
    · rw [if_neg hl, if_neg hl]
      omega
theorem stp_bd (V : VP n S K) {i : Nat} (hi : i < n) (L : Int) : L ≤ stp n S K i L ∧ stp n S K i L ≤ L + 2100000 := by
  have hk := V.ks hi
  have hs := V.sp hi
  unfold stp
  by_cases hl : i + 1 < n
  · rw [if_pos hl]
    have := au_ge L (V.sp hl).1
    have := V.sp hl
    omega
  · rw [if_neg hl]
    omega
theorem X2_lhp (hPl : PlC s p n S K) (V : VP n S K) {t : Nat} (ht : t < n) {u : Int32} (h1 : -1000000 ≤ u.toInt) (h2 : u.toInt ≤ 1000000) (hfu : 100 ≤ fu) : ∃ v, f_X2_leastHeadPast fu s p (nI t) u = some (s, v) ∧ v.toInt = lhR n S K (t + 1) (u.toInt + 1) := by
  have hn := V.1
  obtain ⟨p0, ⟨p1, p2⟩, ⟨p3, p4⟩, p5, p6⟩ := hPl
  have hmf : ∀ (a b : Int32), 0 < b.toInt → b.toInt ≤ 100000 → -100000000 ≤ a.toInt → a.toInt ≤ 100000000 → (-(mu (-a) b)).toInt = au a.toInt b.toInt := by
    intro a b hb hb2 ha1 ha2
    have e1 : (-a).toInt = -a.toInt := nu_neg (by omega)
    have e2 := mu_i (a := -a) (b := b) hb (by rw [e1]; omega)
    rw [e1] at e2
    have h3 := au_ge a.toInt hb
    unfold au at h3 ⊢
    rw [nu_neg (by rw [e2]; omega), e2]
  have base : ∀ (l : Int32) (m : Nat), 0 < m → -50000000 ≤ l.toInt → l.toInt ≤ 50000000 → ∃ v, f_X2_leastHeadPast_b7 fu m s p l (-1) = some (s, v) ∧ v.toInt = lhR n S K 0 l.toInt := by
    intro l m hm l1 l2
    obtain ⟨q1, -⟩ := p6 0 (by omega)
    have hs := V.sp (i := 0) (by omega)
    have b0 : inb 0 4 = true := by decide
    have i0 : ix 0 = 0 := rfl
    have hneg : ((-1 : Int32) < 0) := by decide
    have e1 : (l - gI s 10 (gR s 2 p 0) 0).toInt = l.toInt - S 0 := by rw [nu_sub (by rw [q1]; omega) (by rw [q1]; omega), q1]
    cases m with
    | zero => omega
    | succ m =>
      refine ⟨-(mu (-(l - gI s 10 (gR s 2 p 0) 0)) (gI s 10 (gR s 2 p 0) 0)), ?_, ?_⟩
      · unfold f_X2_leastHeadPast_b7
        simp only [hneg, reduceIte, p0, p1, p3, b0, Bool.true_eq_false, i0, X8_mf (a := l - gI s 10 (gR s 2 p 0) 0) (b := gI s 10 (gR s 2 p 0) 0) (show 0 < (gI s 10 (gR s 2 p 0) 0).toInt by rw [q1]; exact hs.1), bI]
      · rw [hmf _ _ (by rw [q1]; exact hs.1) (by rw [q1]; exact hs.2) (by rw [e1]; omega) (by rw [e1]; omega), e1, q1]
        rfl
  have loop : ∀ (i : Nat) (l : Int32) (m : Nat), i < n → i + 1 < m → -20000000 ≤ l.toInt → l.toInt + 2100000 * (i + 1) ≤ 20000000 → ∃ v, f_X2_leastHeadPast_b7 fu m s p l (nI i) = some (s, v) ∧ v.toInt = lhR n S K (i + 1) l.toInt := by
    intro i
    induction i with
    | zero =>
      intro l m hi hm l1 l2
      cases m with
      | zero => omega
      | succ m =>
        obtain ⟨q1, q2⟩ := p6 0 hi
        have hs := V.sp hi
        have hk := V.ks hi
        have z : nI 0 = 0 := rfl
        have b0 : inb 0 4 = true := by decide
        have i0 : ix 0 = 0 := rfl
        have n0 : ¬ ((0 : Int32) < 0) := by decide
        have m1 : (0 : Int32) + (-1) = -1 := by decide
        have n1 : (0 : Int32) + 1 = nI 1 := by decide
        have e1 : (gI s 10 (gR s 2 p 1) 0 * gI s 10 (gR s 2 p 0) 0).toInt = K 0 * S 0 := by rw [nu_mul (by rw [q1, q2]; omega) (by rw [q1, q2]; omega), q1, q2]
        have key : ∀ l' : Int32, l'.toInt = (if 0 + 1 < n then au l.toInt (S (0 + 1)) else l.toInt) → ∃ v, f_X2_leastHeadPast_b37 fu (f_X2_leastHeadPast_b7 fu m) s p l' 0 = some (s, v) ∧ v.toInt = lhR n S K 1 l.toInt := by
          intro l' hl'
          have hst := stp_bd V hi l.toInt
          have e2 : (l' + gI s 10 (gR s 2 p 1) 0 * gI s 10 (gR s 2 p 0) 0).toInt = stp n S K 0 l.toInt := by
            unfold stp at hst ⊢
            rw [← hl'] at hst ⊢
            rw [nu_add (by rw [e1]; omega) (by rw [e1]; omega), e1]
          obtain ⟨v, v1, v2⟩ := base (l' + gI s 10 (gR s 2 p 1) 0 * gI s 10 (gR s 2 p 0) 0) m (by omega) (by rw [e2]; omega) (by rw [e2]; omega)
          refine ⟨v, ?_, by rw [v2, e2]; rfl⟩
          unfold f_X2_leastHeadPast_b37
          simp only [p0, p1, p2, p3, p4, b0, Bool.true_eq_false, reduceIte, lt, i0, m1]
          exact v1
        unfold f_X2_leastHeadPast_b7
        rw [z]
        simp only [n0, reduceIte, p0, p5, n1, ni_le (show n < 2147483648 by omega) (show 1 < 2147483648 by omega)]
        by_cases hl : n ≤ 1
        · rw [if_pos hl]
          exact key l (by rw [if_neg (by omega)])
        · rw [if_neg hl]
          have b1 : inb (nI 1) 4 = true := by decide
          obtain ⟨q3, -⟩ := p6 1 (by omega)
          have hs1 := V.sp (i := 1) (by omega)
          simp only [p1, p3, b1, Bool.true_eq_false, reduceIte, nu_ixn (show 1 < 2147483648 by omega), X8_mf (a := l) (b := gI s 10 (gR s 2 p 0) 1) (show 0 < (gI s 10 (gR s 2 p 0) 1).toInt by rw [q3]; exact hs1.1), bI]
          exact key _ (by rw [if_pos (by omega), hmf _ _ (by rw [q3]; exact hs1.1) (by rw [q3]; exact hs1.2) (by omega) (by omega), q3])
    | succ i ih =>
      intro l m hi hm l1 l2
      cases m with
      | zero => omega
      | succ m =>
        obtain ⟨q1, q2⟩ := p6 (i + 1) hi
        have hs := V.sp hi
        have hk := V.ks hi
        have b0 : inb (nI (i + 1)) 4 = true := nu_inbn (by omega) (by omega)
        have n0 : ¬ (nI (i + 1) < 0) := by rw [nu_lt, nu_nI (by omega), nu_0]; omega
        have m1 : nI (i + 1) + (-1) = nI i := ni_m (by omega) (by omega)
        have e1 : (gI s 10 (gR s 2 p 1) (i + 1) * gI s 10 (gR s 2 p 0) (i + 1)).toInt = K (i + 1) * S (i + 1) := by rw [nu_mul (by rw [q1, q2]; omega) (by rw [q1, q2]; omega), q1, q2]
        have key : ∀ l' : Int32, l'.toInt = (if i + 1 + 1 < n then au l.toInt (S (i + 1 + 1)) else l.toInt) → ∃ v, f_X2_leastHeadPast_b37 fu (f_X2_leastHeadPast_b7 fu m) s p l' (nI (i + 1)) = some (s, v) ∧ v.toInt = lhR n S K (i + 1 + 1) l.toInt := by
          intro l' hl'
          have hst := stp_bd V hi l.toInt
          have e2 : (l' + gI s 10 (gR s 2 p 1) (i + 1) * gI s 10 (gR s 2 p 0) (i + 1)).toInt = stp n S K (i + 1) l.toInt := by
            unfold stp at hst ⊢
            rw [← hl'] at hst ⊢
            rw [nu_add (by rw [e1]; omega) (by rw [e1]; omega), e1]
          obtain ⟨v, v1, v2⟩ := ih (l' + gI s 10 (gR s 2 p 1) (i + 1) * gI s 10 (gR s 2 p 0) (i + 1)) m (by omega) (by omega) (by rw [e2]; omega) (by rw [e2]; omega)
          refine ⟨v, ?_, by rw [v2, e2]; rfl⟩
          unfold f_X2_leastHeadPast_b37
          simp only [p0, p1, p2, p3, p4, b0, Bool.true_eq_false, reduceIte, lt, nu_ixn (show i + 1 < 2147483648 by omega), m1]
          exact v1
        unfold f_X2_leastHeadPast_b7
        simp only [n0, reduceIte, p0, p5, nu_nIa, ni_le (show n < 2147483648 by omega) (show i + 1 + 1 < 2147483648 by omega)]
        by_cases hl : n ≤ i + 1 + 1
        · rw [if_pos hl]
          exact key l (by rw [if_neg (by omega)])
        · rw [if_neg hl]
          have b1 : inb (nI (i + 1 + 1)) 4 = true := nu_inbn (by omega) (by omega)
          obtain ⟨q3, -⟩ := p6 (i + 1 + 1) (by omega)
          have hs1 := V.sp (i := i + 1 + 1) (by omega)
          simp only [p1, p3, b1, Bool.true_eq_false, reduceIte, nu_ixn (show i + 1 + 1 < 2147483648 by omega), X8_mf (a := l) (b := gI s 10 (gR s 2 p 0) (i + 1 + 1)) (show 0 < (gI s 10 (gR s 2 p 0) (i + 1 + 1)).toInt by rw [q3]; exact hs1.1), bI]
          exact key _ (by rw [if_pos (by omega), hmf _ _ (by rw [q3]; exact hs1.1) (by rw [q3]; exact hs1.2) (by omega) (by omega), q3])
  have e1 : (u + 1).toInt = u.toInt + 1 := by rw [nu_add (by rw [nu_1]; omega) (by rw [nu_1]; omega), nu_1]
  obtain ⟨v, v1, v2⟩ := loop t (u + 1) fu ht (by omega) (by rw [e1]; omega) (by rw [e1]; omega)
  refine ⟨v, ?_, by rw [v2, e1]⟩
  unfold f_X2_leastHeadPast
  exact v1
theorem Q_until (h : CQ s p n S K R H P) (hr : rmb (nX s) = true) (hfu : 3000000 ≤ fu) (a b c : Int32) : ∃ s1 w, f_X8_until fu s 1 a b c = some (s1, w) ∧ CS s s1 ∧
    ∀ s', RQ s' n S K R H P → ∃ s2 v, f_X9_until fu s' 1 a b c = some (s2, v) ∧ MS s' s2 ∧ cmpI w v (gI s2 9 1 3) := by
  have e10 : ¬ (1 = 0) := by decide
  have z10 : ¬ ((1 : Int32) = 0) := by decide
  have hV := h.2.1.2.2.2
  have hn := hV.1
  have hp0 := h.p0
  have em : (1000000 : Int32).toInt = 1000000 := by decide
  rcases id_cases R a with ⟨i, hi, rfl⟩ | ha
  · have hid := h.id hi
    obtain ⟨ho, GG, hPi, W, C⟩ := h.2.2.2 i hi
    have bi : inb (nI i) 10 = true := nu_inbn (by omega) (by omega)
    have H1 := W.2.2.2.2.1
    have H2 := W.2.2.2.2.2
    rcases tier_cases n b with ⟨t, ht, rfl⟩ | hb
    · by_cases htm : -1000000 ≤ c.toInt ∧ c.toInt ≤ 1000000
      · obtain ⟨v, v1, v2⟩ := X2_lhp (fu := fu) h.2.1.2.2.1 hV ht htm.1 htm.2 (by omega)
        have hgal := fun h => lh_iff (n := n) (S := S) (K := K) hV h (t + 1) (c.toInt + 1) (by omega)
        rw [← v2] at hgal
        have hH := h.2.2.1.1.2.2.2.2 i hi
        rw [lr_4_1_1 h.1.1] at hH
        have e6 : ¬ (6 = 0) := by decide
        generalize hX : mx (H i) v = X
        have hXi : X.toInt = max (H i).toInt v.toInt := by rw [← hX, mx_i]
        refine ⟨s, .inr (if X.toInt ≤ 1000000 then X else -1), ?_, (CZ.rf s).cs, fun s' h' => ⟨sI s' 9 1 3 0, if X.toInt ≤ 1000000 then X else -1, ?_, MS.s9 s' (Or.inl rfl) 0, f3 _ _, rfl⟩⟩
        · unfold f_X8_until f_X8_until_b67
          simp only [e10, reduceIte, h.kn hi (show 100 ≤ fu by omega), bX, h.nt ht, X8_isTime, bI, nj_up, bt_t htm, z10, lr_8_1_4 h.1.1, lr_4_1_1 h.1.1, e6, ll_10_6 h.1.1, bi, Bool.true_eq_false, h.2.1.2.1, hp0, v1, nu_ixn (show i < 2147483648 by omega), hH, J_max, hX, nu_le, em]
          split <;> rfl
        · obtain ⟨hL, ⟨hPl, -⟩, ⟨hT, -⟩, ⟨d1, d2, d3⟩, hPt, hPW, hTm⟩ := h'.s0
          have loop : ∀ (d m : Nat) (lo hi : Int32), (hi.toInt - lo.toInt).toNat ≤ d → d < m → (H i).toInt ≤ lo.toInt → lo.toInt ≤ min X.toInt 1000001 → min X.toInt 1000001 ≤ hi.toInt → hi.toInt ≤ 1000001 → f_X9_until_b54 fu m (sI s' 9 1 3 0) 1 (nI t) c lo hi = some (sI s' 9 1 3 0, if X.toInt ≤ 1000000 then X else -1) := by
            intro d
            induction d with
            | zero =>
              intro m lo hi q1 q2 q3 q4 q5 q6
              cases m with
              | zero => omega
              | succ m =>
                unfold f_X9_until_b54 f_X9_until_b114
                rw [if_pos (by rw [nu_le]; omega)]
                simp only [nu_le, em]
                by_cases hx : X.toInt ≤ 1000000
                · have : lo = X := nu_ext (by omega)
                  rw [this]
                  split <;> rfl
                · rw [if_neg hx, if_neg (by omega)]
            | succ d ih =>
              intro m lo hi q1 q2 q3 q4 q5 q6
              cases m with
              | zero => omega
              | succ m =>
                unfold f_X9_until_b54 f_X9_until_b114 f_X9_until_b97
                by_cases hle : hi.toInt ≤ lo.toInt
                · rw [if_pos (by rw [nu_le]; exact hle)]
                  simp only [nu_le, em]
                  by_cases hx : X.toInt ≤ 1000000
                  · have : lo = X := nu_ext (by omega)
                    rw [this]
                    split <;> rfl
                  · rw [if_neg hx, if_neg (by omega)]
                · rw [if_neg (by rw [nu_le]; exact hle)]
                  have e1 : (hi - lo).toInt = hi.toInt - lo.toInt := nu_sub (by omega) (by omega)
                  have e2 : (2 : Int32).toInt = 2 := rfl
                  have e3 : ((hi - lo) / 2).toInt = (hi.toInt - lo.toInt) / 2 := by rw [nu_div (by rw [e2]; omega), e1, e2, td_nn (by omega)]
                  have e4 : (lo + (hi - lo) / 2).toInt = lo.toInt + (hi.toInt - lo.toInt) / 2 := by rw [nu_add (by rw [e3]; omega) (by rw [e3]; omega), e3]
                  generalize lo + (hi - lo) / 2 = mid at e4
                  have hb := sm_bd hV (h := mid.toInt) (by omega) (by omega) ht
                  have hg := hgal mid.toInt
                  have hg2 : v.toInt ≤ mid.toInt ↔ c.toInt + 1 ≤ sm n S K mid.toInt t := hg
                  simp only [lt, e10, reduceIte, X9_sb hV hPl (h := mid) (by omega) (by omega) ht (show 100 ≤ fu by omega), bI, nu_le, nu_of (show -2147483648 ≤ sm n S K mid.toInt t by omega) (by omega)]
                  have e5 : (mid + 1).toInt = mid.toInt + 1 := by rw [nu_add (by rw [nu_1]; omega) (by rw [nu_1]; omega), nu_1]
                  by_cases hc : sm n S K mid.toInt t ≤ c.toInt
                  · rw [if_pos hc]
                    exact ih m (mid + 1) hi (by rw [e5]; omega) (by omega) (by rw [e5]; omega) (by rw [e5]; omega) q5 q6
                  · rw [if_neg hc]
                    exact ih m lo mid (by omega) (by omega) q3 q4 (by omega) (by omega)
          have e7 : (1000001 : Int32).toInt = 1000001 := by decide
          unfold f_X9_until
          simp only [e10, reduceIte, lt, X9_isS hL hT hi hid, bI, z10, X9_it hPl hV, nu_nI (show t < 2147483648 by omega), bt_t (show (0 : Int) ≤ t ∧ (t : Int) < n by omega), X9_isTime, nj_up, bt_t htm, d1, d2, bi, Bool.true_eq_false, nu_ixn (show i < 2147483648 by omega), d3 i hid]
          exact loop 2500000 fu (H i) 1000001 (by rw [e7]; omega) (by omega) (by omega) (by omega) (by rw [e7]; omega) (by rw [e7]; omega)
      · refine ⟨nX s, .inl 2, ?_, (CZ.rf s).x, fun s' h' => ⟨sI (sI s' 9 1 3 0) 9 1 3 2, 0, ?_, ms_f (MS.s9 s' (Or.inl rfl) 0) 2, f3 _ _, Or.inr rfl⟩⟩
        · unfold f_X8_until
          simp only [e10, reduceIte, h.kn hi (show 100 ≤ fu by omega), bX, h.nt ht, X8_isTime, bI, nj_up, bt_f htm, hr, Bool.true_eq_false]
        · obtain ⟨hL, ⟨hPl, -⟩, ⟨hT, -⟩, -⟩ := h'.s0
          unfold f_X9_until
          simp only [e10, reduceIte, lt, X9_isS hL hT hi hid, bI, z10, X9_it hPl hV, nu_nI (show t < 2147483648 by omega), bt_t (show (0 : Int) ≤ t ∧ (t : Int) < n by omega), X9_isTime, nj_up, bt_f htm, X9_fail]
    · refine ⟨nX s, .inl 1, ?_, (CZ.rf s).x, fun s' h' => ⟨sI (sI s' 9 1 3 0) 9 1 3 1, 0, ?_, ms_f (MS.s9 s' (Or.inl rfl) 0) 1, f3 _ _, Or.inl rfl⟩⟩
      · unfold f_X8_until
        simp only [e10, reduceIte, h.kn hi (show 100 ≤ fu by omega), bX, h.ntx hr hb]
      · obtain ⟨hL, ⟨hPl, -⟩, ⟨hT, -⟩, -⟩ := h'.s0
        unfold f_X9_until f_X9_until_b21
        simp only [e10, reduceIte, lt, X9_isS hL hT hi hid, bI, z10, X9_it hPl hV, bt_f hb, X9_fail]
  · refine ⟨nX s, .inl 1, ?_, (CZ.rf s).x, fun s' h' => ⟨sI (sI s' 9 1 3 0) 9 1 3 1, 0, ?_, ms_f (MS.s9 s' (Or.inl rfl) 0) 1, f3 _ _, Or.inl rfl⟩⟩
    · unfold f_X8_until
      simp only [e10, reduceIte, h.kx hr ha (show 100 ≤ fu by omega), bX]
    · obtain ⟨hL, -, ⟨hT, -⟩, -⟩ := h'.s0
      unfold f_X9_until f_X9_until_b21
      simp only [e10, reduceIte, lt, X9_isSx hL hT ha, bI, X9_fail]
end Q8
