/-! ===== total, bar: the calls ===== -/
theorem tS_o (s : St) {τ τ' : Nat} (h : ¬ τ' = τ) (q : T5) (j : Nat) : gI (tS s τ q) 6 τ' j = gI s 6 τ' j := by
  unfold tS
  rw [gI_sI, if_neg (fun w => h w.2.1), gI_sI, if_neg (fun w => h w.2.1), gI_sJ, gI_sI, if_neg (fun w => h w.2.1), gI_sI, if_neg (fun w => h w.2.1)]
theorem tS_oJ (s : St) {τ τ' : Nat} (h : ¬ τ' = τ) (q : T5) (j : Nat) : gJ (tS s τ q) 6 τ' j = gJ s 6 τ' j := by
  unfold tS
  rw [gJ_sI, gJ_sI, gJ_sJ, if_neg (fun w => h w.2.1), gJ_sI, gJ_sI]
def tA (q1 q2 : T5) (w : Nat) : Int64 := if w = 0 then Int32.toInt64 q1.2.1 else if w = 1 then q1.2.2.1 else if w = 2 then Int32.toInt64 q1.2.2.2.1 else if w = 3 then Int32.toInt64 q1.2.2.2.2 else if w = 4 then Int32.toInt64 q2.2.1 else if w = 5 then Int32.toInt64 q1.1 else Int32.toInt64 q2.1
theorem i64_c (w : Nat) (hw : w < 100) : (Int32.toInt64 (nI w)).toInt = w := by rw [nj_up, nu_nI (by omega)]
theorem X6_fact (s : St) {τ : Nat} (hτ : ¬ τ = 0) {w : Nat} (hw : w < 100) (fu : Nat) : f_X6_fact fu s τ (nI w) = some (s, if w = 0 then Int32.toInt64 (gI s 6 τ 1) else if w = 1 then gJ s 6 τ 2 else if w = 2 then Int32.toInt64 (gI s 6 τ 3) else Int32.toInt64 (gI s 6 τ 4)) := by
  have q0 : (nI w = 0) ↔ w = 0 := nI_c 0 (by omega) w hw
  have q1 : (nI w = 1) ↔ w = 1 := nI_c 1 (by omega) w hw
  have q2 : (nI w = 2) ↔ w = 2 := nI_c 2 (by omega) w hw
  unfold f_X6_fact
  simp only [q0, q1, q2, hτ, reduceIte]
  repeat' split
  all_goals rfl
section Q7
variable {s : St} {p n : Nat} {S K : Nat → Int} {R : List Nat} {H : Nat → Int32} {P : Nat → List Pt} {fu : Nat}
theorem CQ.nw (w : Nat) (k : Int32) (hw : (w : Int) ≤ k.toInt) (hw2 : w < 100) : f_X8_needWhat fu s (nI w) k = some (s, .inr ()) := X8_nw (by rw [nu_nI (by omega)]; omega) (by rw [nu_nI (by omega)]; exact hw) fu
theorem what_c (d : Int32) (k : Nat) (hk : k < 100) : (∃ w : Nat, w ≤ k ∧ d = nI w) ∨ ¬ (0 ≤ d.toInt ∧ d.toInt ≤ k) := by
  by_cases h : 0 ≤ d.toInt ∧ d.toInt ≤ k
  · exact Or.inl ⟨d.toInt.toNat, by omega, nu_toN (by omega)⟩
  · exact Or.inr h
/-- a refused look: no such series -/
theorem Q_total (h : CQ s p n S K R H P) (hr : rmb (nX s) = true) (hfu : 50000 ≤ fu) (a b c d : Int32) : ∃ s1 w, f_X8_total fu s 1 a b c d = some (s1, w) ∧ CS s s1 ∧
    ∀ s', RQ s' n S K R H P → ∃ s2 v, f_X9_total fu s' 1 a b c d = some (s2, v) ∧ MS s' s2 ∧ cmpJ w v (gI s2 9 1 3) := by
  have e10 : ¬ (1 = 0) := by decide
  have e20 : ¬ (2 = 0) := by decide
  have z10 : ¬ ((1 : Int32) = 0) := by decide
  have hV := h.2.1.2.2.2
  have e6 : (6 : Int32).toInt = 6 := rfl
  have ej0 : (0 : Int64).toInt = 0 := rfl
  have ej6 : (6 : Int64).toInt = 6 := rfl
  rcases id_cases R a with ⟨i, hi, rfl⟩ | ha
  · have hid := h.id hi
    obtain ⟨ho, GG, hPi, W, C⟩ := h.2.2.2 i hi
    rcases what_c d 6 (by omega) with ⟨w, hw, rfl⟩ | hd
    · have hnw : f_X8_needWhat fu s (nI w) 6 = some (s, .inr ()) := CQ.nw w 6 (by rw [e6]; omega) (by omega)
      by_cases ht : (-1000000 ≤ b.toInt ∧ b.toInt ≤ 1000000) ∧ (-1000000 ≤ c.toInt ∧ c.toInt ≤ 1000000) ∧ b.toInt ≤ c.toInt
      · obtain ⟨t1, t2, t3⟩ := ht
        have hts := X8_ts (fu := fu) h.1.1 h.1.2 h.2.1.1 hid ho hV W C b c hfu
        generalize hq1 : tly (GG.filter (fin n S K (H i).toInt b.toInt c.toInt)) = q1 at hts
        generalize hq2 : tly (GG.filter (fpa n S K (H i).toInt b.toInt c.toInt)) = q2 at hts
        have q : ∀ k, k < 100 → ((nI w = nI k) ↔ w = k) := fun k hk => nI_c k hk w (by omega)
        have u0 : (nI w = 0) ↔ w = 0 := q 0 (by omega)
        have u1 : (nI w = 1) ↔ w = 1 := q 1 (by omega)
        have u2 : (nI w = 2) ↔ w = 2 := q 2 (by omega)
        have u3 : (nI w = 3) ↔ w = 3 := q 3 (by omega)
        have u4 : (nI w = 4) ↔ w = 4 := q 4 (by omega)
        have u5 : (nI w = 5) ↔ w = 5 := q 5 (by omega)
        have u6 : (nI w = 6) ↔ w = 6 := q 6 (by omega)
        refine ⟨tS (tS s 1 q1) 2 q2, .inr (tA q1 q2 w), ?_, ((tS_cz s 1 q1).tr (tS_cz _ 2 q2)).cs, fun s' h' => ?_⟩
        · unfold f_X8_total
          have t3' : b ≤ c := by rw [nu_le]; exact t3
          simp only [e10, reduceIte, h.kn hi (show 100 ≤ fu by omega), bX, hnw, X8_isTime, bI, nj_up, bt_t t1, bt_t t2, z10, t3', hts, bV, (tS_g _ _ _).1, lr_8_1_7 h.1.1, lr_8_1_8 h.1.1, e20, X6_fact _ e10 (show w < 100 by omega), u4, u5, u6, tS_o _ (show ¬ 1 = 2 by decide), tS_oJ _ (show ¬ 1 = 2 by decide), tS_0, tS_1, tS_2, tS_3, tS_4]
          unfold tA
          repeat' split
          all_goals first | rfl | omega
        · obtain ⟨s2, x1, x2, ⟨y1, y2, y3, y4, y5⟩, x4, x5⟩ := X9_totals (fu := fu) h'.s0 hid hPi W b c hfu
          rw [hq1] at y1 y2 y3 y4 y5
          rw [hq2] at x4 x5
          obtain ⟨hL, ⟨hPl, -⟩, ⟨hT, -⟩, -⟩ := h'.s0
          refine ⟨s2, tA q1 q2 w, ?_, (MS.s9 s' (Or.inl rfl) 0).tr x2.1, by rw [x2.2]; exact f3 _ _, rfl⟩
          have t3' : b ≤ c := by rw [nu_le]; exact t3
          unfold f_X9_total
          simp only [e10, reduceIte, lt, X9_isS hL hT hi hid, bI, z10, X9_isIn, i64_c w (by omega), ej0, ej6, bt_t (show (0 : Int) ≤ w ∧ (w : Int) ≤ 6 by omega), X9_isTime, nj_up, bt_t t1, bt_t t2, t3', x1, bV, u0, u1, u2, u3, u4, u5, y1, y2, y3, y4, y5, x4, x5]
          unfold tA
          repeat' split
          all_goals first | rfl | omega
      · refine ⟨nX s, .inl 2, ?_, (CZ.rf s).x, fun s' h' => ⟨sI (sI s' 9 1 3 0) 9 1 3 2, 0, ?_, ms_f (MS.s9 s' (Or.inl rfl) 0) 2, f3 _ _, Or.inr rfl⟩⟩
        · unfold f_X8_total f_X8_total_b35
          simp only [e10, reduceIte, h.kn hi (show 100 ≤ fu by omega), bX, hnw, X8_isTime, bI, nj_up, hr, Bool.true_eq_false, bt_z, nu_le]
          by_cases t1 : -1000000 ≤ b.toInt ∧ b.toInt ≤ 1000000
          · rw [if_neg (fun q => q t1)]
            by_cases t2 : -1000000 ≤ c.toInt ∧ c.toInt ≤ 1000000
            · rw [if_neg (fun q => q t2), if_neg (fun q => ht ⟨t1, t2, q⟩)]
            · rw [if_pos t2]
          · rw [if_pos t1]
        · obtain ⟨hL, ⟨hPl, -⟩, ⟨hT, -⟩, -⟩ := h'.s0
          unfold f_X9_total f_X9_total_b54
          simp only [e10, reduceIte, lt, X9_isS hL hT hi hid, bI, z10, X9_isIn, i64_c w (by omega), ej0, ej6, bt_t (show (0 : Int) ≤ w ∧ (w : Int) ≤ 6 by omega), X9_isTime, nj_up, bt_z, nu_le, X9_fail]
          by_cases t1 : -1000000 ≤ b.toInt ∧ b.toInt ≤ 1000000
          · rw [if_neg (fun q => q t1)]
            by_cases t2 : -1000000 ≤ c.toInt ∧ c.toInt ≤ 1000000
            · rw [if_neg (fun q => q t2), if_neg (fun q => ht ⟨t1, t2, q⟩)]
              rfl
            · rw [if_pos t2]
              rfl
          · rw [if_pos t1]
            rfl
    · refine ⟨nX s, .inl 1, ?_, (CZ.rf s).x, fun s' h' => ⟨sI (sI s' 9 1 3 0) 9 1 3 1, 0, ?_, ms_f (MS.s9 s' (Or.inl rfl) 0) 1, f3 _ _, Or.inl rfl⟩⟩
      · unfold f_X8_total
        simp only [e10, reduceIte, h.kn hi (show 100 ≤ fu by omega), bX, X8_nx hr (show ¬ (0 ≤ d.toInt ∧ d.toInt ≤ (6 : Int32).toInt) from hd)]
      · obtain ⟨hL, ⟨hPl, -⟩, ⟨hT, -⟩, -⟩ := h'.s0
        unfold f_X9_total f_X9_total_b26
        simp only [e10, reduceIte, lt, X9_isS hL hT hi hid, bI, z10, X9_isIn, nj_up, ej0, ej6, bt_f (show ¬ (0 ≤ d.toInt ∧ d.toInt ≤ 6) from hd), X9_fail]
        rfl
  · refine ⟨nX s, .inl 1, ?_, (CZ.rf s).x, fun s' h' => ⟨sI (sI s' 9 1 3 0) 9 1 3 1, 0, ?_, ms_f (MS.s9 s' (Or.inl rfl) 0) 1, f3 _ _, Or.inl rfl⟩⟩
    · unfold f_X8_total
      simp only [e10, reduceIte, h.kx hr ha (show 100 ≤ fu by omega), bX]
    · obtain ⟨hL, -, ⟨hT, -⟩, -⟩ := h'.s0
      unfold f_X9_total f_X9_total_b26
      simp only [e10, reduceIte, lt, X9_isSx hL hT ha, bI, X9_fail]
      rfl
/-- cut at two times -/
theorem two_cut {κ : Int → Int} {GG : List (List Pt)} (hG : Gd κ GG) {T1 T2 : Int} (h12 : T1 ≤ T2) (h1 : ∀ p ∈ GG.flatten, tm p < T1 ↔ κ (tm p) < T1) (h2 : ∀ p ∈ GG.flatten, tm p < T2 ↔ κ (tm p) < T2) :
    ∃ A M C, GG = A ++ (M ++ C) ∧ (∀ g ∈ A, ky κ g < T1) ∧ (∀ g ∈ M ++ C, T1 ≤ ky κ g) ∧ (∀ g ∈ A ++ M, ky κ g < T2) ∧ (∀ g ∈ C, T2 ≤ ky κ g) ∧ cl GG.flatten T1 = A.flatten.length ∧ cl GG.flatten T2 = (A ++ M).flatten.length := by
  obtain ⟨A, R', e1, a1, a2, a3⟩ := gr_cut hG h1
  obtain ⟨A', C, e2, b1, b2, b3⟩ := gr_cut hG h2
  have hle : A.length ≤ A'.length := by
    rcases Nat.lt_or_ge A'.length A.length with q | q
    · exfalso
      have h1 : GG[A'.length]? = some A[A'.length] := by rw [e1, List.getElem?_append_left q, List.getElem?_eq_getElem q]
      rw [e2, List.getElem?_append_right (Nat.le_refl _), Nat.sub_self] at h1
      have h2 := a1 _ (List.getElem_mem q)
      have h3 := b2 _ (List.mem_of_getElem? h1)
      omega
    · exact q
  have e3 : A' = A ++ A'.drop A.length := by
    have h1 : A'.take A.length = A := by
      have h2 : (A' ++ C).take A.length = (A ++ R').take A.length := by rw [← e1, ← e2]
      rw [List.take_append_of_le_length hle, List.take_left' rfl] at h2
      exact h2
    conv => lhs; rw [← List.take_append_drop A.length A', h1]
  have e4 : A ++ R' = A ++ (A'.drop A.length ++ C) := by rw [← List.append_assoc, ← e3, ← e2, ← e1]
  refine ⟨A, A'.drop A.length, C, by rw [e2]; conv => lhs; rw [e3, List.append_assoc], a1, fun g hg => a2 g (by rw [List.append_cancel_left e4]; exact hg), fun g hg => b1 g (by rw [e3]; exact hg), b2, a3, by rw [← e3]; exact b3⟩
theorem X2_bw (hPl : PlC s p n S K) (hV : VP n S K) (w : Int32) : f_X2_isBarWidth fu s p w = some (s, bt (1 ≤ w.toInt ∧ w.toInt ≤ 1000000 ∧ S (n - 1) ∣ w.toInt)) := by
  obtain ⟨p0, ⟨p1, p2⟩, ⟨p3, p4⟩, p5, p6⟩ := hPl
  have hn := hV.1
  have b4 : inb (nI (n - 1)) 4 = true := nu_inbn (by omega) (by omega)
  obtain ⟨q1, -⟩ := p6 (n - 1) (by omega)
  have hs := hV.sp (i := n - 1) (by omega)
  have e1 : (1 : Int32).toInt = 1 := rfl
  have e2 : (1000000 : Int32).toInt = 1000000 := by decide
  unfold f_X2_isBarWidth f_X2_isBarWidth_b34 f_X2_isBarWidth_b35
  simp only [nu_lt, e1, e2, p0, p1, p3, p5, ni_dec (show 0 < n by omega) (show n < 2147483648 by omega), b4, Bool.true_eq_false, reduceIte, nu_ixn (show n - 1 < 2147483648 by omega), X8_mu (b := gI s 10 (gR s 2 p 0) (n - 1)) (show 0 < (gI s 10 (gR s 2 p 0) (n - 1)).toInt by rw [q1]; exact hs.1), bI, zb0, zb1]
  by_cases c1 : w.toInt < 1
  · rw [if_pos c1, bt_f (by omega)]
  · rw [if_neg c1]
    by_cases c2 : 1000000 < w.toInt
    · rw [if_pos c2, bt_f (by omega)]
    · rw [if_neg c2]
      have hm := mu_i (a := w) (b := gI s 10 (gR s 2 p 0) (n - 1)) (by rw [q1]; exact hs.1) (by rw [q1]; omega)
      rw [q1] at hm
      have hq : (mu w (gI s 10 (gR s 2 p 0) (n - 1)) = w) ↔ S (n - 1) ∣ w.toInt := by
        rw [nu_eq, hm]
        constructor
        · intro q; rw [← q]; exact al_dv _ _
        · intro q; exact al_self hs.1 q
      by_cases c3 : S (n - 1) ∣ w.toInt
      · rw [if_pos (hq.mpr c3), bt_t ⟨by omega, by omega, c3⟩]
      · rw [if_neg (fun q => c3 (hq.mp q)), bt_f (fun q => c3 q.2.2)]
theorem rem_z {a b : Int32} (ha : 0 ≤ a.toInt) (hb : 0 < b.toInt) : (a - a / b * b = 0) ↔ b.toInt ∣ a.toInt := by
  have h1 := nu_hi a
  have h2 := nu_hi b
  have hd := nu_div (a := a) hb
  rw [td_nn ha] at hd
  have e := Int.mul_ediv_add_emod a.toInt b.toInt
  have m0 := Int.emod_nonneg a.toInt (show b.toInt ≠ 0 by omega)
  have m1 := Int.emod_lt_of_pos a.toInt hb
  have q0 : 0 ≤ b.toInt * (a.toInt / b.toInt) := Int.mul_nonneg (by omega) (Int.ediv_nonneg ha (by omega))
  have hm : (a / b * b).toInt = b.toInt * (a.toInt / b.toInt) := by
    have e2 : (a / b).toInt * b.toInt = b.toInt * (a.toInt / b.toInt) := by rw [hd, Int.mul_comm]
    rw [nu_mul (by omega) (by omega), e2]
  rw [nu_eq, nu_sub (by omega) (by omega), nu_0, hm, Int.dvd_iff_emod_eq_zero]
  omega
def barA (q : T5) (w : Nat) : Int64 := if w = 0 then Int32.toInt64 q.2.1 else if w = 1 then q.2.2.1 else if w = 2 then Int32.toInt64 q.2.2.2.1 else Int32.toInt64 q.2.2.2.2
theorem Q_bar (h : CQ s p n S K R H P) (hr : rmb (nX s) = true) (hfu : 50000 ≤ fu) (a b c d : Int32) : ∃ s1 w, f_X8_bar fu s 1 a b c d = some (s1, w) ∧ CS s s1 ∧
    ∀ s', RQ s' n S K R H P → ∃ s2 v, f_X9_bar fu s' 1 a b c d = some (s2, v) ∧ MS s' s2 ∧ cmpJ w v (gI s2 9 1 3) := by
  have e10 : ¬ (1 = 0) := by decide
  have z10 : ¬ ((1 : Int32) = 0) := by decide
  have hV := h.2.1.2.2.2
  have hn := hV.1
  have e3 : (3 : Int32).toInt = 3 := rfl
  have ej0 : (0 : Int64).toInt = 0 := rfl
  have ej1 : (1 : Int64).toInt = 1 := rfl
  have ej3 : (3 : Int64).toInt = 3 := rfl
  have ejm : (1000000 : Int64).toInt = 1000000 := by decide
  have hs := hV.sp (i := n - 1) (by omega)
  have hp0 := h.p0
  have b4 : inb (nI (n - 1)) 4 = true := nu_inbn (by omega) (by omega)
  rcases id_cases R a with ⟨i, hi, rfl⟩ | ha
  · have hid := h.id hi
    obtain ⟨ho, GG, hPi, W, C⟩ := h.2.2.2 i hi
    rcases what_c d 3 (by omega) with ⟨w, hw, rfl⟩ | hd
    · have hnw : f_X8_needWhat fu s (nI w) 3 = some (s, .inr ()) := CQ.nw w 3 (by rw [e3]; omega) (by omega)
      have q : ∀ k, k < 100 → ((nI w = nI k) ↔ w = k) := fun k hk => nI_c k hk w (by omega)
      have u0 : (nI w = 0) ↔ w = 0 := q 0 (by omega)
      have u1 : (nI w = 1) ↔ w = 1 := q 1 (by omega)
      have u2 : (nI w = 2) ↔ w = 2 := q 2 (by omega)
      by_cases hw1 : 1 ≤ b.toInt ∧ b.toInt ≤ 1000000 ∧ S (n - 1) ∣ b.toInt
      · by_cases ht : -1000000 ≤ c.toInt ∧ c.toInt ≤ 1000000
        · obtain ⟨w1, w2, w3⟩ := hw1
          have hl := wf_len W
          have hmu := mu_i (a := c) (b := b) (by omega) (by omega)
          have a1 := al_le (x := c.toInt) (b := b.toInt) (by omega)
          have a2 := al_lt (x := c.toInt) (b := b.toInt) (by omega)
          have hthr : ∀ T, b.toInt ∣ T → ∀ p ∈ GG.flatten, tm p < T ↔ ka n S K (H i).toInt (tm p) < T := by
            intro T hT p hp
            obtain ⟨j, hj, e⟩ := wf_p hV W hp
            have hpj := (hV.sp hj.1).1
            rw [e]
            have h1 := al_le (x := tm p) hpj
            constructor
            · intro h2; omega
            · intro h2
              rcases Int.lt_or_le (tm p) T with q | q
              · exact q
              · have hdv : S j ∣ T := Int.dvd_trans (Int.dvd_trans (hV.dv (i := j) (j := n - 1) (by have := hj.1; omega) (by omega)) w3) hT
                have := al_ge hpj hdv q
                omega
          have hT1 : b.toInt ∣ al c.toInt b.toInt := al_dv _ _
          have hT2 : b.toInt ∣ al c.toInt b.toInt + b.toInt := Int.dvd_add (al_dv _ _) (Int.dvd_refl _)
          obtain ⟨A, M, B, e, x1, x2, x3, x4, x5, x6⟩ := two_cut W.1 (T1 := al c.toInt b.toInt) (T2 := al c.toInt b.toInt + b.toInt) (by omega) (hthr _ hT1) (hthr _ hT2)
          have hMl : A.length + M.length + B.length = GG.length := by rw [e, List.length_append, List.length_append]; omega
          have hend : (mu c b + b).toInt = al c.toInt b.toInt + b.toInt := by rw [nu_add (by rw [hmu]; omega) (by rw [hmu]; omega), hmu]
          have Ca := fun q => C.cs h.1.1 h.1.2 h.2.1.1 hid ho (tS_cz s 1 q).cs
          have b1 : ∀ j q, j < GG.length → inb (nI j) (gL (tS s 1 q) 10 (gR (tS s 1 q) 5 (gR s 14 1 i) 3)) = true := fun j q hj => by
            have := (Ca q).2.2.2.2.1.1
            exact nu_inbn (by omega) (by omega)
          have fin0 : ∀ q : T5, f_X8_bar_b108 fu (tS s 1 q) 1 (nI w) = some (tS s 1 q, .inr (barA q w)) := fun q => by
            unfold f_X8_bar_b108
            simp only [e10, reduceIte, (tS_g _ _ _).1, lr_8_1_7 h.1.1, X6_fact _ e10 (show w < 100 by omega), tS_1, tS_2, tS_3, tS_4, bI]
            unfold barA
            repeat' split
            all_goals first | rfl | omega
          have loop : ∀ (L X : List (List Pt)) (m : Nat), M = X ++ L → L.length < m → f_X8_bar_b66 fu m (tS s 1 (tly X)) 1 b (nI w) (gR s 14 1 i) (mu c b) (nI (A.length + X.length)) = some (tS s 1 (tly M), .inr (barA (tly M) w)) := by
            intro L
            induction L with
            | nil =>
              intro X m eX hm
              rw [List.append_nil] at eX
              subst eX
              cases m with
              | zero => omega
              | succ m =>
                unfold f_X8_bar_b66
                simp only [ho, reduceIte, (Ca (tly M)).2.2.1, ni_le (show GG.length < 2147483648 by omega) (show A.length + M.length < 2147483648 by omega), fin0]
                by_cases hx : GG.length ≤ A.length + M.length
                · rw [if_pos hx]
                · rw [if_neg hx]
                  have hBl : 0 < B.length := by omega
                  have hgx : GG[A.length + M.length]? = some B[0] := by
                    rw [e, ← List.append_assoc, List.getElem?_append_right (by rw [List.length_append]; omega), List.length_append, Nat.sub_self]
                    exact List.getElem?_eq_getElem hBl
                  have hk := x4 _ (List.getElem_mem hBl)
                  have hst := (Ca (tly M)).st hV W hgx
                  simp only [(Ca (tly M)).2.2.2.1.1, b1 (A.length + M.length) (tly M) (by omega), Bool.true_eq_false, reduceIte, nu_ixn (show A.length + M.length < 2147483648 by omega), nu_le, hend, hst]
                  rw [if_pos hk]
            | cons g L ih =>
              intro X m eX hm
              have hXl : X.length + (L.length + 1) = M.length := by rw [eX, List.length_append, List.length_cons]
              have hgx : GG[A.length + X.length]? = some g := by
                rw [e, eX, List.getElem?_append_right (by omega), Nat.add_sub_cancel_left, List.append_assoc, List.getElem?_append_right (Nat.le_refl _)]
                simp
              cases m with
              | zero => omega
              | succ m =>
                rw [List.length_cons] at hm
                have hih := ih (X ++ [g]) m (by rw [eX, List.append_assoc]; rfl) (by omega)
                rw [tly_s, List.length_append, List.length_singleton, ← Nat.add_assoc] at hih
                have hk := x3 g (by rw [eX]; exact List.mem_append_right _ (List.mem_append_right _ List.mem_cons_self))
                have hst : (gI (tS s 1 (tly X)) 10 (gR s 5 (gR s 14 1 i) 3) (A.length + X.length)).toInt = ky (ka n S K (H i).toInt) g := (Ca (tly X)).st hV W hgx
                have b1' : inb (nI (A.length + X.length)) (gL (tS s 1 (tly X)) 10 (gR s 5 (gR s 14 1 i) 3)) = true := b1 (A.length + X.length) (tly X) (by omega)
                unfold f_X8_bar_b66
                simp only [ho, reduceIte, (Ca (tly X)).2.2.1, ni_le (show GG.length < 2147483648 by omega) (show A.length + X.length < 2147483648 by omega), show ¬ GG.length ≤ A.length + X.length by omega, (tS_g _ _ _).1, C.2.2.2.1.1, b1', Bool.true_eq_false, nu_ixn (show A.length + X.length < 2147483648 by omega), nu_le, hend, hst, show ¬ (al c.toInt b.toInt + b.toInt ≤ ky (ka n S K (H i).toInt) g) by omega, e10, (tS_g _ _ _).1, lr_8_1_7 h.1.1, X6_add e10 W _ (Ca (tly X)) hgx, bV, lt, nu_nIa]
                exact hih
          refine ⟨tS s 1 (tly M), .inr (barA (tly M) w), ?_, (tS_cz s 1 _).cs, fun s' h' => ?_⟩
          · have hff := ff_ser hV W (Ca t0) (t := mu c b) e (by rw [hmu]; exact x1) (by rw [hmu]; exact x2) hfu
            unfold f_X8_bar
            simp only [e10, reduceIte, h.kn hi (show 100 ≤ fu by omega), bX, hnw, h.2.1.2.1, hp0, X2_bw h.2.1.2.2.1 hV, bI, bt_t (show 1 ≤ b.toInt ∧ b.toInt ≤ 1000000 ∧ S (n - 1) ∣ b.toInt from ⟨w1, w2, w3⟩), z10, X8_isTime, nj_up, bt_t ht, X8_mu (a := c) (b := b) (by omega), lr_8_1_7 h.1.1, X6_clear s e10, bV, ho, hff]
            exact loop M [] fu rfl (by omega)
          · have h0 := h'.s0
            have hpos := h0.pos hid hPi
            have hfl : A.flatten.length + M.flatten.length + B.flatten.length = GG.flatten.length := by rw [e, fl_app, fl_app]; omega
            have u0' := u0
            have mloop : ∀ (L X : List (List Pt)) (m : Nat) (s1 : St), M = X ++ L → MZ (sI s' 9 1 3 0) s1 → TM s1 (tly X) → L.length < m → ∃ s2, f_X9_bar_b111 fu m s1 1 (nI w) (nI (off P i + (A ++ M).flatten.length)) (nI (off P i + (A ++ X).flatten.length)) = some (s2, barA (tly M) w) ∧ MZ (sI s' 9 1 3 0) s2 := by
              intro L
              induction L with
              | nil =>
                intro X m s1 eX hm htm hl'
                rw [List.append_nil] at eX
                subst eX
                cases m with
                | zero => omega
                | succ m =>
                  refine ⟨s1, ?_, hm⟩
                  obtain ⟨y1, y2, y3, y4, y5⟩ := htm
                  unfold f_X9_bar_b111 f_X9_bar_b178
                  rw [if_pos ((ni_le (by rw [fl_app]; omega) (by rw [fl_app]; omega)).mpr (Nat.le_refl _))]
                  simp only [e10, reduceIte, u0, u1, u2, y2, y3, y4, y5]
                  unfold barA
                  repeat' split
                  all_goals first | rfl | omega
              | cons g L ih =>
                intro X m s1 eX hm htm hl'
                cases m with
                | zero => omega
                | succ m =>
                  rw [List.length_cons] at hl'
                  have hgM : g ∈ M := by rw [eX]; exact List.mem_append_right _ List.mem_cons_self
                  have hg : g ∈ GG := by rw [e]; exact List.mem_append_right _ (List.mem_append_left _ hgM)
                  have hgl := wf_gl W hg
                  have hXM : X.flatten.length + g.length + L.flatten.length = M.flatten.length := by rw [eX, fl_app, fl_cons]; omega
                  have hXl : X.length + (L.length + 1) = M.length := by rw [eX, List.length_append, List.length_cons]
                  have e2 : GG = (A ++ X) ++ g :: (L ++ B) := by rw [e, eX]; simp
                  have hadd := X9_adds (fu := fu) (n := n) (S := S) (K := K) (hh := (H i).toInt) htm (fun y hy => W.1.1 y (by rw [e, eX]; exact List.mem_append_right _ (List.mem_append_left _ (List.mem_append_left _ hy)))) (by omega) (by omega) (W.1.1 g hg) (wf_v W hg)
                  obtain ⟨s2, v1, v2⟩ := ih (X ++ [g]) m (rS (bG s1 n S K (H i).toInt g) (tly (X ++ [g]))) (by rw [eX, List.append_assoc]; rfl) ((hm.tr (bG_ms _ _ _ _ _ _)).tr (rS_mz _ _)) (rS_tm _ _) (by omega)
                  refine ⟨s2, ?_, v2⟩
                  unfold f_X9_bar_b111
                  rw [if_neg (fun q => by have := (ni_le (by rw [fl_app]; omega) (by rw [fl_app]; omega)).mp q; rw [fl_app, fl_app] at this; omega)]
                  simp only [e10, reduceIte, X9_nb (h0.mz hm) hid hPi W e2 hfu, bI, hadd, bV]
                  rw [← List.append_assoc] at v1
                  exact v1
            obtain ⟨s2, v1, v2⟩ := mloop M [] fu (rS (sI s' 9 1 3 0) t0) rfl (rS_mz _ _) (rS_tm _ _) (by omega)
            refine ⟨s2, barA (tly M) w, ?_, (MS.s9 s' (Or.inl rfl) 0).tr v2.1, by rw [v2.2]; exact f3 _ _, rfl⟩
            have hr0 := h0.mz (rS_mz (sI s' 9 1 3 0) t0)
            obtain ⟨hL, ⟨⟨⟨m1, m2⟩, ⟨m3, m4⟩, m5, m6⟩, -⟩, ⟨hT, -⟩, -⟩ := h0
            obtain ⟨-, -, -, -, hPt, hPW, hTm⟩ := hr0
            obtain ⟨u3, -⟩ := m6 (n - 1) (by omega)
            have hq0 : ¬ gI (sI s' 9 1 3 0) 10 (gR (sI s' 9 1 3 0) 9 1 4) (n - 1) = 0 := fun q => by
              rw [q] at u3
              have : (0 : Int32).toInt = 0 := rfl
              omega
            have hrem := rem_z (a := b) (b := gI (sI s' 9 1 3 0) 10 (gR (sI s' 9 1 3 0) 9 1 4) (n - 1)) (by omega) (by rw [u3]; exact hs.1)
            rw [u3] at hrem
            have hm2 : (Int32.toInt64 (Int32.ofInt (al c.toInt b.toInt)) + Int32.toInt64 b).toInt = al c.toInt b.toInt + b.toInt := by
              rw [nj_add (by rw [nj_up, nj_up, nu_of (by omega) (by omega)]; omega) (by rw [nj_up, nj_up, nu_of (by omega) (by omega)]; omega), nj_up, nj_up, nu_of (by omega) (by omega)]
            have hm3 : (Int32.toInt64 (Int32.ofInt (al c.toInt b.toInt))).toInt = al c.toInt b.toInt := by rw [nj_up, nu_of (by omega) (by omega)]
            unfold f_X9_bar
            simp only [e10, reduceIte, lt, X9_isS hL hT hi hid, bI, z10, X9_isIn, i64_c w (by omega), ej0, ej1, ej3, ejm, bt_t (show (0 : Int) ≤ w ∧ (w : Int) ≤ 3 by omega), nj_up, bt_t (show 1 ≤ b.toInt ∧ b.toInt ≤ 1000000 from ⟨w1, w2⟩), m1, m3, m5, ni_dec (show 0 < n by omega) (show n < 2147483648 by omega), b4, Bool.true_eq_false, nu_ixn (show n - 1 < 2147483648 by omega), hq0, hrem.mpr w3, X9_isTime, bt_t ht,
              X9_mult (v := Int32.toInt64 c) (n := b) (by omega) (by rw [nj_up]; omega) (by rw [nj_up]; omega), X9_clears, bV]
            rw [X9_po hPt hPW hid hfu]
            simp only [bI]
            rw [X9_po hPt hPW hid hfu]
            simp only [bI]
            rw [hm2, hm3, hPi, x5, x6]
            rw [List.append_nil] at v1
            exact v1
        · refine ⟨nX s, .inl 2, ?_, (CZ.rf s).x, fun s' h' => ⟨sI (sI s' 9 1 3 0) 9 1 3 2, 0, ?_, ms_f (MS.s9 s' (Or.inl rfl) 0) 2, f3 _ _, Or.inr rfl⟩⟩
          · unfold f_X8_bar f_X8_bar_b32
            simp only [e10, reduceIte, h.kn hi (show 100 ≤ fu by omega), bX, hnw, h.2.1.2.1, hp0, X2_bw h.2.1.2.2.1 hV, bI, bt_t hw1, z10, X8_isTime, nj_up, bt_f ht, hr, Bool.true_eq_false]
          · obtain ⟨hL, ⟨⟨⟨m1, m2⟩, ⟨m3, m4⟩, m5, m6⟩, -⟩, ⟨hT, -⟩, -⟩ := h'.s0
            obtain ⟨u3, -⟩ := m6 (n - 1) (by omega)
            have hq0 : ¬ gI (sI s' 9 1 3 0) 10 (gR (sI s' 9 1 3 0) 9 1 4) (n - 1) = 0 := fun q => by
              rw [q] at u3
              have : (0 : Int32).toInt = 0 := rfl
              omega
            have hrem := rem_z (a := b) (b := gI (sI s' 9 1 3 0) 10 (gR (sI s' 9 1 3 0) 9 1 4) (n - 1)) (by omega) (by rw [u3]; exact hs.1)
            rw [u3] at hrem
            unfold f_X9_bar f_X9_bar_b69
            simp only [e10, reduceIte, lt, X9_isS hL hT hi hid, bI, z10, X9_isIn, i64_c w (by omega), ej0, ej1, ej3, ejm, bt_t (show (0 : Int) ≤ w ∧ (w : Int) ≤ 3 by omega), nj_up, bt_t (show 1 ≤ b.toInt ∧ b.toInt ≤ 1000000 from ⟨hw1.1, hw1.2.1⟩), m1, m3, m5, ni_dec (show 0 < n by omega) (show n < 2147483648 by omega), b4, Bool.true_eq_false, nu_ixn (show n - 1 < 2147483648 by omega), hq0, hrem.mpr hw1.2.2, X9_isTime, bt_f ht, X9_fail]
            rfl
      · refine ⟨nX s, .inl 2, ?_, (CZ.rf s).x, fun s' h' => ⟨sI (sI s' 9 1 3 0) 9 1 3 2, 0, ?_, ms_f (MS.s9 s' (Or.inl rfl) 0) 2, f3 _ _, Or.inr rfl⟩⟩
        · unfold f_X8_bar f_X8_bar_b32
          simp only [e10, reduceIte, h.kn hi (show 100 ≤ fu by omega), bX, hnw, h.2.1.2.1, hp0, X2_bw h.2.1.2.2.1 hV, bI, bt_f hw1, hr, Bool.true_eq_false]
        · obtain ⟨hL, ⟨⟨⟨m1, m2⟩, ⟨m3, m4⟩, m5, m6⟩, -⟩, ⟨hT, -⟩, -⟩ := h'.s0
          obtain ⟨u3, -⟩ := m6 (n - 1) (by omega)
          have hq0 : ¬ gI (sI s' 9 1 3 0) 10 (gR (sI s' 9 1 3 0) 9 1 4) (n - 1) = 0 := fun q => by
            rw [q] at u3
            have : (0 : Int32).toInt = 0 := rfl
            omega
          unfold f_X9_bar f_X9_bar_b69
          simp only [e10, reduceIte, lt, X9_isS hL hT hi hid, bI, z10, X9_isIn, i64_c w (by omega), ej0, ej1, ej3, ejm, bt_t (show (0 : Int) ≤ w ∧ (w : Int) ≤ 3 by omega), nj_up, bt_z, m1, m3, m5, ni_dec (show 0 < n by omega) (show n < 2147483648 by omega), b4, Bool.true_eq_false, nu_ixn (show n - 1 < 2147483648 by omega), hq0, X9_fail]
          by_cases c1 : 1 ≤ b.toInt ∧ b.toInt ≤ 1000000
          · rw [if_neg (fun q => q c1)]
            have hrem := rem_z (a := b) (b := gI (sI s' 9 1 3 0) 10 (gR (sI s' 9 1 3 0) 9 1 4) (n - 1)) (by omega) (by rw [u3]; exact hs.1)
            rw [u3] at hrem
            rw [if_neg (fun q => hw1 ⟨c1.1, c1.2, hrem.mp q⟩)]
            rfl
          · rw [if_pos c1]
            rfl
    · refine ⟨nX s, .inl 1, ?_, (CZ.rf s).x, fun s' h' => ⟨sI (sI s' 9 1 3 0) 9 1 3 1, 0, ?_, ms_f (MS.s9 s' (Or.inl rfl) 0) 1, f3 _ _, Or.inl rfl⟩⟩
      · unfold f_X8_bar
        simp only [e10, reduceIte, h.kn hi (show 100 ≤ fu by omega), bX, X8_nx hr (show ¬ (0 ≤ d.toInt ∧ d.toInt ≤ (3 : Int32).toInt) from hd)]
      · obtain ⟨hL, ⟨hPl, -⟩, ⟨hT, -⟩, -⟩ := h'.s0
        unfold f_X9_bar f_X9_bar_b26
        simp only [e10, reduceIte, lt, X9_isS hL hT hi hid, bI, z10, X9_isIn, nj_up, ej0, ej3, bt_f (show ¬ (0 ≤ d.toInt ∧ d.toInt ≤ 3) from hd), X9_fail]
        rfl
  · refine ⟨nX s, .inl 1, ?_, (CZ.rf s).x, fun s' h' => ⟨sI (sI s' 9 1 3 0) 9 1 3 1, 0, ?_, ms_f (MS.s9 s' (Or.inl rfl) 0) 1, f3 _ _, Or.inl rfl⟩⟩
    · unfold f_X8_bar
      simp only [e10, reduceIte, h.kx hr ha (show 100 ≤ fu by omega), bX]
    · obtain ⟨hL, -, ⟨hT, -⟩, -⟩ := h'.s0
      unfold f_X9_bar f_X9_bar_b26
      simp only [e10, reduceIte, lt, X9_isSx hL hT ha, bI, X9_fail]
      rfl
end Q7
