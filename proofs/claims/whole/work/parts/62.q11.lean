/-! ===== would, both ===== -/
section Q11
variable {s : St} {p n : Nat} {S K : Nat → Int} {R : List Nat} {H : Nat → Int32} {P : Nat → List Pt} {fu : Nat}
theorem Q_would (h : CQ s p n S K R H P) (hr : rmb (nX s) = true) (hTh : ThC s) (hfu : 50000 ≤ fu) (a b d : Int32) : ∃ s1 w, f_X8_would fu s 1 a b d = some (s1, w) ∧ CS s s1 ∧
    ∀ s', RQ s' n S K R H P → ∃ s2 v, f_X9_would fu s' 1 a b d = some (s2, v) ∧ MS s' s2 ∧ cmpI w v (gI s2 9 1 3) := by
  have e10 : ¬ (1 = 0) := by decide
  have z10 : ¬ ((1 : Int32) = 0) := by decide
  have e9 : ¬ (9 = 0) := by decide
  have hV := h.2.1.2.2.2
  have hn := hV.1
  have e2 : (2 : Int32).toInt = 2 := rfl
  have ej0 : (0 : Int64).toInt = 0 := rfl
  have ej2 : (2 : Int64).toInt = 2 := rfl
  rcases id_cases R a with ⟨i, hi, rfl⟩ | ha
  · have hid := h.id hi
    obtain ⟨ho, GG, hPi, W, C⟩ := h.2.2.2 i hi
    have bi : inb (nI i) 10 = true := nu_inbn (by omega) (by omega)
    rcases what_c d 2 (by omega) with ⟨w, hw, rfl⟩ | hd
    · have hnw : f_X8_needWhat fu s (nI w) 2 = some (s, .inr ()) := CQ.nw w 2 (by rw [e2]; omega) (by omega)
      have u0 : (nI w = 0) ↔ w = 0 := nI_c 0 (by omega) w (by omega)
      have u1 : (nI w = 1) ↔ w = 1 := nI_c 1 (by omega) w (by omega)
      have bw : inb (nI w) 4 = true := nu_inbn (by omega) (by omega)
      by_cases ht : -1000000 ≤ b.toInt ∧ b.toInt ≤ 1000000
      · have H1 := W.2.2.2.2.1
        have H2 := W.2.2.2.2.2
        have htop : (mx b (H i)).toInt = max b.toInt (H i).toInt := mx_i _ _
        have hcm : mx (H i) b = mx b (H i) := mx_cm _ _
        generalize hX : mx b (H i) = top at htop hcm
        obtain ⟨A, B, e, g1, g2, g3⟩ := gone_cut (h := (H i).toInt) (h' := top.toInt) hV W
        obtain ⟨l', hfo⟩ := fo_all (h := (H i).toInt) (h' := top.toInt) hV W (by omega) (by omega) e g1 g2
        obtain ⟨sF, hcz, hfr⟩ := X5_fore (fu := fu) h.1.1 h.1.2 hTh h.2.1.1 hid ho hV W C (top := top) (by omega) (by omega) hfu
        rw [hfo] at hfr
        have hH := h.2.2.1.1.2.2.2.2 i hi
        rw [lr_4_1_1 h.1.1] at hH
        have e6 : ¬ (6 = 0) := by decide
        have hl := wf_len W
        have s9 : scr sF 9 := Or.inl rfl
        have hcz2 : CZ s (sI (sI (sI sF 10 9 0 (nI (kn n S K (H i).toInt top.toInt B))) 10 9 1 (nI A.flatten.length)) 10 9 2 (nI (oc n S K (H i).toInt top.toInt GG))) := ((hcz.tr (CZ.sa s9 0 _)).tr (CZ.sa (Or.inl rfl) 1 _)).tr (CZ.sa (Or.inl rfl) 2 _)
        have hrd : gI (sI (sI (sI sF 10 9 0 (nI (kn n S K (H i).toInt top.toInt B))) 10 9 1 (nI A.flatten.length)) 10 9 2 (nI (oc n S K (H i).toInt top.toInt GG))) 10 9 w = if w = 0 then nI (kn n S K (H i).toInt top.toInt B) else if w = 1 then nI A.flatten.length else nI (oc n S K (H i).toInt top.toInt GG) := by
          have hw' : w = 0 ∨ w = 1 ∨ w = 2 := by omega
          rcases hw' with rfl | rfl | rfl
          · rw [gI_sI, if_neg (by omega), gI_sI, if_neg (by omega), gI_sI, if_pos ⟨rfl, rfl, rfl⟩, if_pos rfl]
          · rw [gI_sI, if_neg (by omega), gI_sI, if_pos ⟨rfl, rfl, rfl⟩, if_neg (by omega), if_pos rfl]
          · rw [gI_sI, if_pos ⟨rfl, rfl, rfl⟩, if_neg (by omega), if_neg (by omega)]
        refine ⟨_, .inr (if w = 0 then nI (kn n S K (H i).toInt top.toInt B) else if w = 1 then nI A.flatten.length else nI (oc n S K (H i).toInt top.toInt GG)), ?_, hcz2.cs, fun s' h' => ?_⟩
        · unfold f_X8_would
          simp only [e10, reduceIte, h.kn hi (show 100 ≤ fu by omega), bX, hnw, X8_isTime, bI, nj_up, bt_t ht, z10, lr_8_1_4 h.1.1, lr_4_1_1 h.1.1, e6, ll_10_6 h.1.1, bi, Bool.true_eq_false, nu_ixn (show i < 2147483648 by omega), hH, J_max, hX, ho, lr_8_1_9 h.1.1, hfr, bV, hcz2.1.1, hcz2.1.2.1, e9, ll_10_9 h.1.1, bw, nu_ixn (show w < 2147483648 by omega), hrd]
        · have h0 := h'.s0
          have hpos := h0.pos hid hPi
          have hfl : A.flatten.length ≤ GG.flatten.length := by rw [e, fl_app]; omega
          have hbb := X9_bby (fu := fu) h0 hid hPi W (top := top) (by omega) (by omega) e g2 g3 hfu
          obtain ⟨s2, v1, v2⟩ := X9_mvb (fu := fu) h0 hid hPi W (top := top) (by omega) (by omega) hfu
          have hb := sm_bd hV (h := top.toInt) (by omega) (by omega) (i := n - 1) (by omega)
          obtain ⟨hL, ⟨hPl, -⟩, ⟨hT, -⟩, ⟨d1, d2, d3⟩, hPt, hPW, hTm⟩ := h0
          have hfirst : f_X9_would fu s' 1 (nI i) b (nI w) = if w = 0 then some (sI s' 9 1 3 0, nI (kn n S K (H i).toInt top.toInt B)) else if w = 1 then some (sI s' 9 1 3 0, nI A.flatten.length) else some (s2, nI (oc n S K (H i).toInt top.toInt GG)) := by
            have hsub : nI (off P i + A.flatten.length) - nI (off P i) = nI A.flatten.length := by rw [ni_sub (by omega) (by omega), Nat.add_sub_cancel_left]
            unfold f_X9_would f_X9_would_b110
            simp only [e10, reduceIte, lt, X9_isS hL hT hi hid, bI, z10, X9_isIn, nj_up, nu_nI (show w < 2147483648 by omega), ej0, ej2, bt_t (show (0 : Int) ≤ w ∧ (w : Int) ≤ 2 by omega), X9_isTime, bt_t ht, d1, d2, bi, Bool.true_eq_false, nu_ixn (show i < 2147483648 by omega), d3 i hid, J_max, hcm, hbb, v1, u0, u1, hPl.2.2.1, ni_dec (show 0 < n by omega) (show n < 2147483648 by omega), X9_sb hV hPl (h := top) (by omega) (by omega) (show n - 1 < n by omega) (show 100 ≤ fu by omega), X9_po hPt hPW hid hfu, nu_of (show -2147483648 ≤ sm n S K top.toInt (n - 1) by omega) (show sm n S K top.toInt (n - 1) ≤ 2147483647 by omega), X9_fo hPt hPW hTm hid hfu, hPi, g3, hsub]
          rw [hfirst]
          by_cases w0 : w = 0
          · rw [if_pos w0, if_pos w0]
            exact ⟨_, _, rfl, MS.s9 s' (Or.inl rfl) 0, f3 _ _, rfl⟩
          · rw [if_neg w0, if_neg w0]
            by_cases w1 : w = 1
            · rw [if_pos w1, if_pos w1]
              exact ⟨_, _, rfl, MS.s9 s' (Or.inl rfl) 0, f3 _ _, rfl⟩
            · rw [if_neg w1, if_neg w1]
              exact ⟨_, _, rfl, (MS.s9 s' (Or.inl rfl) 0).tr v2.1, by rw [v2.2]; exact f3 _ _, rfl⟩
      · refine ⟨nX s, .inl 2, ?_, (CZ.rf s).x, fun s' h' => ⟨sI (sI s' 9 1 3 0) 9 1 3 2, 0, ?_, ms_f (MS.s9 s' (Or.inl rfl) 0) 2, f3 _ _, Or.inr rfl⟩⟩
        · unfold f_X8_would
          simp only [e10, reduceIte, h.kn hi (show 100 ≤ fu by omega), bX, hnw, X8_isTime, bI, nj_up, bt_f ht, hr, Bool.true_eq_false]
        · obtain ⟨hL, ⟨hPl, -⟩, ⟨hT, -⟩, -⟩ := h'.s0
          unfold f_X9_would
          simp only [e10, reduceIte, lt, X9_isS hL hT hi hid, bI, z10, X9_isIn, nj_up, nu_nI (show w < 2147483648 by omega), ej0, ej2, bt_t (show (0 : Int) ≤ w ∧ (w : Int) ≤ 2 by omega), X9_isTime, bt_f ht, X9_fail]
    · refine ⟨nX s, .inl 1, ?_, (CZ.rf s).x, fun s' h' => ⟨sI (sI s' 9 1 3 0) 9 1 3 1, 0, ?_, ms_f (MS.s9 s' (Or.inl rfl) 0) 1, f3 _ _, Or.inl rfl⟩⟩
      · unfold f_X8_would
        simp only [e10, reduceIte, h.kn hi (show 100 ≤ fu by omega), bX, X8_nx hr (show ¬ (0 ≤ d.toInt ∧ d.toInt ≤ (2 : Int32).toInt) from hd)]
      · obtain ⟨hL, ⟨hPl, -⟩, ⟨hT, -⟩, -⟩ := h'.s0
        unfold f_X9_would f_X9_would_b25
        simp only [e10, reduceIte, lt, X9_isS hL hT hi hid, bI, z10, X9_isIn, nj_up, ej0, ej2, bt_f (show ¬ (0 ≤ d.toInt ∧ d.toInt ≤ 2) from hd), X9_fail]
  · refine ⟨nX s, .inl 1, ?_, (CZ.rf s).x, fun s' h' => ⟨sI (sI s' 9 1 3 0) 9 1 3 1, 0, ?_, ms_f (MS.s9 s' (Or.inl rfl) 0) 1, f3 _ _, Or.inl rfl⟩⟩
    · unfold f_X8_would
      simp only [e10, reduceIte, h.kx hr ha (show 100 ≤ fu by omega), bX]
    · obtain ⟨hL, -, ⟨hT, -⟩, -⟩ := h'.s0
      unfold f_X9_would f_X9_would_b25
      simp only [e10, reduceIte, lt, X9_isSx hL hT ha, bI, X9_fail]
end Q11
