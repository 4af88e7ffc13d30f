/-! ===== tick, drop ===== -/
section TIC
variable {s : St} {p n mo fu d d' u : Nat} {S K : Nat → Int} {x : Ab}
theorem rise_c (id : Nat) (t : Int32) : (xC (rise n S K mo x id t)).1 = (xC x).1 := by
  unfold rise
  by_cases hin : id ∈ xR x
  · rw [if_pos hin]; rfl
  · rw [if_neg hin]
    by_cases hf : (xR x).length = mo
    · rw [if_pos hf]; rfl
    · rw [if_neg hf]; rfl
theorem MI.ms {s' : St} (h : MI s n S K mo x u) (hm : MS s s') : MI s' n S K mo x u := by
  obtain ⟨hQ, hLt, ⟨c1, c2, c3, c4, c5⟩, ⟨e1, e2, e3⟩, o⟩ := h
  have m5 := hm.2.2.1
  have m10 : ∀ i j, gI s' 10 i j = gI s 10 i j := fun i j => hm.2.1 10 i j (by decide) (by omega)
  exact ⟨hQ.ms hm, hLt.ms hm, ⟨by rw [m5 8 (by omega) (by omega)]; exact c1, by rw [m5 24 (by omega) (by omega)]; exact c2, by rw [m5 16 (by omega) (by omega)]; exact c3, by rw [m5 17 (by omega) (by omega)]; exact c4, by rw [m5 18 (by omega) (by omega)]; exact c5⟩, ⟨e1.ms hm, fun i hi => by rw [m10]; exact e2 i hi, by rw [m5 15 (by omega) (by omega)]; exact e3⟩, o.eq hm.1.1 hm.1.2.1 hm.1.2.2⟩
theorem WhM.ms {s' : St} {y : Q4} (h : WhM s y) (hm : MS s s') : WhM s' y := by
  obtain ⟨a1, a2, a3, a4⟩ := h
  have m5 := hm.2.2.1
  exact ⟨by rw [m5 40 (by omega) (by omega)]; exact a1, by rw [m5 41 (by omega) (by omega)]; exact a2, by rw [m5 42 (by omega) (by omega)]; exact a3, by rw [m5 43 (by omega) (by omega)]; exact a4⟩
theorem P_tick (h : CI s p n S K mo x) (hA : AbW mo x) (hoff : off (xP x) 10 < 32768) (hb : Bdg s d d') (hu : u < 1000000) (hfu : 50000 ≤ fu) (a b : Int32) :
    Chg s p n S K mo x u (f_X8_tick fu s 1 a b) (fun s2 => f_X9_tick fu s2 1 a b) 0 1 := by
  have e10 : ¬ (1 = 0) := by decide
  have hL := h.1.1.1
  have hRW := h.2.1.2
  by_cases hv : (0 ≤ a.toInt ∧ a.toInt ≤ 9) ∧ (-1000000 ≤ b.toInt ∧ b.toInt ≤ 1000000)
  · obtain ⟨ha, hbt⟩ := hv
    obtain ⟨id, hid, rfl⟩ := ab_id ha
    obtain ⟨e1, e2, e3⟩ := h.ex (0, 0, -1, -1)
    have hb2 := hb.rmc e3
    have hrm := hb2.rm e1.1.2.2
    obtain ⟨s1, y1, y2, y3, y4, y5⟩ := X8_bring (fu := fu) e1 hA hid hbt.1 hbt.2 (by omega) (by omega) hfu
    have hrw := rise_w (n := n) (S := S) (K := K) hRW hA hid hbt.1 hbt.2
    obtain ⟨o1, GG, g1, g2, g3⟩ := y2.2.2.1 id hrw.2.1
    refine ⟨s1, nI GG.length, rise n S K mo x id b, (0, 0, -1, -1), u + 1, ?_, y2, e2.tr y3, e3.tr y4, fun w hw => by rw [y5]; exact exS_w _ _ w hw, hrw.1, rise_c id b, by have := rise_off (n := n) (S := S) (K := K) (mo := mo) hid hRW b; omega, Nat.le_refl _, fun s2 hM hrm2 => ?_⟩
    · unfold f_X8_tick
      rw [X8_isId]
      simp only [bI, bt_z, ha, not_true_eq_false, and_self, reduceIte]
      rw [X8_isTime]
      simp only [bI, bt_z, i64_id, hbt, not_true_eq_false, and_self, reduceIte, e10]
      rw [X8_ex hL]
      simp only [bV]
      rw [y1]
      simp only [o1, reduceIte, g3.2.2.1]
    · have hM0 := (hM.f9 wh3 0).fine
      generalize hs0 : fiS (sI s2 9 1 3 0) = s0 at hM0
      have hF0 : FP s2 s0 := by rw [← hs0]; exact (Fx.f9 (dyw wh3) 0).tr (fiS_fp _)
      have hfw : WhM s0 (0, 0, -1, -1) := by rw [← hs0]; exact fiS_w _
      obtain ⟨s3, v1, v2, v3, v4, v5⟩ := X9_rises (fu := fu) hM0 hA hid hbt.1 hbt.2 hu hfu
      obtain ⟨s4, z1, z2⟩ := X9_abk (fu := fu) v2.1 hid g1 g2 hfu
      refine ⟨s4, ?_, (hF0.tr v3).tr (FP.ms z2.1), v2.ms z2.1, ?_, (hfw.eq v5).ms z2.1⟩
      · show f_X9_tick fu s2 1 (nI id) b = _
        unfold f_X9_tick
        rw [if_neg e10]
        simp only [lt]
        rw [X9_fine, hs0]
        simp only [bV]
        rw [X9_isId]
        simp only [bI, bt_z, ha, not_true_eq_false, and_self, reduceIte]
        rw [X9_isTime]
        simp only [bI, bt_z, i64_id, hbt, not_true_eq_false, and_self, reduceIte]
        rw [v1]
        simp only
        rw [z1]
      · refine Rmm.tr (Rmm.tr (Rmm.eq ?_ ?_ ?_ ?_) (Rmm.eq v4.1 v4.2.1 v4.2.2.2.1 v4.2.2.2.2)) (Rmm.eq z2.1.1.1 z2.1.1.2.1 z2.1.2.2.2.2.1 z2.1.2.2.2.2.2)
        · rw [← hs0]; rfl
        · rw [← hs0]; rfl
        · rw [← hs0]; rfl
        · rw [← hs0]; rfl
  · obtain ⟨e1, e2, e3⟩ := h.ex (1, 0, -1, -1)
    refine ⟨exS s (1, 0, -1, -1), -1, x, (1, 0, -1, -1), u, ?_, e1, e2, e3, exS_w _ _, hA, rfl, by omega, by omega, fun s2 hM hrm2 => ?_⟩
    · have hb15 : f_X8_tick_b15 fu s 1 = some (exS s (1, 0, -1, -1), -1) := by
        unfold f_X8_tick_b15
        rw [if_neg e10, X8_ex hL]
        rfl
      unfold f_X8_tick
      rw [X8_isId]
      simp only [bI, bt_z]
      by_cases ha : 0 ≤ a.toInt ∧ a.toInt ≤ 9
      · rw [if_neg (fun q => q ha), X8_isTime]
        simp only [bI, bt_z, i64_id]
        rw [if_pos (fun q => hv ⟨ha, q⟩)]
        exact hb15
      · rw [if_pos ha]; exact hb15
    · obtain ⟨q1, q2, q3, q4⟩ := X9_refused hM 1
      refine ⟨_, ?_, q2, q1, q3, q4⟩
      show f_X9_tick fu s2 1 a b = _
      have hb24 : f_X9_tick_b24 fu (fiS (sI s2 9 1 3 0)) 1 = some (sI (fiS (sI s2 9 1 3 0)) 9 1 40 1, -1) := by
        unfold f_X9_tick_b24
        rw [if_neg e10, X9_ref]
        rfl
      unfold f_X9_tick
      rw [if_neg e10]
      simp only [lt]
      rw [X9_fine]
      simp only [bV]
      rw [X9_isId]
      simp only [bI, bt_z]
      by_cases ha : 0 ≤ a.toInt ∧ a.toInt ≤ 9
      · rw [if_neg (fun q => q ha), X9_isTime]
        simp only [bI, bt_z, i64_id]
        rw [if_pos (fun q => hv ⟨ha, q⟩)]
        exact hb24
      · rw [if_pos ha]; exact hb24
theorem leA_w (hRW : RW (xR x)) (hA : AbW mo x) (y : Nat) : AbW mo (leA x y) := by
  obtain ⟨a1, a2, a3, a4⟩ := hA
  refine ⟨fun i hi => a1 i (List.mem_of_mem_erase hi), fun i hi hn => ?_, Nat.le_trans List.erase_sublist.length_le a3, a4⟩
  show upP (xP x) y [] i = []
  by_cases c : i = y
  · rw [c, upP_at]
  · rw [upP_ne _ _ c]
    exact a2 i hi (fun q => hn ((nd_er hRW y i).mpr ⟨c, q⟩))
/-- the class's roster: one goes -/
theorem X8_rem (h : CI s p n S K mo x) {id : Nat} (hin : id ∈ xR x) (hfu : 100 ≤ fu) : ∃ s', f_X4_remove fu s 1 (nI id) = some s' ∧ CI s' p n S K mo (leA x id) ∧ CF s s' ∧ Rmc s s' ∧ (∀ j, gI s' 10 11 j = gI s 10 11 j) ∧ (∀ i j, gI s' 6 i j = gI s 6 i j) := by
  obtain ⟨hB, ⟨hR, hRW⟩, hSer, hLt, ⟨k1, k2, k3, k4, k5⟩⟩ := h
  have hL := hB.1.1
  have hne : ¬ gR s 4 1 1 = gR s 4 1 0 := by rw [lr_4_1_0 hL, lr_4_1_1 hL]; decide
  obtain ⟨A, B, e⟩ := List.append_of_mem hin
  have her : (xR x).erase id = A ++ B := by rw [e]; exact er_cut (by rw [← e]; exact hRW.1)
  obtain ⟨s', y1, y2, f⟩ := X4_rm (fu := fu) hR hne hRW e hfu
  obtain ⟨a1, a2, a3⟩ := hB.use f
  have g8 : ∀ j, gI s' 8 1 j = gI s 8 1 j := fun j => f.2 8 1 j (by omega) (by omega)
  refine ⟨s', y1, ⟨a1, ⟨by show Ros s' 1 ((xR x).erase id) (xH x); rw [her]; exact y2, hRW.er id⟩, fun i hi => ?_, fun i hi => ?_, ⟨by rw [f.2 2 p 4 (by omega) (by omega)]; exact k1, by rw [g8]; exact k2, by rw [g8]; exact k3, by rw [g8]; exact k4, by rw [g8]; exact k5⟩⟩, CF.use hL f, Rmc.eq f.1.1 f.1.2.1 f.1.2.2.2.1 f.1.2.2.2.2.1, fun j => f.2 10 11 j (by omega) (fun q => by rw [lr_4_1_0 hL, lr_4_1_1 hL] at q; omega), fun i j => f.2 6 i j (by omega) (by omega)⟩
  · obtain ⟨m1, m2⟩ := (nd_er hRW id i).mp hi
    show SerI s' p n S K (xH x i).toInt (upP (xP x) id [] i) i
    rw [upP_ne _ _ m1]
    exact a2 _ _ i (hRW.2.1 i m2) (hSer i m2)
  · rw [f.1.1, a3, a3]
    exact hLt i ((nd_er hRW id i).mp hi).2
theorem P_drop (h : CI s p n S K mo x) (hA : AbW mo x) (hfu : 50000 ≤ fu) (a : Int32) :
    Chg s p n S K mo x u (f_X8_drop fu s 1 a) (fun s2 => f_X9_drop fu s2 1 a) 0 1 := by
  have e10 : ¬ (1 = 0) := by decide
  have hL := h.1.1.1
  have hRW := h.2.1.2
  have q84 := lr_8_1_4 hL
  by_cases ha : 0 ≤ a.toInt ∧ a.toInt ≤ 9
  · obtain ⟨id, hid, rfl⟩ := ab_id ha
    have b10 : inb (nI id) 10 = true := nu_inbn (by omega) (by omega)
    by_cases hin : id ∈ xR x
    · obtain ⟨o1, GG, g1, g2, g3⟩ := h.2.2.1 id hin
      have hta := X8_tAll (fu := fu) hL h.1.1.2 h.1.2.1.1 hid o1 g2 g3 hfu
      have hcz := tS_cz s 1 (tly GG)
      have hG : ∀ k i j, ¬ k = 6 → gI (tS s 1 (tly GG)) k i j = gI s k i j := fun k i j hk => by
        unfold tS
        rw [gI_sI, if_neg (fun q => hk q.1), gI_sI, if_neg (fun q => hk q.1), gI_sJ, gI_sI, if_neg (fun q => hk q.1), gI_sI, if_neg (fun q => hk q.1)]
      obtain ⟨t1, t2⟩ := h.scr (s' := tS s 1 (tly GG)) hcz.1 (fun k i j k6 _ => hG k i j k6) (fun k i j k6 => hcz.2.2.2.1 k i j k6)
      have t3 : gI (tS s 1 (tly GG)) 6 1 1 = nI (xP x id).length := by
        unfold tS
        rw [gI_sI, if_neg (by omega), gI_sI, if_neg (by omega), gI_sJ, gI_sI, if_pos ⟨rfl, rfl, rfl⟩, (tly_b GG).2.1, g1]
      have t4 : Rmc s (tS s 1 (tly GG)) := Rmc.eq hcz.1.1 hcz.1.2.1 hcz.2.2.2.2.1 hcz.2.2.2.2.2
      generalize tS s 1 (tly GG) = sa at hta hG t1 t2 t3 t4 hcz
      obtain ⟨sb', y1, y2, y3, y4, y5, y6⟩ := X8_rem (fu := fu) t1 hin (by omega)
      obtain ⟨e1, e2, e3⟩ := y2.ex (0, 0, -1, -1)
      refine ⟨exS sb' (0, 0, -1, -1), nI (xP x id).length, leA x id, (0, 0, -1, -1), u, ?_, e1, (t2.tr y3).tr e2, (t4.tr y4).tr e3, exS_w _ _, leA_w hRW hA id, rfl, off_up_le (xP x) hid (Nat.zero_le _), by omega, fun s2 hM hrm2 => ?_⟩
      · unfold f_X8_drop
        rw [X8_isId]
        simp only [bI, bt_z, ha, not_true_eq_false, and_self, reduceIte, e10]
        rw [q84, if_neg e10, X4_kn h.2.1.1 hRW hin (by omega)]
        simp only [show ¬ (1 : Int32) = 0 from by decide, reduceIte]
        rw [X8_rows hL hid o1 fu]
        simp only
        rw [hta]
        simp only [bV]
        rw [lr_8_1_4 t1.1.1.1, if_neg e10, y1]
        simp only
        rw [X8_ex y2.1.1.1]
        simp only
        rw [lr_8_1_7 e1.1.1.1, if_neg e10, exS_i _ _ (by omega), y6, t3]
      · have hM0 := (hM.f9 wh3 0).fine
        generalize hs0 : fiS (sI s2 9 1 3 0) = s0 at hM0
        have hF0 : FP s2 s0 := by rw [← hs0]; exact (Fx.f9 (dyw wh3) 0).tr (fiS_fp _)
        have hfw : WhM s0 (0, 0, -1, -1) := by rw [← hs0]; exact fiS_w _
        have hL0 := hM0.1.1
        obtain ⟨s3, v1, v2, v3, v4, v5⟩ := X9_leaves (fu := fu) hM0 hin hfu
        refine ⟨s3, ?_, hF0.tr v3, v2, ?_, hfw.eq (fun j hj => v5 j (by omega))⟩
        · show f_X9_drop fu s2 1 (nI id) = _
          unfold f_X9_drop
          rw [if_neg e10]
          simp only [lt]
          rw [X9_fine, hs0]
          simp only [bV]
          rw [X9_isId]
          simp only [bI, bt_z, ha, not_true_eq_false, and_self, reduceIte, lr_9_1_10 hL0, ll_13_1 hL0, b10, Bool.true_eq_false, e10, nu_ixn (show id < 2147483648 by omega), hM0.1.2.2.1.1 id hid, hin, show ¬ (1 : Int32) = 0 from by decide]
          rw [v1]
          rfl
        · refine Rmm.tr (Rmm.eq ?_ ?_ ?_ ?_) (Rmm.eq v4.1 v4.2.1 v4.2.2.2.1 v4.2.2.2.2)
          · rw [← hs0]; rfl
          · rw [← hs0]; rfl
          · rw [← hs0]; rfl
          · rw [← hs0]; rfl
    · obtain ⟨e1, e2, e3⟩ := h.ex (3, 0, -1, -1)
      refine ⟨exS s (3, 0, -1, -1), -1, x, (3, 0, -1, -1), u, ?_, e1, e2, e3, exS_w _ _, hA, rfl, by omega, by omega, fun s2 hM hrm2 => ?_⟩
      · unfold f_X8_drop
        rw [X8_isId]
        simp only [bI, bt_z, ha, not_true_eq_false, and_self, reduceIte, e10]
        rw [q84, if_neg e10, X4_kx h.2.1.1 hRW (a := nI id) (ni_ne hRW hid hin) (by omega)]
        simp only [reduceIte]
        rw [X8_ex hL]
        rfl
      · obtain ⟨q1, q2, q3, q4⟩ := X9_refused hM 3
        have hM0 := (hM.f9 wh3 0).fine
        have hL0 := hM0.1.1
        refine ⟨_, ?_, q2, q1, q3, q4⟩
        show f_X9_drop fu s2 1 (nI id) = _
        unfold f_X9_drop
        rw [if_neg e10]
        simp only [lt]
        rw [X9_fine]
        simp only [bV]
        rw [X9_isId]
        simp only [bI, bt_z, ha, not_true_eq_false, and_self, reduceIte, lr_9_1_10 hL0, ll_13_1 hL0, b10, Bool.true_eq_false, e10, nu_ixn (show id < 2147483648 by omega), hM0.1.2.2.1.1 id hid, hin]
        rw [X9_ref]
        rfl
  · obtain ⟨e1, e2, e3⟩ := h.ex (1, 0, -1, -1)
    refine ⟨exS s (1, 0, -1, -1), -1, x, (1, 0, -1, -1), u, ?_, e1, e2, e3, exS_w _ _, hA, rfl, by omega, by omega, fun s2 hM hrm2 => ?_⟩
    · unfold f_X8_drop
      rw [X8_isId]
      simp only [bI, bt_z]
      rw [if_pos ha, if_neg e10, X8_ex hL]
      rfl
    · obtain ⟨q1, q2, q3, q4⟩ := X9_refused hM 1
      refine ⟨_, ?_, q2, q1, q3, q4⟩
      show f_X9_drop fu s2 1 a = _
      unfold f_X9_drop
      rw [if_neg e10]
      simp only [lt]
      rw [X9_fine]
      simp only [bV]
      rw [X9_isId]
      simp only [bI, bt_z]
      rw [if_pos ha, X9_ref]
end TIC
