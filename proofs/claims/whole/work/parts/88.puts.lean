/-! ===== the reference: rises, puts ===== -/
section RI3
variable {s : St} {n mo u fu : Nat} {S K : Nat → Int} {x : Ab}
abbrev SameR (s s' : St) : Prop := gR s' = gR s ∧ gL s' = gL s ∧ gN s' = gN s ∧ cn s' = cn s ∧ sn s' = sn s
theorem X9_r39 (h : MI s n S K mo x u) {id : Nat} (hid : id < 10) (hnot : ¬ id ∈ xR x) (hPe : xP x id = []) (hR5 : (xR x).length ≤ 5) {t : Int32} (h1 : -1000000 ≤ t.toInt) (h2 : t.toInt ≤ 1000000) (hu : u < 1000000) (hfu : 50000 ≤ fu) :
    ∃ s', f_X9_rises_b39 fu s 1 (nI id) t = some s' ∧ MI s' n S K mo (riN x id t) (u + 1) ∧ FP s s' ∧ SameR s s' ∧ (∀ j, 30 ≤ j ∨ j = 3 → gI s' 9 1 j = gI s 9 1 j) := by
  have e10 : ¬ (1 = 0) := by decide
  obtain ⟨⟨hL, ⟨hPl, hV⟩, ⟨hT, hRW⟩, ⟨d1, d2, d3⟩, hP, hW, hTm⟩, hLt, ⟨k1, k2, k3, k4, k5⟩, ⟨hU1, hU2, hU3⟩, hO⟩ := h
  rw [lr_9_1_11 hL] at d3
  have b : inb (nI id) 10 = true := nu_inbn (by omega) (by omega)
  let s4 := sI (sI (sI (sI s 13 1 id 1) 10 23 id t) 10 24 id 0) 10 25 id 0
  have G : ∀ k i j, gI s4 k i j = if k = 10 ∧ i = 25 ∧ j = id then 0 else if k = 10 ∧ i = 24 ∧ j = id then 0 else if k = 10 ∧ i = 23 ∧ j = id then t else if k = 13 ∧ i = 1 ∧ j = id then 1 else gI s k i j := fun k i j => by
    show gI (sI (sI (sI (sI s 13 1 id 1) 10 23 id t) 10 24 id 0) 10 25 id 0) k i j = _
    rw [gI_sI, gI_sI, gI_sI, gI_sI]
  have F : FP s s4 := (((Fx.b13 (a := 1) (by decide) id 1).tr (Fx.r10 (a := 23) (by decide) id t)).tr (Fx.r10 (a := 24) (by decide) id 0)).tr (Fx.r10 (a := 25) (by decide) id 0)
  have hL4 := hL.fx F
  have hO4 : OwnM s4 := hO.eq rfl rfl rfl
  have hQ : RQ s4 n S K (xR (riN x id t)) (xH (riN x id t)) (xP (riN x id t)) := by
    refine ⟨hL4, ⟨hPl.fp hL F hO, hV⟩, ⟨fun i hi => ?_, ?_⟩, ⟨by rw [lr_9_1_11 hL4]; decide, by rw [lr_9_1_11 hL4, ll_10_23 hL4], fun i hi => ?_⟩, ?_, hW, hTm⟩
    · show _ = if i ∈ id :: xR x then (1 : Int32) else 0
      by_cases c : i = id
      · rw [G, if_neg (by omega), if_neg (by omega), if_neg (by omega), if_pos ⟨rfl, rfl, c⟩, if_pos (by rw [c]; exact List.mem_cons_self)]
      · rw [G, if_neg (by omega), if_neg (by omega), if_neg (by omega), if_neg (fun q => c q.2.2), hT i hi]
        by_cases c2 : i ∈ xR x
        · rw [if_pos c2, if_pos (List.mem_cons_of_mem _ c2)]
        · rw [if_neg c2, if_neg (fun q => (List.mem_cons.mp q).elim c c2)]
    · refine ⟨List.nodup_cons.mpr ⟨hnot, hRW.1⟩, fun i hi => (List.mem_cons.mp hi).elim (fun q => by rw [q]; exact hid) (hRW.2.1 i), ?_⟩
      show (id :: xR x).length ≤ 10
      rw [List.length_cons]; omega
    · show _ = uph (xH x) id t i
      rw [lr_9_1_11 hL4]
      by_cases c : i = id
      · rw [G, if_neg (by omega), if_neg (by omega), if_pos ⟨rfl, rfl, c⟩, c, uph_at]
      · rw [G, if_neg (by omega), if_neg (by omega), if_neg (fun q => c q.2.2), if_neg (by omega), uph_ne _ _ c]; exact d3 i hi
    · obtain ⟨t1, t2, t3, t4⟩ := hP
      refine ⟨t1, t2, ?_, fun i hi j p hp => ?_⟩
      · rw [G, if_neg (by omega), if_neg (by omega), if_neg (by omega), if_neg (by omega)]; exact t3
      · have v19 := (hO.1 19 mj19).1
        have v20 := (hO.1 20 mj20).1
        have v21 := (hO.1 21 mj21).1
        have r : gR s4 = gR s := rfl
        rw [r, G, G, G, if_neg (by omega), if_neg (by omega), if_neg (by omega), if_neg (by omega), if_neg (by omega), if_neg (by omega), if_neg (by omega), if_neg (by omega), if_neg (by omega), if_neg (by omega), if_neg (by omega), if_neg (by omega)]
        exact t4 i hi j p hp
  have hLt4 : LtM s4 (xR (riN x id t)) (xT (riN x id t)) (xS (riN x id t)) := fun i hi => by
    show gI s4 10 24 i = uph (xT x) id 0 i ∧ gI s4 10 25 i = uph (xS x) id 0 i
    by_cases c : i = id
    · rw [c, uph_at, uph_at, G, if_neg (by omega), if_pos ⟨rfl, rfl, rfl⟩, G, if_pos ⟨rfl, rfl, rfl⟩]; exact ⟨rfl, rfl⟩
    · have hi' : i ∈ xR x := (List.mem_cons.mp hi).elim (fun q => absurd q c) (fun q => q)
      rw [uph_ne _ _ c, uph_ne _ _ c, G, if_neg (by omega), if_neg (fun q => c q.2.2), if_neg (by omega), if_neg (by omega), G, if_neg (fun q => c q.2.2), if_neg (by omega), if_neg (by omega), if_neg (by omega)]
      exact hLt i hi'
  have g9 : ∀ j, gI s4 9 1 j = gI s 9 1 j := fun j => by rw [G, if_neg (by omega), if_neg (by omega), if_neg (by omega), if_neg (by omega)]
  have g26 : ∀ j, gI s4 10 26 j = gI s 10 26 j := fun j => by rw [G, if_neg (by omega), if_neg (by omega), if_neg (by omega), if_neg (by omega)]
  have her : (xR (riN x id t)).erase id = xR x := List.erase_cons_head ..
  obtain ⟨s', y1, y2, y3, y4, y5⟩ := X9_r67 (s := s4) (n := n) (mo := mo) (u := u) (fu := fu) (S := S) (K := K) (x := riN x id t) (id := id) hQ hLt4 ⟨by rw [g9]; exact k1, by rw [g9]; exact k2, by rw [g9]; exact k3, by rw [g9]; exact k4, by rw [g9]; exact k5⟩
    (by rw [her]; exact us_pw.mpr ((us_pw.mp hU1).imp (fun {a b} q => by rw [g26, g26]; exact q))) (fun i hi => by rw [her] at hi; rw [g26]; exact hU2 i hi) (by rw [g9]; exact hU3) hO4 List.mem_cons_self (by show (id :: xR x).length ≤ 6; rw [List.length_cons]; omega) (t := t)
    (by show -1000000 ≤ (mx (uph (xH x) id t id) t).toInt; rw [uph_at, mx_self]; exact h1) (by show (mx (uph (xH x) id t id) t).toInt ≤ 1000000; rw [uph_at, mx_self]; exact h2) hu hfu
  rw [riK_N hPe] at y2
  refine ⟨s', ?_, y2, F.tr y3, y4, fun j hj => by rw [y5 j hj, g9]⟩
  unfold f_X9_rises_b39
  simp only [e10, reduceIte, lr_9_1_10 hL, ll_13_1 hL, b, Bool.true_eq_false, lt, nar1, nu_ixn (show id < 2147483648 by omega), gR_sI, gL_sI, lr_9_1_11 hL, ll_10_23 hL, lr_9_1_12 hL, ll_10_24 hL, lr_9_1_13 hL, ll_10_25 hL, show ¬ (23 = 0) from by decide, show ¬ (24 = 0) from by decide, show ¬ (25 = 0) from by decide]
  exact y1
theorem last_cut {R : List Nat} (h : 1 ≤ R.length) : R = R.dropLast ++ [R.getLastD 0] := by
  have hne : R ≠ [] := fun q => by rw [q] at h; simp at h
  rw [List.getLastD_eq_getLast?, List.getLast?_eq_some_getLast hne]
  exact (List.dropLast_concat_getLast hne).symm
theorem last_mem {R : List Nat} (h : 1 ≤ R.length) : R.getLastD 0 ∈ R := by
  have := last_cut h
  generalize R.getLastD 0 = y at this
  rw [this]
  exact List.mem_append_right _ List.mem_cons_self
theorem X9_rises (h : MI s n S K mo x u) (hA : AbW mo x) {id : Nat} (hid : id < 10) {t : Int32} (h1 : -1000000 ≤ t.toInt) (h2 : t.toInt ≤ 1000000) (hu : u < 1000000) (hfu : 50000 ≤ fu) :
    ∃ s', f_X9_rises fu s 1 (nI id) t = some s' ∧ MI s' n S K mo (rise n S K mo x id t) (u + 1) ∧ FP s s' ∧ SameR s s' ∧ (∀ j, 30 ≤ j ∨ j = 3 → gI s' 9 1 j = gI s 9 1 j) := by
  have e10 : ¬ (1 = 0) := by decide
  have h' := h
  obtain ⟨hQ, hLt, hC, ⟨hU1, hU2, hU3⟩, hO⟩ := h
  have hL := hQ.1
  obtain ⟨hT, hRW⟩ := hQ.2.2.1
  obtain ⟨hB, hE, hl, hm1, hm6⟩ := hA
  have b : inb (nI id) 10 = true := nu_inbn (by omega) (by omega)
  have hti := hT id hid
  unfold f_X9_rises rise
  simp only [e10, reduceIte, lr_9_1_10 hL, ll_13_1 hL, b, Bool.true_eq_false, nu_ixn (show id < 2147483648 by omega), hti]
  by_cases hin : id ∈ xR x
  · simp only [hin, reduceIte, show ¬ (1 : Int32) = 0 from by decide]
    have hb := hB id hin
    have hmx := mx_i (xH x id) t
    obtain ⟨s', y1, y2, y3, y4, y5⟩ := X9_r67 (fu := fu) hQ hLt hC (hU1.er id) (fun i hi => hU2 i (List.mem_of_mem_erase hi)) hU3 hO hin (by omega) (t := t) (by omega) (by omega) hu hfu
    exact ⟨s', y1, y2, y3, y4, y5⟩
  · simp only [hin, reduceIte]
    rw [X9_series hL hT hRW (by omega)]
    simp only [bI]
    rw [hC.1]
    by_cases hf : (xR x).length = mo
    · rw [if_pos (by rw [hf]), if_pos hf]
      have hcut := last_cut (R := xR x) (by omega)
      have hy : (xR x).getLastD 0 ∈ xR x := last_mem (by omega)
      generalize (xR x).getLastD 0 = y at hcut hy
      rw [X9_oldest hL hT hRW hU1 hcut (by omega)]
      simp only [bI]
      obtain ⟨s1, y1, y2, y3, y4, y5⟩ := X9_leaves (fu := fu) h' hy hfu
      rw [y1]
      simp only [bI, lt]
      have her : ((xR x).erase y).length + 1 = (xR x).length := by
        have := List.length_erase_of_mem hy
        omega
      have F : FP s1 (sI s1 9 1 16 (gI s1 9 1 16 + 1)) := Fx.f9 (by unfold dyn; omega) _
      have gI' : ∀ k i j, ¬ (k = 9 ∧ i = 1 ∧ j = 16) → gI (sI s1 9 1 16 (gI s1 9 1 16 + 1)) k i j = gI s1 k i j := fun k i j hk => by rw [gI_sI, if_neg hk]
      have hM : MI (sI s1 9 1 16 (gI s1 9 1 16 + 1)) n S K mo (puA (leA x y)) u := by
        have y2' := y2
        obtain ⟨⟨a1, a2, ⟨a3, a4⟩, ⟨-, -, a5⟩, a6, a7, a8⟩, b1, ⟨c1, c2, c3, c4, c5⟩, ⟨e1, e2, e3⟩, o⟩ := y2
        rw [lr_9_1_11 a1] at a5
        refine y2'.mk' F (o.eq rfl rfl rfl) (fun i hi => by rw [gI' 13 1 i (by omega)]; exact a3 i hi) a4 (fun i hi => by rw [gI' 10 23 i (by omega)]; exact a5 i hi) ?_ a7 a8 (fun i hi => by rw [gI' 10 24 i (by omega), gI' 10 25 i (by omega)]; exact b1 i hi) ⟨rfl, ?_, ?_, ?_⟩ ⟨us_pw.mpr ((us_pw.mp e1).imp (fun {a b} q => by rw [gI' 10 26 a (by omega), gI' 10 26 b (by omega)]; exact q)), fun i hi => by rw [gI' 10 26 i (by omega)]; exact e2 i hi, by rw [gI' 9 1 15 (by omega)]; exact e3⟩
        · obtain ⟨t1, t2, t3, t4⟩ := a6
          exact ⟨t1, t2, by rw [gI' 9 1 22 (by omega)]; exact t3, fun i hi j p hp => by
            rw [gI' 10 _ _ (by omega), gI' 10 _ _ (by omega), gI' 10 _ _ (by omega)]; exact t4 i hi j p hp⟩
        · rw [gI_sI, if_pos ⟨rfl, rfl, rfl⟩, c3]
          rfl
        · rw [gI' 9 1 17 (by omega)]; exact c4
        · rw [gI' 9 1 18 (by omega)]; exact c5
      obtain ⟨s', w1, w2, w3, w4, w5⟩ := X9_r39 (fu := fu) hM hid (fun q => hin (List.mem_of_mem_erase q)) (by show upP (xP x) y [] id = []; rw [upP_ne _ _ (fun q => hin (by rw [q]; exact hy))]; exact hE id hid hin) (by show ((xR x).erase y).length ≤ 5; omega) h1 h2 hu hfu
      exact ⟨s', w1, w2, (y3.tr F).tr w3, ⟨w4.1.trans y4.1, w4.2.1.trans y4.2.1, w4.2.2.1.trans y4.2.2.1, w4.2.2.2.1.trans y4.2.2.2.1, w4.2.2.2.2.trans y4.2.2.2.2⟩, fun j hj => by rw [w5 j hj, gI' 9 1 j (by omega), y5 j (by omega)]⟩
    · rw [if_neg (fun q => hf ((ni_eq (by omega) (by omega)).mp q)), if_neg hf]
      exact X9_r39 h' hid hin (hE id hid hin) (by omega) h1 h2 hu hfu
/-! what is left well -/
theorem rise_w {n mo : Nat} {S K : Nat → Int} {x : Ab} (hRW : RW (xR x)) (hA : AbW mo x) {id : Nat} (hid : id < 10) {t : Int32} (h1 : -1000000 ≤ t.toInt) (h2 : t.toInt ≤ 1000000) : AbW mo (rise n S K mo x id t) ∧ id ∈ xR (rise n S K mo x id t) ∧ t.toInt ≤ (xH (rise n S K mo x id t) id).toInt := by
  obtain ⟨hB, hE, hl, hm1, hm6⟩ := hA
  unfold rise
  by_cases hin : id ∈ xR x
  · rw [if_pos hin]
    have hb := hB id hin
    have hmx := mx_i (xH x id) t
    have hle := List.length_erase_of_mem hin
    have hpos := List.length_pos_of_mem hin
    refine ⟨⟨fun i hi => ?_, fun i hi hn => ?_, ?_, hm1, hm6⟩, List.mem_cons_self, ?_⟩
    · show _ ≤ (uph (xH x) id (mx (xH x id) t) i).toInt ∧ (uph (xH x) id (mx (xH x id) t) i).toInt ≤ _
      by_cases c : i = id
      · rw [c, uph_at]; omega
      · rw [uph_ne _ _ c]
        exact hB i ((List.mem_cons.mp hi).elim (fun q => absurd q c) (fun q => List.mem_of_mem_erase q))
    · have c : ¬ i = id := fun q => hn (by rw [q]; exact List.mem_cons_self)
      show upP _ _ _ i = []
      rw [upP_ne _ _ c]
      exact hE i hi (fun q => hn (List.mem_cons_of_mem _ ((nd_er hRW id i).mpr ⟨c, q⟩)))
    · show (id :: (xR x).erase id).length ≤ mo
      rw [List.length_cons]; omega
    · show t.toInt ≤ (uph (xH x) id (mx (xH x id) t) id).toInt
      rw [uph_at]; omega
  · rw [if_neg hin]
    by_cases hf : (xR x).length = mo
    · rw [if_pos hf]
      have hcut := last_cut (R := xR x) (by omega)
      have hy : (xR x).getLastD 0 ∈ xR x := last_mem (by omega)
      generalize (xR x).getLastD 0 = y at hcut hy
      have hle := List.length_erase_of_mem hy
      refine ⟨⟨fun i hi => ?_, fun i hi hn => ?_, ?_, hm1, hm6⟩, List.mem_cons_self, ?_⟩
      · show _ ≤ (uph (xH x) id t i).toInt ∧ (uph (xH x) id t i).toInt ≤ _
        by_cases c : i = id
        · rw [c, uph_at]; omega
        · rw [uph_ne _ _ c]
          exact hB i ((List.mem_cons.mp hi).elim (fun q => absurd q c) (fun q => List.mem_of_mem_erase q))
      · show upP (xP x) y [] i = []
        by_cases c : i = y
        · rw [c, upP_at]
        · rw [upP_ne _ _ c]
          exact hE i hi (fun q => hn (List.mem_cons_of_mem _ ((nd_er hRW y i).mpr ⟨c, q⟩)))
      · show (id :: (xR x).erase y).length ≤ mo
        rw [List.length_cons]; omega
      · show t.toInt ≤ (uph (xH x) id t id).toInt
        rw [uph_at]; omega
    · rw [if_neg hf]
      refine ⟨⟨fun i hi => ?_, fun i hi hn => hE i hi (fun q => hn (List.mem_cons_of_mem _ q)), ?_, hm1, hm6⟩, List.mem_cons_self, ?_⟩
      · show _ ≤ (uph (xH x) id t i).toInt ∧ (uph (xH x) id t i).toInt ≤ _
        by_cases c : i = id
        · rw [c, uph_at]; omega
        · rw [uph_ne _ _ c]
          exact hB i ((List.mem_cons.mp hi).elim (fun q => absurd q c) (fun q => q))
      · show (id :: xR x).length ≤ mo
        rw [List.length_cons]; omega
      · show t.toInt ≤ (uph (xH x) id t id).toInt
        rw [uph_at]; omega
theorem X9_puts (h : MI s n S K mo x u) (hA : AbW mo x) {id : Nat} (hid : id < 10) {t : Int32} (h1 : -1000000 ≤ t.toInt) (h2 : t.toInt ≤ 1000000) (v : Int32) (hu : u < 1000000) (hN : off (xP (rise n S K mo x id t)) 10 < 40000) (hr1 : cn s + 3 ≤ 601024) (hr2 : sn s + 240000 ≤ 7293034) (hfu : 50000 ≤ fu) :
    ∃ s', f_X9_puts fu s 1 (nI id) t v = some s' ∧ MI s' n S K mo (putA n S K mo x id t v) (u + 1) ∧ FP s s' ∧ Rmm s s' ∧ (∀ j, 30 ≤ j ∨ j = 3 → gI s' 9 1 j = gI s 9 1 j) := by
  have e10 : ¬ (1 = 0) := by decide
  obtain ⟨s1, y1, y2, y3, y4, y5⟩ := X9_rises (fu := fu) h hA hid h1 h2 hu hfu
  generalize hx' : rise n S K mo x id t = x' at y2 hN
  have hM := y2
  obtain ⟨⟨a1, a2, ⟨a3, a4⟩, ⟨-, -, a5⟩, a6, a7, a8⟩, b1, ⟨c1, c2, c3, c4, c5⟩, ⟨e1, e2, e3⟩, o⟩ := y2
  rw [lr_9_1_11 a1] at a5
  obtain ⟨s', w1, w2, w3, w4, w5⟩ := X9_comes (fu := fu) a6 a7 o (ln_10 a1) hN hid t v (by rw [y4.2.2.2.1]; exact hr1) (by rw [y4.2.2.2.2]; exact hr2) hfu
  have F : FP s1 s' := w2.mono (fun j hj => by subst hj; unfold dyn; omega) (fun j hj => hj.elim) (fun j hj => hj.elim)
  have hN10 := ln_10 a1
  have row : ∀ a j, 23 ≤ a → a ≤ 26 → gI s' 10 a j = gI s1 10 a j := fun a j ha hb => w2.2.2.2.2.1 10 a j (fun _ => by omega) (fun q => absurd q.1 (by decide)) (fun q => absurd q.1 (by decide)) (fun q => by
    rcases q.2 with w | w
    · exact w
    · have := o.pr w; omega)
  have fld : ∀ j, ¬ j = 22 → gI s' 9 1 j = gI s1 9 1 j := fun j hj => w2.2.2.2.2.1 9 1 j (fun q => by omega) (fun q => hj (q.2 rfl)) (fun q => absurd q.1 (by decide)) (fun q => absurd q.1 (by decide))
  have b13 : ∀ j, gI s' 13 1 j = gI s1 13 1 j := fun j => w2.2.2.2.2.1 13 1 j (fun q => by omega) (fun q => absurd q.1 (by decide)) (fun q => q.2) (fun q => absurd q.1 (by decide))
  have hid' : -100000000 ≤ t.toInt ∧ t.toInt ≤ 100000000 := ⟨by omega, by omega⟩
  refine ⟨s', ?_, ?_, y3.tr F, (Rmm.eq y4.1 y4.2.1 y4.2.2.2.1 y4.2.2.2.2).tr w5, fun j hj => by rw [fld j (by omega), y5 j hj]⟩
  · unfold f_X9_puts
    rw [if_neg e10, y1]
    simp only [bV]
    rw [w1]
  · unfold putA
    rw [hx']
    have hoff := off_hi (xP x') id (ins (t, v) (xP x' id)) 10 hid
    rw [ins_len] at hoff
    have hW' : PWf (upP (xP x') id (ins (t, v) (xP x' id))) := ⟨fun i hi => by
      by_cases c : i = id
      · rw [c, upP_at]; exact ins_srt (a7.1 id hid)
      · rw [upP_ne _ _ c]; exact a7.1 i hi, by omega⟩
    refine hM.mk' F w4 (fun i hi => by rw [b13]; exact a3 i hi) a4 (fun i hi => by rw [row 23 i (by omega) (by omega)]; exact a5 i hi) w3 hW' (a8.up (fun p hp => ?_)) (fun i hi => by rw [row 24 i (by omega) (by omega), row 25 i (by omega) (by omega)]; exact b1 i hi) ⟨rfl, by rw [fld 16 (by omega)]; exact c3, by rw [fld 17 (by omega)]; exact c4, by rw [fld 18 (by omega)]; exact c5⟩
      ⟨us_pw.mpr ((us_pw.mp e1).imp (fun {a b} q => by rw [row 26 a (by omega) (by omega), row 26 b (by omega) (by omega)]; exact q)), fun i hi => by rw [row 26 i (by omega) (by omega)]; exact e2 i hi, by rw [fld 15 (by omega)]; exact e3⟩
    rcases ins_mem.mp hp with rfl | q
    · exact hid'
    · exact a8 id hid p q
end RI3
