/-! ===== the class reads a plan ===== -/
def usTs : Ts := [(10, 6), (60, 5), (300, 4)]
theorem usTs_w : TsW usTs := by
  refine ⟨by decide, fun sp hsp => ?_, fun i hi => ?_⟩
  · have : sp = (10, 6) ∨ sp = (60, 5) ∨ sp = (300, 4) := by
      rcases List.mem_cons.mp hsp with w | w
      · exact Or.inl w
      · rcases List.mem_cons.mp w with w | w
        · exact Or.inr (Or.inl w)
        · exact Or.inr (Or.inr (List.mem_singleton.mp w))
    rcases this with rfl | rfl | rfl <;> decide
  · have hl : usTs.length = 3 := rfl
    have : i = 0 ∨ i = 1 := by omega
    rcases this with rfl | rfl <;> decide
def fiT (TS : Ts) : Ts := if TS = [] then usTs else TS
section CLC
variable {s : St} {fu N q : Nat} {T : Nat → Nat} {k : Tk} {c : Cl}
theorem X3_tr (h : PC s T N k) (hq : q = 1 ∨ q = 2) (hP : PlQ s q c) (hW : TsW c.1) (hfu : 1000 ≤ fu) :
    (∀ f, aTr T N k c.1 = .inl f → ∃ s', f_X3_readTier fu s 1 q = some (s', 0) ∧ PlF s s' q ∧ FC s' f) ∧ (∀ k' sp, aTr T N k c.1 = .inr (k', sp) → ∃ s', f_X3_readTier fu s 1 q = some (s', 1) ∧ PlF s s' q ∧ PC s' T N k' ∧ PlQ s' q (c.1 ++ [sp], c.2.1, c.2.2) ∧ ∀ j, 7 ≤ j → gI s' 7 1 j = gI s 7 1 j) := by
  have e10 : ¬ (1 = 0) := by decide
  have hL := h.1.1
  have r := lr_3_1_0 hL
  have hif := X2_full (fu := fu) (s := s) hq hP.1.1 hW.1
  unfold aTr f_X3_readTier
  rw [if_neg (show ¬ q = 0 by omega), hif]
  simp only [bI, bt_z]
  by_cases c4 : c.1.length = 4
  · rw [if_pos c4, if_neg (fun w => w c4)]
    obtain ⟨s', y1, -, y3, y4, -⟩ := h.rf (fu := fu) (j := 2) (by omega)
    have y1' : f_X7_refuse fu s 1 2 = some (s', 0) := y1
    refine ⟨fun f hf => ?_, fun k' sp hk => (by cases hk)⟩
    cases hf
    refine ⟨s', ?_, y3.pl q, y4⟩
    rw [if_neg e10, r, if_neg e10, y1']
    simp only
    rw [if_neg (by rw [zb0]; decide)]
  · rw [if_neg c4, if_pos c4]
    obtain ⟨s1, y1, y2, y3, y4⟩ := h.nx (fu := fu) hfu
    have hL1 := y2.1.1
    have r1 := lr_3_1_0 hL1
    obtain ⟨a1, a2⟩ := X7_inw (fu := fu) y2 (lo := 1) (hi := 100000) (by omega) (by omega)
    rw [if_neg e10, r, if_neg e10, y1]
    simp only [bV]
    rw [r1, if_neg e10]
    have hP1 := hP.pc hL hq y3
    cases hr : aNm (nx T N k) 1 100000 with
    | inl f0 =>
      obtain ⟨s2, z1, z2, z3⟩ := a1 f0 hr
      have z1' : f_X7_isNumberWithin fu s1 1 1 100000 = some (s2, 0) := z1
      refine ⟨fun f hf => ?_, fun k' sp hk => (by cases hk)⟩
      cases hf
      refine ⟨s2, ?_, (y3.tr z2).pl q, z3⟩
      rw [z1']
      simp only [reduceIte]
      rw [if_neg (by rw [zb0]; decide)]
    | inr sp =>
      obtain ⟨z1, z2, z3, z4⟩ := a2 sp hr
      have z1' : f_X7_isNumberWithin fu s1 1 1 100000 = some (s1, 1) := z1
      have hfo := X2_fol (fu := fu) hL1 hq hP1.1 hW (sp := sp) z3 z4
      rw [z1']
      simp only [show ¬ (1 : Int32) = 0 from by decide, reduceIte]
      rw [r1, if_neg e10]
      simp only [lt]
      rw [z2, hfo]
      simp only [bt_z]
      by_cases cf : fol c.1 sp
      · rw [if_pos cf, if_neg (fun w => w cf), r1, if_neg e10]
        obtain ⟨s2, w1, w2, w3, w4⟩ := y2.nx (fu := fu) hfu
        have r2 := lr_3_1_0 w2.1.1
        rw [w1]
        simp only
        rw [r2, if_neg e10]
        obtain ⟨b1, b2⟩ := X7_tn (fu := fu) w2 (lo := 1) (hi := 20) (by omega) (by omega) hfu
        cases hk : aTn T N (nx T N (nx T N k)) 1 20 with
        | inl f0 =>
          obtain ⟨s3, v1, v2, v3⟩ := b1 f0 hk
          have v1' : f_X7_takeNumber fu s2 1 1 20 = some (s3, 0) := v1
          refine ⟨fun f hf => ?_, fun k' sp hk => (by cases hk)⟩
          cases hf
          refine ⟨s3, ?_, ((y3.tr w3).tr v2).pl q, v3⟩
          rw [v1']
          simp only [reduceIte]
          rw [if_neg (by rw [zb0]; decide)]
        | inr kv =>
          obtain ⟨k3, kp⟩ := kv
          obtain ⟨s3, v1, v2, v3, v4, v5, v6, v7, -⟩ := b2 k3 kp hk
          have v1' : f_X7_takeNumber fu s2 1 1 20 = some (s3, 1) := v1
          have F3 : PcF s s3 := (y3.tr w3).tr v2
          have hl4 := hW.1
          obtain ⟨s4, u1, u2, u3, u4, u5⟩ := X2_addT (fu := fu) v3.1.1 hq (hP.pc hL hq F3) (by omega) (sp, kp)
          refine ⟨fun f hf => (by cases hf), fun k' sp' hk => ?_⟩
          cases hk
          refine ⟨s4, ?_, (F3.pl q).tr u2, v3.al ⟨u2.1.1, u2.1.2.1, u2.1.2.2.1⟩ (fun j => u3 1 j) (fun j => u4 1 j), u5, fun j hj => by rw [u3, v4 j hj, w4 j (by omega), y4 j (by omega)]⟩
          rw [v1']
          simp only [show ¬ (1 : Int32) = 0 from by decide, reduceIte]
          rw [show gR s3 3 1 0 = 1 from lr_3_1_0 v3.1.1, if_neg e10, v5, u1]
          simp only
          rw [if_neg (by rw [zb1]; decide)]
      · rw [if_neg cf, if_pos cf, r1, if_neg e10]
        obtain ⟨s2, w1, -, w3, w4, -⟩ := y2.rf (fu := fu) (j := 3) (by omega)
        have w1' : f_X7_refuse fu s1 1 3 = some (s2, 0) := w1
        refine ⟨fun f hf => ?_, fun k' sp hk => (by cases hk)⟩
        cases hf
        refine ⟨s2, ?_, (y3.tr w3).pl q, w4⟩
        rw [w1']
        simp only
        rw [if_neg (by rw [zb0]; decide)]
theorem X3_cl (h : PC s T N k) (hq : q = 1 ∨ q = 2) (hP : PlQ s q c) (hW : TsW c.1) (hN : N ≤ 600) (hfu : 50000 ≤ fu) :
    (∀ f, aCl T N k c = .inl f → ∃ s', f_X3_readClause fu s 1 q = some (s', 0) ∧ PlF s s' q ∧ FC s' f) ∧ (∀ k' c', aCl T N k c = .inr (k', c') → ∃ s', f_X3_readClause fu s 1 q = some (s', 1) ∧ PlF s s' q ∧ PC s' T N k' ∧ PlQ s' q c' ∧ ∀ j, 7 ≤ j → gI s' 7 1 j = gI s 7 1 j) := by
  have e10 : ¬ (1 = 0) := by decide
  have hq0 : ¬ q = 0 := by omega
  have hL := h.1.1
  have r := lr_3_1_0 hL
  have hw := h.2.2.2
  have h3 := h.iw (fu := fu) (w := 3) (by decide) (by decide) (by omega)
  have h4 := h.iw (fu := fu) (w := 4) (by decide) (by decide) (by omega)
  have h5 := h.iw (fu := fu) (w := 5) (by decide) (by decide) (by omega)
  unfold aCl f_X3_readClause
  rw [if_neg e10, r, if_neg e10, h3]
  simp only [bI, bt_z]
  by_cases q3 : wdQ T k 3
  · rw [if_pos q3, if_neg (fun w => w q3)]
    obtain ⟨a1, a2⟩ := X3_tr (fu := fu) h hq hP hW (by omega)
    cases hr : aTr T N k c.1 with
    | inl f0 =>
      obtain ⟨s', y1, y2, y3⟩ := a1 f0 hr
      refine ⟨fun f hf => ?_, fun k' c' hk => (by cases hk)⟩
      cases hf
      refine ⟨s', ?_, y2, y3⟩
      rw [y1]
      simp only
      rw [if_neg (by rw [zb0]; decide)]
    | inr kv =>
      obtain ⟨k1, sp⟩ := kv
      obtain ⟨s', y1, y2, y3, y4, y5⟩ := a2 k1 sp hr
      refine ⟨fun f hf => (by cases hf), fun k' c' hk => ?_⟩
      cases hk
      refine ⟨s', ?_, y2, y3, y4, y5⟩
      rw [y1]
      simp only
      rw [if_neg (by rw [zb1]; decide)]
  · rw [if_neg q3, if_pos q3, r, if_neg e10, h4]
    simp only [bt_z]
    by_cases q4 : wdQ T k 4
    · rw [if_pos q4, if_neg (fun w => w q4), r, if_neg e10]
      obtain ⟨s1, y1, y2, y3, y4⟩ := h.nx (fu := fu) (by omega)
      have r1 := lr_3_1_0 y2.1.1
      obtain ⟨a1, a2⟩ := X7_tn (fu := fu) y2 (lo := 1) (hi := 6) (by omega) (by omega) (by omega)
      rw [y1]
      simp only [bV]
      rw [r1, if_neg e10]
      cases hr : aTn T N (nx T N k) 1 6 with
      | inl f0 =>
        obtain ⟨s2, z1, z2, z3⟩ := a1 f0 hr
        have z1' : f_X7_takeNumber fu s1 1 1 6 = some (s2, 0) := z1
        refine ⟨fun f hf => ?_, fun k' c' hk => (by cases hk)⟩
        cases hf
        refine ⟨sI s2 2 q 4 (gI s2 7 1 6), ?_, ((y3.tr z2).pl q).tr ⟨⟨rfl, rfl, rfl, rfl, rfl, rfl⟩, fun k i j _ _ h3 _ => by rw [gI_sI, if_neg (fun w => h3 ⟨w.1, w.2.1⟩)]⟩, by rw [gI_sI, if_neg (by omega)]; exact z3.1, by rw [gI_sI, if_neg (by omega)]; exact z3.2⟩
        rw [z1']
        simp only
        rw [show gR s2 3 1 0 = 1 from by rw [z2.1.1]; exact r1, if_neg e10, if_neg hq0]
        simp only [lt]
        rw [if_neg (by rw [zb0]; decide)]
      | inr kv =>
        obtain ⟨k1, v⟩ := kv
        obtain ⟨s2, z1, z2, z3, z4, z5, z6, z7, -⟩ := a2 k1 v hr
        have z1' : f_X7_takeNumber fu s1 1 1 6 = some (s2, 1) := z1
        have F2 := y3.tr z2
        have P2 := hP.pc hL hq F2
        have hL2 := z3.1.1
        obtain ⟨-, ⟨p1, p2⟩, -⟩ := sp_row hL2 hq
        refine ⟨fun f hf => (by cases hf), fun k' c' hk => ?_⟩
        cases hk
        have G : ∀ k i j, ¬ (k = 2 ∧ i = q ∧ j = 4) → gI (sI s2 2 q 4 (nI v)) k i j = gI s2 k i j := fun k i j hh => by rw [gI_sI, if_neg hh]
        refine ⟨sI s2 2 q 4 (nI v), ?_, (F2.pl q).tr ⟨⟨rfl, rfl, rfl, rfl, rfl, rfl⟩, fun k i j _ _ h3 _ => by rw [gI_sI, if_neg (fun w => h3 ⟨w.1, w.2.1⟩)]⟩, z3.al ⟨rfl, rfl, rfl⟩ (fun j => G 7 1 j (by omega)) (fun j => G 12 1 j (by omega)), ⟨⟨by rw [G 2 q 3 (by omega)]; exact P2.1.1, fun i sp hi => by rw [G 10 _ i (by omega), G 10 _ i (by omega)]; exact P2.1.2 i sp hi⟩, by rw [gI_sI, if_pos ⟨rfl, rfl, rfl⟩], P2.2.2.cong (fun _ => rfl) ⟨rfl, rfl⟩ (G 0 q 2 (by omega)) (fun j => G 10 _ j (by omega)) (fun j => G 10 _ j (by omega))⟩, fun j hj => by rw [G 7 1 j (by omega), z4 j hj, y4 j (by omega)]⟩
        rw [z1']
        simp only
        rw [show gR s2 3 1 0 = 1 from lr_3_1_0 hL2, if_neg e10, if_neg hq0, z5]
        simp only [lt]
        rw [if_neg (by rw [zb1]; decide)]
    · rw [if_neg q4, if_pos q4, r, if_neg e10, h5]
      simp only [bt_z]
      by_cases q5 : wdQ T k 5
      · rw [if_pos q5, if_neg (fun w => w q5), r, if_neg e10]
        obtain ⟨s1, y1, y2, y3, y4⟩ := h.nx (fu := fu) (by omega)
        have hL1 := y2.1.1
        have hn := hw.nx
        have hb := hw.2.2.2.1 (by rw [q5.1]; decide)
        obtain ⟨⟨p1, p2, p3⟩, ⟨p4, p5⟩, -⟩ := sp_row hL1 hq
        have P1 := hP.pc hL hq y3
        let s2 := sI s1 0 q 2 0
        have G : ∀ k i j, ¬ (k = 0 ∧ i = q ∧ j = 2) → gI s2 k i j = gI s1 k i j := fun k i j hh => by show gI (sI s1 0 q 2 0) k i j = _; rw [gI_sI, if_neg hh]
        have P2 : PC s2 T N (nx T N k) := y2.al ⟨rfl, rfl, rfl⟩ (fun j => G 7 1 j (by omega)) (fun j => G 12 1 j (by omega))
        have hR2 : AlR s2 q := sp_alr P2.1.1 hq
        have A2 : AlC s2 q [] := ⟨hR2.1, hR2.2.1, ⟨by show gI (sI s1 0 q 2 0) 0 q 2 = _; rw [gI_sI, if_pos ⟨rfl, rfl, rfl⟩]; rfl, by decide⟩, fun k o hk => (by cases hk), fun k f r v hk => (by cases hk)⟩
        have F2 : PlF s s2 q := (y3.pl q).tr ⟨⟨rfl, rfl, rfl, rfl, rfl, rfl⟩, fun k i j _ h2 _ _ => G k i j (fun w => h2 ⟨w.1, w.2.1⟩)⟩
        have hx := (X3_all (a := q) hfu hN 6000).2.1 40 (nx T N k) 0 [] s2 (tE k) (by omega) (by omega) (by omega) P2 hR2 A2 hn.2 (fun w => wd_gap hw q5.1 w) (Nat.zero_le _)
        have hpre : (bV (f_X7_next fu s 1) fun s19 => if q = 0 then none else if gR s19 2 q 2 = 0 then none else bV (f_X0_clear fu s19 (gR s19 2 q 2)) fun s22 => bI (r_X3_readTest fu s22 1 (gR s22 2 q 2) 0) fun s23 x24 => if zb x24 = false then none else some (s23, x24)) = bI ((fr_X3 fu 40).1 s2 1 q (nI 0)) fun s23 x24 => if zb x24 = false then none else some (s23, x24) := by
          rw [y1]
          simp only [bV]
          rw [if_neg hq0, p3, if_neg hq0]
          unfold f_X0_clear
          rw [if_neg hq0]
          simp only [lt]
          show bI (r_X3_readTest fu s2 1 (gR s2 2 q 2) 0) _ = _
          rw [show gR s2 2 q 2 = q from p3]
          rfl
        have hpre' := hpre
        simp only [bI, bV] at hpre' ⊢
        rw [hpre']
        cases hr : aX T N 6000 2 (nx T N k) 0 [] with
        | inl f0 =>
          rw [hr] at hx
          obtain ⟨s3, z1, z2, z3, z4⟩ := hx
          refine ⟨fun f hf => ?_, fun k' c' hk => (by cases hk)⟩
          cases hf
          refine ⟨s3, ?_, F2.tr (z2.pl P2.1.1 hq), z3⟩
          rw [z1]
          simp only
          rw [if_neg (by rw [zb0]; decide)]
        | inr kv =>
          obtain ⟨k1, B⟩ := kv
          rw [hr] at hx
          obtain ⟨s3, z1, z2, z3, z4, z5⟩ := hx
          obtain ⟨-, ⟨t1, t2⟩, -⟩ := sp_row P2.1.1 hq
          refine ⟨fun f hf => (by cases hf), fun k' c' hk => ?_⟩
          cases hk
          have g2 : ∀ j, gI s3 2 q j = gI s1 2 q j := fun j => by rw [z2.2 2 q j (by omega) (by omega) (by omega), G 2 q j (by omega)]
          have g10 : ∀ i j, i ≤ 9 + 4 * q → gI s3 10 i j = gI s1 10 i j := fun i j hi => by rw [z2.2 10 i j (by omega) (by omega) (by rw [t1, t2]; omega), G 10 i j (by omega)]
          refine ⟨s3, ?_, F2.tr (z2.pl P2.1.1 hq), z3, ⟨⟨by rw [g2]; exact P1.1.1, fun i sp hi => by rw [g10 _ i (by omega), g10 _ i (by omega)]; exact P1.1.2 i sp hi⟩, by rw [g2]; exact P1.2.1, z4⟩, fun j hj => by rw [z5 j hj, G 7 1 j (by omega), y4 j (by omega)]⟩
          rw [z1]
          simp only
          rw [if_neg (by rw [zb1]; decide)]
      · rw [if_neg q5, if_pos q5, r, if_neg e10]
        obtain ⟨s', y1, -, y3, y4, -⟩ := h.rf (fu := fu) (j := 1) (by omega)
        have y1' : f_X7_refuse fu s 1 1 = some (s', 0) := y1
        refine ⟨fun f hf => ?_, fun k' c' hk => (by cases hk)⟩
        cases hf
        refine ⟨s', ?_, y3.pl q, y4⟩
        rw [y1']
        simp only
        rw [if_neg (by rw [zb0]; decide)]
end CLC
