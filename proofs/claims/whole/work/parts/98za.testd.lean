/-! ===== the class reads a test, whole ===== -/
/-- from a row of units on; i: how many lie ahead -/
def aR (T : Nat → Nat) (N d i : Nat) (k : Tk) (e : Nat) (A : List AO) : Flt (Tk × List AO) := match aX T N d 1 k e A with
  | .inl f => .inl f
  | .inr q => aX T N d 4 q.1 e (if 0 < i then q.2 ++ [oO] else q.2)
theorem aX_2R {T : Nat → Nat} {N : Nat} (d : Nat) (k : Tk) (e : Nat) (A : List AO) : aX T N (d + 1) 2 k e A = aR T N d 0 k e A := by
  rw [aX_2]
  unfold aR
  cases aX T N d 1 k e A with
  | inl f => rfl
  | inr q => rfl
theorem aX_4R {T : Nat → Nat} {N : Nat} (d i : Nat) (k : Tk) (e : Nat) (A : List AO) (h : wdQ T k 13) : aX T N (d + 1) 4 k e A = aR T N d (i + 1) (nx T N k) e A := by
  rw [aX_4, if_pos h]
  unfold aR
  cases aX T N d 1 (nx T N k) e A with
  | inl f => rfl
  | inr q =>
    show aX T N d 4 q.1 e (q.2 ++ [oO]) = aX T N d 4 q.1 e (if 0 < i + 1 then q.2 ++ [oO] else q.2)
    rw [if_pos (Nat.succ_pos i)]
section TSD
variable {a fu N : Nat} {T : Nat → Nat}
theorem OkC.pre {s s1 : St} {o : Option (St × Int32)} {r : Flt (Tk × List AO)} (h : OkC T N a s1 o r) (f : AlF s s1 a) (h7 : ∀ j, 7 ≤ j → gI s1 7 1 j = gI s 7 1 j) : OkC T N a s o r := by
  cases r with
  | inl f0 =>
    obtain ⟨s', y1, y2, y3, y4⟩ := h
    exact ⟨s', y1, f.tr y2, y3, y4⟩
  | inr q =>
    obtain ⟨s', y1, y2, y3, y4, y5⟩ := h
    exact ⟨s', y1, f.tr y2, y3, y4, fun j hj => (y5 j hj).trans (h7 j hj)⟩
/-- 'and', again and again -/
def Ok3 (T : Nat → Nat) (N a : Nat) (s : St) (o : Option (St × Int32)) (F : St → Option (St × Int32)) (r : Flt (Tk × List AO)) : Prop := match r with
  | .inl f => ∃ s', o = some (s', 0) ∧ AlF s s' a ∧ FC s' f ∧ AlZ s' a
  | .inr q => ∃ s', o = F s' ∧ AlF s s' a ∧ PC s' T N q.1 ∧ AlC s' a q.2 ∧ (∀ j, 7 ≤ j → gI s' 7 1 j = gI s 7 1 j)
theorem X3_all (hfu : 50000 ≤ fu) (hN : N ≤ 600) : ∀ (d : Nat),
    (∀ (lv : Nat) (k : Tk) (e : Nat) (A : List AO) (s : St) (q : Nat), e ≤ 6 → 2 * (6 - e) + 1 ≤ lv → 8 * (N - tB k) < d → PC s T N k → AlR s a → AlC s a A → q ≤ tB k → (tK k = 1 → q + 1 ≤ tB k) → 4 * A.length ≤ q →
      OkC T N a s ((fr_X3 fu lv).2 s 1 a (nI e)) (aX T N d 0 k e A)) ∧
    (∀ (lv : Nat) (k : Tk) (e : Nat) (A : List AO) (s : St) (q : Nat), e ≤ 6 → 2 * (6 - e) + 2 ≤ lv → 8 * (N - tB k) + 2 < d → PC s T N k → AlR s a → AlC s a A → q ≤ tB k → (tK k = 1 → q + 1 ≤ tB k) → 4 * A.length ≤ q →
      OkC T N a s ((fr_X3 fu lv).1 s 1 a (nI e)) (aX T N d 2 k e A)) ∧
    (∀ (lv : Nat) (k : Tk) (e : Nat) (A : List AO) (s : St) (q l4 m : Nat) (l3 : Int32) (k2 : St → Nat → Nat → Int32 → Int32 → Option (St × Int32)), e ≤ 6 → 2 * (6 - e) + 1 ≤ lv → 8 * (N - tB k) < d → PC s T N k → AlR s a → AlC s a A → q + 2 ≤ tB k → 4 * A.length ≤ q → l4 ≤ A.length → N - tB k < m →
      Ok3 T N a s (f_X3_readTest_b23 fu (fr_X3 fu lv).2 k2 m s 1 a (nI e) l3 (nI l4)) (fun s' => f_X3_readTest_b73 fu (fr_X3 fu lv).2 k2 s' 1 a (nI e) l3) (aX T N d 3 k e A)) ∧
    (∀ (lv : Nat) (k : Tk) (e : Nat) (A : List AO) (s : St) (q i m : Nat), e ≤ 6 → 2 * (6 - e) + 1 ≤ lv → 8 * (N - tB k) + 1 < d → PC s T N k → AlR s a → AlC s a A → q ≤ tB k → (tK k = 1 → q + 1 ≤ tB k) → 4 * A.length ≤ q → i ≤ A.length + 1 → N - tB k < m →
      OkC T N a s (f_X3_readTest_b2 fu (fr_X3 fu lv).2 m s 1 a (nI e) (nI i)) (aR T N d i k e A)) := by
  have e10 : ¬ (1 = 0) := by decide
  intro d
  induction d with
  | zero =>
    refine ⟨fun lv k e A s q _ _ h => (by omega), fun lv k e A s q _ _ h => (by omega), fun lv k e A s q l4 m l3 k2 _ _ h => (by omega), fun lv k e A s q i m _ _ h => (by omega)⟩
  | succ d ih =>
    obtain ⟨iU, iT, iL, iB⟩ := ih
    refine ⟨?_, ?_, ?_, ?_⟩
    · -- a unit
      intro lv k e A s q he hlv hd h hR hA hq1 hq2 h4
      obtain ⟨lv, rfl⟩ : ∃ m', lv = m' + 1 := ⟨lv - 1, by omega⟩
      have hL := h.1.1
      have r := lr_3_1_0 hL
      have hw := h.2.2.2
      have hbe := hw.1
      have heN := hw.2.1
      show OkC T N a s (f_X3_readUnit fu (fr_X3 fu lv).1 (fr_X3 fu lv).2 s 1 a (nI e)) _
      have h6 := h.iw (fu := fu) (w := 6) (by decide) (by decide) (by omega)
      have h40 : f_X7_isSign fu s 1 40 = some (s, bt (sgQ T k 40)) := h.is (c := 40) (by omega)
      rw [aX_0]
      by_cases c6 : wdQ T k 6
      · rw [if_pos c6]
        have hpre : f_X3_readUnit fu (fr_X3 fu lv).1 (fr_X3 fu lv).2 s 1 a (nI e) = f_X3_readUnit_b26 fu (fr_X3 fu lv).1 (fr_X3 fu lv).2 s 1 a (nI e) 1 := by
          unfold f_X3_readUnit
          rw [if_neg e10, r, if_neg e10, h6, bt_t c6]
          simp only [bI, show ¬ (1 : Int32) = 0 from by decide, reduceIte]
        rw [hpre]
        unfold f_X3_readUnit_b26
        by_cases ce : e = 6
        · rw [if_pos ce, if_neg (show ¬ nI e < (6 : Int32) by rw [ce]; decide)]
          obtain ⟨s', y1, -, y3, y4, -⟩ := h.rf (fu := fu) (j := 2) (by omega)
          have y1' : f_X7_refuse fu s 1 2 = some (s', 0) := y1
          refine ⟨s', ?_, y3.al a, y4, hA.z.pc y3⟩
          rw [if_neg e10, r, if_neg e10, y1']
          simp only [bI]
          rw [if_neg (by rw [zb0]; decide)]
        · rw [if_neg ce, if_pos (show nI e < (6 : Int32) from (ni_lt (b := 6) (by omega) (by omega)).mpr (by omega))]
          obtain ⟨s1, y1, y2, y3, y4⟩ := h.nx (fu := fu) (by omega)
          have hn := hw.nx
          have hb := hw.2.2.2.1 (by rw [c6.1]; decide)
          have hA1 := hA.pc y3
          have hR1 := hR.eq y3.1.1 y3.1.2.1
          have hu := iU lv (nx T N k) (e + 1) A s1 (tE k) (by omega) (by omega) (by have := hn.2; omega) y2 hR1 hA1 hn.2 (fun w => wd_gap hw c6.1 w) (by omega)
          rw [if_neg e10, r, if_neg e10, y1]
          simp only [bV, show ¬ (1 : Int32) = 0 from by decide, reduceIte, nu_nIa]
          cases hx : aX T N d 0 (nx T N k) (e + 1) A with
          | inl f0 =>
            rw [hx] at hu
            obtain ⟨s2, z1, z2, z3, z4⟩ := hu
            obtain ⟨s3, v1, v2, v3, v4, v5, -⟩ := X0_joint (fu := fu) (hR1.eq z2.1.1 z2.1.2.1) z4 100
            refine ⟨s3, ?_, ((y3.al a).tr z2).tr v2, ⟨by rw [v3]; exact z3.1, by rw [v3]; exact z3.2⟩, v5⟩
            rw [z1]
            simp only [bI]
            rw [if_neg hR.1.1, v1]
            simp only
            rw [if_neg (by rw [zb0]; decide)]
          | inr qq =>
            obtain ⟨k1, B1⟩ := qq
            rw [hx] at hu
            obtain ⟨s2, z1, z2, z3, z4, z5⟩ := hu
            obtain ⟨X, x1, x2, x3, x4, x5⟩ := (aX_ok d (nx T N k) (e + 1) A k1 B1 (tE k) (by omega) hn.1).1 hn.2 (fun w => wd_gap hw c6.1 w) hx
            have hk1 : tB k1 ≤ N := Nat.le_trans x2.1 x2.2.1
            have hB1 : B1.length < 160 := by rw [x1, List.length_append]; omega
            obtain ⟨s3, v1, v2, v3, v4, v5, v6⟩ := X0_joint (fu := fu) (hR1.eq z2.1.1 z2.1.2.1) z4.z 100
            refine ⟨s3, ?_, ((y3.al a).tr z2).tr v2, z3.al ⟨v2.1.1, v2.1.2.1, v2.1.2.2.1⟩ (fun j => v3 1 j) (fun j => v4 1 j), v6 B1 z4 hB1 oN rfl (fun _ _ _ e => by cases e), fun j hj => by rw [v3, z5 j hj, y4 j (by omega)]⟩
            rw [z1]
            simp only [bI]
            rw [if_neg hR.1.1, v1]
            simp only
            rw [if_neg (by rw [zb1]; decide)]
      · rw [if_neg c6]
        by_cases c4 : sgQ T k 40
        · rw [if_pos c4]
          have hpre : f_X3_readUnit fu (fr_X3 fu lv).1 (fr_X3 fu lv).2 s 1 a (nI e) = f_X3_readUnit_b26 fu (fr_X3 fu lv).1 (fr_X3 fu lv).2 s 1 a (nI e) 0 := by
            unfold f_X3_readUnit
            rw [if_neg e10, r, if_neg e10, h6, bt_f c6]
            simp only [bI, reduceIte]
            rw [r, if_neg e10, h40, bt_t c4]
            simp only [show ¬ (1 : Int32) = 0 from by decide, reduceIte]
          rw [hpre]
          unfold f_X3_readUnit_b26
          by_cases ce : e = 6
          · rw [if_pos ce, if_neg (show ¬ nI e < (6 : Int32) by rw [ce]; decide)]
            obtain ⟨s', y1, -, y3, y4, -⟩ := h.rf (fu := fu) (j := 2) (by omega)
            have y1' : f_X7_refuse fu s 1 2 = some (s', 0) := y1
            refine ⟨s', ?_, y3.al a, y4, hA.z.pc y3⟩
            rw [if_neg e10, r, if_neg e10, y1']
            simp only [bI]
            rw [if_neg (by rw [zb0]; decide)]
          · rw [if_neg ce, if_pos (show nI e < (6 : Int32) from (ni_lt (b := 6) (by omega) (by omega)).mpr (by omega))]
            obtain ⟨s1, y1, y2, y3, y4⟩ := h.nx (fu := fu) (by omega)
            have hn := hw.nx
            have hb := hw.2.2.2.1 (by rw [c4.1]; decide)
            have hA1 := hA.pc y3
            have hR1 := hR.eq y3.1.1 y3.1.2.1
            have hu := iT lv (nx T N k) (e + 1) A s1 (tB k) (by omega) (by omega) (by have := hn.2; omega) y2 hR1 hA1 (by have := hn.2; omega) (fun _ => by have := hn.2; omega) (by omega)
            rw [if_neg e10, r, if_neg e10, y1]
            simp only [bV, reduceIte, nu_nIa]
            cases hx : aX T N d 2 (nx T N k) (e + 1) A with
            | inl f0 =>
              rw [hx] at hu
              obtain ⟨s2, z1, z2, z3, z4⟩ := hu
              refine ⟨s2, ?_, (y3.al a).tr z2, z3, z4⟩
              rw [z1]
              simp only [bI, reduceIte]
              unfold f_X3_readUnit_b79 f_X3_readUnit_b80
              rw [if_neg (by rw [zb0]; decide)]
            | inr qq =>
              obtain ⟨k1, B1⟩ := qq
              rw [hx] at hu
              obtain ⟨s2, z1, z2, z3, z4, z5⟩ := hu
              have r2 : gR s2 3 1 0 = 1 := lr_3_1_0 z3.1.1
              obtain ⟨g1, g2⟩ := X7_tsg (fu := fu) z3 (c := 41) (by omega) (by omega)
              simp only
              cases hg : aSg T N k1 41 with
              | inl f0 =>
                obtain ⟨s3, w1, w2, w3⟩ := g1 f0 hg
                have w1' : f_X7_takeSign fu s2 1 41 = some (s3, 0) := w1
                refine ⟨s3, ?_, ((y3.al a).tr z2).tr (w2.al a), w3, z4.z.pc w2⟩
                rw [z1]
                simp only [bI, show ¬ (1 : Int32) = 0 from by decide, reduceIte]
                rw [r2, if_neg e10, w1']
                simp only [reduceIte]
                unfold f_X3_readUnit_b79 f_X3_readUnit_b80
                rw [if_neg (by rw [zb0]; decide)]
              | inr k3 =>
                obtain ⟨s3, w1, w2, w3, w4⟩ := g2 k3 hg
                have w1' : f_X7_takeSign fu s2 1 41 = some (s3, 1) := w1
                refine ⟨s3, ?_, ((y3.al a).tr z2).tr (w2.al a), w3, z4.pc w2, fun j hj => by rw [w4 j (by omega), z5 j hj, y4 j (by omega)]⟩
                rw [z1]
                simp only [bI, show ¬ (1 : Int32) = 0 from by decide, reduceIte]
                rw [r2, if_neg e10, w1']
                simp only [show ¬ (1 : Int32) = 0 from by decide, reduceIte]
                unfold f_X3_readUnit_b80
                rw [if_neg (by rw [zb1]; decide)]
        · rw [if_neg c4]
          have hpre : f_X3_readUnit fu (fr_X3 fu lv).1 (fr_X3 fu lv).2 s 1 a (nI e) = cmF fu s a := by
            unfold f_X3_readUnit cmF
            rw [if_neg e10, r, if_neg e10, h6, bt_f c6]
            simp only [bI, reduceIte]
            rw [r, if_neg e10, h40, bt_f c4]
            simp only [reduceIte]
          rw [hpre]
          exact X3_cm h hR hA (by omega) (by omega)
    · -- a test
      intro lv k e A s q he hlv hd h hR hA hq1 hq2 h4
      obtain ⟨lv, rfl⟩ : ∃ m', lv = m' + 1 := ⟨lv - 1, by omega⟩
      have hw := h.2.2.2
      rw [aX_2R]
      exact iB lv k e A s q 0 fu he (by omega) (by omega) h hR hA hq1 hq2 h4 (by omega) (by omega)
    · -- behind a unit
      intro lv k e A s q l4 m l3 k2 he hlv hd h hR hA hq h4 hl4 hm
      obtain ⟨m, rfl⟩ : ∃ m', m = m' + 1 := ⟨m - 1, by omega⟩
      have hL := h.1.1
      have r := lr_3_1_0 hL
      have hw := h.2.2.2
      have hbe := hw.1
      have heN := hw.2.1
      have hn := hw.nx
      have h600 : ¬ (600 : Int32) ≤ nI l4 := fun w => by have := (ni_le (a := 600) (by omega) (by omega)).mp w; omega
      have h12 := h.iw (fu := fu) (w := 12) (by decide) (by decide) (by omega)
      rw [aX_3]
      by_cases c : wdQ T k 12
      · rw [if_pos c]
        obtain ⟨s1, y1, y2, y3, y4⟩ := h.nx (fu := fu) (by omega)
        have hb := hw.2.2.2.1 (by rw [c.1]; decide)
        have hA1 := hA.pc y3
        have hR1 := hR.eq y3.1.1 y3.1.2.1
        have hu := iU lv (nx T N k) e A s1 (tE k) he hlv (by have := hn.2; omega) y2 hR1 hA1 hn.2 (fun w => wd_gap hw c.1 w) (by omega)
        have hpre : f_X3_readTest_b23 fu (fr_X3 fu lv).2 k2 (m + 1) s 1 a (nI e) l3 (nI l4) = bI ((fr_X3 fu lv).2 s1 1 a (nI e)) fun s16 x17 => if x17 = 0 then (if zb 0 = false then none else some (s16, 0)) else if a = 0 then none else bV (f_X0_addJoint fu s16 a 101) fun s20 => f_X3_readTest_b23 fu (fr_X3 fu lv).2 k2 m s20 1 a (nI e) l3 (nI (l4 + 1)) := by
          conv => lhs; unfold f_X3_readTest_b23
          rw [if_neg h600, if_neg e10, r, if_neg e10, h12, bt_t c]
          simp only [bI, show ¬ (1 : Int32) = 0 from by decide, reduceIte]
          rw [r, if_neg e10, y1]
          simp only [bV, lt, nu_nIa]
        rw [hpre]
        cases hx : aX T N d 0 (nx T N k) e A with
        | inl f0 =>
          rw [hx] at hu
          obtain ⟨s2, z1, z2, z3, z4⟩ := hu
          refine ⟨s2, ?_, (y3.al a).tr z2, z3, z4⟩
          rw [z1]
          simp only [bI, reduceIte]
          rw [if_neg (by rw [zb0]; decide)]
        | inr qq =>
          obtain ⟨k1, B1⟩ := qq
          rw [hx] at hu
          obtain ⟨s2, z1, z2, z3, z4, z5⟩ := hu
          obtain ⟨X, x1, x2, x3, x4, x5⟩ := (aX_ok d (nx T N k) e A k1 B1 (tE k) he hn.1).1 hn.2 (fun w => wd_gap hw c.1 w) hx
          have hl := wd_len c
          have s12 : sL 12 = 3 := rfl
          rw [s12] at hl
          have hk1 : tB k1 ≤ N := Nat.le_trans x2.1 x2.2.1
          have hBl : B1.length = A.length + X.length := by rw [x1, List.length_append]
          obtain ⟨s3, v1, v2, v3, v4, v5, v6⟩ := X0_joint (fu := fu) (hR1.eq z2.1.1 z2.1.2.1) z4.z 101
          have P3 := z3.al ⟨v2.1.1, v2.1.2.1, v2.1.2.2.1⟩ (fun j => v3 1 j) (fun j => v4 1 j)
          have A3 := v6 B1 z4 (by omega) oA rfl (fun _ _ _ e => by cases e)
          have F3 : AlF s s3 a := ((y3.al a).tr z2).tr v2
          have hB1 : (B1 ++ [oA]).length = B1.length + 1 := by rw [List.length_append, List.length_singleton]
          have hlp := iL lv k1 e (B1 ++ [oA]) s3 (tE k + 4 * X.length) (l4 + 1) m l3 k2 he hlv (by have := hn.2; omega) P3 (hR.eq F3.1.1 F3.1.2.1) A3 x4 (by omega) (by omega) (by have := hn.2; omega)
          have hst : (bI ((fr_X3 fu lv).2 s1 1 a (nI e)) fun s16 x17 => if x17 = 0 then (if zb 0 = false then none else some (s16, 0)) else if a = 0 then none else bV (f_X0_addJoint fu s16 a 101) fun s20 => f_X3_readTest_b23 fu (fr_X3 fu lv).2 k2 m s20 1 a (nI e) l3 (nI (l4 + 1))) = f_X3_readTest_b23 fu (fr_X3 fu lv).2 k2 m s3 1 a (nI e) l3 (nI (l4 + 1)) := by
            rw [z1]
            simp only [bI, show ¬ (1 : Int32) = 0 from by decide, reduceIte]
            rw [if_neg hR.1.1, v1]
            rfl
          rw [hst]
          simp only
          have h7 : ∀ j, 7 ≤ j → gI s3 7 1 j = gI s 7 1 j := fun j hj => by rw [v3, z5 j hj, y4 j (by omega)]
          cases hy : aX T N d 3 k1 e (B1 ++ [oA]) with
          | inl f0 =>
            rw [hy] at hlp
            obtain ⟨s', w1, w2, w3, w4⟩ := hlp
            exact ⟨s', w1, F3.tr w2, w3, w4⟩
          | inr q2 =>
            rw [hy] at hlp
            obtain ⟨s', w1, w2, w3, w4, w5⟩ := hlp
            exact ⟨s', w1, F3.tr w2, w3, w4, fun j hj => (w5 j hj).trans (h7 j hj)⟩
      · rw [if_neg c]
        refine ⟨s, ?_, AlF.rf s a, h, hA, fun _ _ => rfl⟩
        conv => lhs; unfold f_X3_readTest_b23
        rw [if_neg h600, if_neg e10, r, if_neg e10, h12, bt_f c]
        simp only [bI, reduceIte]
    · -- a row of units
      intro lv k e A s q i m he hlv hd h hR hA hq1 hq2 h4 hi hm
      obtain ⟨m, rfl⟩ : ∃ m', m = m' + 1 := ⟨m - 1, by omega⟩
      have hw := h.2.2.2
      have hbe := hw.1
      have heN := hw.2.1
      have h600 : ¬ (600 : Int32) ≤ nI i := fun w => by have := (ni_le (a := 600) (by omega) (by omega)).mp w; omega
      have hu := iU lv k e A s q he hlv (by omega) h hR hA hq1 hq2 h4
      have hpre : f_X3_readTest_b2 fu (fr_X3 fu lv).2 (m + 1) s 1 a (nI e) (nI i) = bI ((fr_X3 fu lv).2 s 1 a (nI e)) fun s4 x5 => if x5 = 0 then (if zb 0 = false then none else some (s4, 0)) else f_X3_readTest_b23 fu (fr_X3 fu lv).2 (f_X3_readTest_b2 fu (fr_X3 fu lv).2 m) fu s4 1 a (nI e) (nI i) 0 := by
        conv => lhs; unfold f_X3_readTest_b2
        rw [if_neg h600, if_neg e10]
      rw [hpre]
      unfold aR
      rw [aX_1]
      cases hx : aX T N d 0 k e A with
      | inl f0 =>
        rw [hx] at hu
        obtain ⟨s2, z1, z2, z3, z4⟩ := hu
        refine ⟨s2, ?_, z2, z3, z4⟩
        rw [z1]
        simp only [bI, reduceIte]
        rw [if_neg (by rw [zb0]; decide)]
      | inr qq =>
        obtain ⟨k1, B1⟩ := qq
        rw [hx] at hu
        obtain ⟨s2, z1, z2, z3, z4, z5⟩ := hu
        obtain ⟨X, x1, x2, x3, x4, x5⟩ := (aX_ok d k e A k1 B1 q he hw).1 hq1 hq2 hx
        have hk1 : tB k1 ≤ N := Nat.le_trans x2.1 x2.2.1
        have hBl : B1.length = A.length + X.length := by rw [x1, List.length_append]
        have hlp := iL lv k1 e B1 s2 (q + 4 * X.length) 0 fu (nI i) (f_X3_readTest_b2 fu (fr_X3 fu lv).2 m) he hlv (by omega) z3 (hR.eq z2.1.1 z2.1.2.1) z4 x4 (by omega) (by omega) (by omega)
        rw [z1]
        simp only [bI, show ¬ (1 : Int32) = 0 from by decide, reduceIte]
        cases hy : aX T N d 3 k1 e B1 with
        | inl f0 =>
          rw [hy] at hlp
          obtain ⟨s', w1, w2, w3, w4⟩ := hlp
          exact ⟨s', w1, z2.tr w2, w3, w4⟩
        | inr q2 =>
          obtain ⟨k3, B3⟩ := q2
          rw [hy] at hlp
          obtain ⟨s3, w1, w2, w3, w4, w5⟩ := hlp
          obtain ⟨Y, u1, u2, u3, u4, u5⟩ := (aX_ok d k1 e B1 k3 B3 (q + 4 * X.length) he x2).2.2.2.1 x4 hy
          have hk3 : tB k3 ≤ N := Nat.le_trans u2.1 u2.2.1
          have hB3 : B3.length = B1.length + Y.length := by rw [u1, List.length_append]
          have w1' : f_X3_readTest_b23 fu (fr_X3 fu lv).2 (f_X3_readTest_b2 fu (fr_X3 fu lv).2 m) fu s2 1 a (nI e) (nI i) 0 = f_X3_readTest_b73 fu (fr_X3 fu lv).2 (f_X3_readTest_b2 fu (fr_X3 fu lv).2 m) s3 1 a (nI e) (nI i) := w1
          rw [w1']
          have F3 : AlF s s3 a := z2.tr w2
          -- 'or' is laid
          have hor : ∃ s4, f_X3_readTest_b73 fu (fr_X3 fu lv).2 (f_X3_readTest_b2 fu (fr_X3 fu lv).2 m) s3 1 a (nI e) (nI i) = f_X3_readTest_b83 fu (fr_X3 fu lv).2 (f_X3_readTest_b2 fu (fr_X3 fu lv).2 m) s4 1 a (nI e) (nI i) ∧ AlF s s4 a ∧ PC s4 T N k3 ∧ AlC s4 a (if 0 < i then B3 ++ [oO] else B3) ∧ (∀ j, 7 ≤ j → gI s4 7 1 j = gI s 7 1 j) := by
            by_cases ci : 0 < i
            · obtain ⟨s4, v1, v2, v3, v4, v5, v6⟩ := X0_joint (fu := fu) (hR.eq F3.1.1 F3.1.2.1) w4.z 102
              refine ⟨s4, ?_, F3.tr v2, w3.al ⟨v2.1.1, v2.1.2.1, v2.1.2.2.1⟩ (fun j => v3 1 j) (fun j => v4 1 j), ?_, fun j hj => by rw [v3, w5 j hj, z5 j hj]⟩
              · unfold f_X3_readTest_b73
                rw [if_neg (show ¬ nI i ≤ 0 from fun w => by have := (ni_le (b := 0) (by omega) (by omega)).mp w; omega), if_neg hR.1.1, v1]
                rfl
              · rw [if_pos ci]
                exact v6 B3 w4 (by omega) oO rfl (fun _ _ _ e => by cases e)
            · refine ⟨s3, ?_, F3, w3, by rw [if_neg ci]; exact w4, fun j hj => by rw [w5 j hj, z5 j hj]⟩
              unfold f_X3_readTest_b73
              rw [if_pos (show nI i ≤ 0 from (ni_le (b := 0) (by omega) (by omega)).mpr (by omega))]
          obtain ⟨s4, o1, o2, o3, o4, o5⟩ := hor
          rw [o1]
          have hlenO : (if 0 < i then B3 ++ [oO] else B3).length = B3.length + (if 0 < i then 1 else 0) := by
            by_cases ci : 0 < i
            · rw [if_pos ci, if_pos ci, List.length_append, List.length_singleton]
            · rw [if_neg ci, if_neg ci]; rfl
          generalize hB4 : (if 0 < i then B3 ++ [oO] else B3) = B4 at o4 hlenO
          have r4 := lr_3_1_0 o3.1.1
          have h13 := o3.iw (fu := fu) (w := 13) (by decide) (by decide) (by omega)
          show OkC T N a s _ (aX T N (d + 1) 4 k3 e (if 0 < i then B3 ++ [oO] else B3))
          rw [hB4]
          by_cases c : wdQ T k3 13
          · have hw3 := o3.2.2.2
            have hn3 := hw3.nx
            have hb3 := hw3.2.2.2.1 (by rw [c.1]; decide)
            have hbe3 := hw3.1
            have heN3 := hw3.2.1
            have hl := wd_len c
            have s13 : sL 13 = 2 := rfl
            rw [s13] at hl
            obtain ⟨s5, p1, p2, p3, p4⟩ := o3.nx (fu := fu) (by omega)
            have F5 : AlF s s5 a := o2.tr (p3.al a)
            have hib : i ≤ B4.length := by
              by_cases ci : 0 < i
              · rw [if_pos ci] at hlenO; omega
              · omega
            have h4b : 4 * B4.length ≤ tE k3 := by
              by_cases ci : 0 < i
              · rw [if_pos ci] at hlenO; omega
              · rw [if_neg ci] at hlenO; omega
            have hrec := iB lv (nx T N k3) e B4 s5 (tE k3) (i + 1) m he hlv (by have := hn3.2; omega) p2 (hR.eq F5.1.1 F5.1.2.1) (o4.pc p3) hn3.2 (fun w => wd_gap hw3 c.1 w) h4b (by omega) (by have := hn3.2; omega)
            rw [aX_4R d i k3 e B4 c]
            have hst : f_X3_readTest_b83 fu (fr_X3 fu lv).2 (f_X3_readTest_b2 fu (fr_X3 fu lv).2 m) s4 1 a (nI e) (nI i) = f_X3_readTest_b2 fu (fr_X3 fu lv).2 m s5 1 a (nI e) (nI (i + 1)) := by
              unfold f_X3_readTest_b83
              rw [if_neg e10, r4, if_neg e10, h13, bt_t c]
              simp only [bI, show ¬ (1 : Int32) = 0 from by decide, reduceIte]
              rw [r4, if_neg e10, p1]
              simp only [bV, lt, nu_nIa]
            rw [hst]
            exact hrec.pre F5 (fun j hj => by rw [p4 j (by omega), o5 j hj])
          · rw [aX_4, if_neg c]
            refine ⟨s4, ?_, o2, o3, o4, o5⟩
            unfold f_X3_readTest_b83
            rw [if_neg e10, r4, if_neg e10, h13, bt_f c]
            simp only [bI, reduceIte]
            rw [if_neg (by rw [zb1]; decide)]
end TSD
