/-! ===== the reference reads a test, whole ===== -/
section TSN
variable {fu N : Nat} {T : Nat → Nat}
theorem X9_all (hfu : 50000 ≤ fu) (hN : N ≤ 600) : ∀ (d : Nat),
    (∀ (lv : Nat) (k : Tk) (e : Nat) (A : List AO) (s : St) (q : Nat), e ≤ 6 → 3 * (6 - e) + 2 ≤ lv → 8 * (N - tB k) < d → PM s T N k → AlN s A → q ≤ tB k → (tK k = 1 → q + 1 ≤ tB k) → 4 * A.length ≤ q →
      OkM T N s ((fr_X9 fu lv).2.2 s 1 (nI e)) (aX T N d 0 k e A)) ∧
    (∀ (lv : Nat) (k : Tk) (e : Nat) (A : List AO) (s : St) (q : Nat), e ≤ 6 → 3 * (6 - e) + 3 ≤ lv → 8 * (N - tB k) + 1 < d → PM s T N k → AlN s A → q ≤ tB k → (tK k = 1 → q + 1 ≤ tB k) → 4 * A.length ≤ q →
      OkM T N s ((fr_X9 fu lv).1 s 1 (nI e)) (aX T N d 1 k e A)) ∧
    (∀ (lv : Nat) (k : Tk) (e : Nat) (A : List AO) (s : St) (q : Nat), e ≤ 6 → 3 * (6 - e) + 4 ≤ lv → 8 * (N - tB k) + 2 < d → PM s T N k → AlN s A → q ≤ tB k → (tK k = 1 → q + 1 ≤ tB k) → 4 * A.length ≤ q →
      OkM T N s ((fr_X9 fu lv).2.1 s 1 (nI e)) (aX T N d 2 k e A)) ∧
    (∀ (lv : Nat) (k : Tk) (e : Nat) (A : List AO) (s : St) (q m : Nat), e ≤ 6 → 3 * (6 - e) + 2 ≤ lv → 8 * (N - tB k) < d → PM s T N k → AlN s A → q + 2 ≤ tB k → 4 * A.length ≤ q → N - tB k + 1 < m →
      OkM T N s (f_X9_readAll_b5 fu (fr_X9 fu lv).2.2 m s 1 (nI e)) (aX T N d 3 k e A)) ∧
    (∀ (lv : Nat) (k : Tk) (e : Nat) (A : List AO) (s : St) (q m : Nat), e ≤ 6 → 3 * (6 - e) + 3 ≤ lv → 8 * (N - tB k) < d → PM s T N k → AlN s A → q + 2 ≤ tB k → 4 * A.length ≤ q → N - tB k + 1 < m →
      OkM T N s (f_X9_readTest_b13 fu (fr_X9 fu lv).1 m s 1 (nI e)) (aX T N d 4 k e A)) := by
  have e10 : ¬ (1 = 0) := by decide
  intro d
  induction d with
  | zero =>
    refine ⟨fun lv k e A s q _ _ h => (by omega), fun lv k e A s q _ _ h => (by omega), fun lv k e A s q _ _ h => (by omega), fun lv k e A s q m _ _ h => (by omega), fun lv k e A s q m _ _ h => (by omega)⟩
  | succ d ih =>
    obtain ⟨iU, iA, iT, iL, iO⟩ := ih
    refine ⟨?_, ?_, ?_, ?_, ?_⟩
    · -- a unit
      intro lv k e A s q he hlv hd h hA hq1 hq2 h4
      obtain ⟨lv, rfl⟩ : ∃ m', lv = m' + 2 := ⟨lv - 2, by omega⟩
      have hL := h.1.1
      have hw := h.2.2.2.1
      have hbe := hw.1
      have heN := hw.2.1
      show OkM T N s (f_X9_readUnit fu (fr_X9 fu (lv + 1)).2.1 (fr_X9 fu (lv + 1)).2.2 s 1 (nI e)) _
      have q36 : wdQ T k 36 ↔ wdQ T k 6 := Iff.rfl
      have h6 : f_X9_is fu s 1 36 = some (s, bt (wdQ T k 6)) := h.iw (fu := fu) (w := 36) (by decide) (by decide) (by omega)
      have h40 : f_X9_isMarked fu s 1 40 = some (s, bt (sgQ T k 40)) := h.im (c := 40) (by omega)
      rw [aX_0]
      by_cases c6 : wdQ T k 6
      · rw [if_pos c6]
        have hpre : f_X9_readUnit fu (fr_X9 fu (lv + 1)).2.1 (fr_X9 fu (lv + 1)).2.2 s 1 (nI e) = f_X9_readUnit_b20 fu (fr_X9 fu (lv + 1)).2.1 (fr_X9 fu (lv + 1)).2.2 s 1 (nI e) 1 := by
          unfold f_X9_readUnit
          rw [if_neg e10, h6, bt_t c6]
          simp only [bI, show ¬ (1 : Int32) = 0 from by decide, reduceIte]
        rw [hpre]
        unfold f_X9_readUnit_b20
        by_cases ce : e = 6
        · rw [if_pos ce, if_pos (show nI e = (6 : Int32) by rw [ce]; rfl), if_neg e10]
          obtain ⟨s', y1, y2, y3⟩ := h.wr (fu := fu) (j := 2) (by omega) (by omega)
          have y1' : f_X9_wrong fu s 1 2 = some s' := y1
          have hL' : Lay s' := hL.same y2.1.1 y2.1.2.1 y2.1.2.2.1
          refine ⟨s', ?_, y2.am, y3⟩
          rw [y1']
          simp only [bV]
          unfold f_X9_readUnit_b31 f_X9_readUnit_b56 f_X9_readUnit_b75
          rw [if_neg e10, bad_pass y3.nz]
          simp only [bV, show ¬ (1 : Int32) = 0 from by decide, reduceIte]
          rw [bad_unit y3.nz hL' (by omega)]
          simp only [e10, reduceIte]
          rw [bad_lay y3.nz]
        · rw [if_neg ce, if_neg (show ¬ nI e = (6 : Int32) from fun w => ce ((ni_eq (b := 6) (by omega) (by omega)).mp w))]
          obtain ⟨s1, y0, y1, y2, y3⟩ := h.pass (fu := fu) (by omega)
          have hn := hw.nx
          have hb := hw.2.2.2.1 (by rw [c6.1]; decide)
          have hu := iU (lv + 1) (nx T N k) (e + 1) A s1 (tE k) (by omega) (by omega) (by have := hn.2; omega) y2 (hA.pm y3) hn.2 (fun w => wd_gap hw c6.1 w) (by omega)
          unfold f_X9_readUnit_b31
          rw [if_neg e10, y1]
          simp only [bV, show ¬ (1 : Int32) = 0 from by decide, reduceIte, nu_nIa]
          cases hx : aX T N d 0 (nx T N k) (e + 1) A with
          | inl f0 =>
            rw [hx] at hu
            obtain ⟨s2, z1, z2, z3⟩ := hu
            refine ⟨s2, ?_, y3.am.tr z2, z3⟩
            rw [z1]
            simp only
            unfold f_X9_readUnit_b56 f_X9_readUnit_b75
            rw [if_neg (by decide), if_neg e10, bad_lay z3.nz]
            rfl
          | inr qq =>
            obtain ⟨k1, B1⟩ := qq
            rw [hx] at hu
            obtain ⟨s2, z1, z2, z3, z4⟩ := hu
            obtain ⟨X, x1, x2, x3, x4, x5⟩ := (aX_ok d (nx T N k) (e + 1) A k1 B1 (tE k) (by omega) hn.1).1 hn.2 (fun w => wd_gap hw c6.1 w) hx
            have hk1 : tB k1 ≤ N := Nat.le_trans x2.1 x2.2.1
            have hB1 : B1.length < 160 := by rw [x1, List.length_append]; omega
            have hfl := fm_le B1
            obtain ⟨s3, v1, v2, v3, v4⟩ := X9_ly (fu := fu) (W := B1.flatMap aoE) z3 z4 (by omega) 20
            refine ⟨s3, ?_, (y3.am.tr z2).tr v2, v3, ?_⟩
            · rw [z1]
              simp only
              unfold f_X9_readUnit_b56 f_X9_readUnit_b75
              rw [if_neg (by decide), if_neg e10, v1]
              rfl
            · show LyW s3 ((B1 ++ [oN]).flatMap aoE)
              rw [fm_sn]
              exact v4
      · rw [if_neg c6]
        by_cases c4 : sgQ T k 40
        · rw [if_pos c4]
          have hpre : f_X9_readUnit fu (fr_X9 fu (lv + 1)).2.1 (fr_X9 fu (lv + 1)).2.2 s 1 (nI e) = f_X9_readUnit_b20 fu (fr_X9 fu (lv + 1)).2.1 (fr_X9 fu (lv + 1)).2.2 s 1 (nI e) 0 := by
            unfold f_X9_readUnit
            rw [if_neg e10, h6, bt_f c6]
            simp only [bI, reduceIte]
            rw [h40, bt_t c4]
            simp only [show ¬ (1 : Int32) = 0 from by decide, reduceIte]
          rw [hpre]
          unfold f_X9_readUnit_b20
          by_cases ce : e = 6
          · rw [if_pos ce, if_pos (show nI e = (6 : Int32) by rw [ce]; rfl), if_neg e10]
            obtain ⟨s', y1, y2, y3⟩ := h.wr (fu := fu) (j := 2) (by omega) (by omega)
            have y1' : f_X9_wrong fu s 1 2 = some s' := y1
            refine ⟨s', ?_, y2.am, y3⟩
            rw [y1']
            simp only [bV]
            unfold f_X9_readUnit_b31 f_X9_readUnit_b56 f_X9_readUnit_b75
            rw [if_neg e10, bad_pass y3.nz]
            simp only [bV, reduceIte]
            rw [bad_test y3.nz]
            simp only [e10, reduceIte]
            rw [bad_mark y3.nz]
          · rw [if_neg ce, if_neg (show ¬ nI e = (6 : Int32) from fun w => ce ((ni_eq (b := 6) (by omega) (by omega)).mp w))]
            obtain ⟨s1, y0, y1, y2, y3⟩ := h.pass (fu := fu) (by omega)
            have hn := hw.nx
            have hb := hw.2.2.2.1 (by rw [c4.1]; decide)
            have hu := iT (lv + 1) (nx T N k) (e + 1) A s1 (tB k) (by omega) (by omega) (by have := hn.2; omega) y2 (hA.pm y3) (by have := hn.2; omega) (fun _ => by have := hn.2; omega) (by omega)
            unfold f_X9_readUnit_b31
            rw [if_neg e10, y1]
            simp only [bV, reduceIte, nu_nIa]
            cases hx : aX T N d 2 (nx T N k) (e + 1) A with
            | inl f0 =>
              rw [hx] at hu
              obtain ⟨s2, z1, z2, z3⟩ := hu
              refine ⟨s2, ?_, y3.am.tr z2, z3⟩
              rw [z1]
              simp only
              unfold f_X9_readUnit_b56 f_X9_readUnit_b75
              rw [if_pos rfl, if_neg e10, bad_mark z3.nz]
              rfl
            | inr qq =>
              obtain ⟨k1, B1⟩ := qq
              rw [hx] at hu
              obtain ⟨s2, z1, z2, z3, z4⟩ := hu
              obtain ⟨g1, g2⟩ := X9_mk (fu := fu) z3 (c := 41) (by omega) (by omega)
              simp only
              cases hg : aSg T N k1 41 with
              | inl f0 =>
                obtain ⟨s3, w1, w2, w3⟩ := g1 f0 hg
                have w1' : f_X9_mark fu s2 1 41 = some s3 := w1
                refine ⟨s3, ?_, (y3.am.tr z2).tr w2.am, w3⟩
                rw [z1]
                simp only
                unfold f_X9_readUnit_b56 f_X9_readUnit_b75
                rw [if_pos rfl, if_neg e10, w1']
                rfl
              | inr k3 =>
                obtain ⟨s3, w1, w2, w3⟩ := g2 k3 hg
                have w1' : f_X9_mark fu s2 1 41 = some s3 := w1
                refine ⟨s3, ?_, (y3.am.tr z2).tr w2.am, w3, z4.pm w2⟩
                rw [z1]
                simp only
                unfold f_X9_readUnit_b56 f_X9_readUnit_b75
                rw [if_pos rfl, if_neg e10, w1']
                rfl
        · rw [if_neg c4]
          have hpre : f_X9_readUnit fu (fr_X9 fu (lv + 1)).2.1 (fr_X9 fu (lv + 1)).2.2 s 1 (nI e) = cmM fu (fr_X9 fu (lv + 1)).2.1 (fr_X9 fu (lv + 1)).2.2 s := by
            unfold f_X9_readUnit cmM
            rw [if_neg e10, h6, bt_f c6]
            simp only [bI, reduceIte]
            rw [h40, bt_f c4]
            simp only [reduceIte]
            rw [lr_9_1_0 hL]
          rw [hpre]
          exact X9_cm h hA (by omega) _ _ (by omega)
    · -- units with 'and'
      intro lv k e A s q he hlv hd h hA hq1 hq2 h4
      obtain ⟨lv, rfl⟩ : ∃ m', lv = m' + 1 := ⟨lv - 1, by omega⟩
      have hw := h.2.2.2.1
      have hbe := hw.1
      have heN := hw.2.1
      have hu := iU lv k e A s q he (by omega) (by omega) h hA hq1 hq2 h4
      show OkM T N s (f_X9_readAll fu (fr_X9 fu lv).2.2 s 1 (nI e)) _
      unfold f_X9_readAll
      rw [if_neg e10, aX_1]
      cases hx : aX T N d 0 k e A with
      | inl f0 =>
        rw [hx] at hu
        obtain ⟨s2, z1, z2, z3⟩ := hu
        refine ⟨s2, ?_, z2, z3⟩
        rw [z1]
        simp only [bV]
        exact bad_and z3.nz (by omega) _ (by omega) _
      | inr qq =>
        obtain ⟨k1, B1⟩ := qq
        rw [hx] at hu
        obtain ⟨s2, z1, z2, z3, z4⟩ := hu
        obtain ⟨X, x1, x2, x3, x4, x5⟩ := (aX_ok d k e A k1 B1 q he hw).1 hq1 hq2 hx
        have hk1 : tB k1 ≤ N := Nat.le_trans x2.1 x2.2.1
        have hBl : B1.length = A.length + X.length := by rw [x1, List.length_append]
        have hlp := iL lv k1 e B1 s2 (q + 4 * X.length) fu he (by omega) (by omega) z3 z4 x4 (by omega) (by omega)
        rw [z1]
        simp only [bV]
        exact hlp.pre z2
    · -- a test
      intro lv k e A s q he hlv hd h hA hq1 hq2 h4
      obtain ⟨lv, rfl⟩ : ∃ m', lv = m' + 1 := ⟨lv - 1, by omega⟩
      have hw := h.2.2.2.1
      have hbe := hw.1
      have heN := hw.2.1
      have hu := iA lv k e A s q he (by omega) (by omega) h hA hq1 hq2 h4
      show OkM T N s (f_X9_readTest fu (fr_X9 fu lv).1 s 1 (nI e)) _
      unfold f_X9_readTest
      rw [if_neg e10, if_pos h.2.2.2.2, aX_2]
      cases hx : aX T N d 1 k e A with
      | inl f0 =>
        rw [hx] at hu
        obtain ⟨s2, z1, z2, z3⟩ := hu
        refine ⟨s2, ?_, z2, z3⟩
        rw [z1]
        simp only [bV]
        exact bad_or z3.nz (by omega) _ (by omega) _
      | inr qq =>
        obtain ⟨k1, B1⟩ := qq
        rw [hx] at hu
        obtain ⟨s2, z1, z2, z3, z4⟩ := hu
        obtain ⟨X, x1, x2, x3, x4, x5⟩ := (aX_ok d k e A k1 B1 q he hw).2.1 hq1 hq2 hx
        have hk1 : tB k1 ≤ N := Nat.le_trans x2.1 x2.2.1
        have hBl : B1.length = A.length + X.length := by rw [x1, List.length_append]
        have hlp := iO lv k1 e B1 s2 (q + 4 * X.length) fu he (by omega) (by omega) z3 z4 x4 (by omega) (by omega)
        rw [z1]
        simp only [bV]
        exact hlp.pre z2
    · -- behind a unit
      intro lv k e A s q m he hlv hd h hA hq h4 hm
      obtain ⟨m, rfl⟩ : ∃ m', m = m' + 1 := ⟨m - 1, by omega⟩
      have hw := h.2.2.2.1
      have hbe := hw.1
      have heN := hw.2.1
      have hn := hw.nx
      have h12 : f_X9_is fu s 1 37 = some (s, bt (wdQ T k 12)) := h.iw (fu := fu) (w := 37) (by decide) (by decide) (by omega)
      rw [aX_3]
      by_cases c : wdQ T k 12
      · rw [if_pos c]
        obtain ⟨s1, y0, y1, y2, y3⟩ := h.pass (fu := fu) (by omega)
        have hb := hw.2.2.2.1 (by rw [c.1]; decide)
        have hu := iU lv (nx T N k) e A s1 (tE k) he hlv (by have := hn.2; omega) y2 (hA.pm y3) hn.2 (fun w => wd_gap hw c.1 w) (by omega)
        have hpre : f_X9_readAll_b5 fu (fr_X9 fu lv).2.2 (m + 1) s 1 (nI e) = bV ((fr_X9 fu lv).2.2 s1 1 (nI e)) fun s8 => bV (f_X9_lay fu s8 1 21) fun s9 => f_X9_readAll_b5 fu (fr_X9 fu lv).2.2 m s9 1 (nI e) := by
          conv => lhs; unfold f_X9_readAll_b5
          rw [if_neg e10, h12, bt_t c]
          simp only [bI, show ¬ (1 : Int32) = 0 from by decide, reduceIte]
          rw [y0]
          rfl
        rw [hpre]
        cases hx : aX T N d 0 (nx T N k) e A with
        | inl f0 =>
          rw [hx] at hu
          obtain ⟨s2, z1, z2, z3⟩ := hu
          refine ⟨s2, ?_, y3.am.tr z2, z3⟩
          rw [z1]
          simp only [bV]
          rw [bad_lay z3.nz]
          simp only
          exact bad_and z3.nz (by omega) _ (by omega) _
        | inr qq =>
          obtain ⟨k1, B1⟩ := qq
          rw [hx] at hu
          obtain ⟨s2, z1, z2, z3, z4⟩ := hu
          obtain ⟨X, x1, x2, x3, x4, x5⟩ := (aX_ok d (nx T N k) e A k1 B1 (tE k) he hn.1).1 hn.2 (fun w => wd_gap hw c.1 w) hx
          have hl := wd_len c
          have s12 : sL 12 = 3 := rfl
          rw [s12] at hl
          have hk1 : tB k1 ≤ N := Nat.le_trans x2.1 x2.2.1
          have hBl : B1.length = A.length + X.length := by rw [x1, List.length_append]
          have hfl := fm_le B1
          obtain ⟨s3, v1, v2, v3, v4⟩ := X9_ly (fu := fu) (W := B1.flatMap aoE) z3 z4 (by omega) 21
          have A3 : AlN s3 (B1 ++ [oA]) := by
            show LyW s3 ((B1 ++ [oA]).flatMap aoE)
            rw [fm_sn]
            exact v4
          have hB1 : (B1 ++ [oA]).length = B1.length + 1 := by rw [List.length_append, List.length_singleton]
          have hlp := iL lv k1 e (B1 ++ [oA]) s3 (tE k + 4 * X.length) m he hlv (by have := hn.2; omega) v3 A3 x4 (by omega) (by have := hn.2; omega)
          rw [z1]
          simp only [bV]
          rw [v1]
          exact hlp.pre ((y3.am.tr z2).tr v2)
      · rw [if_neg c]
        refine ⟨s, ?_, AmF.rf s, h, hA⟩
        conv => lhs; unfold f_X9_readAll_b5
        rw [if_neg e10, h12, bt_f c]
        simp only [bI, reduceIte]
    · -- behind units with 'and'
      intro lv k e A s q m he hlv hd h hA hq h4 hm
      obtain ⟨m, rfl⟩ : ∃ m', m = m' + 1 := ⟨m - 1, by omega⟩
      have hw := h.2.2.2.1
      have hbe := hw.1
      have heN := hw.2.1
      have hn := hw.nx
      have h13 : f_X9_is fu s 1 38 = some (s, bt (wdQ T k 13)) := h.iw (fu := fu) (w := 38) (by decide) (by decide) (by omega)
      rw [aX_4]
      by_cases c : wdQ T k 13
      · rw [if_pos c]
        obtain ⟨s1, y0, y1, y2, y3⟩ := h.pass (fu := fu) (by omega)
        have hb := hw.2.2.2.1 (by rw [c.1]; decide)
        have hu := iA lv (nx T N k) e A s1 (tE k) he hlv (by have := hn.2; omega) y2 (hA.pm y3) hn.2 (fun w => wd_gap hw c.1 w) (by omega)
        have hpre : f_X9_readTest_b13 fu (fr_X9 fu lv).1 (m + 1) s 1 (nI e) = bV ((fr_X9 fu lv).1 s1 1 (nI e)) fun s9 => bV (f_X9_lay fu s9 1 22) fun s10 => f_X9_readTest_b13 fu (fr_X9 fu lv).1 m s10 1 (nI e) := by
          conv => lhs; unfold f_X9_readTest_b13
          rw [if_neg e10, h13, bt_t c]
          simp only [bI, show ¬ (1 : Int32) = 0 from by decide, reduceIte]
          rw [y0]
          rfl
        rw [hpre]
        cases hx : aX T N d 1 (nx T N k) e A with
        | inl f0 =>
          rw [hx] at hu
          obtain ⟨s2, z1, z2, z3⟩ := hu
          refine ⟨s2, ?_, y3.am.tr z2, z3⟩
          rw [z1]
          simp only [bV]
          rw [bad_lay z3.nz]
          simp only
          exact bad_or z3.nz (by omega) _ (by omega) _
        | inr qq =>
          obtain ⟨k1, B1⟩ := qq
          rw [hx] at hu
          obtain ⟨s2, z1, z2, z3, z4⟩ := hu
          obtain ⟨X, x1, x2, x3, x4, x5⟩ := (aX_ok d (nx T N k) e A k1 B1 (tE k) he hn.1).2.1 hn.2 (fun w => wd_gap hw c.1 w) hx
          have hl := wd_len c
          have s13 : sL 13 = 2 := rfl
          rw [s13] at hl
          have hk1 : tB k1 ≤ N := Nat.le_trans x2.1 x2.2.1
          have hBl : B1.length = A.length + X.length := by rw [x1, List.length_append]
          have hfl := fm_le B1
          obtain ⟨s3, v1, v2, v3, v4⟩ := X9_ly (fu := fu) (W := B1.flatMap aoE) z3 z4 (by omega) 22
          have A3 : AlN s3 (B1 ++ [oO]) := by
            show LyW s3 ((B1 ++ [oO]).flatMap aoE)
            rw [fm_sn]
            exact v4
          have hB1 : (B1 ++ [oO]).length = B1.length + 1 := by rw [List.length_append, List.length_singleton]
          have hlp := iO lv k1 e (B1 ++ [oO]) s3 (tE k + 4 * X.length) m he hlv (by have := hn.2; omega) v3 A3 x4 (by omega) (by have := hn.2; omega)
          rw [z1]
          simp only [bV]
          rw [v1]
          exact hlp.pre ((y3.am.tr z2).tr v2)
      · rw [if_neg c]
        refine ⟨s, ?_, AmF.rf s, h, hA⟩
        conv => lhs; unfold f_X9_readTest_b13
        rw [if_neg e10, h13, bt_f c]
        simp only [bI, reduceIte]
end TSN
