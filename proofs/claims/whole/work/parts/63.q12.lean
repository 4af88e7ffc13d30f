/-! ===== both ===== -/
theorem key_cut {κ : Int → Int} {GG : List (List Pt)} (hG : Gd κ GG) (T : Int) : ∃ A R, GG = A ++ R ∧ (∀ g ∈ A, ky κ g < T) ∧ (∀ g ∈ R, T ≤ ky κ g) := by
  induction GG with
  | nil => exact ⟨[], [], rfl, fun _ h => by simp at h, fun _ h => by simp at h⟩
  | cons g GG ih =>
    obtain ⟨-, h3, h4⟩ := Gd.cons.mp hG
    by_cases hg : ky κ g < T
    · obtain ⟨A, R, e, a1, a2⟩ := ih h3
      refine ⟨g :: A, R, by rw [e]; rfl, fun b hb => ?_, a2⟩
      rcases List.mem_cons.mp hb with rfl | hb
      · exact hg
      · exact a1 b hb
    · refine ⟨[], g :: GG, rfl, fun _ h => by simp at h, fun b hb => ?_⟩
      rcases List.mem_cons.mp hb with rfl | hb
      · omega
      · have := h4 b hb; omega
def pb (κ : Int → Int) (GG : List (List Pt)) (T : Int) : Option (List Pt) := GG.find? fun b => decide (ky κ b = T)
theorem pb_some {κ : Int → Int} {A B : List (List Pt)} {b : List Pt} {T : Int} (hA : ∀ g ∈ A, ky κ g < T) (hb : ky κ b = T) : pb κ (A ++ b :: B) T = some b := by
  unfold pb
  rw [List.find?_append]
  have h1 : A.find? (fun b => decide (ky κ b = T)) = none := List.find?_eq_none.mpr (fun g hg => by have := hA g hg; simp; omega)
  rw [h1, List.find?_cons_of_pos (by simpa using hb)]
  rfl
theorem pb_none {κ : Int → Int} {GG : List (List Pt)} {T : Int} (h : ∀ g ∈ GG, ¬ ky κ g = T) : pb κ GG T = none := List.find?_eq_none.mpr (fun g hg => by simpa using h g hg)
/-- one bucket of the first, held against the second series -/
def boS (n : Nat) (S K : Nat → Int) (h1 h2 : Int) (G2 : List (List Pt)) (q : Q4) (g : List Pt) : Q4 := match pb (ka n S K h2) G2 (ky (ka n S K h1) g) with
  | none => q
  | some b => if tq (sm n S K h1) n (ky (ka n S K h1) g) = tq (sm n S K h2) n (ky (ka n S K h1) g) then (q.1 + 1, q.2.1 + (if mean g - mean b ≤ 0 then 0 else 1), mx q.2.2.1 (ab32 (mean g - mean b)), q.2.2.2) else q
section Q12
variable {s : St} {p n : Nat} {S K : Nat → Int} {R : List Nat} {H : Nat → Int32} {P : Nat → List Pt} {fu : Nat}
theorem X8_sb (hL : Lay s) (hS : Sep s) (hp : p = 1 ∨ p = 2) {i j : Nat} (hid : i < 10) (ho : ¬ gR s 14 1 i = 0) (hjd : j < 10) (hoj : ¬ gR s 14 1 j = 0) {h1 h2 : Int} {G1 G2 : List (List Pt)} (V : VP n S K) (W1 : WfG n S K h1 G1) (W2 : WfG n S K h2 G2) (C1 : SerC s (gR s 14 1 i) p n S K h1 G1) (C2 : SerC s (gR s 14 1 j) p n S K h2 G2) (hfu : 50000 ≤ fu) :
    f_X8_surveyBoth fu s 1 (gR s 14 1 i) (gR s 14 1 j) = some (aS s (G1.foldl (boS n S K h1 h2 G2) (0, 0, -20000, gI s 10 9 3))) := by
  have e10 : ¬ (1 = 0) := by decide
  have e9 : ¬ (9 = 0) := by decide
  have z10 : ¬ ((1 : Int32) = 0) := by decide
  have hl1 := wf_len W1
  have hl2 := wf_len W2
  have hn := V.1
  have b0 : inb 0 4 = true := by decide
  have b1 : inb 1 4 = true := by decide
  have b2 : inb 2 4 = true := by decide
  have i0 : ix 0 = 0 := rfl
  have i1 : ix 1 = 1 := rfl
  have i2 : ix 2 = 2 := rfl
  have Ca1 := fun q => C1.cs hL hS hp hid ho (aS_cz s q).cs
  have Ca2 := fun q => C2.cs hL hS hp hjd hoj (aS_cz s q).cs
  have loop : ∀ (B X : List (List Pt)) (m : Nat) (q : Q4), G1 = X ++ B → B.length < m → f_X8_surveyBoth_b25 fu m (aS s q) 1 (gR s 14 1 i) (gR s 14 1 j) (nI X.length) = some (aS s (B.foldl (boS n S K h1 h2 G2) q)) := by
    intro B
    induction B with
    | nil =>
      intro X m q e hm
      rw [List.append_nil] at e
      subst e
      cases m with
      | zero => omega
      | succ m =>
        unfold f_X8_surveyBoth_b25
        simp only [ho, reduceIte, (Ca1 q).2.2.1, ni_le (show G1.length < 2147483648 by omega) (show G1.length < 2147483648 by omega), Nat.le_refl]
        rfl
    | cons g B ih =>
      intro X m q e hm
      have hgx : G1[X.length]? = some g := by rw [e, List.getElem?_append_right (Nat.le_refl _)]; simp
      have hgl := get_lt hgx
      have hg := List.mem_of_getElem? hgx
      cases m with
      | zero => omega
      | succ m =>
        rw [List.length_cons] at hm
        have hih := ih (X ++ [g]) m (boS n S K h1 h2 G2 q g) (by rw [e, List.append_assoc]; rfl) (by omega)
        rw [List.length_append, List.length_singleton] at hih
        have hst : (gI (aS s q) 10 (gR s 5 (gR s 14 1 i) 3) X.length).toInt = ky (ka n S K h1) g := (Ca1 q).st V W1 hgx
        obtain ⟨r1, -⟩ := C1.2.2.2.1
        have bb : inb (nI X.length) (gL s 10 (gR s 5 (gR s 14 1 i) 3)) = true := nu_inbn (by have := C1.2.2.2.2.1.1; omega) (by omega)
        obtain ⟨A, Rr, eG, k1, k2⟩ := key_cut W2.1 (ky (ka n S K h1) g)
        have hff := ff_ser V W2 (Ca2 q) (t := gI (aS s q) 10 (gR s 5 (gR s 14 1 i) 3) X.length) eG (by rw [hst]; exact k1) (by rw [hst]; exact k2) hfu
        have ht1 := X5_to V W1 (Ca1 q) (gI (aS s q) 10 (gR s 5 (gR s 14 1 i) 3) X.length) (fu := fu) (by omega)
        have ht2 := X5_to V W2 (Ca2 q) (gI (aS s q) 10 (gR s 5 (gR s 14 1 i) 3) X.length) (fu := fu) (by omega)
        rw [hst] at ht1 ht2
        have htci : tc (tq (sm n S K h1) n (ky (ka n S K h1) g)) = tc (tq (sm n S K h2) n (ky (ka n S K h1) g)) ↔ tq (sm n S K h1) n (ky (ka n S K h1) g) = tq (sm n S K h2) n (ky (ka n S K h1) g) := tc_inj (fun j hj => tq_lt hj) (fun j hj => tq_lt hj) hn.2
        rw [List.foldl_cons]
        refine Eq.trans ?_ hih
        by_cases hex : ∃ b Rr', Rr = b :: Rr' ∧ ky (ka n S K h2) b = ky (ka n S K h1) g
        · obtain ⟨b, Rr', hRr, hkb⟩ := hex
          subst hRr
          have hhs := hs_ser V W2 (Ca2 q) (fu := fu) (t := gI (aS s q) 10 (gR s 5 (gR s 14 1 i) 3) X.length) eG (by rw [hst]; exact hkb)
          have hbx : G2[A.length]? = some b := by rw [eG, List.getElem?_append_right (Nat.le_refl _)]; simp
          have hpb : pb (ka n S K h2) G2 (ky (ka n S K h1) g) = some b := by rw [eG]; exact pb_some k1 hkb
          have hm1 := X5_mean W1 (Ca1 q) hgx fu
          have hm2 := X5_mean W2 (Ca2 q) hbx fu
          by_cases hq : tq (sm n S K h1) n (ky (ka n S K h1) g) = tq (sm n S K h2) n (ky (ka n S K h1) g)
          · have hbo : boS n S K h1 h2 G2 q g = (q.1 + 1, q.2.1 + (if mean g - mean b ≤ 0 then 0 else 1), mx q.2.2.1 (ab32 (mean g - mean b)), q.2.2.2) := by
              unfold boS
              rw [hpb]
              exact if_pos hq
            rw [hbo]
            conv => lhs; unfold f_X8_surveyBoth_b25 f_X8_surveyBoth_b119 f_X8_surveyBoth_b141
            simp only [ho, hoj, reduceIte, (Ca1 q).2.2.1, ni_le (show G1.length < 2147483648 by omega) (show X.length < 2147483648 by omega), show ¬ G1.length ≤ X.length by omega, (aS_g s _).1, (aS_g s _).2, r1, bb, Bool.true_eq_false, nu_ixn (show X.length < 2147483648 by omega), lt, hff, bI, hhs, z10, ht1, ht2, htci, hq, hm1, hm2, e10, lr_8_1_9 hL, e9, ll_10_9 hL, b0, b1, b2, i0, i1, i2, aS_r0, aS_0, aS_r1, aS_1, aS_r2, aS_2, J_abs, J_max, nu_nIa]
            by_cases hc : mean g - mean b ≤ 0
            · rw [if_pos hc, if_pos hc]
            · rw [if_neg hc, if_neg hc]
          · have hbo : boS n S K h1 h2 G2 q g = q := by
              unfold boS
              rw [hpb]
              exact if_neg hq
            rw [hbo]
            conv => lhs; unfold f_X8_surveyBoth_b25 f_X8_surveyBoth_b141
            simp only [ho, hoj, reduceIte, (Ca1 q).2.2.1, ni_le (show G1.length < 2147483648 by omega) (show X.length < 2147483648 by omega), show ¬ G1.length ≤ X.length by omega, (aS_g s _).1, (aS_g s _).2, r1, bb, Bool.true_eq_false, nu_ixn (show X.length < 2147483648 by omega), lt, hff, bI, hhs, z10, ht1, ht2, htci, hq, nu_nIa]
        · have hnoR : ∀ b ∈ Rr, ¬ ky (ka n S K h2) b = ky (ka n S K h1) g := by
            intro b hb hk
            cases hR' : Rr with
            | nil => rw [hR'] at hb; simp at hb
            | cons r Rr' =>
              rw [hR'] at hb
              rcases List.mem_cons.mp hb with rfl | hb'
              · exact hex ⟨b, Rr', hR', hk⟩
              · have hGd := W2.1
                rw [eG, hR'] at hGd
                have := (Gd.cons.mp (Gd.app.mp hGd).2.1).2.2 b hb'
                have := k2 r (by rw [hR']; exact List.mem_cons_self)
                omega
          have hhs := hs_no V W2 (Ca2 q) (fu := fu) (t := gI (aS s q) 10 (gR s 5 (gR s 14 1 i) 3) X.length) eG (by rw [hst]; exact hnoR)
          have hpb : pb (ka n S K h2) G2 (ky (ka n S K h1) g) = none := pb_none (fun b hb => by
            rw [eG] at hb
            rcases List.mem_append.mp hb with w | w
            · have := k1 b w; omega
            · exact hnoR b w)
          have hbo : boS n S K h1 h2 G2 q g = q := by
            unfold boS
            rw [hpb]
          rw [hbo]
          conv => lhs; unfold f_X8_surveyBoth_b25 f_X8_surveyBoth_b141
          simp only [ho, hoj, reduceIte, (Ca1 q).2.2.1, ni_le (show G1.length < 2147483648 by omega) (show X.length < 2147483648 by omega), show ¬ G1.length ≤ X.length by omega, (aS_g s _).1, (aS_g s _).2, r1, bb, Bool.true_eq_false, nu_ixn (show X.length < 2147483648 by omega), lt, hff, bI, hhs, nu_nIa]
  have e3 : sI (sI (sI s 10 9 0 0) 10 9 1 0) 10 9 2 (-20000) = aS s (0, 0, -20000, gI s 10 9 3) := by
    have h := aS_id s
    conv => lhs; rw [← h]
    rw [aS_0, aS_1, aS_2]
  unfold f_X8_surveyBoth
  simp only [e10, reduceIte, gR_sI, gL_sI, lr_8_1_9 hL, e9, ll_10_9 hL, b0, b1, b2, Bool.true_eq_false, lt, i0, i1, i2]
  rw [e3]
  exact loop G1 [] fu _ rfl (by omega)
/-- the reference's mean of another's bucket -/
theorem X9_mo (h : RQ s n S K R H P) {id : Nat} (hid : id < 10) {GG : List (List Pt)} (hP : P id = GG.flatten) (W : WfG n S K (H id).toInt GG) {u : Int} {t : Nat} (ht : t < n) (hu : S t ∣ u) (u1 : -10000000 ≤ u) (u2 : u ≤ 10000000) (hfu : 50000 ≤ fu) :
    ∃ s2, MZ s s2 ∧ f_X9_meanOf fu s 1 (nI id) (nI t) (Int32.ofInt u) = some (s2, match pb (ka n S K (H id).toInt) GG u with | none => -20000 | some b => if tq (sm n S K (H id).toInt) n u = some t then mean b else -20000) := by
  have e10 : ¬ (1 = 0) := by decide
  have hpos := h.pos hid hP
  have hl := wf_len W
  have h' := h
  obtain ⟨hL, ⟨hPl, hV⟩, -, ⟨d1, d2, d3⟩, hPt, hPW, hTm⟩ := h
  have hn := hV.1
  have hs := hV.sp ht
  obtain ⟨⟨m1, m2⟩, ⟨m3, m4⟩, m5, m6⟩ := hPl
  have hPt' := hPt
  obtain ⟨⟨r1, r2, r3⟩, ⟨l1, l2, l3⟩, hpn, hc⟩ := hPt
  have btt : inb (nI t) 4 = true := nu_inbn (by omega) (by omega)
  have bi : inb (nI id) 10 = true := nu_inbn (by omega) (by omega)
  obtain ⟨u3, -⟩ := m6 t ht
  have hui : (Int32.ofInt u).toInt = u := nu_of (by omega) (by omega)
  have hm2 : (Int32.toInt64 (Int32.ofInt u) + Int32.toInt64 (gI s 10 (gR s 9 1 4) t)).toInt = u + S t := by
    rw [nj_add (by rw [nj_up, nj_up, hui, u3]; omega) (by rw [nj_up, nj_up, hui, u3]; omega), nj_up, nj_up, hui, u3]
  -- the cut at u by keys, and how many points lie before
  obtain ⟨A, B, eG, k1, k2⟩ := key_cut W.1 u
  have hcl : ∀ (k : Nat), k = cl GG.flatten u → k ≤ GG.flatten.length := fun k hk => by rw [hk]; exact cl_len _ _
  have htqc : (tc (tq (sm n S K (H id).toInt) n u) = nI t) ↔ tq (sm n S K (H id).toInt) n u = some t := by
    have := tc_inj (a := tq (sm n S K (H id).toInt) n u) (b := some t) (n := n) (fun j hj => tq_lt hj) (fun j hj => by cases hj; exact ht) hn.2
    exact this
  by_cases htq : tq (sm n S K (H id).toInt) n u = some t
  · have hti := tq_some.mp htq
    have hal : al u (S t) = u := al_self hs.1 hu
    obtain ⟨A, M, C, e, x1, x2, x4, x5, x6, x7⟩ := one_cut hV W hti
    rw [hal] at x1 x2 x4 x5 x6 x7
    have hfl : A.flatten.length + M.flatten.length + C.flatten.length = GG.flatten.length := by rw [e, fl_app, fl_app]; omega
    rcases x7 with hM | ⟨b, hM, hk⟩
    · subst hM
      have hpb : pb (ka n S K (H id).toInt) GG u = none := pb_none (fun g hg => by
        rw [e, List.nil_append] at hg
        rcases List.mem_append.mp hg with w | w
        · have := x1 g w; omega
        · have := x4 g w; omega)
      refine ⟨s, MZ.rf s, ?_⟩
      rw [hpb]
      unfold f_X9_meanOf f_X9_meanOf_b66
      simp only [e10, reduceIte, X9_po hPt' hPW hid hfu, bI, nj_up, hui, hP, x5, hpn, ni_eq (show off P id + A.flatten.length < 2147483648 by omega) (show off P 10 < 2147483648 by omega)]
      by_cases c1 : off P id + A.flatten.length = off P 10
      · rw [if_pos c1]
      · rw [if_neg c1]
        have b5 : inb (nI (off P id + A.flatten.length)) (gL s 10 (gR s 9 1 19)) = true := nu_inbn (by omega) (by omega)
        have b6 : inb (nI (off P id + A.flatten.length)) (gL s 10 (gR s 9 1 20)) = true := nu_inbn (by omega) (by omega)
        simp only [r1, r2, b5, b6, Bool.true_eq_false, reduceIte, nu_ixn (show off P id + A.flatten.length < 2147483648 by omega), m1, m3, btt, nu_ixn (show t < 2147483648 by omega), lg_ge, nj_up, hm2]
        rw [List.nil_append] at e
        cases hCc : C with
        | nil =>
          subst hCc
          obtain ⟨i', j', p', hi', hk', hp'⟩ := off_find P (show off P id + A.flatten.length < off P 10 by omega)
          have hne : i' ≠ id := by
            intro w
            subst w
            obtain ⟨hj, -⟩ := List.getElem?_eq_some_iff.mp hp'
            rw [hP, e, List.append_nil] at hj
            omega
          obtain ⟨e1, -, -⟩ := hc i' hi' j' p' hp'
          rw [hk', e1, if_neg (fun w => hne ((ni_eq (by omega) (by omega)).mp w))]
        | cons c C' =>
          subst hCc
          have hcG : c ∈ GG := by rw [e]; exact List.mem_append_right _ List.mem_cons_self
          obtain ⟨q0, c', hcc⟩ : ∃ q0 c', c = q0 :: c' := by
            cases c with
            | nil => exact absurd rfl (W.1.1 [] hcG)
            | cons q0 c' => exact ⟨q0, c', rfl⟩
          have hPx : (P id)[A.flatten.length]? = some q0 := by
            rw [hP, e, List.flatten_append, List.flatten_cons, hcc, List.getElem?_append_right (Nat.le_refl _)]
            simp
          obtain ⟨e1, e2, -⟩ := hc id hid _ q0 hPx
          obtain ⟨i2, hi2, hpg, -, -⟩ := wf_g hV W hcG
          have hq := hpg q0 (by rw [hcc]; exact List.mem_cons_self)
          have hle := al_le (x := tm q0) (hV.sp hi2.1).1
          have hx := x4 c List.mem_cons_self
          have htm : tm q0 = q0.1.toInt := rfl
          rw [e1, e2, if_pos rfl, if_pos (by omega)]
    · subst hM
      have hpb : pb (ka n S K (H id).toInt) GG u = some b := by rw [e]; exact pb_some x1 hk
      have hbG : b ∈ GG := by rw [e]; exact List.mem_append_right _ (List.mem_append_left _ List.mem_cons_self)
      have hbl := wf_gl W hbG
      rw [fl_one] at hfl
      have e5 : GG = A ++ b :: C := e
      obtain ⟨q0, b', hbc⟩ : ∃ q0 b', b = q0 :: b' := by
        cases b with
        | nil => exact absurd rfl (W.1.1 [] hbG)
        | cons q0 b' => exact ⟨q0, b', rfl⟩
      have hPx : (P id)[A.flatten.length]? = some q0 := by
        rw [hP, e5, List.flatten_append, List.flatten_cons, hbc, List.getElem?_append_right (Nat.le_refl _)]
        simp
      obtain ⟨e1, e2, -⟩ := hc id hid _ q0 hPx
      obtain ⟨i2, hi2, hpg, -, -⟩ := wf_g hV W hbG
      have hq := hpg q0 (by rw [hbc]; exact List.mem_cons_self)
      have htm : tm q0 = q0.1.toInt := rfl
      rw [hk] at hi2 hq
      have hit := hi2.u hti
      subst hit
      have hlt := al_lt (x := tm q0) hs.1
      have b5 : inb (nI (off P id + A.flatten.length)) (gL s 10 (gR s 9 1 19)) = true := nu_inbn (by omega) (by omega)
      have b6 : inb (nI (off P id + A.flatten.length)) (gL s 10 (gR s 9 1 20)) = true := nu_inbn (by omega) (by omega)
      refine ⟨bG s n S K (H id).toInt b, bG_ms _ _ _ _ _ _, ?_⟩
      rw [hpb]
      show _ = some (_, if tq (sm n S K (H id).toInt) n u = some i2 then mean b else -20000)
      rw [if_pos htq]
      unfold f_X9_meanOf
      have hne : ¬ (off P id + A.flatten.length = off P 10) := by omega
      have hlt2 : ¬ (u + S i2 ≤ q0.1.toInt) := by omega
      simp only [e10, reduceIte, X9_po hPt' hPW hid hfu, bI, nj_up, hui, hP, x5, hpn, ni_eq (show off P id + A.flatten.length < 2147483648 by omega) (show off P 10 < 2147483648 by omega), hne, r1, r2, b5, b6, Bool.true_eq_false, nu_ixn (show off P id + A.flatten.length < 2147483648 by omega), e1, e2, m1, m3, btt, nu_ixn (show i2 < 2147483648 by omega), lg_ge, hm2, hlt2, d1, d2, bi, nu_ixn (show id < 2147483648 by omega), d3 id hid, X9_tb hV ⟨⟨m1, m2⟩, ⟨m3, m4⟩, m5, m6⟩ W.2.2.2.2.1 W.2.2.2.2.2 (show 100 ≤ fu by omega), htqc.mpr htq, X9_nb h' hid hP W e5 hfu, bG_mean (wf_v W hbG) hbl]
  · refine ⟨s, MZ.rf s, ?_⟩
    have hres : (match pb (ka n S K (H id).toInt) GG u with | none => (-20000 : Int32) | some b => if tq (sm n S K (H id).toInt) n u = some t then mean b else -20000) = -20000 := by
      split
      · rfl
      · rw [if_neg htq]
    rw [hres]
    have hcll := cl_len GG.flatten u
    have hnt : ¬ tc (tq (sm n S K (H id).toInt) n u) = nI t := fun w => htq (htqc.mp w)
    unfold f_X9_meanOf f_X9_meanOf_b66
    simp only [e10, reduceIte, X9_po hPt' hPW hid hfu, bI, nj_up, hui, hP, hpn, ni_eq (show off P id + cl GG.flatten u < 2147483648 by omega) (show off P 10 < 2147483648 by omega)]
    by_cases c1 : off P id + cl GG.flatten u = off P 10
    · rw [if_pos c1]
    · rw [if_neg c1]
      have b5 : inb (nI (off P id + cl GG.flatten u)) (gL s 10 (gR s 9 1 19)) = true := nu_inbn (by omega) (by omega)
      have b6 : inb (nI (off P id + cl GG.flatten u)) (gL s 10 (gR s 9 1 20)) = true := nu_inbn (by omega) (by omega)
      simp only [r1, r2, b5, b6, Bool.true_eq_false, reduceIte, nu_ixn (show off P id + cl GG.flatten u < 2147483648 by omega), m1, m3, btt, nu_ixn (show t < 2147483648 by omega), lg_ge, nj_up, hm2, d1, d2, bi, nu_ixn (show id < 2147483648 by omega), d3 id hid, X9_tb hV ⟨⟨m1, m2⟩, ⟨m3, m4⟩, m5, m6⟩ W.2.2.2.2.1 W.2.2.2.2.2 (show 100 ≤ fu by omega), hui, hnt]
      repeat' split
      all_goals rfl
theorem Q_both (h : CQ s p n S K R H P) (hr : rmb (nX s) = true) (hfu : 50000 ≤ fu) (a b d : Int32) : ∃ s1 w, f_X8_both fu s 1 a b d = some (s1, w) ∧ CS s s1 ∧
    ∀ s', RQ s' n S K R H P → ∃ s2 v, f_X9_both fu s' 1 a b d = some (s2, v) ∧ MS s' s2 ∧ cmpI1 w v (gI s2 9 1 3) := by
  have e10 : ¬ (1 = 0) := by decide
  have z10 : ¬ ((1 : Int32) = 0) := by decide
  have e9 : ¬ (9 = 0) := by decide
  have hV := h.2.1.2.2.2
  have hn := hV.1
  have e2 : (2 : Int32).toInt = 2 := rfl
  have ej0 : (0 : Int64).toInt = 0 := rfl
  have ej2 : (2 : Int64).toInt = 2 := rfl
  rcases id_cases R a with ⟨i, hi, rfl⟩ | ha
  · have hid := h.id hi
    obtain ⟨ho, G1, hPi, W1, C1⟩ := h.2.2.2 i hi
    rcases id_cases R b with ⟨j, hj, rfl⟩ | hb
    · have hjd := h.id hj
      obtain ⟨hoj, G2, hPj, W2, C2⟩ := h.2.2.2 j hj
      rcases what_c d 2 (by omega) with ⟨w, hw, rfl⟩ | hd
      · have hnw : f_X8_needWhat fu s (nI w) 2 = some (s, .inr ()) := CQ.nw w 2 (by rw [e2]; omega) (by omega)
        have u0 : (nI w = 0) ↔ w = 0 := nI_c 0 (by omega) w (by omega)
        have u1 : (nI w = 1) ↔ w = 1 := nI_c 1 (by omega) w (by omega)
        have bw : inb (nI w) 4 = true := nu_inbn (by omega) (by omega)
        have hsb := X8_sb (fu := fu) h.1.1 h.1.2 h.2.1.1 hid ho hjd hoj hV W1 W2 C1 C2 hfu
        have hindep : ∀ (L : List (List Pt)) (x y z c c' : Int32), (L.foldl (boS n S K (H i).toInt (H j).toInt G2) (x, y, z, c)).1 = (L.foldl (boS n S K (H i).toInt (H j).toInt G2) (x, y, z, c')).1 ∧ (L.foldl (boS n S K (H i).toInt (H j).toInt G2) (x, y, z, c)).2.1 = (L.foldl (boS n S K (H i).toInt (H j).toInt G2) (x, y, z, c')).2.1 ∧ (L.foldl (boS n S K (H i).toInt (H j).toInt G2) (x, y, z, c)).2.2.1 = (L.foldl (boS n S K (H i).toInt (H j).toInt G2) (x, y, z, c')).2.2.1 := by
          intro L
          induction L with
          | nil => intro x y z c c'; exact ⟨rfl, rfl, rfl⟩
          | cons g L ih =>
            intro x y z c c'
            rw [List.foldl_cons, List.foldl_cons]
            unfold boS
            cases hpb : pb (ka n S K (H j).toInt) G2 (ky (ka n S K (H i).toInt) g) with
            | none => exact ih x y z c c'
            | some b =>
              dsimp only
              split
              · exact ih _ _ _ c c'
              · exact ih x y z c c'
        generalize hq : G1.foldl (boS n S K (H i).toInt (H j).toInt G2) (0, 0, -20000, gI s 10 9 3) = q at hsb
        refine ⟨aS s q, .inr (q4 q w), ?_, (aS_cz s _).cs, fun s' h' => ?_⟩
        · unfold f_X8_both
          simp only [e10, reduceIte, h.kn hi (show 100 ≤ fu by omega), h.kn hj (show 100 ≤ fu by omega), bX, hnw, hsb, bV, (aS_g s _).1, (aS_g s _).2, lr_8_1_9 h.1.1, e9, ll_10_9 h.1.1, bw, Bool.true_eq_false, nu_ixn (show w < 2147483648 by omega), aS_rw s _ (show w < 4 by omega)]
        · have h0 := h'.s0
          have hpos := h0.pos hid hPi
          have hl1 := wf_len W1
          have loop : ∀ (B X : List (List Pt)) (m : Nat) (s1 : St) (r : Q4), G1 = X ++ B → MZ (sI s' 9 1 3 0) s1 → B.length < m → ∃ s2, f_X9_both_b64 fu m s1 1 (nI j) (nI w) r.1 r.2.1 r.2.2.1 (nI (off P i + G1.flatten.length)) (nI (off P i + X.flatten.length)) = some (s2, q4 (B.foldl (boS n S K (H i).toInt (H j).toInt G2) r) w) ∧ MZ (sI s' 9 1 3 0) s2 := by
            intro B
            induction B with
            | nil =>
              intro X m s1 r e hm hl
              rw [List.append_nil] at e
              subst e
              cases m with
              | zero => omega
              | succ m =>
                refine ⟨s1, ?_, hm⟩
                unfold f_X9_both_b64 f_X9_both_b170
                rw [if_pos ((ni_le (by omega) (by omega)).mpr (Nat.le_refl _))]
                simp only [u0, u1, List.foldl_nil]
                unfold q4
                have : w = 0 ∨ w = 1 ∨ w = 2 := by omega
                rcases this with rfl | rfl | rfl <;> rfl
            | cons g B ih =>
              intro X m s1 r e hm hl
              cases m with
              | zero => omega
              | succ m =>
                rw [List.length_cons] at hl
                have hg : g ∈ G1 := by rw [e]; exact List.mem_append_right _ List.mem_cons_self
                have hgl := wf_gl W1 hg
                obtain ⟨t, ht, -, bg, -⟩ := wf_g hV W1 hg
                have hdv := wf_dv hV W1 hg ht
                have hA : X.flatten.length + g.length ≤ G1.flatten.length := by rw [e, fl_app, fl_cons]; omega
                have e4 : G1 = (X ++ [g]) ++ B := by rw [e, List.append_assoc]; rfl
                have hmz := hm.tr (bG_ms s1 n S K (H i).toInt g)
                have s52 : gI (bG s1 n S K (H i).toInt g) 9 1 52 = Int32.ofInt (ky (ka n S K (H i).toInt) g) := by unfold bG; rw [bS_52]
                have s51 : gI (bG s1 n S K (H i).toInt g) 9 1 51 = nI t := by unfold bG; rw [bS_51, tq_some.mpr ht]; rfl
                obtain ⟨s3, v1, v2⟩ := X9_mo (fu := fu) (h0.mz hmz) hjd hPj W2 (u := ky (ka n S K (H i).toInt) g) (t := t) ht.1 hdv (by omega) (by omega) hfu
                obtain ⟨s2, w1, w2⟩ := ih (X ++ [g]) m s3 (boS n S K (H i).toInt (H j).toInt G2 r g) e4 (hmz.tr v1) (by omega)
                refine ⟨s2, ?_, w2⟩
                rw [List.foldl_cons]
                refine Eq.trans ?_ w1
                conv => lhs; unfold f_X9_both_b64
                rw [if_neg (fun q => by have := (ni_le (by omega) (by omega)).mp q; omega)]
                simp only [e10, reduceIte, X9_nb (h0.mz hm) hid hPi W1 e hfu, bI, bG_mean (wf_v W1 hg) hgl, s52, s51, v2]
                cases hpb : pb (ka n S K (H j).toInt) G2 (ky (ka n S K (H i).toInt) g) with
                | none =>
                  have hbo : boS n S K (H i).toInt (H j).toInt G2 r g = r := by unfold boS; rw [hpb]
                  rw [hbo]
                  simp only [reduceIte]
                | some b =>
                  have hbG : b ∈ G2 := List.mem_of_find?_eq_some hpb
                  by_cases hc : tq (sm n S K (H j).toInt) n (ky (ka n S K (H i).toInt) g) = some t
                  · have hbo : boS n S K (H i).toInt (H j).toInt G2 r g = (r.1 + 1, r.2.1 + (if mean g - mean b ≤ 0 then 0 else 1), mx r.2.2.1 (ab32 (mean g - mean b)), r.2.2.2) := by
                      unfold boS
                      rw [hpb]
                      exact if_pos (by rw [hc, tq_some.mpr ht])
                    have hmb := mean_ne W2 hbG
                    have b1 := mean_bd (wf_v W1 hg) hgl.2 hgl.1
                    have b2 := mean_bd (wf_v W2 hbG) (wf_gl W2 hbG).2 (wf_gl W2 hbG).1
                    have hle : (mean g ≤ mean b) ↔ mean g - mean b ≤ 0 := by rw [nu_le, nu_le, nu_0, nu_sub (by omega) (by omega)]; omega
                    rw [hbo]
                    simp only [hc, reduceIte, hmb, lt, f_X9_both_b128, J_abs, J_max, bI, hle]
                    by_cases hq' : mean g - mean b ≤ 0
                    · rw [if_pos hq', if_pos hq']
                    · rw [if_neg hq', if_neg hq']
                  · have hbo : boS n S K (H i).toInt (H j).toInt G2 r g = r := by
                      unfold boS
                      rw [hpb]
                      exact if_neg (fun z => hc (by rw [← z, tq_some.mpr ht]))
                    rw [hbo]
                    simp only [hc, reduceIte]
          obtain ⟨s2, v1, v2⟩ := loop G1 [] fu (sI s' 9 1 3 0) (0, 0, -20000, gI s 10 9 3) rfl (MZ.rf _) (by omega)
          rw [hq] at v1
          obtain ⟨hL, ⟨hPl, -⟩, ⟨hT, -⟩, ⟨d1, d2, d3⟩, hPt, hPW, hTm⟩ := h0
          refine ⟨s2, q4 q w, ?_, (MS.s9 s' (Or.inl rfl) 0).tr v2.1, by rw [v2.2]; exact f3 _ _, rfl⟩
          unfold f_X9_both
          simp only [e10, reduceIte, lt, X9_isS hL hT hi hid, X9_isS hL hT hj hjd, bI, z10, X9_isIn, nj_up, nu_nI (show w < 2147483648 by omega), ej0, ej2, bt_t (show (0 : Int) ≤ w ∧ (w : Int) ≤ 2 by omega), X9_bo hPt hPW hTm hid hfu, X9_fo hPt hPW hTm hid hfu, off_s, hPi]
          exact v1
      · refine ⟨nX s, .inl 1, ?_, (CZ.rf s).x, fun s' h' => ⟨sI (sI s' 9 1 3 0) 9 1 3 1, 0, ?_, ms_f (MS.s9 s' (Or.inl rfl) 0) 1, f3 _ _, rfl⟩⟩
        · unfold f_X8_both
          simp only [e10, reduceIte, h.kn hi (show 100 ≤ fu by omega), h.kn hj (show 100 ≤ fu by omega), bX, X8_nx hr (show ¬ (0 ≤ d.toInt ∧ d.toInt ≤ (2 : Int32).toInt) from hd)]
        · obtain ⟨hL, ⟨hPl, -⟩, ⟨hT, -⟩, -⟩ := h'.s0
          unfold f_X9_both f_X9_both_b33
          simp only [e10, reduceIte, lt, X9_isS hL hT hi hid, X9_isS hL hT hj hjd, bI, z10, X9_isIn, nj_up, ej0, ej2, bt_f (show ¬ (0 ≤ d.toInt ∧ d.toInt ≤ 2) from hd), X9_fail]
    · refine ⟨nX s, .inl 1, ?_, (CZ.rf s).x, fun s' h' => ⟨sI (sI s' 9 1 3 0) 9 1 3 1, 0, ?_, ms_f (MS.s9 s' (Or.inl rfl) 0) 1, f3 _ _, rfl⟩⟩
      · unfold f_X8_both
        simp only [e10, reduceIte, h.kn hi (show 100 ≤ fu by omega), bX, h.kx hr hb (show 100 ≤ fu by omega)]
      · obtain ⟨hL, -, ⟨hT, -⟩, -⟩ := h'.s0
        unfold f_X9_both f_X9_both_b33
        simp only [e10, reduceIte, lt, X9_isS hL hT hi hid, X9_isSx hL hT hb, bI, z10, X9_fail]
  · refine ⟨nX s, .inl 1, ?_, (CZ.rf s).x, fun s' h' => ⟨sI (sI s' 9 1 3 0) 9 1 3 1, 0, ?_, ms_f (MS.s9 s' (Or.inl rfl) 0) 1, f3 _ _, rfl⟩⟩
    · unfold f_X8_both
      simp only [e10, reduceIte, h.kx hr ha (show 100 ≤ fu by omega), bX]
    · obtain ⟨hL, -, ⟨hT, -⟩, -⟩ := h'.s0
      unfold f_X9_both f_X9_both_b33
      simp only [e10, reduceIte, lt, X9_isSx hL hT ha, bI, X9_fail]
end Q12
