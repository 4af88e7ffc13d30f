/-! ===== the reference's alarm ===== -/
/-- only the row of booleans is written -/
def HW (s s' : St) : Prop := (gR s' = gR s ∧ gL s' = gL s ∧ gN s' = gN s) ∧ (∀ k i j, ¬ (k = 13 ∧ i = 3) → gI s' k i j = gI s k i j) ∧ gJ s' = gJ s ∧ cn s' = cn s ∧ sn s' = sn s
theorem HW.rf (s : St) : HW s s := ⟨⟨rfl, rfl, rfl⟩, fun _ _ _ _ => rfl, rfl, rfl, rfl⟩
theorem HW.tr {s t u : St} (h : HW s t) (h' : HW t u) : HW s u := by
  obtain ⟨⟨a1, a2, a3⟩, a4, a6, a7, a8⟩ := h
  obtain ⟨⟨b1, b2, b3⟩, b4, b6, b7, b8⟩ := h'
  exact ⟨⟨b1.trans a1, b2.trans a2, b3.trans a3⟩, fun k i j h1 => (b4 k i j h1).trans (a4 k i j h1), b6.trans a6, b7.trans a7, b8.trans a8⟩
theorem HW.w (s : St) (j : Nat) (v : Int32) : HW s (sI s 13 3 j v) := ⟨⟨rfl, rfl, rfl⟩, fun k i' j' h1 => by rw [gI_sI, if_neg (fun q => h1 ⟨q.1, q.2.1⟩)], rfl, rfl, rfl⟩
theorem HW.mz {s s' : St} (h : HW s s') : MZ s s' := by
  obtain ⟨a1, a4, a6, a7, a8⟩ := h
  exact ⟨⟨a1, fun k i j _ h2 => a4 k i j h2, fun j _ _ => a4 9 1 j (by omega), fun k i j _ => by rw [a6], a7, a8⟩, a4 9 1 3 (by omega)⟩
def HB (s : St) : List Bool → Prop
  | [] => True
  | b :: st => gI s 13 3 st.length = bt (b = true) ∧ HB s st
theorem HB.w {s : St} {st : List Bool} (h : HB s st) {j : Nat} (hj : st.length ≤ j) (v : Int32) : HB (sI s 13 3 j v) st := by
  induction st with
  | nil => trivial
  | cons b st ih =>
    rw [List.length_cons] at hj
    refine ⟨?_, ih h.2 (by omega)⟩
    rw [gI_sI, if_neg (fun q => by omega)]
    exact h.1
/-- the bucket that the reference holds -/
def BM (s : St) (n : Nat) (S K : Nat → Int) (h : Int) (g : List Pt) : Prop := gI s 9 1 51 = tc (tq (sm n S K h) n (ky (ka n S K h) g)) ∧ gI s 9 1 53 = nI g.length ∧ gI s 9 1 54 = gmn g ∧ gI s 9 1 55 = gmx g ∧ gJ s 9 1 56 = s64 g
theorem bG_bm (s : St) (n : Nat) (S K : Nat → Int) (h : Int) (g : List Pt) : BM (bG s n S K h g) n S K h g := by
  unfold BM bG
  rw [bS_51, bS_53, bS_54, bS_55, bS_56]
  exact ⟨rfl, rfl, rfl, rfl, rfl⟩
theorem BM.hw {s s' : St} {n : Nat} {S K : Nat → Int} {h : Int} {g : List Pt} (hb : BM s n S K h g) (hw : HW s s') : BM s' n S K h g := by
  obtain ⟨-, a4, a6, -⟩ := hw
  unfold BM
  rw [a4 9 1 51 (by omega), a4 9 1 53 (by omega), a4 9 1 54 (by omega), a4 9 1 55 (by omega), a6]
  exact hb
theorem X9_field {s : St} {n : Nat} {S K : Nat → Int} {h : Int} {g : List Pt} (hb : BM s n S K h g) (hv : ∀ p ∈ g, -10000 ≤ p.2.toInt ∧ p.2.toInt ≤ 10000) (hl : 0 < g.length ∧ g.length ≤ 40000) {f : Nat} (h1 : 1 ≤ f) (h6 : f ≤ 6) (fu : Nat) :
    f_X9_fieldNow fu s 1 (nI (aoF f)) = some (s, fvl n S K h g f) := by
  obtain ⟨b1, b3, b4, b5, b6⟩ := hb
  have e10 : ¬ (1 = 0) := by decide
  have hs := s64_bd hv hl.2
  have hm : f_X9_meanNow fu s 1 = some (s, mean g) := by
    rw [X9_mean (by rw [b3, nu_nI (by omega)]; omega) (by rw [b6]; omega) (by rw [b6]; omega), b3, b6, nu_nI (by omega)]
    rfl
  have : f = 1 ∨ f = 2 ∨ f = 3 ∨ f = 4 ∨ f = 5 ∨ f = 6 := by omega
  have z0 : ∀ k l : Nat, k < 10 → l < 10 → ¬ k = l → ¬ nI k = nI l := fun k l hk hl' hn q => hn ((ni_eq (by omega) (by omega)).mp q)
  have y0 : (0 : Int32) = nI 0 := rfl
  have y1 : (1 : Int32) = nI 1 := rfl
  have y2 : (2 : Int32) = nI 2 := rfl
  have y3 : (3 : Int32) = nI 3 := rfl
  have y4 : (4 : Int32) = nI 4 := rfl
  unfold f_X9_fieldNow
  rw [y0, y1, y2, y3, y4]
  rcases this with rfl | rfl | rfl | rfl | rfl | rfl
  · rw [show aoF 1 = 3 from rfl, if_neg (z0 3 0 (by omega) (by omega) (by omega)), if_neg (z0 3 1 (by omega) (by omega) (by omega)), if_neg (z0 3 2 (by omega) (by omega) (by omega)), if_pos rfl, if_neg e10, b3]
    rfl
  · rw [show aoF 2 = 2 from rfl, if_neg (z0 2 0 (by omega) (by omega) (by omega)), if_neg (z0 2 1 (by omega) (by omega) (by omega)), if_pos rfl, if_neg e10, b6]
    rfl
  · rw [show aoF 3 = 0 from rfl, if_pos rfl, if_neg e10, b4]
    rfl
  · rw [show aoF 4 = 1 from rfl, if_neg (z0 1 0 (by omega) (by omega) (by omega)), if_pos rfl, if_neg e10, b5]
    rfl
  · rw [show aoF 5 = 4 from rfl, if_neg (z0 4 0 (by omega) (by omega) (by omega)), if_neg (z0 4 1 (by omega) (by omega) (by omega)), if_neg (z0 4 2 (by omega) (by omega) (by omega)), if_neg (z0 4 3 (by omega) (by omega) (by omega)), if_pos rfl, if_neg e10, hm]
    rfl
  · rw [show aoF 6 = 5 from rfl, if_neg (z0 5 0 (by omega) (by omega) (by omega)), if_neg (z0 5 1 (by omega) (by omega) (by omega)), if_neg (z0 5 2 (by omega) (by omega) (by omega)), if_neg (z0 5 3 (by omega) (by omega) (by omega)), if_neg (z0 5 4 (by omega) (by omega) (by omega)), if_neg e10, b1]
    rfl
theorem AlM.hw {s s' : St} {L : List AO} (h : AlM s L) (hR : gR s' = gR s) (h9 : gI s' 9 1 9 = gI s 9 1 9) (h10 : ∀ j, gI s' 10 (gR s 9 1 6) j = gI s 10 (gR s 9 1 6) j) : AlM s' L := by
  obtain ⟨a1, a2, a3⟩ := h
  exact ⟨by rw [h9]; exact a1, a2, fun j v hj => by rw [hR, h10]; exact a3 j v hj⟩
theorem AlM.ms {s s' : St} {L : List AO} (h : AlM s L) (hm : MS s s') : AlM s' L := by
  obtain ⟨⟨m1, m2, m3⟩, m4, m5, m6, -⟩ := hm
  exact h.hw m1 (m5 9 (by decide) (by decide)) (fun j => m4 10 _ j (by decide) (by omega))
theorem aoE_1 (o : AO) : 1 ≤ (aoE o).length := by
  rcases o with _ | _ | _ | ⟨f, r, v⟩ <;> exact Nat.succ_le_succ (Nat.zero_le _)
theorem fm_at {L A B : List AO} {o : AO} (e : L = A ++ o :: B) {j : Nat} {v : Int32} (hj : (aoE o)[j]? = some v) : (L.flatMap aoE)[(A.flatMap aoE).length + j]? = some v := by
  have hjl := get_lt hj
  rw [e, List.flatMap_append, List.flatMap_cons, List.getElem?_append_right (by omega), Nat.add_sub_cancel_left, List.getElem?_append_left hjl]
  exact hj
theorem fm_len {L A B : List AO} {o : AO} (e : L = A ++ o :: B) : (L.flatMap aoE).length = (A.flatMap aoE).length + (aoE o).length + (B.flatMap aoE).length := by
  rw [e, List.flatMap_append, List.flatMap_cons, List.length_append, List.length_append]
  omega
theorem fm_one (A : List AO) (o : AO) : ((A ++ [o]).flatMap aoE).length = (A.flatMap aoE).length + (aoE o).length := by
  rw [List.flatMap_append, List.flatMap_cons, List.flatMap_nil, List.append_nil, List.length_append]
theorem nar0 : vp_nar .boolean 0 = 0 := rfl
theorem nar1 : vp_nar .boolean 1 = 1 := rfl
theorem X9_al_loop {s : St} {n : Nat} {S K : Nat → Int} {h : Int} {g : List Pt} {L : List AO} (hL : Lay s) (hA : AlM s L) (hb : BM s n S K h g) (hv : ∀ p ∈ g, -10000 ≤ p.2.toInt ∧ p.2.toInt ≤ 10000) (hl : 0 < g.length ∧ g.length ≤ 40000) (hne : ¬ L = []) {fu : Nat} :
    ∀ (B A : List AO) (m : Nat) (s1 : St) (st : List Bool), L = A ++ B → aoD st.length B → st.length ≤ 15 → HB s1 st → HW s s1 → B.length < m →
      ∃ s2, f_X9_isAlarmed_b4 fu m s1 1 (nI st.length) (nI (A.flatMap aoE).length) = some (s2, bt ((B.foldl (aoS (fun f r v => cmv (fvl n S K h g f) r v)) st).headD false = true)) ∧ HW s s2 := by
  have e10 : ¬ (1 = 0) := by decide
  have e30 : ¬ (3 = 0) := by decide
  have e22 : ¬ (22 = 0) := by decide
  obtain ⟨A1, A2, A3⟩ := hA
  rw [lr_9_1_6 hL] at A3
  have hgen : ∀ s1, HW s s1 → (gR s1 9 1 6 = 22 ∧ gR s1 9 1 64 = 3) ∧ (gL s1 10 22 = 1300 ∧ gL s1 13 3 = 320) ∧ gI s1 9 1 9 = nI (L.flatMap aoE).length ∧ ∀ j v, (L.flatMap aoE)[j]? = some v → gI s1 10 22 j = v := by
    intro s1 hw
    obtain ⟨⟨w1, w2, w3⟩, w4, w5⟩ := hw
    rw [w1, w2, lr_9_1_6 hL, lr_9_1_64 hL, ll_10_22 hL, ll_13_3 hL, w4 9 1 9 (by omega)]
    exact ⟨⟨rfl, rfl⟩, ⟨rfl, rfl⟩, A1, fun j v hj => by rw [w4 10 22 j (by omega)]; exact A3 j v hj⟩
  intro B
  induction B with
  | nil =>
    intro A m s1 st e hd hst hB hw hm
    obtain ⟨⟨r1, r2⟩, ⟨l1, l2⟩, t1, t2⟩ := hgen s1 hw
    rw [List.append_nil] at e
    subst e
    cases m with
    | zero => omega
    | succ m =>
      have hd' : st.length = 1 := hd
      obtain ⟨b, rfl⟩ : ∃ b, st = [b] := by
        cases st with
        | nil => simp at hd'
        | cons b st =>
          cases st with
          | nil => exact ⟨b, rfl⟩
          | cons c st => simp at hd'
      refine ⟨s1, ?_, hw⟩
      have hpos : 0 < (L.flatMap aoE).length := by
        cases L with
        | nil => exact absurd rfl hne
        | cons o L => rw [List.flatMap_cons, List.length_append]; have := aoE_1 o; omega
      have hz : gI s1 13 3 (ix 0) = bt (b = true) := hB.1
      have bb : inb 0 320 = true := by decide
      unfold f_X9_isAlarmed_b4 f_X9_isAlarmed_b262 f_X9_isAlarmed_b263
      rw [if_neg e10, t1, if_pos ((ni_le (by omega) (by omega)).mpr (Nat.le_refl _)), if_neg (fun q => by have := (ni_le (b := 0) (by omega) (by omega)).mp q; omega), r2, if_neg e30, l2, if_neg (by rw [bb]; decide), hz]
      cases b
      · rw [bt_f (by decide), if_pos rfl]; rfl
      · rw [bt_t (by decide), if_neg (by decide)]; rfl
  | cons o B ih =>
    intro A m s1 st e hd hst hB hw hm
    obtain ⟨⟨r1, r2⟩, ⟨l1, l2⟩, t1, t2⟩ := hgen s1 hw
    cases m with
    | zero => omega
    | succ m =>
      rw [List.length_cons] at hm
      have hln := fm_len e
      have hE := aoE_1 o
      have e' : L = (A ++ [o]) ++ B := by rw [e, List.append_assoc]; rfl
      have hih := fun s1 st h1 h2 h3 h4 => ih (A ++ [o]) m s1 st e' h1 h2 h3 h4 (by omega)
      rw [fm_one] at hih
      have bt' : inb (nI (A.flatMap aoE).length) 1300 = true := nu_inbn (by omega) (by omega)
      rw [List.foldl_cons]
      unfold f_X9_isAlarmed_b4
      rw [if_neg e10, t1, if_neg (fun q => by have := (ni_le (by omega) (by omega)).mp q; omega), r1, if_neg e22, l1, if_neg (by rw [bt']; decide), nu_ixn (by omega)]
      rcases o with _ | _ | _ | ⟨f, r, v⟩
      · obtain ⟨d1, d2⟩ := (show 1 ≤ st.length ∧ aoD st.length B from hd)
        have hx := t2 _ 20 (fm_at e (j := 0) rfl)
        rw [Nat.add_zero] at hx
        cases st with
        | nil => simp at d1
        | cons b st =>
          rw [List.length_cons] at hst
          have bh : inb (nI st.length) 320 = true := nu_inbn (by omega) (by omega)
          have hz : gI s1 13 3 st.length = bt (b = true) := hB.1
          obtain ⟨s2, h1, h2⟩ := ih (A ++ [none]) m (sI s1 13 3 st.length (bt ((!b) = true))) ((!b) :: st) e' d2 hst ⟨by rw [gI_sI, if_pos ⟨rfl, rfl, rfl⟩], hB.2.w (Nat.le_refl _) _⟩ (hw.tr (HW.w _ _ _)) (by omega)
          rw [fm_one] at h1
          refine ⟨s2, ?_, h2⟩
          refine Eq.trans ?_ h1
          simp only [lt, hx, reduceIte, f_X9_isAlarmed_b48, f_X9_isAlarmed_b239, r2, e30, l2, List.length_cons, ni_dec (show 0 < st.length + 1 by omega) (show st.length + 1 < 2147483648 by omega), Nat.add_sub_cancel, bh, Bool.true_eq_false, nu_ixn (show st.length < 2147483648 by omega), hz, nu_nIa]
          cases b
          · rw [bt_f (by decide), if_pos rfl, nar1]; rfl
          · rw [bt_t (by decide), if_neg (by decide), nar0]; rfl
      · obtain ⟨d1, d2⟩ := (show 2 ≤ st.length ∧ aoD (st.length - 1) B from hd)
        have hx := t2 _ 21 (fm_at e (j := 0) rfl)
        rw [Nat.add_zero] at hx
        cases st with
        | nil => simp at d1
        | cons b st =>
          cases st with
          | nil => simp at d1
          | cons a st =>
            rw [List.length_cons, List.length_cons] at hst
            have bh : inb (nI st.length) 320 = true := nu_inbn (by omega) (by omega)
            have bh' : inb (nI (st.length + 1)) 320 = true := nu_inbn (by omega) (by omega)
            have hz : gI s1 13 3 (st.length + 1) = bt (b = true) := hB.1
            have hz' : gI s1 13 3 st.length = bt (a = true) := hB.2.1
            obtain ⟨s2, h1, h2⟩ := ih (A ++ [some none]) m (sI s1 13 3 st.length (bt ((a && b) = true))) ((a && b) :: st) e' d2 (by rw [List.length_cons]; omega) ⟨by rw [gI_sI, if_pos ⟨rfl, rfl, rfl⟩], hB.2.2.w (Nat.le_refl _) _⟩ (hw.tr (HW.w _ _ _)) (by omega)
            rw [fm_one] at h1
            refine ⟨s2, ?_, h2⟩
            refine Eq.trans ?_ h1
            have n20 : ¬ ((21 : Int32) = 20) := by decide
            simp only [lt, hx, n20, reduceIte, f_X9_isAlarmed_b67, f_X9_isAlarmed_b107, f_X9_isAlarmed_b131, f_X9_isAlarmed_b136, f_X9_isAlarmed_b239, r2, e10, e30, l2, List.length_cons, ni_m (show 0 < st.length + 1 + 1 by omega) (show st.length + 1 + 1 < 2147483648 by omega), ni_dec (show 0 < st.length + 1 by omega) (show st.length + 1 < 2147483648 by omega), Nat.add_sub_cancel, bh, bh', Bool.true_eq_false, nu_ixn (show st.length < 2147483648 by omega), nu_ixn (show st.length + 1 < 2147483648 by omega), hz, hz', nu_nIa, nar0, nar1]
            cases a <;> cases b <;> rfl
      · obtain ⟨d1, d2⟩ := (show 2 ≤ st.length ∧ aoD (st.length - 1) B from hd)
        have hx := t2 _ 22 (fm_at e (j := 0) rfl)
        rw [Nat.add_zero] at hx
        cases st with
        | nil => simp at d1
        | cons b st =>
          cases st with
          | nil => simp at d1
          | cons a st =>
            rw [List.length_cons, List.length_cons] at hst
            have bh : inb (nI st.length) 320 = true := nu_inbn (by omega) (by omega)
            have bh' : inb (nI (st.length + 1)) 320 = true := nu_inbn (by omega) (by omega)
            have hz : gI s1 13 3 (st.length + 1) = bt (b = true) := hB.1
            have hz' : gI s1 13 3 st.length = bt (a = true) := hB.2.1
            obtain ⟨s2, h1, h2⟩ := ih (A ++ [some (some none)]) m (sI s1 13 3 st.length (bt ((a || b) = true))) ((a || b) :: st) e' d2 (by rw [List.length_cons]; omega) ⟨by rw [gI_sI, if_pos ⟨rfl, rfl, rfl⟩], hB.2.2.w (Nat.le_refl _) _⟩ (hw.tr (HW.w _ _ _)) (by omega)
            rw [fm_one] at h1
            refine ⟨s2, ?_, h2⟩
            refine Eq.trans ?_ h1
            have n20 : ¬ ((22 : Int32) = 20) := by decide
            have n21 : ¬ ((22 : Int32) = 21) := by decide
            simp only [lt, hx, n20, n21, reduceIte, f_X9_isAlarmed_b67, f_X9_isAlarmed_b107, f_X9_isAlarmed_b131, f_X9_isAlarmed_b136, f_X9_isAlarmed_b239, r2, e10, e30, l2, List.length_cons, ni_m (show 0 < st.length + 1 + 1 by omega) (show st.length + 1 + 1 < 2147483648 by omega), ni_dec (show 0 < st.length + 1 by omega) (show st.length + 1 < 2147483648 by omega), Nat.add_sub_cancel, bh, bh', Bool.true_eq_false, nu_ixn (show st.length < 2147483648 by omega), nu_ixn (show st.length + 1 < 2147483648 by omega), hz, hz', nu_nIa, nar0, nar1]
            cases a <;> cases b <;> rfl
      · obtain ⟨d1, ⟨⟨d2, d3⟩, d4⟩, d5⟩ := (show st.length < 15 ∧ ((1 ≤ f ∧ f ≤ 6) ∧ r ≤ 2) ∧ aoD (st.length + 1) B from hd)
        have hx := t2 _ (nI (10 + r)) (fm_at e (j := 0) rfl)
        have hx1 := t2 _ (nI (aoF f)) (fm_at e (j := 1) rfl)
        have hx2 := t2 _ v (fm_at e (j := 2) rfl)
        rw [Nat.add_zero] at hx
        have h3 : (aoE (some (some (some (f, r, v))))).length = 3 := rfl
        rw [h3] at hln
        have n20 : ¬ (nI (10 + r) = 20) := fun q => by have := (ni_eq (b := 20) (by omega) (by omega)).mp q; omega
        have n21 : ¬ (nI (10 + r) = 21) := fun q => by have := (ni_eq (b := 21) (by omega) (by omega)).mp q; omega
        have n22 : ¬ (nI (10 + r) = 22) := fun q => by have := (ni_eq (b := 22) (by omega) (by omega)).mp q; omega
        have q0 : (nI (10 + r) = 10) ↔ r = 0 := by
          have := ni_eq (a := 10 + r) (b := 10) (by omega) (by omega)
          rw [show (10 : Int32) = nI 10 from rfl, this]; omega
        have q1 : (nI (10 + r) = 11) ↔ r = 1 := by
          have := ni_eq (a := 10 + r) (b := 11) (by omega) (by omega)
          rw [show (11 : Int32) = nI 11 from rfl, this]; omega
        have p1 : nI (A.flatMap aoE).length + 1 = nI ((A.flatMap aoE).length + 1) := nu_nIa _
        have p2 : nI (A.flatMap aoE).length + 2 = nI ((A.flatMap aoE).length + 2) := ni_add (b := 2) (by omega)
        have p3 : nI (A.flatMap aoE).length + 3 = nI ((A.flatMap aoE).length + 3) := ni_add (b := 3) (by omega)
        have bp1 : inb (nI ((A.flatMap aoE).length + 1)) 1300 = true := nu_inbn (by omega) (by omega)
        have bp2 : inb (nI ((A.flatMap aoE).length + 2)) 1300 = true := nu_inbn (by omega) (by omega)
        have bh : inb (nI st.length) 320 = true := nu_inbn (by omega) (by omega)
        obtain ⟨s2, h1, h2⟩ := ih (A ++ [some (some (some (f, r, v)))]) m (sI s1 13 3 st.length (bt (cmv (fvl n S K h g f) r v = true))) (cmv (fvl n S K h g f) r v :: st) e' d5 (by rw [List.length_cons]; omega) ⟨by rw [gI_sI, if_pos ⟨rfl, rfl, rfl⟩], hB.w (Nat.le_refl _) _⟩ (hw.tr (HW.w _ _ _)) (by omega)
        rw [fm_one, h3] at h1
        refine ⟨s2, ?_, h2⟩
        refine Eq.trans ?_ h1
        simp only [lt, hx, n20, n21, n22, reduceIte, p1, p2, p3, bp1, bp2, Bool.true_eq_false, nu_ixn (show (A.flatMap aoE).length + 1 < 2147483648 by omega), nu_ixn (show (A.flatMap aoE).length + 2 < 2147483648 by omega), hx1, X9_field (hb.hw hw) hv hl d2 d3, bI, r1, e22, l1, hx2, q0, q1, lg_ge, lg_le, lg_z, nj_up, f_X9_isAlarmed_b232, f_X9_isAlarmed_b239, r2, e30, l2, bh, nu_ixn (show st.length < 2147483648 by omega), nu_nIa, nar0, nar1, List.length_cons]
        unfold cmv
        by_cases h0 : r = 0
        · simp only [h0, reduceIte, decide_eq_true_eq]
          by_cases hc : v.toInt ≤ (fvl n S K h g f).toInt
          · rw [if_pos hc, bt_f (by omega)]
          · rw [if_neg hc, bt_t (by omega)]
        · by_cases h1 : r = 1
          · simp only [h1, show ¬ (1 = 0) by decide, reduceIte, decide_eq_true_eq]
            by_cases hc : fvl n S K h g f = Int32.toInt64 v
            · rw [if_pos hc, bt_t (by rw [hc, nj_up])]
            · rw [if_neg hc, bt_f (fun q => hc (nj_ext (by rw [q, nj_up])))]
          · simp only [h0, h1, reduceIte, decide_eq_true_eq]
            by_cases hc : (fvl n S K h g f).toInt ≤ v.toInt
            · rw [if_pos hc, bt_f (by omega)]
            · rw [if_neg hc, bt_t (by omega)]
theorem X9_al {s : St} {n : Nat} {S K : Nat → Int} {h : Int} {g : List Pt} {L : List AO} (hL : Lay s) (hA : AlM s L) (hw : aoW L) (hb : BM s n S K h g) (hv : ∀ p ∈ g, -10000 ≤ p.2.toInt ∧ p.2.toInt ≤ 10000) (hl : 0 < g.length ∧ g.length ≤ 40000) {fu : Nat} (hfu : 50000 ≤ fu) :
    ∃ s2, f_X9_isAlarmed fu s 1 = some (s2, bt (alc n S K h L g = true)) ∧ HW s s2 := by
  by_cases hz : L = []
  · subst hz
    refine ⟨s, ?_, HW.rf s⟩
    obtain ⟨fu, rfl⟩ : ∃ f, fu = f + 1 := ⟨fu - 1, by omega⟩
    unfold f_X9_isAlarmed f_X9_isAlarmed_b4 f_X9_isAlarmed_b262 f_X9_isAlarmed_b263
    rw [hA.1, if_neg (by decide), if_pos (by decide), if_pos (by decide)]
    rfl
  · rcases hw with q | hw
    · exact absurd q hz
    · have hln : L.length ≤ (L.flatMap aoE).length := by
        clear hA hw hz
        induction L with
        | nil => simp
        | cons o L ih => rw [List.flatMap_cons, List.length_append, List.length_cons]; have := aoE_1 o
                         omega
      exact X9_al_loop hL hA hb hv hl hz L [] fu s [] rfl hw (by decide) trivial (HW.rf s) (by have := hA.2.1; omega)
