/-! ===== the reference's batch ===== -/
section DOE
variable {s : St} {n mo u fu : Nat} {S K : Nat → Int} {x : Ab}
theorem X9_does (h : MI s n S K mo x u) (hA : AbW mo x) {l : Ln} (hl : LnW l) (hr : Rmo s) (hu : u < 1000000) (ho : off (xP x) 10 < 40000) (hfu : 50000 ≤ fu) :
    (∀ c a, lnR n S K x l = some (c, a) → ∃ s', f_X9_does fu s 1 (nI l.1) (nI l.2.1) l.2.2.1 l.2.2.2 = some (s', nI c) ∧ FP s s' ∧ SameR s s' ∧ MI s' n S K mo x u ∧ (∀ j, 30 ≤ j ∨ j = 3 → ¬ j = 42 → gI s' 9 1 j = gI s 9 1 j) ∧ (gI s 9 1 42 = -1 → gI s' 9 1 42 = a) ∧ (c = 2 ∨ c = 3)) ∧
    (lnR n S K x l = none → ∃ s' u', f_X9_does fu s 1 (nI l.1) (nI l.2.1) l.2.2.1 l.2.2.2 = some (s', 0) ∧ FP s s' ∧ Rmm s s' ∧ MI s' n S K mo (lnD n S K mo x l) u' ∧ u' ≤ u + 1 ∧ ∀ j, 30 ≤ j ∨ j = 3 → gI s' 9 1 j = gI s 9 1 j) := by
  have e10 : ¬ (1 = 0) := by decide
  obtain ⟨l1, l2, l3, l4⟩ := hl
  have hid : l.2.1 < 10 := by omega
  have hL := h.1.1
  have hRW := h.1.2.2.1.2
  have hV := h.1.2.1.2
  have b10 : inb (nI l.2.1) 10 = true := nu_inbn (by omega) (by omega)
  have hTi := h.1.2.2.1.1 l.2.1 hid
  obtain ⟨r1, r2⟩ := hr.rm h.2.2.2.2
  have z01 : ¬ (0 : Int32) = 1 := by decide
  have z02 : ¬ (0 : Int32) = 2 := by decide
  have z10 : ¬ (1 : Int32) = 0 := by decide
  have z12 : ¬ (1 : Int32) = 2 := by decide
  have z20 : ¬ (2 : Int32) = 0 := by decide
  have z21 : ¬ (2 : Int32) = 1 := by decide
  have hk : l.1 = 0 ∨ l.1 = 1 ∨ l.1 = 2 := by omega
  unfold lnR lnD
  rcases hk with k0 | k0 | k0
  · rw [k0]
    have n0 : nI 0 = 0 := rfl
    simp only [n0, show ¬ (0 = 2) from by decide, reduceIte, true_and]
    have hpre : f_X9_does fu s 1 0 (nI l.2.1) l.2.2.1 l.2.2.2 = bI (f_X9_isLate fu s 1 (nI l.2.1) l.2.2.1) fun s8 x9 => if x9 = 0 then f_X9_does_b37 fu s8 1 0 (nI l.2.1) l.2.2.1 l.2.2.2 else bV (f_X9_isLateBy fu s8 1 (nI l.2.1) l.2.2.1) fun s11 => some (s11, 2) := by
      unfold f_X9_does f_X9_does_b16
      rw [if_neg z02, if_pos rfl, if_neg e10]
    rw [hpre, X9_islate h hA hid l.2.2.1 (by omega)]
    simp only [bI, bt_z]
    by_cases hlt : l.2.1 ∈ xR x ∧ l.2.2.1.toInt < sm n S K (xH x l.2.1).toInt (n - 1)
    · rw [if_pos hlt, if_neg (fun q => q hlt)]
      have hhd := hA.1 l.2.1 hlt.1
      obtain ⟨z1, z2, z3⟩ := lat_z hV hhd.1 hhd.2 l3.1 l3.2
      have hls := X9_ls (R := xR x) (P := xP x) (fu := fu) hL h.1.2.1.1 hV h.1.2.2.2.1 hid hhd.1 hhd.2 (by omega)
      refine ⟨fun c a hc => ?_, fun hc => (by cases hc)⟩
      cases hc
      refine ⟨sI s 9 1 42 (Int32.ofInt (sm n S K (xH x l.2.1).toInt (n - 1)) - l.2.2.1), ?_, Fx.f9 (dyw wh42) _, ⟨rfl, rfl, rfl, rfl, rfl⟩, h.f9 wh42 _, fun j _ h2 => by rw [gI_sI, if_neg (by omega)], fun _ => by rw [gI_sI, if_pos ⟨rfl, rfl, rfl⟩, z2 hlt.2], Or.inl rfl⟩
      unfold f_X9_isLateBy
      rw [if_neg e10, hls]
      rfl
    · rw [if_neg hlt, if_pos hlt]
      refine ⟨fun c a hc => (by cases hc), fun _ => ?_⟩
      have hro := rise_off (n := n) (S := S) (K := K) (mo := mo) hid hRW l.2.2.1
      obtain ⟨s', v1, v2, v3, v4, v5⟩ := X9_puts (fu := fu) h hA hid l3.1 l3.2 l.2.2.2 hu (by omega) (by omega) (by omega) hfu
      refine ⟨s', u + 1, ?_, v3, v4, v2, Nat.le_refl _, v5⟩
      unfold f_X9_does_b37 f_X9_does_b49 f_X9_does_b60 f_X9_does_b72
      rw [if_pos rfl, if_neg e10, v1]
      simp only [bV, z01, z02, reduceIte]
  · rw [k0]
    have n1 : nI 1 = 1 := rfl
    simp only [n1, show ¬ (1 = 2) from by decide, show ¬ (1 = 0) from by decide, reduceIte, false_and]
    refine ⟨fun c a hc => (by cases hc), fun _ => ?_⟩
    obtain ⟨s', v1, v2, v3, v4, v5⟩ := X9_rises (fu := fu) h hA hid l3.1 l3.2 hu hfu
    refine ⟨s', u + 1, ?_, v3, Rmm.eq v4.1 v4.2.1 v4.2.2.2.1 v4.2.2.2.2, v2, Nat.le_refl _, v5⟩
    unfold f_X9_does f_X9_does_b16 f_X9_does_b37 f_X9_does_b49 f_X9_does_b60 f_X9_does_b72
    rw [if_neg z12, if_neg z10, if_neg z10, if_pos rfl, if_neg e10, v1]
    simp only [bV, z12, reduceIte]
  · rw [k0]
    have n2 : nI 2 = 2 := rfl
    simp only [n2, show ¬ (2 = 0) from by decide, show ¬ (2 = 1) from by decide, reduceIte]
    have hpre : f_X9_does fu s 1 2 (nI l.2.1) l.2.2.1 l.2.2.2 = if gI s 13 1 l.2.1 = 0 then some (s, 3) else bI (f_X9_leaves fu s 1 (nI l.2.1)) fun s20 _ => some (s20, 0) := by
      unfold f_X9_does f_X9_does_b16 f_X9_does_b37 f_X9_does_b49 f_X9_does_b60 f_X9_does_b72
      simp only [e10, reduceIte, lr_9_1_10 hL, ll_13_1 hL, b10, Bool.true_eq_false, nu_ixn (show l.2.1 < 2147483648 by omega), z20, z21]
    rw [hpre, hTi]
    by_cases hin : l.2.1 ∈ xR x
    · rw [if_pos hin, if_pos hin, if_neg z10]
      refine ⟨fun c a hc => (by cases hc), fun _ => ?_⟩
      obtain ⟨s', v1, v2, v3, v4, v5⟩ := X9_leaves (fu := fu) h hin hfu
      refine ⟨s', u, ?_, v3, Rmm.eq v4.1 v4.2.1 v4.2.2.2.1 v4.2.2.2.2, v2, by omega, fun j hj => v5 j (by omega)⟩
      rw [v1]
      rfl
    · rw [if_neg hin, if_neg hin, if_pos rfl]
      refine ⟨fun c a hc => ?_, fun hc => (by cases hc)⟩
      cases hc
      exact ⟨s, rfl, Fx.rf _ _ _ s, ⟨rfl, rfl, rfl, rfl, rfl⟩, h, fun _ _ _ => rfl, fun q => q, Or.inr rfl⟩
theorem lnD_c (l : Ln) : (xC (lnD n S K mo x l)).1 = (xC x).1 ∧ (xC (lnD n S K mo x l)).2.2.1 = (xC x).2.2.1 := by
  have hr : ∀ id t, (xC (rise n S K mo x id t)).1 = (xC x).1 ∧ (xC (rise n S K mo x id t)).2.2.1 = (xC x).2.2.1 := fun id t => by
    unfold rise
    by_cases hin : id ∈ xR x
    · rw [if_pos hin]; exact ⟨rfl, rfl⟩
    · rw [if_neg hin]
      by_cases hf : (xR x).length = mo
      · rw [if_pos hf]; exact ⟨rfl, rfl⟩
      · rw [if_neg hf]; exact ⟨rfl, rfl⟩
  unfold lnD
  by_cases c0 : l.1 = 0
  · rw [if_pos c0]; exact hr _ _
  · rw [if_neg c0]
    by_cases c1 : l.1 = 1
    · rw [if_pos c1]; exact hr _ _
    · rw [if_neg c1]; exact ⟨rfl, rfl⟩
theorem LmH.fp {s' : St} {m : Nat} {l : Ln} (h : LmH s m l) (hL : Lay s) (hO : OwnM s) (f : FP s s') : LmH s' m l := by
  have r34 : ∀ j, gI s' 10 34 j = gI s 10 34 j := fun j => FP.row f hO (by omega) (by omega) (ln_10 hL) j
  unfold LmH
  rw [r34, r34, r34, r34]
  exact h
/-- all lines, one by one; x0 is what was laid aside at s0 -/
theorem X9_bloop (hfu : 50000 ≤ fu) {A : List Ln} (hA1 : A.length ≤ 100) (hAW : ∀ l ∈ A, LnW l) {s0 : St} {x0 : Ab} {u0 : Nat} (hM0 : MI s0 n S K mo x0 u0) :
    ∀ (B A0 : List Ln) (m : Nat) (s : St) (x : Ab) (u : Nat), A = A0 ++ B → B.length < m → MI s n S K mo x u → AbW mo x → Rmo s → LmsH s A → gI s 9 1 45 = nI A.length → WhM s (0, 0, -1, -1) → AsD s0 s (off (xP x0) 10) → off (xP x) 10 + B.length ≤ 40000 → u + B.length ≤ 1000000 → ((xC x0).1 = (xC x).1 ∧ (xC x0).2.2.1 = (xC x).2.2.1) → off (xP x0) 10 ≤ gL s 10 (gR s 9 1 19) → off (xP x0) 10 ≤ gL s 10 (gR s 9 1 46) →
    (∀ j c a, bat n S K mo A0.length x B = .inl (j, c, a) → ∃ s', f_X9_batch_b84 fu m s 1 (nI A0.length) = some (s', -1) ∧ FP s s' ∧ MI s' n S K mo x0 u0 ∧ Rmm s s' ∧ WhM s' (4, nI c, a, nI j) ∧ gI s' 9 1 3 = gI s 9 1 3) ∧
    (∀ x', bat n S K mo A0.length x B = .inr x' → ∃ s' u', f_X9_batch_b84 fu m s 1 (nI A0.length) = some (s', nI A.length) ∧ FP s s' ∧ MI s' n S K mo x' u' ∧ Rmm s s' ∧ WhM s' (0, 0, -1, -1) ∧ u' ≤ u + B.length ∧ gI s' 9 1 3 = gI s 9 1 3) := by
  have e10 : ¬ (1 = 0) := by decide
  intro B
  induction B with
  | nil =>
    intro A0 m s x u hA hm hM hAb hr hLs h45 hw hD ho hu hx hl1 hl2
    obtain ⟨m, rfl⟩ : ∃ m', m = m' + 1 := ⟨m - 1, by omega⟩
    have hlen : A0.length = A.length := by rw [hA, List.append_nil]
    refine ⟨fun j c a hb => (by cases hb), fun x' hb => ?_⟩
    cases hb
    refine ⟨s, u, ?_, Fx.rf _ _ _ s, hM, Rmm.rf s, hw, by omega, rfl⟩
    unfold f_X9_batch_b84
    rw [if_neg e10, h45, hlen, if_pos ((ni_le (by omega) (by omega)).mpr (Nat.le_refl _))]
  | cons l B ih =>
    intro A0 m s x u hA hm hM hAb hr hLs h45 hw hD ho hu hx hl1 hl2
    obtain ⟨m, rfl⟩ : ∃ m', m = m' + 1 := ⟨m - 1, by omega⟩
    have hL := hM.1.1
    have hO := hM.2.2.2.2
    have hlen : A.length = A0.length + (B.length + 1) := by rw [hA, List.length_append, List.length_cons]
    have hget : A[A0.length]? = some l := by rw [hA, List.getElem?_append_right (Nat.le_refl _), Nat.sub_self]; rfl
    have hlW : LnW l := hAW l (by rw [hA]; exact List.mem_append_right _ List.mem_cons_self)
    have hA' : A = (A0 ++ [l]) ++ B := by rw [hA, List.append_assoc]; rfl
    have hlen' : (A0 ++ [l]).length = A0.length + 1 := by rw [List.length_append, List.length_singleton]
    rw [List.length_cons] at ho hm hu
    obtain ⟨v1, v2, v3, v4⟩ := hLs A0.length l hget
    obtain ⟨w40, w41, w42, w43⟩ := id hw
    obtain ⟨a1, a2⟩ := X9_does (fu := fu) hM hAb hlW hr (by omega) (by omega) hfu
    have e4 := four_nI (m := A0.length) (by omega)
    have i1 : nI (4 * A0.length) + 1 = nI (4 * A0.length + 1) := nu_nIa _
    have i2 : nI (4 * A0.length) + 2 = nI (4 * A0.length + 2) := ni_add (a := 4 * A0.length) (b := 2) (by omega)
    have i3 : nI (4 * A0.length) + 3 = nI (4 * A0.length + 3) := ni_add (a := 4 * A0.length) (b := 3) (by omega)
    have b0 : inb (nI (4 * A0.length)) 800 = true := nu_inbn (by omega) (by omega)
    have b1 : inb (nI (4 * A0.length + 1)) 800 = true := nu_inbn (by omega) (by omega)
    have b2 : inb (nI (4 * A0.length + 2)) 800 = true := nu_inbn (by omega) (by omega)
    have b3 : inb (nI (4 * A0.length + 3)) 800 = true := nu_inbn (by omega) (by omega)
    have hc1 : ¬ nI A.length ≤ nI A0.length := fun q => by have := (ni_le (by omega) (by omega)).mp q; omega
    have hpre : f_X9_batch_b84 fu (m + 1) s 1 (nI A0.length) = bI (f_X9_does fu s 1 (nI l.1) (nI l.2.1) l.2.2.1 l.2.2.2) fun s29 x30 => if gI (sI s29 9 1 41 x30) 9 1 41 = 0 then f_X9_batch_b84 fu m (sI s29 9 1 41 x30) 1 (nI (A0.length + 1)) else bV (f_X9_takesBack fu (sI s29 9 1 41 x30) 1) fun s33 => bI (f_X9_refuse fu (sI s33 9 1 43 (nI A0.length)) 1 4) fun s35 x36 => some (s35, x36) := by
      conv => lhs; unfold f_X9_batch_b84
      simp only [e10, reduceIte, h45, hc1, lr_9_1_44 hL, ll_10_34 hL, e4, i1, i2, i3, b0, b1, b2, b3, Bool.true_eq_false, show ¬ (34 = 0) from by decide, nu_ixn (show 4 * A0.length < 2147483648 by omega), nu_ixn (show 4 * A0.length + 1 < 2147483648 by omega), nu_ixn (show 4 * A0.length + 2 < 2147483648 by omega), nu_ixn (show 4 * A0.length + 3 < 2147483648 by omega), v1, v2, v3, v4, lt, nu_nIa]
    have g41 : ∀ (t : St) v, gI (sI t 9 1 41 v) 9 1 41 = v := fun t v => by rw [gI_sI, if_pos ⟨rfl, rfl, rfl⟩]
    rw [hpre]
    unfold bat
    cases hn : lnR n S K x l with
    | some q =>
      obtain ⟨c, a⟩ := q
      obtain ⟨s1, y1, y2, y3, y4, y5, y6, y7⟩ := a1 c a hn
      refine ⟨fun j c' a' hb => ?_, fun x' hb => (by cases hb)⟩
      cases hb
      have hnc : ¬ nI c = 0 := fun q => by have := (ni_eq (b := 0) (by omega) (by omega)).mp q; omega
      have M2 := y4.f9 wh41 (nI c)
      have F2 : FP s (sI s1 9 1 41 (nI c)) := y2.tr (Fx.f9 (dyw wh41) _)
      have r2 : gR (sI s1 9 1 41 (nI c)) = gR s := y3.1
      have l2 : gL (sI s1 9 1 41 (nI c)) = gL s := y3.2.1
      have D2 := hD.fp hL hO F2
      obtain ⟨s3, z1, z2, z3, z4, z5⟩ := X9_back (fu := fu) hM0 M2 D2 hx.1 hx.2 (by rw [r2, l2]; exact hl1) (by rw [r2, l2]; exact hl2) hfu
      refine ⟨sI (sI s3 9 1 43 (nI A0.length)) 9 1 40 4, ?_, ((F2.tr z2).tr (Fx.f9 (dyw wh43) _)).tr (Fx.f9 (dyw wh40) _), (z4.f9 wh43 _).f9 wh40 4, Rmm.eq (z3.1.trans y3.1) (z3.2.1.trans y3.2.1) (z3.2.2.2.1.trans y3.2.2.2.1) (z3.2.2.2.2.trans y3.2.2.2.2), ⟨?_, ?_, ?_, ?_⟩, by rw [gI_sI, if_neg (by omega), gI_sI, if_neg (by omega), z5 3 (by omega), gI_sI, if_neg (by omega), y5 3 (by omega) (by omega)]⟩
      · rw [y1]
        simp only [bI]
        rw [g41, if_neg hnc, z1]
        simp only [bV]
        rw [X9_ref]
      · rw [gI_sI, if_pos ⟨rfl, rfl, rfl⟩]
      · rw [gI_sI, if_neg (by omega), gI_sI, if_neg (by omega), z5 41 (by omega), g41]
      · rw [gI_sI, if_neg (by omega), gI_sI, if_neg (by omega), z5 42 (by omega), gI_sI, if_neg (by omega)]; exact y6 w42
      · rw [gI_sI, if_neg (by omega), gI_sI, if_pos ⟨rfl, rfl, rfl⟩]
    | none =>
      obtain ⟨s1, u1, y1, y2, y3, y4, y5, y6⟩ := a2 hn
      have M2 := y4.f9 wh41 0
      have F2 : FP s (sI s1 9 1 41 0) := y2.tr (Fx.f9 (dyw wh41) _)
      have R2 : Rmm s (sI s1 9 1 41 0) := y3.tr (Rmm.eq rfl rfl rfl rfl)
      obtain ⟨q1, q2, q3, q4⟩ := lnD_w (n := n) (S := S) (K := K) hM.1.2.2.1.2 hAb hlW
      obtain ⟨q5, q6⟩ := lnD_c (n := n) (S := S) (K := K) (mo := mo) (x := x) l
      have f45 : gI (sI s1 9 1 41 0) 9 1 45 = nI A.length := by rw [gI_sI, if_neg (by omega), y6 45 (by omega)]; exact h45
      have hW2 : WhM (sI s1 9 1 41 0) (0, 0, -1, -1) := ⟨by rw [gI_sI, if_neg (by omega), y6 40 (by omega)]; exact w40, g41 _ _, by rw [gI_sI, if_neg (by omega), y6 42 (by omega)]; exact w42, by rw [gI_sI, if_neg (by omega), y6 43 (by omega)]; exact w43⟩
      have e46 : gL (sI s1 9 1 41 0) 10 (gR (sI s1 9 1 41 0) 9 1 46) = gL s 10 (gR s 9 1 46) := by
        have : gR (sI s1 9 1 41 0) 9 1 46 = gR s 9 1 46 := F2.1 9 1 46 (fun q => by omega) (fun q => by omega)
        rw [this]
        exact F2.2.2.1 10 _ (fun _ => (hO.1 46 mj46).2.1)
      have e19 : gL s 10 (gR s 9 1 19) ≤ gL (sI s1 9 1 41 0) 10 (gR (sI s1 9 1 41 0) 9 1 19) := by
        have := R2.1.2
        unfold mS at this
        omega
      have := ih (A0 ++ [l]) m (sI s1 9 1 41 0) (lnD n S K mo x l) u1 hA' (by omega) M2 q2 (hr.rmm R2) (fun j l' hl' => (hLs j l' hl').fp hL hO F2) f45 hW2 (hD.fp hL hO F2) (by omega) (by omega) ⟨hx.1.trans q5.symm, hx.2.trans q6.symm⟩ (by omega) (by omega)
      rw [hlen'] at this
      obtain ⟨c1, c2⟩ := this
      have hstep : (bI (f_X9_does fu s 1 (nI l.1) (nI l.2.1) l.2.2.1 l.2.2.2) fun s29 x30 => if gI (sI s29 9 1 41 x30) 9 1 41 = 0 then f_X9_batch_b84 fu m (sI s29 9 1 41 x30) 1 (nI (A0.length + 1)) else bV (f_X9_takesBack fu (sI s29 9 1 41 x30) 1) fun s33 => bI (f_X9_refuse fu (sI s33 9 1 43 (nI A0.length)) 1 4) fun s35 x36 => some (s35, x36)) = f_X9_batch_b84 fu m (sI s1 9 1 41 0) 1 (nI (A0.length + 1)) := by
        rw [y1]
        simp only [bI]
        rw [g41, if_pos rfl]
      rw [hstep]
      refine ⟨fun j c a hb => ?_, fun x' hb => ?_⟩
      · obtain ⟨s', z1, z2, z3, z4, z5, z6⟩ := c1 j c a hb
        exact ⟨s', z1, F2.tr z2, z3, R2.tr z4, z5, by rw [z6, gI_sI, if_neg (by omega), y6 3 (by omega)]⟩
      · obtain ⟨s', u', z1, z2, z3, z4, z5, z6, z7⟩ := c2 x' hb
        exact ⟨s', u', z1, F2.tr z2, z3, R2.tr z4, z5, by rw [List.length_cons]; omega, by rw [z7, gI_sI, if_neg (by omega), y6 3 (by omega)]⟩
end DOE
