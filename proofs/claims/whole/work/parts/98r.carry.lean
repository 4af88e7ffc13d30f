/-! ===== the class's batch ===== -/
section CAR
variable {p n mo fu d d' : Nat} {S K : Nat → Int}
theorem X8_co {s : St} {x : Ab} (h : CI s p n S K mo x) (hA : AbW mo x) {i : Nat} (hi : i < 100) {l : Ln} (hl : LnW l) (hH : LnH s i l) (hn : lnR n S K x l = none) (ho : off (xP x) 10 < 32768) (hb : Bdg s d d') (hfu : 50000 ≤ fu) :
    ∃ s', f_X8_carryOut fu s 1 (nI i) = some s' ∧ CI s' p n S K mo (lnD n S K mo x l) ∧ CF s s' ∧ Rmc s s' := by
  have e10 : ¬ (1 = 0) := by decide
  have hL := h.1.1.1
  have hRW := h.2.1.2
  have hV := h.1.2.1.2.2.2
  obtain ⟨v1, v2, v3, v4⟩ := hH
  obtain ⟨l1, l2, l3, l4⟩ := hl
  have hid : l.2.1 < 10 := by omega
  have b100 : inb (nI i) 100 = true := nu_inbn (by omega) (by omega)
  have hix : ix (nI i) = i := nu_ixn (by omega)
  have hrm := hb.rm h.1.2.2
  have hpre : f_X8_carryOut fu s 1 (nI i) = if nI l.1 = 0 then bI (f_X8_place fu s 1 (nI l.2.1) (gI s 10 3 i) (gI s 10 4 i)) fun s15 _ => some s15 else if nI l.1 = 1 then bI (f_X8_bring fu s 1 (nI l.2.1) (gI s 10 3 i)) fun s18 _ => some s18 else bV (f_X4_remove fu s 1 (nI l.2.1)) fun s21 => some s21 := by
    unfold f_X8_carryOut f_X8_carryOut_b93
    simp only [e10, reduceIte, lr_8_1_3 hL, lr_8_1_4 hL, lr_1_1_1 hL, lr_1_1_2 hL, lr_1_1_3 hL, lr_1_1_4 hL, ll_10_1 hL, ll_10_2 hL, ll_10_3 hL, ll_10_4 hL, b100, Bool.true_eq_false, lt, hix, v1, v2, show ¬ (2 = 0) from by decide, show ¬ (3 = 0) from by decide, show ¬ (4 = 0) from by decide]
  rw [hpre]
  unfold lnD
  by_cases c0 : l.1 = 0
  · have hnl : sm n S K (xH (rise n S K mo x l.2.1 l.2.2.1) l.2.1).toInt (n - 1) ≤ l.2.2.1.toInt := not_late hV (fun hin => by
      rcases Int.lt_or_le l.2.2.1.toInt (sm n S K (xH x l.2.1).toInt (n - 1)) with q | q
      · unfold lnR at hn
        rw [if_neg (by omega), if_pos ⟨c0, hin, q⟩] at hn
        cases hn
      · exact q)
    have hro := rise_off (n := n) (S := S) (K := K) (mo := mo) hid hRW l.2.2.1
    obtain ⟨s', y1, y2, y3, y4, -⟩ := X8_place (fu := fu) h hA hid (v := l.2.2.2) l3.1 l3.2 l4 hnl (by omega) hb hfu
    rw [if_pos c0, if_pos (show nI l.1 = 0 by rw [c0]; rfl), v3 (by omega), v4 c0, y1]
    exact ⟨s', rfl, y2, y3, y4⟩
  · have h0 : ¬ nI l.1 = 0 := fun q => c0 ((ni_eq (b := 0) (by omega) (by omega)).mp q)
    rw [if_neg c0, if_neg h0]
    by_cases c1 : l.1 = 1
    · obtain ⟨s', y1, y2, y3, y4, -⟩ := X8_bring (fu := fu) h hA hid l3.1 l3.2 (by omega) (by omega) hfu
      rw [if_pos c1, if_pos (show nI l.1 = 1 by rw [c1]; rfl), v3 (by omega), y1]
      exact ⟨s', rfl, y2, y3, y4⟩
    · have h1 : ¬ nI l.1 = 1 := fun q => c1 ((ni_eq (b := 1) (by omega) (by omega)).mp q)
      have hin : l.2.1 ∈ xR x := by
        unfold lnR at hn
        rw [if_pos (by omega)] at hn
        by_cases q : l.2.1 ∈ xR x
        · exact q
        · rw [if_neg q] at hn; cases hn
      obtain ⟨s', y1, y2, y3, y4, -⟩ := X8_rem (fu := fu) h hin (by omega)
      rw [if_neg c1, if_neg h1, y1]
      exact ⟨s', rfl, y2, y3, y4⟩
theorem LnH.cf {s s' : St} (hL : Lay s) (hS : Sep s) (f : CF s s') {m : Nat} {l : Ln} (h : LnH s m l) : LnH s' m l := by
  unfold LnH
  rw [CF.low f hL hS (by omega) (by omega), CF.low f hL hS (by omega) (by omega), CF.low f hL hS (by omega) (by omega), CF.low f hL hS (by omega) (by omega)]
  exact h
theorem X8_carry (hfu : 50000 ≤ fu) {A : List Ln} (hA1 : A.length ≤ 100) (hAW : ∀ l ∈ A, LnW l) :
    ∀ (B A0 : List Ln) (m : Nat) (s : St) (x x' : Ab), A = A0 ++ B → B.length < m → CI s p n S K mo x → AbW mo x → LsH s A → gI s 1 1 5 = nI A.length → off (xP x) 10 + B.length ≤ 32768 → Bdg s d d' → bat n S K mo A0.length x B = .inr x' →
    ∃ s2, f_X8_batch_b81 fu m s 1 (nI A0.length) = some (exS s2 (0, 0, -1, -1), .inr (nI A.length)) ∧ CI s2 p n S K mo x' ∧ CF s s2 ∧ Rmc s s2 ∧ AbW mo x' ∧ off (xP x') 10 ≤ off (xP x) 10 + B.length ∧ (xC x').1 = (xC x).1 := by
  have e10 : ¬ (1 = 0) := by decide
  intro B
  induction B with
  | nil =>
    intro A0 m s x x' hA hm hC hAb hLs h5 ho hb he
    obtain ⟨m, rfl⟩ : ∃ m', m = m' + 1 := ⟨m - 1, by omega⟩
    have hlen : A0.length = A.length := by rw [hA, List.append_nil]
    have hL := hC.1.1.1
    cases he
    refine ⟨s, ?_, hC, CF.rf s, Rmc.rf s, hAb, by omega, rfl⟩
    unfold f_X8_batch_b81
    rw [if_neg e10, lr_8_1_3 hL, if_neg e10, h5, hlen, if_pos ((ni_le (by omega) (by omega)).mpr (Nat.le_refl _)), X8_ex hL]
    simp only [bV]
    have hr : gR (exS s (0, 0, -1, -1)) 8 1 3 = 1 := lr_8_1_3 hL
    rw [hr, if_neg e10, exS_i _ _ (by omega), h5]
  | cons l B ih =>
    intro A0 m s x x' hA hm hC hAb hLs h5 ho hb he
    obtain ⟨m, rfl⟩ : ∃ m', m = m' + 1 := ⟨m - 1, by omega⟩
    have hL := hC.1.1.1
    have hlen : A.length = A0.length + (B.length + 1) := by rw [hA, List.length_append, List.length_cons]
    have hget : A[A0.length]? = some l := by rw [hA, List.getElem?_append_right (Nat.le_refl _), Nat.sub_self]; rfl
    have hlW : LnW l := hAW l (by rw [hA]; exact List.mem_append_right _ List.mem_cons_self)
    have hA' : A = (A0 ++ [l]) ++ B := by rw [hA, List.append_assoc]; rfl
    have hlen' : (A0 ++ [l]).length = A0.length + 1 := by rw [List.length_append, List.length_singleton]
    rw [List.length_cons] at ho hm
    cases hn : lnR n S K x l with
    | some q =>
      unfold bat at he
      rw [hn] at he
      cases he
    | none =>
      unfold bat at he
      rw [hn] at he
      obtain ⟨s1, y1, y2, y3, y4⟩ := X8_co (fu := fu) hC hAb (i := A0.length) (by omega) hlW (hLs A0.length l hget) hn (by omega) hb hfu
      obtain ⟨w1, w2, w3, w4⟩ := lnD_w (n := n) (S := S) (K := K) hC.2.1.2 hAb hlW
      obtain ⟨s2, z1, z2, z3, z4, z5, z6, z7⟩ := ih (A0 ++ [l]) m s1 (lnD n S K mo x l) x' hA' (by omega) y2 w2 (fun j l' hl' => (hLs j l' hl').cf hL hC.1.1.2 y3) (by rw [y3.2.2.2.1 1 1 5 (fun q => by omega) (by decide) (by decide) (by omega) (by omega) (by omega)]; exact h5) (by omega) (hb.rmc y4) (by rw [hlen']; exact he)
      rw [hlen'] at z1
      refine ⟨s2, ?_, z2, y3.tr z3, y4.tr z4, z5, by rw [List.length_cons]; omega, z7.trans w4⟩
      conv => lhs; unfold f_X8_batch_b81
      rw [if_neg e10, lr_8_1_3 hL, if_neg e10, h5, if_neg (fun q => by have := (ni_le (by omega) (by omega)).mp q; omega), y1]
      simp only [bV, lt, nu_nIa]
      exact z1
/-! reading -/
def RdF (s s' : St) : Prop := (gR s' = gR s ∧ gL s' = gL s ∧ gN s' = gN s ∧ cn s' = cn s ∧ sn s' = sn s ∧ gJ s' = gJ s) ∧ ∀ k i j, ¬ (k = 7 ∧ i = 1 ∧ 1 ≤ j) → ¬ (k = 10 ∧ 1 ≤ i ∧ i ≤ 4) → ¬ (k = 1 ∧ i = 1 ∧ j = 5) → gI s' k i j = gI s k i j
theorem X1_read {s : St} {T : Nat → Nat} {N : Nat} (hL : Lay s) (hT : TpC s T N) (hN : N ≤ 600) (hfu : 1000 ≤ fu) :
    (∀ f, aLs T N 101 (lex T N 0) [] = .inl f → ∃ s', f_X1_read fu s 1 (nI N) = some (s', 0) ∧ RdF s s' ∧ FC s' f) ∧ (∀ B, aLs T N 101 (lex T N 0) [] = .inr B → ∃ s', f_X1_read fu s 1 (nI N) = some (s', 1) ∧ RdF s s' ∧ LsH s' B ∧ gI s' 1 1 5 = nI B.length ∧ B.length ≤ 100 ∧ (∀ l ∈ B, LnW l) ∧ (gI s' 7 1 7 = 0 ∧ gI s' 7 1 8 = -1)) := by
  have e10 : ¬ (1 = 0) := by decide
  let s1 := sI s 1 1 5 0
  have G : ∀ k i j, ¬ (k = 1 ∧ i = 1 ∧ j = 5) → gI s1 k i j = gI s k i j := fun k i j hq => by show gI (sI s 1 1 5 0) k i j = _; rw [gI_sI, if_neg hq]
  have hL1 : Lay s1 := hL.same rfl rfl rfl
  have hT1 : TpC s1 T N := fun j hj => by rw [G 12 1 j (by omega)]; exact hT j hj
  obtain ⟨s2, y1, y2, y3, y4, y5⟩ := X7_op (fu := fu) hL1 hT1 hN hfu
  have h5 : gI s2 1 1 5 = nI 0 := by rw [y5 1 1 5 (by omega)]; show gI (sI s 1 1 5 0) 1 1 5 = _; rw [gI_sI, if_pos ⟨rfl, rfl, rfl⟩]; rfl
  obtain ⟨a1, a2⟩ := X1_loop hN hfu 101 0 fu s2 s2 (lex T N 0) [] rfl (by omega) rfl y2 (by omega) h5 (fun m l hl => by cases hl) (fun l hl => by cases hl) ⟨⟨rfl, rfl, rfl, rfl, rfl, rfl⟩, fun _ _ _ _ _ _ => rfl⟩ y3
  have hF : ∀ s', LtF s2 s' → RdF s s' := fun s' h => ⟨⟨h.1.1.trans y4.1, h.1.2.1.trans y4.2.1, h.1.2.2.1.trans y4.2.2.1, h.1.2.2.2.1.trans y4.2.2.2.1, h.1.2.2.2.2.1.trans y4.2.2.2.2.1, h.1.2.2.2.2.2.trans y4.2.2.2.2.2⟩, fun k i j h1 h2 h3 => by rw [h.2 k i j (fun q => h1 (by omega)) h2 h3, y5 k i j h1, G k i j h3]⟩
  have hpre : f_X1_read fu s 1 (nI N) = f_X1_read_b15 fu fu s2 1 (nI 0) := by
    unfold f_X1_read
    rw [if_neg e10]
    simp only [lt]
    show (if gR s1 1 1 0 = 0 then none else bV (f_X7_open fu s1 (gR s1 1 1 0) (nI N)) fun s4 => f_X1_read_b15 fu fu s4 1 0) = _
    rw [lr_1_1_0 hL1, if_neg e10, y1]
    rfl
  rw [hpre]
  refine ⟨fun f hf => ?_, fun B hB => ?_⟩
  · obtain ⟨s', z1, z2, z3⟩ := a1 f hf
    exact ⟨s', z1, hF s' z2, z3⟩
  · obtain ⟨s', z1, z2, z3, z4, z5, z6, z7⟩ := a2 B hB
    exact ⟨s', z1, hF s' z2, z3, z4, z5, z6, z7⟩
theorem aLs_len {T : Nat → Nat} {N : Nat} : ∀ (d : Nat) (k : Tk) (A B : List Ln), TkW T N k → 6 * A.length ≤ tB k → aLs T N d k A = .inr B → 6 * B.length ≤ N := by
  intro d
  induction d with
  | zero =>
    intro k A B hw hA hB
    cases hB
    have := hw.1
    have := hw.2.1
    omega
  | succ d ih =>
    intro k A B hw hA hB
    unfold aLs at hB
    by_cases q0 : tK k = 0
    · rw [if_pos q0] at hB
      cases hB
      have := hw.1
      have := hw.2.1
      omega
    · rw [if_neg q0] at hB
      cases hr : aLn T N k with
      | inl f => rw [hr] at hB; cases hB
      | inr kl =>
        obtain ⟨k', l⟩ := kl
        rw [hr] at hB
        obtain ⟨p1, p2, p3⟩ := aLn_pos hw hr
        exact ih k' (A ++ [l]) B p1 (by rw [List.length_append, List.length_singleton]; omega) hB
theorem aLs_w {T : Nat → Nat} {N : Nat} : ∀ (d : Nat) (k : Tk) (A B : List Ln), TkW T N k → (∀ l ∈ A, LnW l) → aLs T N d k A = .inr B → ∀ l ∈ B, LnW l := by
  intro d
  induction d with
  | zero =>
    intro k A B hw hA hB
    cases hB
    exact hA
  | succ d ih =>
    intro k A B hw hA hB
    unfold aLs at hB
    by_cases q0 : tK k = 0
    · rw [if_pos q0] at hB
      cases hB
      exact hA
    · rw [if_neg q0] at hB
      cases hr : aLn T N k with
      | inl f => rw [hr] at hB; cases hB
      | inr kl =>
        obtain ⟨k', l⟩ := kl
        rw [hr] at hB
        obtain ⟨p1, p2, p3⟩ := aLn_pos hw hr
        refine ih k' (A ++ [l]) B p1 (fun l' hl' => ?_) hB
        rcases List.mem_append.mp hl' with q | q
        · exact hA l' q
        · rw [List.mem_singleton.mp q]; exact p3
/-! what a batch comes to: the answer, why, what is held, the place of the fault -/
def batQ (n : Nat) (S K : Nat → Int) (mo : Nat) (x : Ab) (T : Nat → Nat) (N : Nat) : Int32 × Q4 × Ab × Int32 := match aLs T N 101 (lex T N 0) [] with
  | .inl f => (-2 - nI f.1, (1, 0, -1, -1), tpA x 0, nI f.2)
  | .inr B => match bat n S K mo 0 (tpA x 0) B with
    | .inl q => (-1, (4, nI q.2.1, q.2.2, nI q.1), tpA x 0, -1)
    | .inr x' => (nI B.length, (0, 0, -1, -1), x', -1)
/-- what the class writes ahead of what it carries out -/
def XF (s s' : St) : Prop := (gR s' = gR s ∧ gL s' = gL s ∧ gN s' = gN s ∧ cn s' = cn s ∧ sn s' = sn s ∧ gJ s' = gJ s) ∧ ∀ k i j, ¬ k = 7 → ¬ k = 1 → ¬ (k = 4 ∧ i = 2) → ¬ (k = 8 ∧ i = 1 ∧ (j = 14 ∨ j = 15)) → ¬ (k = 10 ∧ ((1 ≤ i ∧ i ≤ 4) ∨ i = 7 ∨ i = 8 ∨ i = 10)) → gI s' k i j = gI s k i j
theorem XF.cie {s s' : St} (hL : Lay s) (hp : p = 1 ∨ p = 2) (h : XF s s') : SameS s s' ∧ CIe s s' p := by
  have hlo := pl_lo hL hp
  obtain ⟨⟨a1, a2, a3, a4, a5, a6⟩, a7⟩ := h
  exact ⟨⟨a1, a2, a3⟩, fun o j => a7 5 o j (by omega) (by omega) (by omega) (by omega) (by omega), fun j => a7 2 p j (by omega) (by omega) (by omega) (by omega) (by omega), a7 4 1 2 (by omega) (by omega) (by omega) (by omega) (by omega), fun j _ _ => a7 8 1 j (by omega) (by omega) (by omega) (by omega) (by omega), fun a j ha => a7 10 a j (by omega) (by omega) (by omega) (by omega) (by omega), fun i j => by rw [a6]⟩
theorem X8_batch {s : St} {x : Ab} {T : Nat → Nat} {N l : Nat} (h : CI s p n S K mo x) (hA : AbW mo x) (hT : TpC s T N) (hl : (xC x).1 = nI l) (hNl : N ≤ l) (hl6 : l ≤ 600) (ho : off (xP x) 10 + l ≤ 32768) (hb : Bdg s d d') (hfu : 50000 ≤ fu) :
    ∃ t s1, f_X8_batch fu s 1 (nI N) = some (s1, .inr (batQ n S K mo x T N).1) ∧ XF s t ∧ CF t s1 ∧ CI s1 p n S K mo (batQ n S K mo x T N).2.2.1 ∧ Rmc s s1 ∧ WhC s1 (batQ n S K mo x T N).2.1 ∧ gI s1 8 1 15 = (batQ n S K mo x T N).2.2.2 ∧ AbW mo (batQ n S K mo x T N).2.2.1 ∧ 6 * off (xP (batQ n S K mo x T N).2.2.1) 10 ≤ 6 * off (xP x) 10 + l ∧ (xC (batQ n S K mo x T N).2.2.1).1 = 0 := by
  have e10 : ¬ (1 = 0) := by decide
  have hL := h.1.1.1
  have hp := h.1.2.1.1
  have h14 : gI s 8 1 14 = nI l := h.2.2.2.2.2.1.trans hl
  let sa := sI s 8 1 14 0
  have Ga : ∀ k i j, ¬ (k = 8 ∧ i = 1 ∧ j = 14) → gI sa k i j = gI s k i j := fun k i j hq => by show gI (sI s 8 1 14 0) k i j = _; rw [gI_sI, if_neg hq]
  have ha14 : gI sa 8 1 14 = 0 := by show gI (sI s 8 1 14 0) 8 1 14 = _; rw [gI_sI, if_pos ⟨rfl, rfl, rfl⟩]
  have hLa : Lay sa := hL.same rfl rfl rfl
  have hTa : TpC sa T N := fun j hj => by rw [Ga 12 1 j (by omega)]; exact hT j hj
  obtain ⟨a1, a2⟩ := X1_read (fu := fu) hLa hTa (by omega) (by omega)
  have hneg : ¬ nI N < 0 := fun q => by have := (ni_lt (b := 0) (by omega) (by omega)).mp q; omega
  have hle : nI N ≤ nI l := (ni_le (by omega) (by omega)).mpr hNl
  have hpre : f_X8_batch fu s 1 (nI N) = bI (f_X1_read fu sa 1 (nI N)) fun s6 x7 => if gR s6 8 1 1 = 0 then none else lt (sI s6 8 1 15 (gI s6 7 (gR s6 8 1 1) 8) : St) fun s9 => if x7 = 0 then bV (f_X8_explain fu s9 1 1 0 (-1) (-1)) fun s14 => if gR s14 8 1 1 = 0 then none else some (s14, .inr (-2 - gI s14 7 (gR s14 8 1 1) 7)) else bI (f_X8_allLinesWouldGo fu s9 1) fun s11 x12 => if x12 = 0 then some (s11, .inr (-1)) else f_X8_batch_b81 fu fu s11 1 0 := by
    unfold f_X8_batch
    rw [if_neg hneg, if_neg e10, h14, if_pos hle]
    simp only [lt]
    have hr : gR (sI s 8 1 14 0) 8 1 3 = 1 := lr_8_1_3 hL
    rw [hr, if_neg e10]
  -- behind the reading
  have mid : ∀ s6, RdF sa s6 → ∀ v, XF s (sI s6 8 1 15 v) ∧ gI (sI s6 8 1 15 v) 8 1 14 = 0 ∧ CI (sI s6 8 1 15 v) p n S K mo (tpA x 0) ∧ Rmc s (sI s6 8 1 15 v) := fun s6 hF v => by
    have hX : XF s (sI s6 8 1 15 v) := ⟨⟨hF.1.1, hF.1.2.1, hF.1.2.2.1, hF.1.2.2.2.1, hF.1.2.2.2.2.1, hF.1.2.2.2.2.2⟩, fun k i j h1 h2 h3 h4 h5 => by rw [gI_sI, if_neg (fun q => h4 (by omega)), hF.2 k i j (fun q => h1 q.1) (fun q => h5 (by omega)) (fun q => h2 q.1), Ga k i j (fun q => h4 (by omega))]⟩
    have g14 : gI (sI s6 8 1 15 v) 8 1 14 = 0 := by rw [gI_sI, if_neg (by omega), hF.2 8 1 14 (by omega) (by omega) (by omega)]; exact ha14
    obtain ⟨q1, q2⟩ := hX.cie hL hp
    have hc := h.gen q1 q2
    rw [g14] at hc
    exact ⟨hX, g14, hc, Rmc.eq hX.1.1 hX.1.2.1 hX.1.2.2.2.1 hX.1.2.2.2.2.1⟩
  rw [hpre]
  unfold batQ
  cases hr : aLs T N 101 (lex T N 0) [] with
  | inl f =>
    obtain ⟨s6, z1, z2, z3, z4⟩ := a1 f hr
    have hL6 : Lay s6 := hLa.same z2.1.1 z2.1.2.1 z2.1.2.2.1
    obtain ⟨m1, m2, m3, m4⟩ := mid s6 z2 (nI f.2)
    obtain ⟨x1, x2, x3⟩ := m3.ex (1, 0, -1, -1)
    refine ⟨sI s6 8 1 15 (nI f.2), exS (sI s6 8 1 15 (nI f.2)) (1, 0, -1, -1), ?_, m1, x2, x1, m4.tr x3, exS_w _ _, ?_, hA.tp 0, by show 6 * off (xP x) 10 ≤ _; omega, rfl⟩
    · rw [z1]
      simp only [bI, lt, lr_8_1_1 hL6, e10, reduceIte, z4]
      rw [X8_ex m3.1.1.1]
      simp only [bV]
      have hr8 : gR (exS (sI s6 8 1 15 (nI f.2)) (1, 0, -1, -1)) 8 1 1 = 1 := lr_8_1_1 hL6
      rw [hr8, if_neg e10, exS_i _ _ (by omega), gI_sI, if_neg (by omega), z3]
    · rw [exS_i _ _ (by omega), gI_sI, if_pos ⟨rfl, rfl, rfl⟩]
  | inr B =>
    obtain ⟨s6, z1, z2, z3, z4, z5, z6, z7, z8⟩ := a2 B hr
    have hB6 := aLs_len 101 (lex T N 0) [] B (lex_w T N (Nat.zero_le N)).2 (by rw [List.length_nil]; omega) hr
    have hL6 : Lay s6 := hLa.same z2.1.1 z2.1.2.1 z2.1.2.2.1
    obtain ⟨m1, m2, m3, m4⟩ := mid s6 z2 (-1)
    have hg15 : gI (sI s6 8 1 15 (-1)) 8 1 15 = -1 := by rw [gI_sI, if_pos ⟨rfl, rfl, rfl⟩]
    have hG : ∀ k i j, ¬ (k = 8 ∧ i = 1 ∧ j = 15) → gI (sI s6 8 1 15 (-1)) k i j = gI s6 k i j := fun k i j hq => by rw [gI_sI, if_neg hq]
    rw [z1]
    simp only [bI, lt, lr_8_1_1 hL6, e10, reduceIte, z8, show ¬ (1 : Int32) = 0 from by decide]
    generalize sI s6 8 1 15 (-1) = s9 at m1 m2 m3 m4 hg15 hG
    have hL9 := m3.1.1.1
    have hLs9 : LsH s9 B := fun m l hl => by
      unfold LnH
      rw [hG 10 1 m (by omega), hG 10 2 m (by omega), hG 10 3 m (by omega), hG 10 4 m (by omega)]
      exact z3 m l hl
    have h59 : gI s9 1 1 5 = nI B.length := by rw [hG 1 1 5 (by omega)]; exact z4
    have hRW := h.2.1.2
    -- the trial
    obtain ⟨s10, c1, c2, c3⟩ := X4_cp (fu := fu) m3.2.1.1 hL9 hRW.2.2 hRW.2.1 (by omega)
    have hT10 := c3.tf hL9
    obtain ⟨t1, t2⟩ := X8_trial (fu := fu) m3.1 (mo := mo) m3.2.2.2.2.1 hLs9 h59 z5 z6 (by omega) B [] fu s10 (tpA x 0) rfl (by omega) hT10 c2 hRW (hA.tp 0)
    have hall : f_X8_allLinesWouldGo fu s9 1 = f_X8_allLinesWouldGo_b13 fu fu s10 1 (nI ([] : List Ln).length) := by
      unfold f_X8_allLinesWouldGo
      rw [if_neg e10, lr_8_1_5 hL9, if_neg (by decide), lr_8_1_4 hL9, c1]
      rfl
    have hXT : ∀ s2, TF s9 s2 → XF s s2 ∧ CI s2 p n S K mo (tpA x 0) ∧ Rmc s s2 ∧ gI s2 8 1 15 = -1 := fun s2 hT2 => by
      obtain ⟨q1, q2⟩ := hT2.cie hL9 hp
      have hc := m3.gen q1 q2
      have g14 : gI s2 8 1 14 = 0 := by rw [hT2.2 8 1 14 (by omega) (by omega)]; exact m2
      rw [g14] at hc
      refine ⟨⟨⟨hT2.1.1.trans m1.1.1, hT2.1.2.1.trans m1.1.2.1, hT2.1.2.2.1.trans m1.1.2.2.1, hT2.1.2.2.2.1.trans m1.1.2.2.2.1, hT2.1.2.2.2.2.1.trans m1.1.2.2.2.2.1, hT2.1.2.2.2.2.2.trans m1.1.2.2.2.2.2⟩, fun k i j h1 h2 h3 h4 h5 => by rw [hT2.2 k i j h3 (fun q => h5 (by omega)), m1.2 k i j h1 h2 h3 h4 h5]⟩, hc, m4.tr (Rmc.eq hT2.1.1 hT2.1.2.1 hT2.1.2.2.2.1 hT2.1.2.2.2.2.1), by rw [hT2.2 8 1 15 (by omega) (by omega)]; exact hg15⟩
    rw [hall]
    cases hbt : bat n S K mo 0 (tpA x 0) B with
    | inl q =>
      obtain ⟨j, c, a⟩ := q
      obtain ⟨s2, w1, w2, w3, w4⟩ := t1 j c a hbt
      obtain ⟨x1, x2, x3, x4⟩ := hXT s2 w2
      obtain ⟨v1, v2, v3⟩ := x2.ex (4, nI c, a, nI j)
      refine ⟨s2, exS s2 (4, nI c, a, nI j), ?_, x1, v2, v1, x3.tr v3, exS_w _ _, ?_, hA.tp 0, by show 6 * off (xP x) 10 ≤ _; omega, rfl⟩
      · rw [w1]
        simp only [reduceIte]
      · rw [exS_i _ _ (by omega)]; exact x4
    | inr x' =>
      obtain ⟨s2, w1, w2⟩ := t2 x' hbt
      obtain ⟨x1, x2, x3, x4⟩ := hXT s2 w2
      have hLs2 : LsH s2 B := fun m l hl => by
        unfold LnH
        rw [w2.2 10 1 m (by omega) (by omega), w2.2 10 2 m (by omega) (by omega), w2.2 10 3 m (by omega) (by omega), w2.2 10 4 m (by omega) (by omega)]
        exact hLs9 m l hl
      obtain ⟨s3, u1, u2, u3, u4, u5, u6, u7⟩ := X8_carry (fu := fu) (d := d) (d' := d') hfu z5 z6 B [] fu s2 (tpA x 0) x' rfl (by omega) x2 (hA.tp 0) hLs2 (by rw [w2.2 1 1 5 (by omega) (by omega)]; exact h59) (by show off (xP x) 10 + _ ≤ _; omega) (hb.rmc x3) hbt
      have u6' : off (xP x') 10 ≤ off (xP x) 10 + B.length := u6
      obtain ⟨v1, v2, v3⟩ := u2.ex (0, 0, -1, -1)
      refine ⟨s2, exS s3 (0, 0, -1, -1), ?_, x1, u3.tr v2, v1, (x3.tr u4).tr v3, exS_w _ _, ?_, u5, by show 6 * off (xP x') 10 ≤ _; omega, u7⟩
      · rw [w1]
        simp only [show ¬ (1 : Int32) = 0 from by decide, reduceIte]
        exact u1
      · rw [exS_i _ _ (by omega), u3.2.2.2.1 8 1 15 (fun q => by omega) (by decide) (by decide) (by omega) (by omega) (by omega)]; exact x4
end CAR
