/-! ===== tell on both sides ===== -/
def teA (x : Ab) : Ab := ([], xH x, fun _ => [], xT x, xS x, (0, (xC x).2))
abbrev spI (TS : Ts) : Nat → Int := fun i => ((TS.getD i (0, 0)).1 : Int)
abbrev kpI (TS : Ts) : Nat → Int := fun i => ((TS.getD i (0, 0)).2 : Int)
theorem getD_some {TS : Ts} {i : Nat} (h : i < TS.length) : TS[i]? = some (TS.getD i (0, 0)) := by
  rw [List.getD_eq_getElem?_getD, List.getElem?_eq_getElem h]
  rfl
theorem VP_ts {TS : Ts} (h : TsW TS) (hn : TS ≠ []) : VP TS.length (spI TS) (kpI TS) := by
  obtain ⟨a1, a2, a3⟩ := h
  have hp := List.length_pos_iff.mpr hn
  refine ⟨⟨hp, a1⟩, fun i hi => ?_, fun i hi => ?_⟩
  · obtain ⟨b1, b2⟩ := a2 _ (List.mem_of_getElem? (getD_some hi))
    show 1 ≤ ((TS.getD i (0, 0)).1 : Int) ∧ ((TS.getD i (0, 0)).1 : Int) ≤ 100000 ∧ 1 ≤ ((TS.getD i (0, 0)).2 : Int) ∧ ((TS.getD i (0, 0)).2 : Int) ≤ 20
    omega
  · exact Int.natCast_dvd_natCast.mpr (a3 i hi)
theorem fiT_w {TS : Ts} (h : TsW TS) : TsW (fiT TS) ∧ fiT TS ≠ [] := by
  unfold fiT
  by_cases cn : TS = []
  · rw [if_pos cn]; exact ⟨usTs_w, by decide⟩
  · rw [if_neg cn]; exact ⟨h, cn⟩
theorem off_nil : ∀ m, off (fun _ => ([] : List Pt)) m = 0 := by
  intro m
  induction m with
  | zero => rfl
  | succ m ih => rw [off_s, ih]; rfl
theorem lyR_8 : ∀ q ∈ LyR, ¬ (q.1 = 8 ∧ (q.2.2.1 = 12 ∨ q.2.2.1 = 13)) := by decide
/-- what tell may change on the class's side -/
def TlF (s s' : St) (q : Nat) : Prop := (∀ k i j, ¬ (k = 8 ∧ (j = 12 ∨ j = 13)) → gR s' k i j = gR s k i j) ∧ (gL s' = gL s ∧ gN s' = gN s ∧ cn s' = cn s ∧ sn s' = sn s ∧ gJ s' = gJ s) ∧ ∀ k i j, ¬ k = 7 → ¬ (k = 0 ∧ i = q) → ¬ (k = 2 ∧ i = q) → ¬ (k = 10 ∧ 8 + 4 * q ≤ i ∧ i ≤ 11 + 4 * q) → ¬ (k = 8 ∧ i = 1 ∧ (j = 14 ∨ j = 15)) → ¬ (k = 4 ∧ i = 1) → gI s' k i j = gI s k i j
section TEL
variable {s s' : St} {p q n mo u l g fu N : Nat} {S K : Nat → Int} {x : Ab} {L : List AO} {y : Q4} {T : Nat → Nat}
theorem Lay.tl (h : Lay s) (f : TlF s s' q) : Lay s' :=
  h.of (fun w hw => f.1 _ _ _ (lyR_8 w hw)) (fun w _ => by rw [f.2.1.1]) (fun w _ => by rw [f.2.1.2.1]; exact Nat.le_refl _)
theorem OwnM.tl (h : OwnM s) (f : TlF s s' q) : OwnM s' := by
  have r9 : ∀ j, gR s' 9 1 j = gR s 9 1 j := fun j => f.1 9 1 j (by omega)
  unfold OwnM
  simp only [r9, f.2.1.1, f.2.1.2.1]
  exact h
theorem MI.tl (h : MI s n S K mo x u) (f : TlF s s' q) (hq : q = 1 ∨ q = 2) : MI s' n S K mo x u := by
  obtain ⟨⟨hL, ⟨⟨p1, p2, p3, p4⟩, hV⟩, ⟨hT, hRW⟩, ⟨d1, d2, d3⟩, ⟨t1, t2, t3, t4⟩, hW, hTm⟩, hLt, ⟨k1, k2, k3, k4, k5⟩, ⟨hU1, hU2, hU3⟩, hO⟩ := h
  have hL' := hL.tl f
  have r9 : ∀ j, gR s' 9 1 j = gR s 9 1 j := fun j => f.1 9 1 j (by omega)
  have e2 := f.2.1.1
  have i9 : ∀ j, gI s' 9 1 j = gI s 9 1 j := fun j => f.2.2 9 1 j (by omega) (by omega) (by omega) (by omega) (by omega) (by omega)
  have i13 : ∀ j, gI s' 13 1 j = gI s 13 1 j := fun j => f.2.2 13 1 j (by omega) (by omega) (by omega) (by omega) (by omega) (by omega)
  have r : ∀ a j, 20 ≤ a → gI s' 10 a j = gI s 10 a j := fun a j h1 => f.2.2 10 a j (by omega) (by omega) (by omega) (by omega) (by omega) (by omega)
  have v19 := (hO.1 19 mj19).1
  have v20 := (hO.1 20 mj20).1
  have v21 := (hO.1 21 mj21).1
  rw [lr_9_1_4 hL, lr_9_1_5 hL] at p4
  rw [lr_9_1_11 hL] at d3
  refine ⟨⟨hL', ⟨⟨by rw [r9, r9]; exact p1, by rw [r9, r9, e2]; exact p2, by rw [i9]; exact p3, fun i hi => ?_⟩, hV⟩, ⟨fun i hi => by rw [i13]; exact hT i hi, hRW⟩, ⟨by rw [r9]; exact d1, by rw [r9, e2]; exact d2, fun i hi => by rw [lr_9_1_11 hL', r 23 i (by omega)]; exact d3 i hi⟩, ⟨by rw [r9, r9, r9]; exact t1, by rw [r9, r9, r9, e2]; exact t2, by rw [i9]; exact t3, fun i hi j w hw => ?_⟩, hW, hTm⟩, fun i hi => by rw [r 24 i (by omega), r 25 i (by omega)]; exact hLt i hi, ⟨by rw [i9]; exact k1, by rw [i9]; exact k2, by rw [i9]; exact k3, by rw [i9]; exact k4, by rw [i9]; exact k5⟩, ⟨us_pw.mpr ((us_pw.mp hU1).imp (fun {a b} w => by rw [r 26 a (by omega), r 26 b (by omega)]; exact w)), fun i hi => by rw [r 26 i (by omega)]; exact hU2 i hi, by rw [i9]; exact hU3⟩, hO.tl f⟩
  · rw [lr_9_1_4 hL', lr_9_1_5 hL', r 20 i (by omega), r 21 i (by omega)]; exact p4 i hi
  · rw [r9, r9, r9, r _ _ (by omega), r _ _ (by omega), r _ _ (by omega)]
    exact t4 i hi j w hw
theorem DJ.tl (h : DJ s) (f : TlF s s' q) : DJ s' := by
  have r9 : ∀ j, gR s' 9 1 j = gR s 9 1 j := fun j => f.1 9 1 j (by omega)
  have r14 : ∀ j, gR s' 14 1 j = gR s 14 1 j := fun j => f.1 14 1 j (by omega)
  have r5 : ∀ i j, gR s' 5 i j = gR s 5 i j := fun i j => f.1 5 i j (by omega)
  unfold DJ
  simp only [r9, r14, r5]
  exact h
theorem tl_sk (f : TlF s s' q) : skn s' 10 = skn s 10 ∧ mS s' = mS s := by
  have r9 : ∀ j, gR s' 9 1 j = gR s 9 1 j := fun j => f.1 9 1 j (by omega)
  have r14 : ∀ j, gR s' 14 1 j = gR s 14 1 j := fun j => f.1 14 1 j (by omega)
  have r5 : ∀ i j, gR s' 5 i j = gR s 5 i j := fun i j => f.1 5 i j (by omega)
  refine ⟨skn_eq (fun i _ => ?_) 10 (Nat.le_refl _), ?_⟩
  · unfold kS
    rw [r14, r5, f.2.1.1]
  · unfold mS
    rw [r9, r9, f.2.1.1]
theorem X8_tell (h : CI s p n S K mo x) (hq : gR s 8 1 13 = 3 - p) (hT : TpC s T N) (hl : (xC x).1 = nI l) (hNl : N ≤ l) (hl6 : l ≤ 600) (hfu : 50000 ≤ fu) :
    (∀ f, aCs T N 601 (lex T N 0) cl0 = .inl f → ∃ s1, f_X8_tell fu s 1 (nI N) = some (s1, .inr (nI f.1)) ∧ TlF s s1 (3 - p) ∧ CI s1 p n S K mo (tpA x 0) ∧ gI s1 8 1 15 = nI f.2 ∧ (∀ i j, gR s1 i j = gR s i j)) ∧
    (∀ c, aCs T N 601 (lex T N 0) cl0 = .inr c → ∃ s1, f_X8_tell fu s 1 (nI N) = some (s1, .inr 0) ∧ TlF s s1 (3 - p) ∧ CI s1 (3 - p) (fiT c.1).length (spI (fiT c.1)) (kpI (fiT c.1)) c.2.1 (teA x) ∧ AlC s1 (gR s1 2 (3 - p) 2) c.2.2 ∧ ClW c ∧ gI s1 8 1 15 = -1 ∧ gR s1 8 1 13 = p) := by
  have e10 : ¬ (1 = 0) := by decide
  have hL := h.1.1.1
  have hp := h.1.2.1.1
  have hq12 : 3 - p = 1 ∨ 3 - p = 2 := by omega
  have hlo := pl_lo hL hp
  have hrow := sp_row hL hp
  have h14 : gI s 8 1 14 = nI l := h.2.2.2.2.2.1.trans hl
  let sa := sI s 8 1 14 0
  have Ga : ∀ k i j, ¬ (k = 8 ∧ i = 1 ∧ j = 14) → gI sa k i j = gI s k i j := fun k i j hh => by show gI (sI s 8 1 14 0) k i j = _; rw [gI_sI, if_neg hh]
  have ha14 : gI sa 8 1 14 = 0 := by show gI (sI s 8 1 14 0) 8 1 14 = _; rw [gI_sI, if_pos ⟨rfl, rfl, rfl⟩]
  have hLa : Lay sa := hL.same rfl rfl rfl
  have hTa : TpC sa T N := fun j hj => by rw [Ga 12 1 j (by omega)]; exact hT j hj
  obtain ⟨a1, a2⟩ := X3_read (fu := fu) (q := 3 - p) hLa hTa (by omega) hq12 hfu
  have hneg : ¬ nI N < 0 := fun w => by have := (ni_lt (b := 0) (by omega) (by omega)).mp w; omega
  have hle : nI N ≤ nI l := (ni_le (by omega) (by omega)).mpr hNl
  have hpre : f_X8_tell fu s 1 (nI N) = bI (f_X3_read fu sa 1 (nI N) (3 - p)) fun s6 x7 => if gR s6 8 1 1 = 0 then none else lt (sI s6 8 1 15 (gI s6 7 (gR s6 8 1 1) 8) : St) fun s9 => if x7 = 0 then (if gR s9 8 1 1 = 0 then none else some (s9, .inr (gI s9 7 (gR s9 8 1 1) 7))) else lt (gR s9 8 1 12 : Nat) fun x11 => lt (sR s9 8 1 12 (gR s9 8 1 13) : St) fun s12 => lt (sR s12 8 1 13 x11 : St) fun s13 => if gR s13 8 1 4 = 0 then none else bV (f_X4_clear fu s13 (gR s13 8 1 4)) fun s15 => some (s15, .inr 0) := by
    unfold f_X8_tell
    rw [if_neg hneg, if_neg e10, h14, if_pos hle]
    simp only [lt]
    have hr2 : gR (sI s 8 1 14 0) 8 1 2 = 1 := lr_8_1_2 hL
    have hr13 : gR (sI s 8 1 14 0) 8 1 13 = 3 - p := hq
    rw [hr2, if_neg e10, hr13]
  -- behind the reading
  have mid : ∀ s6, RpF sa s6 (3 - p) → ∀ v, SameS s (sI s6 8 1 15 v) ∧ CIe s (sI s6 8 1 15 v) p ∧ TlF s (sI s6 8 1 15 v) (3 - p) ∧ gI (sI s6 8 1 15 v) 8 1 14 = 0 := fun s6 hF v => by
    have G : ∀ k i j, ¬ k = 7 → ¬ (k = 0 ∧ i = 3 - p) → ¬ (k = 2 ∧ i = 3 - p) → ¬ (k = 10 ∧ 8 + 4 * (3 - p) ≤ i ∧ i ≤ 11 + 4 * (3 - p)) → ¬ (k = 8 ∧ i = 1 ∧ (j = 14 ∨ j = 15)) → gI (sI s6 8 1 15 v) k i j = gI s k i j := fun k i j h1 h2 h3 h4 h5 => by
      rw [gI_sI, if_neg (fun w => h5 (by omega)), hF.2 k i j h1 h2 h3 h4, Ga k i j (fun w => h5 (by omega))]
    refine ⟨⟨hF.1.1, hF.1.2.1, hF.1.2.2.1⟩, ⟨fun o j => G 5 o j (by omega) (by omega) (by omega) (by omega) (by omega), fun j => G 2 p j (by omega) (by omega) (by omega) (by omega) (by omega), G 4 1 2 (by omega) (by omega) (by omega) (by omega) (by omega), fun j _ _ => G 8 1 j (by omega) (by omega) (by omega) (by omega) (by omega), fun a j ha => G 10 a j (by omega) (by omega) (by omega) (by omega) (by omega), fun i j => by show gJ s6 11 i j = _; rw [hF.1.2.2.2.2.2]; rfl⟩, ⟨fun k i j _ => by show gR s6 k i j = _; rw [hF.1.1]; rfl, ⟨hF.1.2.1, hF.1.2.2.1, hF.1.2.2.2.1, hF.1.2.2.2.2.1, hF.1.2.2.2.2.2⟩, fun k i j h1 h2 h3 h4 h5 _ => G k i j h1 h2 h3 h4 h5⟩, ?_⟩
    rw [gI_sI, if_neg (by omega), hF.2 8 1 14 (by omega) (by omega) (by omega) (by omega)]; exact ha14
  refine ⟨fun f hf => ?_, fun c hc => ?_⟩
  · obtain ⟨s6, z1, z2, z3, z4⟩ := a1 f hf
    have hL6 : Lay s6 := hLa.same z2.1.1 z2.1.2.1 z2.1.2.2.1
    obtain ⟨m1, m2, m3, m4⟩ := mid s6 z2 (nI f.2)
    have hc := h.gen m1 m2
    rw [m4] at hc
    refine ⟨sI s6 8 1 15 (nI f.2), ?_, m3, hc, by rw [gI_sI, if_pos ⟨rfl, rfl, rfl⟩], fun i j => by rw [m1.1]⟩
    rw [hpre, z1]
    simp only [bI, lt, lr_8_1_1 hL6, e10, reduceIte, z4]
    have hr1 : gR (sI s6 8 1 15 (nI f.2)) 8 1 1 = 1 := lr_8_1_1 hL6
    rw [hr1, if_neg e10, gI_sI, if_neg (by omega), z3]
  · obtain ⟨s6, z1, z2, ⟨⟨t1, t2⟩, t3, t4⟩, z4, z5, z6⟩ := a2 c hc
    have hL6 : Lay s6 := hLa.same z2.1.1 z2.1.2.1 z2.1.2.2.1
    obtain ⟨m1, m2, m3, m4⟩ := mid s6 z2 (-1)
    obtain ⟨w1, w2⟩ := fiT_w z4.1
    have hV := VP_ts w1 w2
    obtain ⟨-, -, -, -, ⟨-, -, k3, k4, k5⟩⟩ := h.gen m1 m2
    have hB9 := h.1.gen m1 m2
    have g15 : gI (sI s6 8 1 15 (-1)) 8 1 15 = -1 := by rw [gI_sI, if_pos ⟨rfl, rfl, rfl⟩]
    have G9 : ∀ k i j, ¬ k = 8 → gI (sI s6 8 1 15 (-1)) k i j = gI s6 k i j := fun k i j hk => by rw [gI_sI, if_neg (fun w => hk w.1)]
    have r9 : gR (sI s6 8 1 15 (-1)) = gR s := m1.1
    generalize hs9 : sI s6 8 1 15 (-1) = s9 at m1 m2 m3 m4 k3 k4 k5 hB9 g15 G9 r9
    have hL9 := hB9.1.1
    have h12 : gR s9 8 1 12 = p := by rw [r9]; exact h.1.2.1.2.1
    have h13 : gR s9 8 1 13 = 3 - p := by rw [r9]; exact hq
    let s1 := sI (sR (sR s9 8 1 12 (3 - p)) 8 1 13 p) 4 1 2 0
    have R1 : ∀ k i j, gR s1 k i j = if k = 8 ∧ i = 1 ∧ j = 13 then p else if k = 8 ∧ i = 1 ∧ j = 12 then 3 - p else gR s9 k i j := fun k i j => by
      show gR (sR (sR s9 8 1 12 (3 - p)) 8 1 13 p) k i j = _
      rw [gR_sR, gR_sR]
    have I1 : ∀ k i j, ¬ (k = 4 ∧ i = 1 ∧ j = 2) → gI s1 k i j = gI s9 k i j := fun k i j hh => by
      show gI (sI (sR (sR s9 8 1 12 (3 - p)) 8 1 13 p) 4 1 2 0) k i j = _
      rw [gI_sI, if_neg hh]
      rfl
    have F1 : TlF s9 s1 (3 - p) := ⟨fun k i j hh => by rw [R1, if_neg (fun w => hh (by omega)), if_neg (fun w => hh (by omega))], ⟨rfl, rfl, rfl, rfl, rfl⟩, fun k i j _ _ _ _ _ h6 => I1 k i j (fun w => h6 ⟨w.1, w.2.1⟩)⟩
    have hL1 : Lay s1 := hL9.tl F1
    have r14 : ∀ j, gR s1 14 1 j = gR s9 14 1 j := fun j => F1.1 14 1 j (by omega)
    have r5 : ∀ i j, gR s1 5 i j = gR s9 5 i j := fun i j => F1.1 5 i j (by omega)
    obtain ⟨⟨q0, q1, q2⟩, ⟨q3, q4⟩, ⟨q5, q6⟩, q7, q8⟩ := sp_row hL1 hq12
    have Ffin : TlF s s1 (3 - p) := ⟨fun k i j hh => by rw [F1.1 k i j hh, r9], ⟨m1.2.1, m1.2.2, m3.2.1.2.2.1, m3.2.1.2.2.2.1, m3.2.1.2.2.2.2⟩, fun k i j h1 h2 h3 h4 h5 h6 => by rw [F1.2.2 k i j h1 h2 h3 h4 h5 h6, m3.2.2 k i j h1 h2 h3 h4 h5 h6]⟩
    refine ⟨s1, ?_, Ffin, ⟨⟨⟨hL1, ?_⟩, ⟨hq12, ?_, ⟨by omega, ⟨by rw [q0]; omega, by rw [q1]; omega⟩, ⟨by rw [q0]; exact q5, by rw [q1]; exact q6⟩, ?_, fun i hi => ?_⟩, hV⟩, ?_⟩, ⟨⟨⟨by omega, by rw [lr_4_1_0 hL1]; decide, by rw [lr_4_1_1 hL1]; decide⟩, ⟨by rw [lr_4_1_0 hL1]; exact ll_10_5 hL1, by rw [lr_4_1_1 hL1]; exact ll_10_6 hL1⟩, ?_, fun j i hj => (by cases hj), fun i hi => (by cases hi)⟩, ⟨List.nodup_nil, fun i hi => (by cases hi), Nat.zero_le 10⟩⟩, fun i hi => (by cases hi), fun i hi => (by cases hi), ⟨?_, ?_, ?_, ?_, ?_⟩⟩, ?_, z4, ?_, ?_⟩
    · rw [hpre, z1]
      simp only [bI, lt, lr_8_1_1 hL6, e10, reduceIte, z6, show ¬ (1 : Int32) = 0 from by decide]
      rw [hs9, h12, h13]
      have hr4 : gR (sR (sR s9 8 1 12 (3 - p)) 8 1 13 p) 8 1 4 = 1 := by rw [gR_sR, if_neg (by omega), gR_sR, if_neg (by omega)]; exact lr_8_1_4 hL9
      have hr13' : gR (sR s9 8 1 12 (3 - p)) 8 1 13 = 3 - p := by rw [gR_sR, if_neg (by omega)]; exact h13
      rw [hr4, if_neg e10]
      unfold f_X4_clear
      rw [if_neg e10]
      rfl
    · unfold Sep
      simp only [r14, r5]
      exact hB9.1.2
    · rw [R1, if_neg (by omega), if_pos ⟨rfl, rfl, rfl⟩]
    · rw [I1 2 _ 3 (by omega), G9 2 _ 3 (by omega)]; exact t1
    · have hs : gI s6 10 (8 + 4 * (3 - p)) i = nI ((fiT c.1).getD i (0, 0)).1 ∧ gI s6 10 (9 + 4 * (3 - p)) i = nI ((fiT c.1).getD i (0, 0)).2 := t2 i _ (getD_some hi)
      rw [q0, q1, I1 10 _ i (by omega), I1 10 _ i (by omega), G9 10 _ i (by omega), G9 10 _ i (by omega), hs.1, hs.2]
      obtain ⟨b1, b2⟩ := w1.2.1 _ (List.mem_of_getElem? (getD_some hi))
      exact ⟨nu_nI (by omega), nu_nI (by omega)⟩
    · unfold OwnA OwnC
      simp only [r14, r5]
      exact hB9.2.2
    · show gI (sI (sR (sR s9 8 1 12 (3 - p)) 8 1 13 p) 4 1 2 0) 4 1 2 = _
      rw [gI_sI, if_pos ⟨rfl, rfl, rfl⟩]; rfl
    · rw [I1 2 _ 4 (by omega), G9 2 _ 4 (by omega)]; exact t3
    · rw [I1 8 1 14 (by omega)]; exact m4
    · rw [I1 8 1 16 (by omega)]; exact k3
    · rw [I1 8 1 17 (by omega)]; exact k4
    · rw [I1 8 1 18 (by omega)]; exact k5
    · rw [q2]
      obtain ⟨-, ⟨v3, v4⟩, -⟩ := sp_row hL6 hq12
      refine t4.cong (fun j => ?_) ⟨?_, ?_⟩ ?_ (fun j => ?_) (fun j => ?_)
      · rw [F1.1 0 _ j (by omega), r9]; show gR s 0 (3 - p) j = gR s6 0 (3 - p) j; rw [z2.1.1]; rfl
      · rw [v3, q7, (sp_row hL6 hq12).2.2.2.1]
      · rw [v4, q8, (sp_row hL6 hq12).2.2.2.2]
      · rw [I1 0 _ 2 (by omega), G9 0 _ 2 (by omega)]
      · rw [I1 10 _ j (by omega), G9 10 _ j (by omega)]
      · rw [I1 10 _ j (by omega), G9 10 _ j (by omega)]
    · rw [I1 8 1 15 (by omega)]; exact g15
    · rw [R1, if_pos ⟨rfl, rfl, rfl⟩]
end TEL
