/-! ===== the class reads a whole plan ===== -/
section PLC
variable {s : St} {fu N q : Nat} {T : Nat → Nat} {k : Tk} {c : Cl}
theorem X2_ft (hL : Lay s) (hq : q = 1 ∨ q = 2) (h : PlQ s q c) (hfu : 100 ≤ fu) : ∃ s', f_X2_takeFirstTiers fu s q = some s' ∧ PlF s s' q ∧ (∀ i j, gI s' 7 i j = gI s 7 i j) ∧ PlQ s' q (usTs, c.2.1, c.2.2) := by
  obtain ⟨⟨r0, r1, r2⟩, ⟨r3, r4⟩, ⟨l0, l1⟩, -⟩ := sp_row hL hq
  obtain ⟨-, a3, a4⟩ := h
  have hq0 : ¬ q = 0 := by omega
  have k1 : kL 1 = 3 := rfl
  have k2 : kL 2 = 3 := rfl
  have step : ∀ (i m : Nat) (s1 : St), i < 3 → gR s1 = gR s → gL s1 = gL s → gI s1 2 q 3 = nI 3 → f_X2_takeFirstTiers_b10 fu (m + 1) s1 q (nI i) = f_X2_takeFirstTiers_b10 fu m (sI (sI s1 10 (8 + 4 * q) i (kI 1 i)) 10 (9 + 4 * q) i (kI 2 i)) q (nI (i + 1)) := fun i m s1 hi e1 e2 h3 => by
    have b3 : inb (nI i) 3 = true := nu_inbn (by omega) (by omega)
    have b4 : inb (nI i) 4 = true := nu_inbn (by omega) (by omega)
    conv => lhs; unfold f_X2_takeFirstTiers_b10
    rw [if_neg hq0, h3, if_neg (fun w => by have := (ni_le (by omega) (by omega)).mp w; omega)]
    simp only [k1, k2, b3, b4, Bool.true_eq_false, reduceIte, gR_sI, gL_sI, e1, e2, r0, r1, l0, l1, show ¬ (8 + 4 * q = 0) by omega, show ¬ (9 + 4 * q = 0) by omega, lt, nu_ixn (show i < 2147483648 by omega), nu_nIa]
  have fin : ∀ (m : Nat) (s1 : St), gI s1 2 q 3 = nI 3 → f_X2_takeFirstTiers_b10 fu (m + 1) s1 q (nI 3) = some s1 := fun m s1 h3 => by
    unfold f_X2_takeFirstTiers_b10
    rw [if_neg hq0, h3, if_pos ((ni_le (by omega) (by omega)).mpr (Nat.le_refl _))]
  obtain ⟨m, hm⟩ : ∃ m, fu = m + 4 := ⟨fu - 4, by omega⟩
  let t0 := sI s 2 q 3 (nI 3)
  let t1 := sI (sI t0 10 (8 + 4 * q) 0 (kI 1 0)) 10 (9 + 4 * q) 0 (kI 2 0)
  let t2 := sI (sI t1 10 (8 + 4 * q) 1 (kI 1 1)) 10 (9 + 4 * q) 1 (kI 2 1)
  let t3 := sI (sI t2 10 (8 + 4 * q) 2 (kI 1 2)) 10 (9 + 4 * q) 2 (kI 2 2)
  have G1 : ∀ (t : St) (i : Nat) v w k a j, gI (sI (sI t 10 (8 + 4 * q) i v) 10 (9 + 4 * q) i w) k a j = if k = 10 ∧ a = 9 + 4 * q ∧ j = i then w else if k = 10 ∧ a = 8 + 4 * q ∧ j = i then v else gI t k a j := fun t i v w k a j => by rw [gI_sI, gI_sI]
  have G0 : ∀ k a j, gI t0 k a j = if k = 2 ∧ a = q ∧ j = 3 then nI 3 else gI s k a j := fun k a j => by show gI (sI s 2 q 3 (nI 3)) k a j = _; rw [gI_sI]
  have n1 : ∀ k a j, ¬ (k = 10 ∧ (a = 8 + 4 * q ∨ a = 9 + 4 * q)) → gI t3 k a j = gI t0 k a j := fun k a j hh => by
    show gI (sI (sI (sI (sI (sI (sI t0 10 (8 + 4 * q) 0 (kI 1 0)) 10 (9 + 4 * q) 0 (kI 2 0)) 10 (8 + 4 * q) 1 (kI 1 1)) 10 (9 + 4 * q) 1 (kI 2 1)) 10 (8 + 4 * q) 2 (kI 1 2)) 10 (9 + 4 * q) 2 (kI 2 2)) k a j = _
    rw [G1, if_neg (by omega), if_neg (by omega), G1, if_neg (by omega), if_neg (by omega), G1, if_neg (by omega), if_neg (by omega)]
  have g3 : ∀ t : St, (∀ k a j, ¬ k = 10 → gI t k a j = gI t0 k a j) → gI t 2 q 3 = nI 3 := fun t ht => by rw [ht 2 q 3 (by omega), G0, if_pos ⟨rfl, rfl, rfl⟩]
  have m1 : ∀ k a j, ¬ k = 10 → gI t1 k a j = gI t0 k a j := fun k a j hk => by
    show gI (sI (sI t0 10 (8 + 4 * q) 0 (kI 1 0)) 10 (9 + 4 * q) 0 (kI 2 0)) k a j = _
    rw [G1, if_neg (by omega), if_neg (by omega)]
  have m2 : ∀ k a j, ¬ k = 10 → gI t2 k a j = gI t0 k a j := fun k a j hk => by
    show gI (sI (sI t1 10 (8 + 4 * q) 1 (kI 1 1)) 10 (9 + 4 * q) 1 (kI 2 1)) k a j = _
    rw [G1, if_neg (by omega), if_neg (by omega), m1 k a j hk]
  refine ⟨t3, ?_, ⟨⟨rfl, rfl, rfl, rfl, rfl, rfl⟩, fun k i j _ _ h3 h4 => by rw [n1 k i j (by omega), G0, if_neg (fun w => h3 ⟨w.1, w.2.1⟩)]⟩, fun i j => by rw [n1 7 i j (by omega), G0, if_neg (by omega)], ⟨?_, fun i sp hi => ?_⟩, ?_, ?_⟩
  · unfold f_X2_takeFirstTiers
    rw [if_neg hq0]
    show f_X2_takeFirstTiers_b10 fu fu t0 q (nI 0) = _
    have hA : f_X2_takeFirstTiers_b10 fu (m + 4) t0 q (nI 0) = some t3 := by
      rw [step 0 (m + 3) t0 (by omega) rfl rfl (g3 t0 (fun _ _ _ _ => rfl))]
      show f_X2_takeFirstTiers_b10 fu (m + 3) t1 q (nI 1) = _
      rw [step 1 (m + 2) t1 (by omega) rfl rfl (g3 t1 m1)]
      show f_X2_takeFirstTiers_b10 fu (m + 2) t2 q (nI 2) = _
      rw [step 2 (m + 1) t2 (by omega) rfl rfl (g3 t2 m2)]
      exact fin m t3 (g3 t3 (fun k a j hk => n1 k a j (by omega)))
    have : f_X2_takeFirstTiers_b10 fu fu t0 q (nI 0) = f_X2_takeFirstTiers_b10 fu (m + 4) t0 q (nI 0) := congrArg (fun z => f_X2_takeFirstTiers_b10 fu z t0 q (nI 0)) hm
    rw [this, hA]
  · rw [n1 2 q 3 (by omega), G0, if_pos ⟨rfl, rfl, rfl⟩]; rfl
  · have hi3 : i < 3 := get_lt hi
    have : i = 0 ∨ i = 1 ∨ i = 2 := by omega
    show gI (sI (sI (sI (sI (sI (sI t0 10 (8 + 4 * q) 0 (kI 1 0)) 10 (9 + 4 * q) 0 (kI 2 0)) 10 (8 + 4 * q) 1 (kI 1 1)) 10 (9 + 4 * q) 1 (kI 2 1)) 10 (8 + 4 * q) 2 (kI 1 2)) 10 (9 + 4 * q) 2 (kI 2 2)) 10 (8 + 4 * q) i = _ ∧ gI (sI (sI (sI (sI (sI (sI t0 10 (8 + 4 * q) 0 (kI 1 0)) 10 (9 + 4 * q) 0 (kI 2 0)) 10 (8 + 4 * q) 1 (kI 1 1)) 10 (9 + 4 * q) 1 (kI 2 1)) 10 (8 + 4 * q) 2 (kI 1 2)) 10 (9 + 4 * q) 2 (kI 2 2)) 10 (9 + 4 * q) i = _
    rcases this with rfl | rfl | rfl
    · have e : sp = (10, 6) := (Option.some.inj hi).symm
      rw [e]
      refine ⟨?_, ?_⟩
      · rw [G1, if_neg (by omega), if_neg (by omega), G1, if_neg (by omega), if_neg (by omega), G1, if_neg (by omega), if_pos ⟨rfl, rfl, rfl⟩]; rfl
      · rw [G1, if_neg (by omega), if_neg (by omega), G1, if_neg (by omega), if_neg (by omega), G1, if_pos ⟨rfl, rfl, rfl⟩]; rfl
    · have e : sp = (60, 5) := (Option.some.inj hi).symm
      rw [e]
      refine ⟨?_, ?_⟩
      · rw [G1, if_neg (by omega), if_neg (by omega), G1, if_neg (by omega), if_pos ⟨rfl, rfl, rfl⟩]; rfl
      · rw [G1, if_neg (by omega), if_neg (by omega), G1, if_pos ⟨rfl, rfl, rfl⟩]; rfl
    · have e : sp = (300, 4) := (Option.some.inj hi).symm
      rw [e]
      refine ⟨?_, ?_⟩
      · rw [G1, if_neg (by omega), if_pos ⟨rfl, rfl, rfl⟩]; rfl
      · rw [G1, if_pos ⟨rfl, rfl, rfl⟩]; rfl
  · rw [n1 2 q 4 (by omega), G0, if_neg (by omega)]; exact a3
  · exact a4.cong (fun _ => rfl) ⟨rfl, rfl⟩ (by rw [n1 0 q 2 (by omega), G0, if_neg (by omega)]) (fun j => by rw [r3, n1 10 _ j (by omega), G0, if_neg (by omega)]) (fun j => by rw [r4, n1 10 _ j (by omega), G0, if_neg (by omega)])
theorem X3_loop (hq : q = 1 ∨ q = 2) (hN : N ≤ 600) (hfu : 50000 ≤ fu) : ∀ (d i m : Nat) (s s0 : St) (k : Tk) (c : Cl), d ≤ m → N - tB k < d → i ≤ tB k → PC s T N k → PlQ s q c → ClW c → PlF s0 s q → (gI s 7 1 7 = 0 ∧ gI s 7 1 8 = -1) →
    (∀ f, aCs T N d k c = .inl f → ∃ s', f_X3_read_b14 fu m s 1 q (nI i) = some (s', 0) ∧ PlF s0 s' q ∧ FC s' f) ∧ (∀ c', aCs T N d k c = .inr c' → ∃ s', f_X3_read_b14 fu m s 1 q (nI i) = some (s', 1) ∧ PlF s0 s' q ∧ PlQ s' q (fiT c'.1, c'.2.1, c'.2.2) ∧ ClW c' ∧ (gI s' 7 1 7 = 0 ∧ gI s' 7 1 8 = -1)) := by
  have e10 : ¬ (1 = 0) := by decide
  have hq0 : ¬ q = 0 := by omega
  intro d
  induction d with
  | zero => intro i m s s0 k c hd hNd; omega
  | succ d ih =>
    intro i m s s0 k c hd hNd hi h hP hW hF hz
    obtain ⟨m, rfl⟩ : ∃ m', m = m' + 1 := ⟨m - 1, by omega⟩
    have hw := h.2.2.2
    have hL := h.1.1
    have r := lr_3_1_0 hL
    have k4 := h.2.2.1.2.2.1
    have hbe := hw.1
    have heN := hw.2.1
    have hkk := hw.2.2.1
    have b59 : ∃ s', f_X3_read_b59 fu s q = some (s', 1) ∧ PlF s0 s' q ∧ PlQ s' q (fiT c.1, c.2.1, c.2.2) ∧ ClW c ∧ (gI s' 7 1 7 = 0 ∧ gI s' 7 1 8 = -1) := by
      unfold f_X3_read_b59 f_X3_read_b70
      rw [if_neg hq0, hP.1.1]
      unfold fiT
      by_cases cn : c.1 = []
      · obtain ⟨s', y1, y2, y3, y4⟩ := X2_ft (fu := fu) hL hq hP (by omega)
        refine ⟨s', ?_, hF.tr y2, by rw [if_pos cn]; exact y4, hW, by rw [y3]; exact hz.1, by rw [y3]; exact hz.2⟩
        rw [if_pos (show nI c.1.length = 0 by rw [cn]; rfl), y1]
        simp only [bV]
        rw [if_neg (by rw [zb1]; decide)]
      · have hp := List.length_pos_iff.mpr cn
        have hl4 := hW.1.1
        refine ⟨s, ?_, hF, by rw [if_neg cn]; exact hP, hW, hz⟩
        rw [if_neg (show ¬ nI c.1.length = 0 from fun w => by have := (ni_eq (b := 0) (by omega) (by omega)).mp w; omega), if_neg (by rw [zb1]; decide)]
    unfold aCs
    by_cases q0 : tK k = 0
    · rw [if_pos q0]
      refine ⟨fun f hf => (by cases hf), fun c' hc => ?_⟩
      cases hc
      obtain ⟨s', y1, y2⟩ := b59
      refine ⟨s', ?_, y2⟩
      unfold f_X3_read_b14
      by_cases c6 : (600 : Int32) ≤ nI i
      · rw [if_pos c6]; exact y1
      · rw [if_neg c6, if_neg e10, r, if_neg e10, k4, if_pos (show nI (tK k) = 0 by rw [q0]; rfl)]; exact y1
    · rw [if_neg q0]
      have hb3 := hw.b3 q0
      have n0 : ¬ nI (tK k) = 0 := fun w => q0 ((ni_eq (b := 0) (by omega) (by omega)).mp w)
      have c600 : ¬ (600 : Int32) ≤ nI i := fun w => by have := (ni_le (a := 600) (by omega) (by omega)).mp w; omega
      obtain ⟨a1, a2⟩ := X3_cl (fu := fu) h hq hP hW.1 hN hfu
      have hpre : f_X3_read_b14 fu (m + 1) s 1 q (nI i) = bI (f_X3_readClause fu s 1 q) fun s10 x11 => if x11 = 0 then f_X3_read_b51 fu s10 else if gR s10 3 1 0 = 0 then none else bI (f_X7_takeSign fu s10 (gR s10 3 1 0) 59) fun s14 x15 => if x15 = 0 then f_X3_read_b51 fu s14 else f_X3_read_b14 fu m s14 1 q (nI (i + 1)) := by
        conv => lhs; unfold f_X3_read_b14
        rw [if_neg c600, if_neg e10, r, if_neg e10, k4, if_neg n0]
        simp only [lt, nu_nIa]
      rw [hpre]
      have b51 : ∀ t, f_X3_read_b51 fu t = some (t, 0) := fun t => by unfold f_X3_read_b51; rw [if_neg (by rw [zb0]; decide)]
      cases hr : aCl T N k c with
      | inl f0 =>
        obtain ⟨s1, y1, y2, y3⟩ := a1 f0 hr
        refine ⟨fun f hf => ?_, fun c' hc => (by cases hc)⟩
        cases hf
        refine ⟨s1, ?_, hF.tr y2, y3⟩
        rw [y1]
        simp only [bI, reduceIte]
        exact b51 s1
      | inr kc =>
        obtain ⟨k1, c1⟩ := kc
        obtain ⟨s1, y1, y2, y3, y4, y5⟩ := a2 k1 c1 hr
        obtain ⟨p1, p2, p3⟩ := aCl_w hw hN hW hr
        have hL1 := y3.1.1
        obtain ⟨g1, g2⟩ := X7_tsg (fu := fu) y3 (c := 59) (by omega) (by omega)
        rw [y1]
        simp only [bI, show ¬ (1 : Int32) = 0 from by decide, reduceIte]
        rw [lr_3_1_0 hL1, if_neg e10]
        cases hg : aSg T N k1 59 with
        | inl f0 =>
          obtain ⟨s2, z1, z2, z3⟩ := g1 f0 hg
          have z1' : f_X7_takeSign fu s1 1 59 = some (s2, 0) := z1
          refine ⟨fun f hf => ?_, fun c' hc => (by cases hc)⟩
          cases hf
          refine ⟨s2, ?_, (hF.tr y2).tr (z2.pl q), z3⟩
          rw [z1']
          simp only [reduceIte]
          exact b51 s2
        | inr k2 =>
          obtain ⟨s2, z1, z2, z3, z4⟩ := g2 k2 hg
          have z1' : f_X7_takeSign fu s1 1 59 = some (s2, 1) := z1
          obtain ⟨u1, u2⟩ := aSg_pos p1 hg
          have := ih (i + 1) m s2 s0 k2 c1 (by omega) (by omega) (by omega) z3 (y4.pc hL1 hq z2) p3 ((hF.tr y2).tr (z2.pl q)) ⟨by rw [z4 7 (by omega), y5 7 (by omega)]; exact hz.1, by rw [z4 8 (by omega), y5 8 (by omega)]; exact hz.2⟩
          rw [z1']
          simp only [show ¬ (1 : Int32) = 0 from by decide, reduceIte]
          exact this
def RpF (s s' : St) (q : Nat) : Prop := (gR s' = gR s ∧ gL s' = gL s ∧ gN s' = gN s ∧ cn s' = cn s ∧ sn s' = sn s ∧ gJ s' = gJ s) ∧ ∀ k i j, ¬ k = 7 → ¬ (k = 0 ∧ i = q) → ¬ (k = 2 ∧ i = q) → ¬ (k = 10 ∧ 8 + 4 * q ≤ i ∧ i ≤ 11 + 4 * q) → gI s' k i j = gI s k i j
/-- the plan at first -/
def cl0 : Cl := ([], 4, [])
theorem cl0_w : ClW cl0 := ⟨⟨by decide, fun sp h => (by cases h), fun i hi => (by exact absurd hi (by show ¬ i + 1 < 0; omega))⟩, by decide, Or.inl rfl, by decide⟩
theorem X3_read (hL : Lay s) (hT : TpC s T N) (hN : N ≤ 600) (hq : q = 1 ∨ q = 2) (hfu : 50000 ≤ fu) :
    (∀ f, aCs T N 601 (lex T N 0) cl0 = .inl f → ∃ s', f_X3_read fu s 1 (nI N) q = some (s', 0) ∧ RpF s s' q ∧ FC s' f) ∧ (∀ c', aCs T N 601 (lex T N 0) cl0 = .inr c' → ∃ s', f_X3_read fu s 1 (nI N) q = some (s', 1) ∧ RpF s s' q ∧ PlQ s' q (fiT c'.1, c'.2.1, c'.2.2) ∧ ClW c' ∧ (gI s' 7 1 7 = 0 ∧ gI s' 7 1 8 = -1)) := by
  have e10 : ¬ (1 = 0) := by decide
  have hq0 : ¬ q = 0 := by omega
  obtain ⟨⟨r0, r1, r2⟩, ⟨r3, r4⟩, ⟨l0, l1⟩, l2, l3⟩ := sp_row hL hq
  let s1 := sI (sI (sI s 2 q 3 0) 2 q 4 4) 0 q 2 0
  have G : ∀ k i j, gI s1 k i j = if k = 0 ∧ i = q ∧ j = 2 then 0 else if k = 2 ∧ i = q ∧ j = 4 then 4 else if k = 2 ∧ i = q ∧ j = 3 then 0 else gI s k i j := fun k i j => by
    show gI (sI (sI (sI s 2 q 3 0) 2 q 4 4) 0 q 2 0) k i j = _
    rw [gI_sI, gI_sI, gI_sI]
  have hL1 : Lay s1 := hL.same rfl rfl rfl
  have hT1 : TpC s1 T N := fun j hj => by rw [G, if_neg (by omega), if_neg (by omega), if_neg (by omega)]; exact hT j hj
  obtain ⟨s2, y1, y2, y3, y4, y5⟩ := X7_op (fu := fu) hL1 hT1 hN (by omega)
  have hL2 := y2.1.1
  have hR2 : AlR s2 q := sp_alr hL2 hq
  have P2 : PlQ s2 q cl0 := by
    refine ⟨⟨?_, fun i sp hi => (by cases hi)⟩, ?_, hR2.1, hR2.2.1, ⟨?_, by decide⟩, fun k o hk => (by cases hk), fun k f r v hk => (by cases hk)⟩
    · rw [y5 2 q 3 (by omega), G, if_neg (by omega), if_neg (by omega), if_pos ⟨rfl, rfl, rfl⟩]; rfl
    · rw [y5 2 q 4 (by omega), G, if_neg (by omega), if_pos ⟨rfl, rfl, rfl⟩]; rfl
    · rw [y5 0 q 2 (by omega), G, if_pos ⟨rfl, rfl, rfl⟩]; rfl
  obtain ⟨a1, a2⟩ := X3_loop (T := T) hq hN hfu 601 0 fu s2 s2 (lex T N 0) cl0 (by omega) (by omega) (Nat.zero_le _) y2 P2 cl0_w (PlF.rf s2 q) y3
  have hF : ∀ s', PlF s2 s' q → RpF s s' q := fun s' h => ⟨⟨h.1.1.trans y4.1, h.1.2.1.trans y4.2.1, h.1.2.2.1.trans y4.2.2.1, h.1.2.2.2.1.trans y4.2.2.2.1, h.1.2.2.2.2.1.trans y4.2.2.2.2.1, h.1.2.2.2.2.2.trans y4.2.2.2.2.2⟩, fun k i j h1 h2 h3 h4 => by rw [h.2 k i j (fun w => h1 w.1) h2 h3 h4, y5 k i j (fun w => h1 w.1), G, if_neg (fun w => h2 ⟨w.1, w.2.1⟩), if_neg (fun w => h3 ⟨w.1, w.2.1⟩), if_neg (fun w => h3 ⟨w.1, w.2.1⟩)]⟩
  have hpre : f_X3_read fu s 1 (nI N) q = f_X3_read_b14 fu fu s2 1 q (nI 0) := by
    unfold f_X3_read f_X2_clear f_X0_clear
    rw [if_neg hq0, if_neg hq0]
    simp only [lt]
    have e2 : gR (sI (sI s 2 q 3 0) 2 q 4 4) 2 q 2 = q := r2
    rw [e2, if_neg hq0, if_neg hq0]
    simp only [bV]
    show (if (1 : Nat) = 0 then none else if gR s1 3 1 0 = 0 then none else bV (f_X7_open fu s1 (gR s1 3 1 0) (nI N)) fun s5 => f_X3_read_b14 fu fu s5 1 q 0) = _
    rw [if_neg e10, lr_3_1_0 hL1, if_neg e10, y1]
    rfl
  rw [hpre]
  refine ⟨fun f hf => ?_, fun c' hc => ?_⟩
  · obtain ⟨s', z1, z2, z3⟩ := a1 f hf
    exact ⟨s', z1, hF s' z2, z3⟩
  · obtain ⟨s', z1, z2, z3, z4, z5⟩ := a2 c' hc
    exact ⟨s', z1, hF s' z2, z3, z4, z5⟩
end PLC
