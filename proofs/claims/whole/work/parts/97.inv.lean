/-! ===== the reference: fine, refuse, late; both sides together ===== -/
def whF (j : Nat) : Prop := j = 3 ∨ (40 ≤ j ∧ j ≤ 43)
def fiS (s : St) : St := sI (sI (sI (sI s 9 1 40 0) 9 1 41 0) 9 1 42 (-1)) 9 1 43 (-1)
/-- a byte of the tape, as the class holds it -/
def sb (b : Nat) : Int32 := Int32.ofInt (if b < 128 then (b : Int) else (b : Int) - 256)
def Tap (s : St) (x : Ab) (l : Nat) : Prop := (xC x).1 = nI l ∧ l ≤ 600 ∧ ∀ j, j < l → ∃ b, b < 256 ∧ gI s 10 30 j = nI b ∧ gI s 12 1 j = sb b
def Bd (s : St) (g : Nat) : Prop := (cn s ≤ g + skn s 10 + mS s ∧ sn s ≤ g + 10 * skn s 10 + 6 * mS s) ∧ g ≤ 100000
section IN1
variable {s s' : St} {p n mo u fu g : Nat} {S K : Nat → Int} {x : Ab} {L : List AO}
theorem MI.f9 (h : MI s n S K mo x u) {j : Nat} (hj : whF j) (v : Int32) : MI (sI s 9 1 j v) n S K mo x u := by
  have hd : dyn j := by unfold dyn; unfold whF at hj; omega
  have hj' := hj
  unfold whF at hj'
  have G : ∀ k i j', ¬ (k = 9 ∧ j' = j) → gI (sI s 9 1 j v) k i j' = gI s k i j' := fun k i j' hk => by rw [gI_sI, if_neg (fun q => hk ⟨q.1, q.2.2⟩)]
  have F : FP s (sI s 9 1 j v) := Fx.f9 hd v
  have h' := h
  obtain ⟨⟨a1, a2, ⟨a3, a4⟩, ⟨-, -, a5⟩, a6, a7, a8⟩, b1, ⟨c1, c2, c3, c4, c5⟩, ⟨e1, e2, e3⟩, o⟩ := h
  rw [lr_9_1_11 a1] at a5
  refine h'.mk' F (o.eq rfl rfl rfl) (fun i hi => by rw [G 13 1 i (by omega)]; exact a3 i hi) a4 (fun i hi => by rw [G 10 23 i (by omega)]; exact a5 i hi) ?_ a7 a8 (fun i hi => by rw [G 10 24 i (by omega), G 10 25 i (by omega)]; exact b1 i hi) ⟨rfl, by rw [G 9 1 16 (by omega)]; exact c3, by rw [G 9 1 17 (by omega)]; exact c4, by rw [G 9 1 18 (by omega)]; exact c5⟩ ⟨us_pw.mpr ((us_pw.mp e1).imp (fun {a b} q => by rw [G 10 26 a (by omega), G 10 26 b (by omega)]; exact q)), fun i hi => by rw [G 10 26 i (by omega)]; exact e2 i hi, by rw [G 9 1 15 (by omega)]; exact e3⟩
  obtain ⟨t1, t2, t3, t4⟩ := a6
  exact ⟨t1, t2, by rw [G 9 1 22 (by omega)]; exact t3, fun i hi j' q hq => by rw [G 10 _ _ (by omega), G 10 _ _ (by omega), G 10 _ _ (by omega)]; exact t4 i hi j' q hq⟩
theorem wh40 : whF 40 := Or.inr ⟨by omega, by omega⟩
theorem wh41 : whF 41 := Or.inr ⟨by omega, by omega⟩
theorem wh42 : whF 42 := Or.inr ⟨by omega, by omega⟩
theorem wh43 : whF 43 := Or.inr ⟨by omega, by omega⟩
theorem wh3 : whF 3 := Or.inl rfl
theorem dyw {j : Nat} (h : whF j) : dyn j := by unfold dyn; unfold whF at h; omega
theorem X9_fine (fu : Nat) (s : St) : f_X9_fine fu s 1 = some (fiS s) := rfl
theorem X9_ref (fu : Nat) (s : St) (k : Int32) : f_X9_refuse fu s 1 k = some (sI s 9 1 40 k, -1) := rfl
theorem MI.fine (h : MI s n S K mo x u) : MI (fiS s) n S K mo x u := (((h.f9 wh40 0).f9 wh41 0).f9 wh42 (-1)).f9 wh43 (-1)
theorem fiS_fp (s : St) : FP s (fiS s) := (((Fx.f9 (dyw wh40) 0).tr (Fx.f9 (dyw wh41) 0)).tr (Fx.f9 (dyw wh42) (-1))).tr (Fx.f9 (dyw wh43) (-1))
theorem fiS_w (s : St) : WhM (fiS s) (0, 0, -1, -1) := by
  unfold fiS
  refine ⟨?_, ?_, ?_, ?_⟩
  · rw [gI_sI, if_neg (by omega), gI_sI, if_neg (by omega), gI_sI, if_neg (by omega), gI_sI, if_pos ⟨rfl, rfl, rfl⟩]
  · rw [gI_sI, if_neg (by omega), gI_sI, if_neg (by omega), gI_sI, if_pos ⟨rfl, rfl, rfl⟩]
  · rw [gI_sI, if_neg (by omega), gI_sI, if_pos ⟨rfl, rfl, rfl⟩]
  · rw [gI_sI, if_pos ⟨rfl, rfl, rfl⟩]
/-- what rises leaves of why -/
theorem WhM.eq {y : Q4} (h : WhM s y) (e : ∀ j, 30 ≤ j ∨ j = 3 → gI s' 9 1 j = gI s 9 1 j) : WhM s' y := by
  obtain ⟨a1, a2, a3, a4⟩ := h
  exact ⟨by rw [e 40 (by omega)]; exact a1, by rw [e 41 (by omega)]; exact a2, by rw [e 42 (by omega)]; exact a3, by rw [e 43 (by omega)]; exact a4⟩
theorem X9_islate (h : MI s n S K mo x u) (hA : AbW mo x) {id : Nat} (hid : id < 10) (t : Int32) (hfu : 100 ≤ fu) : f_X9_isLate fu s 1 (nI id) t = some (s, bt (id ∈ xR x ∧ t.toInt < sm n S K (xH x id).toInt (n - 1))) := by
  have e10 : ¬ (1 = 0) := by decide
  obtain ⟨⟨hL, ⟨hPl, hV⟩, ⟨hT, hRW⟩, hH, hP, hW, hTm⟩, -⟩ := h
  have b : inb (nI id) 10 = true := nu_inbn (by omega) (by omega)
  have hn := hV.1
  unfold f_X9_isLate
  simp only [e10, reduceIte, lr_9_1_10 hL, ll_13_1 hL, b, Bool.true_eq_false, nu_ixn (show id < 2147483648 by omega), hT id hid]
  by_cases hin : id ∈ xR x
  · have hb := hA.1 id hin
    have hs := sm_bd hV hb.1 hb.2 (i := n - 1) (by omega)
    simp only [hin, reduceIte, show ¬ (1 : Int32) = 0 from by decide, X9_ls (R := xR x) (P := xP x) (fu := fu) hL hPl hV hH hid hb.1 hb.2 hfu, bI]
    have e : (Int32.ofInt (sm n S K (xH x id).toInt (n - 1))).toInt = sm n S K (xH x id).toInt (n - 1) := nu_of (by omega) (by omega)
    by_cases hc : t.toInt < sm n S K (xH x id).toInt (n - 1)
    · rw [if_neg (fun q => by rw [nu_le, e] at q; omega), bt_t ⟨trivial, hc⟩]
      unfold f_X9_isLate_b23
      rw [if_neg (by rw [zb1]; decide)]
    · rw [if_pos (by rw [nu_le, e]; omega), bt_f (fun q => hc q.2)]
      unfold f_X9_isLate_b22 f_X9_isLate_b23
      rw [if_neg (by rw [zb0]; decide)]
  · simp only [hin, reduceIte, false_and]
    unfold f_X9_isLate_b22 f_X9_isLate_b23
    rw [if_neg (by rw [zb0]; decide), bt_f (fun q => q)]
def nlS (s : St) (id : Nat) : St := sI (sI s 10 24 id (gI s 10 24 id + 1)) 9 1 17 (gI s 9 1 17 + 1)
theorem X9_nl (h : MI s n S K mo x u) {id : Nat} (hin : id ∈ xR x) : MI (nlS s id) n S K mo (ltA x id) u ∧ FP s (nlS s id) ∧ ∀ j, ¬ j = 17 → gI (nlS s id) 9 1 j = gI s 9 1 j := by
  have F : FP s (nlS s id) := (Fx.r10 (a := 24) (by decide) id _).tr (Fx.f9 (j := 17) (by unfold dyn; omega) _)
  have G : ∀ k i j, ¬ (k = 10 ∧ i = 24 ∧ j = id) → ¬ (k = 9 ∧ i = 1 ∧ j = 17) → gI (nlS s id) k i j = gI s k i j := fun k i j h1 h2 => by
    unfold nlS
    rw [gI_sI, if_neg h2, gI_sI, if_neg h1]
  have h' := h
  obtain ⟨⟨a1, a2, ⟨a3, a4⟩, ⟨-, -, a5⟩, a6, a7, a8⟩, b1, ⟨c1, c2, c3, c4, c5⟩, ⟨e1, e2, e3⟩, o⟩ := h
  rw [lr_9_1_11 a1] at a5
  refine ⟨h'.mk' F (o.eq rfl rfl rfl) (fun i hi => by rw [G 13 1 i (by omega) (by omega)]; exact a3 i hi) a4 (fun i hi => by rw [G 10 23 i (by omega) (by omega)]; exact a5 i hi) ?_ a7 a8 (fun i hi => ?_) ⟨rfl, by rw [G 9 1 16 (by omega) (by omega)]; exact c3, ?_, by rw [G 9 1 18 (by omega) (by omega)]; exact c5⟩ ⟨us_pw.mpr ((us_pw.mp e1).imp (fun {a b} q => by rw [G 10 26 a (by omega) (by omega), G 10 26 b (by omega) (by omega)]; exact q)), fun i hi => by rw [G 10 26 i (by omega) (by omega)]; exact e2 i hi, by rw [G 9 1 15 (by omega) (by omega)]; exact e3⟩, F, fun j hj => G 9 1 j (by omega) (by omega)⟩
  · obtain ⟨t1, t2, t3, t4⟩ := a6
    have v19 := (o.1 19 mj19).1
    have v20 := (o.1 20 mj20).1
    have v21 := (o.1 21 mj21).1
    have r : gR (nlS s id) = gR s := rfl
    exact ⟨t1, t2, by rw [G 9 1 22 (by omega) (by omega)]; exact t3, fun i hi j' q hq => by rw [r, G 10 _ _ (by omega) (by omega), G 10 _ _ (by omega) (by omega), G 10 _ _ (by omega) (by omega)]; exact t4 i hi j' q hq⟩
  · have hl := b1 i hi
    show gI (nlS s id) 10 24 i = uph (xT x) id (xT x id + 1) i ∧ gI (nlS s id) 10 25 i = xS x i
    refine ⟨?_, by rw [G 10 25 i (by omega) (by omega)]; exact hl.2⟩
    by_cases c : i = id
    · rw [c, uph_at]
      unfold nlS
      rw [gI_sI, if_neg (by omega), gI_sI, if_pos ⟨rfl, rfl, rfl⟩, ← c, hl.1]
    · rw [uph_ne _ _ c, G 10 24 i (by omega) (by omega)]; exact hl.1
  · show gI (nlS s id) 9 1 17 = (xC x).2.2.1 + 1
    unfold nlS
    rw [gI_sI, if_pos ⟨rfl, rfl, rfl⟩, c4]
/-! the test of the alarm, told -/
theorem al_row (hL : Lay s) (hp : p = 1 ∨ p = 2) : (gR s 2 p 2 = 1 ∧ gR s 0 (gR s 2 p 2) 0 = 14 ∧ gR s 0 (gR s 2 p 2) 1 = 15) ∨ (gR s 2 p 2 = 2 ∧ gR s 0 (gR s 2 p 2) 0 = 18 ∧ gR s 0 (gR s 2 p 2) 1 = 19) := by
  rcases hp with rfl | rfl
  · exact Or.inl ⟨lr_2_1_2 hL, by rw [lr_2_1_2 hL]; exact lr_0_1_0 hL, by rw [lr_2_1_2 hL]; exact lr_0_1_1 hL⟩
  · exact Or.inr ⟨lr_2_2_2 hL, by rw [lr_2_2_2 hL]; exact lr_0_2_0 hL, by rw [lr_2_2_2 hL]; exact lr_0_2_1 hL⟩
theorem AlC.cong {a : Nat} (h : AlC s a L) (r0 : ∀ j, gR s' 0 a j = gR s 0 a j) (l : gL s' 10 (gR s 0 a 0) = gL s 10 (gR s 0 a 0) ∧ gL s' 10 (gR s 0 a 1) = gL s 10 (gR s 0 a 1)) (i0 : gI s' 0 a 2 = gI s 0 a 2) (i1 : ∀ j, gI s' 10 (gR s 0 a 0) j = gI s 10 (gR s 0 a 0) j) (i2 : ∀ j, gI s' 10 (gR s 0 a 1) j = gI s 10 (gR s 0 a 1) j) : AlC s' a L := by
  obtain ⟨a1, a2, a3, a4, a5⟩ := h
  exact ⟨by rw [r0, r0]; exact a1, by rw [r0, r0, l.1, l.2]; exact a2, by rw [i0]; exact a3, fun k o hk => by rw [r0, i1]; exact a4 k o hk, fun k f r v hk => by rw [r0, i2]; exact a5 k f r v hk⟩
theorem AlC.cf (h : AlC s (gR s 2 p 2) L) (hB : Bas s p n S K) (f : CF s s') : AlC s' (gR s' 2 p 2) L := by
  have hL := hB.1.1
  have hN := ln_10 hL
  have ha := al_row hL hB.2.1.1
  have lo := fun (a j : Nat) (h1 : 14 ≤ a ∧ a ≤ 19) => CF.low f hL hB.1.2 (a := a) (by omega) (by omega) j
  rw [f.1 2 p 2 (by decide) (by decide) (by decide) (by decide)]
  exact h.cong (fun j => f.1 0 _ j (by decide) (by decide) (by decide) (by decide)) ⟨f.2.1 10 _ (fun _ => by omega) (by decide), f.2.1 10 _ (fun _ => by omega) (by decide)⟩ (f.2.2.2.1 0 _ 2 (fun q => by omega) (by decide) (by decide) (by omega) (by omega) (by omega)) (fun j => lo _ j (by omega)) (fun j => lo _ j (by omega))
theorem AlC.fp (h : AlC s (gR s 2 p 2) L) (hB : Bas s p n S K) (f : FP s s') (hO : OwnM s) : AlC s' (gR s' 2 p 2) L := by
  have hL := hB.1.1
  have hN := ln_10 hL
  have ha := al_row hL hB.2.1.1
  rw [FP.r f (by decide) (by decide) (by decide)]
  exact h.cong (fun j => FP.r f (by decide) (by decide) (by decide) _ j) ⟨f.2.2.1 10 _ (fun _ => by omega), f.2.2.1 10 _ (fun _ => by omega)⟩ (FP.i f (by decide) (by decide) (by decide) (by decide) _ _) (fun j => FP.crow f hL hO (by omega) j) (fun j => FP.crow f hL hO (by omega) j)
theorem AlM.cf (h : AlM s L) (hB : Bas s p n S K) (f : CF s s') : AlM s' L := by
  have hL := hB.1.1
  have hL' := hL.cf f
  obtain ⟨a1, a2, a3⟩ := h
  refine ⟨by rw [CF.c9 f]; exact a1, a2, fun j v hj => ?_⟩
  rw [lr_9_1_6 hL] at a3
  rw [lr_9_1_6 hL', CF.low f hL hB.1.2 (by omega) (by omega)]
  exact a3 j v hj
theorem AlM.fp (h : AlM s L) (hL : Lay s) (f : FP s s') (hO : OwnM s) : AlM s' L := by
  have hL' := hL.fx f
  obtain ⟨a1, a2, a3⟩ := h
  refine ⟨by rw [FP.fld f (by unfold dyn; omega)]; exact a1, a2, fun j v hj => ?_⟩
  rw [lr_9_1_6 hL] at a3
  rw [lr_9_1_6 hL', FP.row f hO (by omega) (by omega) (ln_10 hL)]
  exact a3 j v hj
end IN1
/-- room that is left for the reference -/
def Rmo (s : St) : Prop := cn s ≤ 427680 + mS s ∧ sn s ≤ 3376800 + 6 * mS s
theorem Rmo.rmm {s s' : St} (h : Rmo s) (f : Rmm s s') : Rmo s' := by
  obtain ⟨a1, a2⟩ := h
  obtain ⟨b1, b2⟩ := f
  exact ⟨by omega, by omega⟩
theorem Rmo.rm {s : St} (h : Rmo s) (hO : OwnM s) : cn s ≤ 587680 ∧ sn s ≤ 4336800 := by
  have hm : mS s ≤ 160000 := by
    have := hO.2.2
    unfold mS
    omega
  obtain ⟨a1, a2⟩ := h
  exact ⟨by omega, by omega⟩
def INV (s : St) (p n : Nat) (S K : Nat → Int) (mo : Nat) (x : Ab) (u l : Nat) (L : List AO) (y : Q4) (g : Nat) : Prop :=
  (CI s p n S K mo x ∧ MI s n S K mo x u ∧ DJ s ∧ AbW mo x) ∧ (AlC s (gR s 2 p 2) L ∧ AlM s L ∧ aoW L) ∧ (WhC s y ∧ WhM s y) ∧ (gI s 8 1 15 = gI s 9 1 33 ∧ gR s 8 1 13 = 3 - p) ∧ Tap s x l ∧ Bd s g
section IN2
variable {s s1 s2 : St} {p n mo u u' l g : Nat} {S K : Nat → Int} {x x' : Ab} {L : List AO} {y y' : Q4}
/-- the class has done its part -/
theorem INV.half (h : INV s p n S K mo x u l L y g) (c1 : CF s s1) (c2 : CI s1 p n S K mo x') (c3 : Rmc s s1) : MI s1 n S K mo x u ∧ DJ s1 ∧ Bd s1 g ∧ Rmo s1 := by
  obtain ⟨⟨hC, hM, hD, hA⟩, -, -, -, -, ⟨b1, b2⟩, b3⟩ := h
  have hO := hM.2.2.2.2
  have hmS := mS_cf hO c1
  have hM1 := hM.cf c1 hC.1.1.2 hD
  have hsk := skn_le c2.1.2.2 10 (Nat.le_refl _)
  obtain ⟨r1, r2⟩ := c3
  refine ⟨hM1, hD.cf c1 hO, ⟨⟨by omega, by omega⟩, b3⟩, by omega, by omega⟩
theorem INV.step (h : INV s p n S K mo x u l L y g) (c1 : CF s s1) (c2 : CI s1 p n S K mo x') (c3 : Rmc s s1) (c4 : WhC s1 y') (r1 : FP s1 s2) (r2 : MI s2 n S K mo x' u') (r3 : Rmm s1 s2) (r4 : WhM s2 y') (hA' : AbW mo x') (hx : (xC x').1 = (xC x).1) : INV s2 p n S K mo x' u' l L y' g := by
  obtain ⟨m1, m2, ⟨⟨b1, b2⟩, b3⟩, -⟩ := h.half c1 c2 c3
  obtain ⟨⟨hC, hM, hD, hA⟩, ⟨a1, a2, a3⟩, -, hf, ⟨t1, t2, t3⟩, -⟩ := h
  have hO1 := m1.2.2.2.2
  have hL := hC.1.1.1
  have hL1 := c2.1.1.1
  have hC2 := c2.fp r1 hO1 m2
  obtain ⟨-, -, hsk⟩ := c2.1.fp r1 hO1 m2
  obtain ⟨q1, q2⟩ := r3
  refine ⟨⟨hC2, r2, m2.fp r1 c2.1.2.2, hA'⟩, ⟨(a1.cf hC.1 c1).fp c2.1 r1 hO1, (a2.cf hC.1 c1).fp hL1 r1 hO1, a3⟩, ⟨fun w hw => ?_, r4⟩, ⟨?_, by rw [FP.r r1 (by decide) (by decide) (by decide), c1.1 8 1 13 (by decide) (by decide) (by decide) (by decide)]; exact hf.2⟩, ⟨hx.trans t1, t2, fun j hj => ?_⟩, ⟨⟨by omega, by omega⟩, b3⟩⟩
  · rw [FP.crow r1 hL1 hO1 (by omega)]; exact c4 w hw
  · rw [FP.i r1 (by decide) (by decide) (by decide) (by decide), FP.fld r1 (by unfold dyn; omega), CF.c9 c1, c1.2.2.2.1 8 1 15 (fun q => by omega) (by decide) (by decide) (by omega) (by omega) (by omega)]
    exact hf.1
  · obtain ⟨b, w1, w2, w3⟩ := t3 j hj
    refine ⟨b, w1, ?_, ?_⟩
    · rw [FP.row r1 hO1 (by omega) (by omega) (ln_10 hL1), CF.low c1 hL hC.1.1.2 (by omega) (by omega)]; exact w2
    · rw [FP.i r1 (by decide) (by decide) (by decide) (by decide), c1.2.2.2.1 12 1 j (fun q => by omega) (by decide) (by decide) (by omega) (by omega) (by omega)]; exact w3
theorem INV.bdg (h : INV s p n S K mo x u l L y g) : Bdg s (g + mS s) (g + 6 * mS s) := by
  obtain ⟨⟨-, hM, -, -⟩, -, -, -, -, ⟨b1, b2⟩, b3⟩ := h
  have hm : mS s ≤ 160000 := by
    have := hM.2.2.2.2.2.2
    unfold mS
    omega
  exact ⟨⟨by omega, by omega⟩, by omega, by omega⟩
end IN2
