/-! ===== calls that change neither series nor plan ===== -/
abbrev SameS (s s' : St) : Prop := gR s' = gR s ∧ gL s' = gL s ∧ gN s' = gN s
def tpA (x : Ab) (v : Int32) : Ab := (xR x, xH x, xP x, xT x, xS x, (v, (xC x).2))
def CIe (s s' : St) (p : Nat) : Prop := (∀ o j, gI s' 5 o j = gI s 5 o j) ∧ (∀ j, gI s' 2 p j = gI s 2 p j) ∧ gI s' 4 1 2 = gI s 4 1 2 ∧ (∀ j, 16 ≤ j → j ≤ 18 → gI s' 8 1 j = gI s 8 1 j) ∧ (∀ a j, a = 5 ∨ a = 6 ∨ a = gR s 2 p 0 ∨ a = gR s 2 p 1 ∨ 38 < a → gI s' 10 a j = gI s 10 a j) ∧ ∀ i j, gJ s' 11 i j = gJ s 11 i j
def MIe (s s' : St) : Prop := (∀ j, j = 7 ∨ j = 8 ∨ (15 ≤ j ∧ j ≤ 18) ∨ j = 22 → gI s' 9 1 j = gI s 9 1 j) ∧ (∀ j, gI s' 13 1 j = gI s 13 1 j) ∧ ∀ a j, a = 20 ∨ a = 21 ∨ (23 ≤ a ∧ a ≤ 26) ∨ PR s a → gI s' 10 a j = gI s 10 a j
section GEN
variable {s s' s2 : St} {p n mo u l g fu : Nat} {S K : Nat → Int} {x : Ab} {L : List AO} {y : Q4}
theorem CIe.tr (h : CIe s s' p) (e : SameS s s') (h' : CIe s' s2 p) : CIe s s2 p := by
  obtain ⟨a1, a2, a3, a4, a5, a6⟩ := h
  obtain ⟨b1, b2, b3, b4, b5, b6⟩ := h'
  rw [e.1] at b5
  exact ⟨fun o j => (b1 o j).trans (a1 o j), fun j => (b2 j).trans (a2 j), b3.trans a3, fun j h1 h2 => (b4 j h1 h2).trans (a4 j h1 h2), fun a j ha => (b5 a j ha).trans (a5 a j ha), fun i j => (b6 i j).trans (a6 i j)⟩
theorem Bas.gen (h : Bas s p n S K) (e : SameS s s') (c : CIe s s' p) : Bas s' p n S K := by
  obtain ⟨⟨hL, hS⟩, ⟨hp, hp12, ⟨p0, p1, p2, p3, p4⟩, hV⟩, hO⟩ := h
  obtain ⟨e1, e2, e3⟩ := e
  obtain ⟨a1, a2, a3, a4, a5, a6⟩ := c
  refine ⟨⟨hL.same e1 e2 e3, hS.eq e1⟩, ⟨hp, by rw [e1]; exact hp12, ⟨p0, by rw [e1]; exact p1, by rw [e1, e2]; exact p2, by rw [a2]; exact p3, fun i hi => ?_⟩, hV⟩, ?_⟩
  · rw [e1, a5 _ i (Or.inr (Or.inr (Or.inl rfl))), a5 _ i (Or.inr (Or.inr (Or.inr (Or.inl rfl))))]; exact p4 i hi
  · unfold OwnA OwnC
    rw [e1, e2, e3]
    exact hO
theorem CI.gen (h : CI s p n S K mo x) (e : SameS s s') (c : CIe s s' p) : CI s' p n S K mo (tpA x (gI s' 8 1 14)) := by
  obtain ⟨hB, ⟨hR, hRW⟩, hSer, hLt, ⟨k1, k2, k3, k4, k5⟩⟩ := h
  have hB' := hB.gen e c
  have hS := hB.1.2
  obtain ⟨a1, a2, a3, a4, a5, a6⟩ := c
  refine ⟨hB', ⟨hR.cong hB.1.1 hB'.1.1 a3 (fun j => a5 5 j (Or.inl rfl)) (fun j => a5 6 j (Or.inr (Or.inl rfl))), hRW⟩, fun i hi => (hSer i hi).keep hB'.2.1.2.2.1 ⟨e.1, e.2.1⟩ (a1 _ 8) (fun j m hj => a5 _ m (Or.inr (Or.inr (Or.inr (Or.inr (hS.1 i j (hRW.2.1 i hi) (hSer i hi).1 hj)))))) (fun m => a6 _ m), fun i hi => ?_, ⟨by rw [a2]; exact k1, rfl, by rw [a4 16 (by omega) (by omega)]; exact k3, by rw [a4 17 (by omega) (by omega)]; exact k4, by rw [a4 18 (by omega) (by omega)]; exact k5⟩⟩
  rw [e.1, a1, a1]
  exact hLt i hi
theorem MI.gen (h : MI s n S K mo x u) (e : SameS s s') (c : MIe s s') : MI s' n S K mo (tpA x (gI s' 9 1 24)) u := by
  obtain ⟨⟨hL, ⟨⟨p1, p2, p3, p4⟩, hV⟩, ⟨hT, hRW⟩, ⟨d1, d2, d3⟩, ⟨t1, t2, t3, t4⟩, hW, hTm⟩, hLt, ⟨k1, k2, k3, k4, k5⟩, ⟨hU1, hU2, hU3⟩, hO⟩ := h
  obtain ⟨e1, e2, e3⟩ := e
  obtain ⟨a1, a2, a3⟩ := c
  have hL' := hL.same e1 e2 e3
  rw [lr_9_1_4 hL, lr_9_1_5 hL] at p4
  rw [lr_9_1_11 hL] at d3
  have r : ∀ a j, 23 ≤ a → a ≤ 26 → gI s' 10 a j = gI s 10 a j := fun a j h1 h2 => a3 a j (Or.inr (Or.inr (Or.inl ⟨h1, h2⟩)))
  refine ⟨⟨hL', ⟨⟨by rw [e1]; exact p1, by rw [e1, e2]; exact p2, by rw [a1 7 (by omega)]; exact p3, fun i hi => ?_⟩, hV⟩, ⟨fun i hi => by rw [a2]; exact hT i hi, hRW⟩, ⟨by rw [e1]; exact d1, by rw [e1, e2]; exact d2, fun i hi => by rw [lr_9_1_11 hL', r 23 i (by omega) (by omega)]; exact d3 i hi⟩, ⟨by rw [e1]; exact t1, by rw [e1, e2]; exact t2, by rw [a1 22 (by omega)]; exact t3, fun i hi j q hq => ?_⟩, hW, hTm⟩, fun i hi => by rw [r 24 i (by omega) (by omega), r 25 i (by omega) (by omega)]; exact hLt i hi, ⟨by rw [a1 8 (by omega)]; exact k1, rfl, by rw [a1 16 (by omega)]; exact k3, by rw [a1 17 (by omega)]; exact k4, by rw [a1 18 (by omega)]; exact k5⟩, ⟨us_pw.mpr ((us_pw.mp hU1).imp (fun {a b} q => by rw [r 26 a (by omega) (by omega), r 26 b (by omega) (by omega)]; exact q)), fun i hi => by rw [r 26 i (by omega) (by omega)]; exact hU2 i hi, by rw [a1 15 (by omega)]; exact hU3⟩, hO.eq e1 e2 e3⟩
  · rw [lr_9_1_4 hL', lr_9_1_5 hL', a3 20 i (by omega), a3 21 i (by omega)]; exact p4 i hi
  · rw [e1, a3 _ _ (Or.inr (Or.inr (Or.inr (Or.inl rfl)))), a3 _ _ (Or.inr (Or.inr (Or.inr (Or.inr (Or.inl rfl))))), a3 _ _ (Or.inr (Or.inr (Or.inr (Or.inr (Or.inr rfl)))))]
    exact t4 i hi j q hq
theorem DJ.eq (h : DJ s) (e : gR s' = gR s) : DJ s' := by unfold DJ; rw [e]; exact h
theorem Bd.eq (h : Bd s g) (e : SameS s s') {c : Nat} (h1 : cn s' ≤ cn s + c) (h2 : sn s' ≤ sn s + c) (hg : g + c ≤ 100000) : Bd s' (g + c) := by
  obtain ⟨⟨a1, a2⟩, a3⟩ := h
  have q1 : skn s' 10 = skn s 10 := skn_eq (fun i _ => by unfold kS; rw [e.1, e.2.1]) 10 (Nat.le_refl _)
  have q2 : mS s' = mS s := by unfold mS; rw [e.1, e.2.1]
  exact ⟨⟨by omega, by omega⟩, hg⟩
theorem AbW.tp (h : AbW mo x) (v : Int32) : AbW mo (tpA x v) := h
/-- both sides change nothing but tape, scratch, words -/
theorem INV.gen (h : INV s p n S K mo x u l L y g) (e : SameS s s') (c : CIe s s' p) (m : MIe s s') {l' : Nat} {y' : Q4} {cc : Nat} (h14 : gI s' 8 1 14 = nI l') (h24 : gI s' 9 1 24 = nI l') (hl : l' ≤ 600) (htp : ∀ j, j < l' → ∃ b, b < 256 ∧ gI s' 10 30 j = nI b ∧ gI s' 12 1 j = sb b)
    (hA0 : gI s' 0 (gR s 2 p 2) 2 = gI s 0 (gR s 2 p 2) 2) (hA1 : ∀ j, gI s' 10 (gR s 0 (gR s 2 p 2) 0) j = gI s 10 (gR s 0 (gR s 2 p 2) 0) j) (hA2 : ∀ j, gI s' 10 (gR s 0 (gR s 2 p 2) 1) j = gI s 10 (gR s 0 (gR s 2 p 2) 1) j) (hA3 : gI s' 9 1 9 = gI s 9 1 9) (hA4 : ∀ j, gI s' 10 22 j = gI s 10 22 j)
    (hw : WhC s' y' ∧ WhM s' y') (hf : gI s' 8 1 15 = gI s' 9 1 33) (h1 : cn s' ≤ cn s + cc) (h2 : sn s' ≤ sn s + cc) (hg : g + cc ≤ 100000) : INV s' p n S K mo (tpA x (nI l')) u l' L y' (g + cc) := by
  obtain ⟨⟨hC, hM, hD, hA⟩, ⟨a1, a2, a3⟩, -, ⟨-, h13⟩, -, hb⟩ := h
  have hL := hC.1.1.1
  have c2 := hC.gen e c
  have m2 := hM.gen e m
  rw [h14] at c2
  rw [h24] at m2
  refine ⟨⟨c2, m2, hD.eq e.1, hA.tp _⟩, ⟨?_, ?_, a3⟩, hw, ⟨hf, by rw [e.1]; exact h13⟩, ⟨rfl, hl, htp⟩, hb.eq e h1 h2 hg⟩
  · rw [e.1]
    exact a1.cong (fun j => by rw [e.1]) ⟨by rw [e.2.1], by rw [e.2.1]⟩ hA0 hA1 hA2
  · exact a2.hw e.1 hA3 (fun j => by rw [lr_9_1_6 hL]; exact hA4 j)
theorem P_feed (h : INV s p n S K mo x u l L y g) (a b c d e : Int32) (hfu : 100 ≤ fu) :
    ∃ s1 s2 w x' l', f_X8_feed fu s 1 a b c d e = some (s1, w) ∧ f_X9_feed fu s1 1 a b c d e = some (s2, w) ∧ INV s2 p n S K mo x' u l' L y g ∧ xP x' = xP x ∧ l' ≤ l + 20 := by
  have h' := h
  obtain ⟨⟨hC, hM, hD, hA⟩, -, ⟨w1, w2⟩, hf, ⟨t1, t2, t3⟩, hb⟩ := h
  have hL := hC.1.1.1
  have hB := hC.1
  have h14 : gI s 8 1 14 = nI l := hC.2.2.2.2.2.1.trans t1
  have h24 : gI s 9 1 24 = nI l := hM.2.2.1.2.1.trans t1
  have hplo := pl_lo hL hB.2.1.1
  have halo := al_row hL hB.2.1.1
  rw [X8_feed hL t2 h14 a b c d e hfu]
  by_cases hl : l ≤ 580
  · rw [if_pos hl]
    obtain ⟨⟨p1, p2, p3, p4, p5, p6⟩, p7, p8, p9⟩ := pN_f 12 1 8 14 (by decide) (by20 a b c d e) s l
    have hlen : (by20 a b c d e).length = 20 := rfl
    generalize hs1 : pN 12 1 8 14 s l (by20 a b c d e) = s1 at p1 p2 p3 p4 p5 p6 p7 p8 p9
    have hL1 := hL.same p1 p2 p3
    have g24 : gI s1 9 1 24 = nI l := by rw [p7 9 1 24 (by omega) (by omega)]; exact h24
    obtain ⟨⟨q1, q2, q3, q4, q5, q6⟩, q7, q8, q9⟩ := pN_f 10 30 9 24 (by decide) (fbl (fun k => nI (fby a b c d e k)) 20 0) (sI s1 9 1 3 0) l
    have hlen2 : (fbl (fun k => nI (fby a b c d e k)) 20 0).length = 20 := rfl
    refine ⟨s1, pN 10 30 9 24 (sI s1 9 1 3 0) l (fbl (fun k => nI (fby a b c d e k)) 20 0), nI (l + 20), tpA x (nI (l + 20)), l + 20, rfl, ?_, ?_, rfl, Nat.le_refl _⟩
    · rw [X9_feed hL1 t2 g24 a b c d e hfu, if_pos hl]
    · generalize hs2 : pN 10 30 9 24 (sI s1 9 1 3 0) l (fbl (fun k => nI (fby a b c d e k)) 20 0) = s2 at q1 q2 q3 q4 q5 q6 q7 q8 q9
      have G : ∀ k i j, ¬ (k = 10 ∧ i = 30) → ¬ (k = 9 ∧ i = 1 ∧ (j = 24 ∨ j = 3)) → ¬ (k = 12 ∧ i = 1) → ¬ (k = 8 ∧ i = 1 ∧ j = 14) → gI s2 k i j = gI s k i j := fun k i j h1 h2 h3 h4 => by
        rw [q7 k i j h1 (fun q => h2 ⟨q.1, q.2.1, Or.inl q.2.2⟩), gI_sI, if_neg (fun q => h2 ⟨q.1, q.2.1, Or.inr q.2.2⟩), p7 k i j h3 h4]
      have e : SameS s s2 := ⟨q1.trans p1, q2.trans p2, q3.trans p3⟩
      have fbg : ∀ (f : Nat → Int32) (r k m : Nat), m < r → (fbl f r k).getD m 0 = f (k + m) := by
        intro f r
        induction r with
        | zero => intro k m hm; omega
        | succ r ih =>
          intro k m hm
          cases m with
          | zero => rfl
          | succ m =>
            show (fbl f r (k + 1)).getD m 0 = _
            rw [ih (k + 1) m (by omega)]
            congr 1
            omega
      have hPR : ∀ a, PR s a → ¬ a = 30 := fun a ha => by have := hM.2.2.2.2.pr ha; omega
      refine h'.gen (cc := 0) e ⟨fun o j => G 5 o j (by omega) (by omega) (by omega) (by omega), fun j => G 2 p j (by omega) (by omega) (by omega) (by omega), G 4 1 2 (by omega) (by omega) (by omega) (by omega), fun j h1 h2 => G 8 1 j (by omega) (by omega) (by omega) (by omega), fun a j ha => G 10 a j (by omega) (by omega) (by omega) (by omega), fun i j => by rw [q6]; show gJ s1 11 i j = _; rw [p6]⟩ ⟨fun j hj => G 9 1 j (by omega) (by omega) (by omega) (by omega), fun j => G 13 1 j (by omega) (by omega) (by omega) (by omega), fun a j ha => G 10 a j (fun q => by
          rcases ha with w | w | w | w
          · omega
          · omega
          · omega
          · exact hPR a w q.2) (by omega) (by omega) (by omega)⟩ ?_ (by rw [q9 (by rw [gI_sI, if_neg (by omega)]; exact g24), hlen2]) (by omega) (fun j hj => ?_) (G 0 _ 2 (by omega) (by omega) (by omega) (by omega)) (fun j => G 10 _ j (by omega) (by omega) (by omega) (by omega)) (fun j => G 10 _ j (by omega) (by omega) (by omega) (by omega)) (G 9 1 9 (by omega) (by omega) (by omega) (by omega)) (fun j => G 10 22 j (by omega) (by omega) (by omega) (by omega)) ⟨fun w hw => by rw [G 10 11 w (by omega) (by omega) (by omega) (by omega)]; exact w1 w hw, ?_⟩ (by rw [G 8 1 15 (by omega) (by omega) (by omega) (by omega), G 9 1 33 (by omega) (by omega) (by omega) (by omega)]; exact hf.1) (by rw [q4]; show cn s1 ≤ _; omega) (by rw [q5]; show sn s1 ≤ _; omega) hb.2
      · rw [q7 8 1 14 (by omega) (by omega), gI_sI, if_neg (by omega), p9 h14, hlen]
      · have z12 : gI (sI s1 9 1 3 0) 12 1 j = gI s1 12 1 j := by rw [gI_sI, if_neg (by omega)]
        have z30 : gI (sI s1 9 1 3 0) 10 30 j = gI s1 10 30 j := by rw [gI_sI, if_neg (by omega)]
        rw [q8 j, q7 12 1 j (by omega) (by omega), z12, z30, p8 j, hlen, hlen2]
        by_cases c1 : l ≤ j ∧ j < l + 20
        · rw [if_pos c1, if_pos c1, by20_e, fbg _ 20 0 (j - l) (by omega), fbg _ 20 0 (j - l) (by omega)]
          exact ⟨_, wy_lt _ _, rfl, rfl⟩
        · rw [if_neg c1, if_neg c1, p7 10 30 j (by omega) (by omega)]
          exact t3 j (by omega)
      · obtain ⟨z1, z2, z3, z4⟩ := w2
        exact ⟨by rw [G 9 1 40 (by omega) (by omega) (by omega) (by omega)]; exact z1, by rw [G 9 1 41 (by omega) (by omega) (by omega) (by omega)]; exact z2, by rw [G 9 1 42 (by omega) (by omega) (by omega) (by omega)]; exact z3, by rw [G 9 1 43 (by omega) (by omega) (by omega) (by omega)]; exact z4⟩
  · rw [if_neg hl]
    refine ⟨s, sI s 9 1 3 0, -1, x, l, rfl, ?_, ?_, rfl, by omega⟩
    · rw [X9_feed hL t2 h24 a b c d e hfu, if_neg hl]
    · refine h'.step (CF.rf s) hC (Rmc.rf s) w1 (Fx.f9 (dyw wh3) 0) (hM.f9 wh3 0) (Rmm.eq rfl rfl rfl rfl) ?_ hA rfl
      obtain ⟨z1, z2, z3, z4⟩ := w2
      exact ⟨by rw [gI_sI, if_neg (by omega)]; exact z1, by rw [gI_sI, if_neg (by omega)]; exact z2, by rw [gI_sI, if_neg (by omega)]; exact z3, by rw [gI_sI, if_neg (by omega)]; exact z4⟩
end GEN
