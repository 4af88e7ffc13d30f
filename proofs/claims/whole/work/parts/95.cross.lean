/-! ===== a side's calls leave the other side as it is ===== -/
def DJ (s : St) : Prop := ∀ i j j', i < 10 → ¬ gR s 14 1 i = 0 → Jn j → Mj j' → ¬ gR s 5 (gR s 14 1 i) j = gR s 9 1 j'
section CRO
variable {s s' : St} {p n mo u : Nat} {S K : Nat → Int} {x : Ab}
theorem CF.c9 (f : CF s s') (i j : Nat) : gI s' 9 i j = gI s 9 i j := f.2.2.2.1 9 i j (fun q => by omega) (by decide) (by decide) (by omega) (by omega) (by omega)
theorem CF.r9 (f : CF s s') (i j : Nat) : gR s' 9 i j = gR s 9 i j := f.1 9 i j (by decide) (by decide) (by decide) (by decide)
theorem CF.low (f : CF s s') (hL : Lay s) (hS : Sep s) {a : Nat} (ha : a ≤ 38) (h1 : ¬ (a = 5 ∨ a = 6 ∨ a = 9 ∨ a = 10 ∨ a = 11)) (j : Nat) : gI s' 10 a j = gI s 10 a j := by
  have hN := ln_10 hL
  exact f.2.2.2.1 10 a j (fun _ => by omega) (by decide) (by decide) (by omega) (by omega) (fun q => by have := crw_lo hS q.2; omega)
theorem CF.mrw (f : CF s s') (hO : OwnM s) (hD : DJ s) {j : Nat} (hj : Mj j) (m : Nat) : gI s' 10 (gR s 9 1 j) m = gI s 10 (gR s 9 1 j) m := by
  have h1 := hO.1 j hj
  refine f.2.2.2.1 10 _ m (fun _ => h1.2.1) (by decide) (by decide) (by omega) (by omega) (fun q => ?_)
  rcases q.2 with w | ⟨i, j', hi, h0, hj', e⟩
  · omega
  · exact hD i j' j hi h0 hj' hj e.symm
theorem CF.ml (f : CF s s') (hO : OwnM s) {j : Nat} (hj : Mj j) : gL s' 10 (gR s' 9 1 j) = gL s 10 (gR s 9 1 j) := by
  rw [CF.r9 f]
  exact f.2.1 10 _ (fun _ => (hO.1 j hj).2.1) (by decide)
theorem OwnM.cf (hO : OwnM s) (f : CF s s') : OwnM s' := by
  have hn := (f.2.2.1 10).1
  have hml := fun {j : Nat} (hj : Mj j) => CF.ml f hO hj
  obtain ⟨o1, o2, o3, o4⟩ := hO
  refine ⟨fun j hj => by have := o1 j hj; rw [CF.r9 f]; omega, fun j j' hj hj' e => o2 j j' hj hj' (by rw [CF.r9 f, CF.r9 f] at e; exact e), ?_, ?_⟩
  · rw [hml mj19, hml mj20, hml mj21]; exact o3
  · rw [hml mj46, hml mj47, hml mj48]; exact o4
theorem mS_cf (hO : OwnM s) (f : CF s s') : mS s' = mS s := by unfold mS; rw [CF.ml f hO mj19, CF.ml f hO mj46]
theorem MI.cf (h : MI s n S K mo x u) (f : CF s s') (hS : Sep s) (hD : DJ s) : MI s' n S K mo x u := by
  obtain ⟨⟨hL, ⟨⟨p1, p2, p3, p4⟩, hV⟩, ⟨hT, hRW⟩, ⟨d1, d2, d3⟩, ⟨t1, t2, t3, t4⟩, hW, hTm⟩, hLt, ⟨k1, k2, k3, k4, k5⟩, ⟨hU1, hU2, hU3⟩, hO⟩ := h
  have hL' := hL.cf f
  have low := fun (a j : Nat) (ha : 20 ≤ a ∧ a ≤ 38) => CF.low f hL hS (a := a) (by omega) (by omega) j
  have g9 := fun (j : Nat) => CF.c9 f 1 j
  rw [lr_9_1_4 hL, lr_9_1_5 hL] at p4
  rw [lr_9_1_11 hL] at d3
  refine ⟨⟨hL', ⟨⟨by rw [lr_9_1_4 hL', lr_9_1_5 hL']; decide, by rw [lr_9_1_4 hL', lr_9_1_5 hL', ll_10_20 hL', ll_10_21 hL']; decide, by rw [g9]; exact p3, fun i hi => by rw [lr_9_1_4 hL', lr_9_1_5 hL', low 20 i (by omega), low 21 i (by omega)]; exact p4 i hi⟩, hV⟩, ⟨fun i hi => ?_, hRW⟩, ⟨by rw [lr_9_1_11 hL']; decide, by rw [lr_9_1_11 hL', ll_10_23 hL'], fun i hi => by rw [lr_9_1_11 hL', low 23 i (by omega)]; exact d3 i hi⟩, ⟨?_, ?_, by rw [g9]; exact t3, fun i hi j q hq => ?_⟩, hW, hTm⟩, fun i hi => by rw [low 24 i (by omega), low 25 i (by omega)]; exact hLt i hi, ⟨by rw [g9]; exact k1, by rw [g9]; exact k2, by rw [g9]; exact k3, by rw [g9]; exact k4, by rw [g9]; exact k5⟩, ⟨us_pw.mpr ((us_pw.mp hU1).imp (fun {a b} q => by rw [low 26 a (by omega), low 26 b (by omega)]; exact q)), fun i hi => by rw [low 26 i (by omega)]; exact hU2 i hi, by rw [g9]; exact hU3⟩, hO.cf f⟩
  · rw [f.2.2.2.1 13 1 i (fun q => by omega) (by decide) (by decide) (by omega) (by omega) (by omega)]; exact hT i hi
  · rw [CF.r9 f, CF.r9 f, CF.r9 f]; exact t1
  · rw [CF.ml f hO mj19, CF.ml f hO mj20, CF.ml f hO mj21]; exact t2
  · rw [CF.r9 f, CF.r9 f, CF.r9 f, CF.mrw f hO hD mj19, CF.mrw f hO hD mj20, CF.mrw f hO hD mj21]
    exact t4 i hi j q hq
theorem DJ.cf (hD : DJ s) (f : CF s s') (hO : OwnM s) : DJ s' := fun i j j' hi h0 hj hj' e => by
  rw [CF.r9 f] at e
  have h1 := hO.1 j' hj'
  rcases f.2.2.2.2.2.1 (gR s' 5 (gR s' 14 1 i) j) (Or.inr ⟨i, j, hi, h0, hj, rfl⟩) with q | q
  · rcases q with w | ⟨i2, j2, hi2, h02, hj2, e2⟩
    · omega
    · exact hD i2 j2 j' hi2 h02 hj2 hj' (by rw [← e2, e])
  · omega
/-! the reference acts -/
theorem FP.r (f : FP s s') {k : Nat} (h9 : ¬ k = 9) (h10 : ¬ k = 10) (h11 : ¬ k = 11) (i j : Nat) : gR s' k i j = gR s k i j := f.1 k i j (fun q => by omega) (fun q => h9 q.1)
theorem FP.i (f : FP s s') {k : Nat} (h9 : ¬ k = 9) (h10 : ¬ k = 10) (h11 : ¬ k = 11) (h13 : ¬ k = 13) (i j : Nat) : gI s' k i j = gI s k i j := f.2.2.2.2.1 k i j (fun q => by omega) (fun q => h9 q.1) (fun q => h13 q.1) (fun q => h10 q.1)
theorem FP.crow (f : FP s s') (hL : Lay s) (hO : OwnM s) {a : Nat} (ha : a ≤ 19) (j : Nat) : gI s' 10 a j = gI s 10 a j := FP.row f hO (by omega) (by omega) (ln_10 hL) j
theorem OwnA.lt10 (hO : OwnA s) {i j : Nat} (hi : i < 10) (h0 : ¬ gR s 14 1 i = 0) (hj : Jn j) : gR s 5 (gR s 14 1 i) j ≤ gN s 10 := by
  obtain ⟨c0, e0, h2, -⟩ := hO.1 i hi h0
  exact (h2.2.1 j hj).2
theorem OwnA.lt11 (hO : OwnA s) {i : Nat} (hi : i < 10) (h0 : ¬ gR s 14 1 i = 0) : gR s 5 (gR s 14 1 i) 5 ≤ gN s 11 := by
  obtain ⟨c0, e0, h2, -⟩ := hO.1 i hi h0
  exact h2.2.2.1.2
theorem FP.srow (f : FP s s') (hS : Sep s) (hA : OwnA s) (hD : DJ s) {i j : Nat} (hi : i < 10) (h0 : ¬ gR s 14 1 i = 0) (hj : Jn j) (m : Nat) : gI s' 10 (gR s 5 (gR s 14 1 i) j) m = gI s 10 (gR s 5 (gR s 14 1 i) j) m := by
  have h1 := hS.1 i j hi h0 hj
  refine f.2.2.2.2.1 10 _ m (fun _ => hA.lt10 hi h0 hj) (fun q => absurd q.1 (by decide)) (fun q => absurd q.1 (by decide)) (fun q => ?_)
  rcases q.2 with w | w | w | w
  · have : 23 ≤ gR s 5 (gR s 14 1 i) j ∧ gR s 5 (gR s 14 1 i) j ≤ 26 := w
    omega
  · exact hD i j 19 hi h0 hj mj19 w
  · exact hD i j 20 hi h0 hj mj20 w
  · exact hD i j 21 hi h0 hj mj21 w
theorem Bas.fp (h : Bas s p n S K) (f : FP s s') (hO : OwnM s) (hD : DJ s) : Bas s' p n S K ∧ (∀ h0 L i, i < 10 → SerI s p n S K h0 L i → SerI s' p n S K h0 L i) ∧ skn s' 10 = skn s 10 := by
  obtain ⟨⟨hL, hS⟩, ⟨hp, hp12, ⟨p0, p1, p2, p3, p4⟩, hV⟩, hA⟩ := h
  have hL' := hL.fx f
  have hlo := pl_lo hL hp
  have r14 := fun (i : Nat) => FP.r f (k := 14) (by decide) (by decide) (by decide) 1 i
  have r5 := fun (o j : Nat) => FP.r f (k := 5) (by decide) (by decide) (by decide) o j
  have r2 := fun (j : Nat) => FP.r f (k := 2) (by decide) (by decide) (by decide) p j
  have l10 : ∀ i j, i < 10 → ¬ gR s 14 1 i = 0 → Jn j → gL s' 10 (gR s 5 (gR s 14 1 i) j) = gL s 10 (gR s 5 (gR s 14 1 i) j) := fun i j hi h0 hj => f.2.2.1 10 _ (fun _ => hA.lt10 hi h0 hj)
  have l11 : ∀ i, i < 10 → ¬ gR s 14 1 i = 0 → gL s' 11 (gR s 5 (gR s 14 1 i) 5) = gL s 11 (gR s 5 (gR s 14 1 i) 5) := fun i hi h0 => f.2.2.1 11 _ (fun _ => hA.lt11 hi h0)
  have hN := ln_10 hL
  have hPl' : PlC s' p n S K := by
    refine ⟨p0, by rw [r2, r2]; exact p1, by rw [r2, r2, f.2.2.1 10 _ (fun _ => by omega), f.2.2.1 10 _ (fun _ => by omega)]; exact p2, by rw [FP.i f (by decide) (by decide) (by decide) (by decide)]; exact p3, fun i hi => ?_⟩
    rw [r2, r2, FP.crow f hL hO (by omega), FP.crow f hL hO (by omega)]
    exact p4 i hi
  refine ⟨⟨⟨hL', fun i j hi h0 hj => ?_, fun i i' j j' hi hi' h0 h0' hj hj' e => ?_⟩, ⟨hp, by rw [FP.r f (by decide) (by decide) (by decide)]; exact hp12, hPl', hV⟩, fun i hi h0 => ?_, fun i i' hi hi' h0 h0' => ?_⟩, fun h0 L i hi hI => ?_, ?_⟩
  · rw [r14] at h0 ⊢
    rw [r5]; exact hS.1 i j hi h0 hj
  · rw [r14] at h0 h0'
    rw [r14, r14, r5, r5] at e
    exact hS.2 i i' j j' hi hi' h0 h0' hj hj' e
  · rw [r14] at h0 ⊢
    obtain ⟨c0, e0, h2, h3⟩ := hA.1 i hi h0
    exact ⟨c0, e0, h2.cong (fun j => r5 _ j) ⟨(f.2.2.2.1 5).1, (f.2.2.2.1 10).1, (f.2.2.2.1 11).1⟩ (fun j hj => l10 i j hi h0 hj) (l11 i hi h0), h3⟩
  · rw [r14] at h0 h0'
    rw [r14, r14, r5, r5]
    exact hA.2 i i' hi hi' h0 h0'
  · obtain ⟨h00, GG, g1, g2, g3⟩ := hI
    refine ⟨by rw [r14]; exact h00, GG, g1, g2, ?_⟩
    rw [r14]
    exact g3.cong hPl' (fun j => r5 _ j) (FP.i f (by decide) (by decide) (by decide) (by decide) _ _) (fun j hj => l10 i j hi h00 hj) (l11 i hi h00) (fun j m hj => FP.srow f hS hA hD hi h00 hj m) (fun m => f.2.2.2.2.2 11 _ m (fun _ => hA.lt11 hi h00) (by decide))
  · refine skn_eq (fun i hi => ?_) 10 (Nat.le_refl _)
    unfold kS
    rw [r14]
    by_cases h0 : gR s 14 1 i = 0
    · rw [if_pos h0, if_pos h0]
    · rw [if_neg h0, if_neg h0, r5, l10 i 3 hi h0 jn3]
theorem CI.fp (h : CI s p n S K mo x) (f : FP s s') (hO : OwnM s) (hD : DJ s) : CI s' p n S K mo x := by
  obtain ⟨hB, ⟨hR, hRW⟩, hSer, hLt, ⟨k1, k2, k3, k4, k5⟩⟩ := h
  obtain ⟨b1, b2, -⟩ := hB.fp f hO hD
  have hL := hB.1.1
  have i8 := fun (j : Nat) => FP.i f (k := 8) (by decide) (by decide) (by decide) (by decide) 1 j
  refine ⟨b1, ⟨hR.cong hL b1.1.1 (FP.i f (by decide) (by decide) (by decide) (by decide) _ _) (fun j => FP.crow f hL hO (by omega) j) (fun j => FP.crow f hL hO (by omega) j), hRW⟩, fun i hi => b2 _ _ i (hRW.2.1 i hi) (hSer i hi), fun i hi => ?_, ⟨by rw [FP.i f (by decide) (by decide) (by decide) (by decide)]; exact k1, by rw [i8]; exact k2, by rw [i8]; exact k3, by rw [i8]; exact k4, by rw [i8]; exact k5⟩⟩
  rw [FP.r f (by decide) (by decide) (by decide), FP.i f (by decide) (by decide) (by decide) (by decide), FP.i f (by decide) (by decide) (by decide) (by decide)]
  exact hLt i hi
theorem DJ.fp (hD : DJ s) (f : FP s s') (hA : OwnA s) : DJ s' := fun i j j' hi h0 hj hj' e => by
  rw [FP.r f (by decide) (by decide) (by decide)] at h0 e
  rw [FP.r f (by decide) (by decide) (by decide)] at e
  have h1 := hA.lt10 hi h0 hj
  have h2 : gR s' 9 1 j' = gR s 9 1 j' ∨ gN s 10 < gR s' 9 1 j' := by
    by_cases c : 19 ≤ j' ∧ j' ≤ 21
    · rcases f.2.1 j' c.1 c.2 with q | q
      · exact Or.inl q
      · exact Or.inr q.1
    · exact Or.inl (f.1 9 1 j' (fun q => by omega) (fun q => c q.2))
  rcases h2 with q | q
  · exact hD i j j' hi h0 hj hj' (by rw [← q]; exact e)
  · omega
end CRO
