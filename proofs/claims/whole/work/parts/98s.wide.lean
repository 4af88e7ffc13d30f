/-! ===== what the reference may write at most, and rows laid aside ===== -/
def MW (s : St) (i : Nat) : Prop := ∃ j, Mj j ∧ i = gR s 9 1 j
def FW (s s' : St) : Prop :=
  (∀ k i j, nwk s k i → ¬ (k = 9 ∧ Mj j) → gR s' k i j = gR s k i j) ∧
  (∀ j, Mj j → gR s' 9 1 j = gR s 9 1 j ∨ (gN s 10 < gR s' 9 1 j ∧ gR s' 9 1 j ≤ gN s' 10)) ∧
  (∀ k i, nwk s k i → gL s' k i = gL s k i) ∧ (∀ k, gN s k ≤ gN s' k ∧ (¬ k = 10 → gN s' k = gN s k)) ∧
  (∀ k i j, nwk s k i → ¬ k = 9 → ¬ k = 13 → ¬ (k = 10 ∧ ((20 ≤ i ∧ i ≤ 38) ∨ MW s i)) → gI s' k i j = gI s k i j) ∧
  ∀ k i j, nwk s k i → ¬ k = 9 → gJ s' k i j = gJ s k i j
/-- rows 46 to 48 made longer, and what is laid aside -/
def AR (s : St) (a : Nat) : Prop := a = gR s 9 1 46 ∨ a = gR s 9 1 47 ∨ a = gR s 9 1 48
def LaF (s s' : St) : Prop :=
  (∀ k i j, nwk s k i → ¬ (k = 9 ∧ 46 ≤ j ∧ j ≤ 48) → gR s' k i j = gR s k i j) ∧
  (∀ j, 46 ≤ j → j ≤ 48 → gR s' 9 1 j = gR s 9 1 j ∨ (gN s 10 < gR s' 9 1 j ∧ gR s' 9 1 j ≤ gN s' 10)) ∧
  (∀ k i, nwk s k i → gL s' k i = gL s k i) ∧ (∀ k, gN s k ≤ gN s' k ∧ (¬ k = 10 → gN s' k = gN s k)) ∧
  (∀ k i j, nwk s k i → ¬ (k = 13 ∧ i = 2) → ¬ (k = 10 ∧ (i = 38 ∨ AR s i)) → gI s' k i j = gI s k i j) ∧
  ∀ k i j, nwk s k i → gJ s' k i j = gJ s k i j
theorem LaF.rf (s : St) : LaF s s := ⟨fun _ _ _ _ _ => rfl, fun _ _ _ => Or.inl rfl, fun _ _ _ => rfl, fun _ => ⟨Nat.le_refl _, fun _ => rfl⟩, fun _ _ _ _ _ _ => rfl, fun _ _ _ _ => rfl⟩
theorem LaF.ar {s t : St} (h : LaF s t) {i : Nat} (hi : i ≤ gN s 10) (hp : AR t i) : AR s i := by
  have g : ∀ j, 46 ≤ j → j ≤ 48 → i = gR t 9 1 j → i = gR s 9 1 j := fun j h1 h2 e => by
    rcases h.2.1 j h1 h2 with q | q
    · rw [e, q]
    · omega
  rcases hp with q | q | q
  · exact Or.inl (g 46 (by omega) (by omega) q)
  · exact Or.inr (Or.inl (g 47 (by omega) (by omega) q))
  · exact Or.inr (Or.inr (g 48 (by omega) (by omega) q))
theorem LaF.tr {s t u : St} (h : LaF s t) (h' : LaF t u) : LaF s u := by
  have hpr := fun {i : Nat} (hi : i ≤ gN s 10) (hp : AR t i) => h.ar hi hp
  obtain ⟨a1, a2, a3, a4, a5, a6⟩ := h
  obtain ⟨b1, b2, b3, b4, b5, b6⟩ := h'
  have hn : ∀ {k i : Nat}, nwk s k i → nwk t k i := fun hk => nwk_le (fun k => (a4 k).1) hk
  refine ⟨fun k i j hk hq => (b1 k i j (hn hk) hq).trans (a1 k i j hk hq), fun j h1 h2 => ?_, fun k i hk => (b3 k i (hn hk)).trans (a3 k i hk), fun k => ⟨Nat.le_trans (a4 k).1 (b4 k).1, fun hk => ((b4 k).2 hk).trans ((a4 k).2 hk)⟩, fun k i j hk h1 h2 => ?_, fun k i j hk => (b6 k i j (hn hk)).trans (a6 k i j hk)⟩
  · have c1 := (a4 10).1
    have c2 := (b4 10).1
    rcases b2 j h1 h2 with q | q
    · rcases a2 j h1 h2 with w | w
      · exact Or.inl (q.trans w)
      · exact Or.inr ⟨by rw [q]; exact w.1, by rw [q]; omega⟩
    · exact Or.inr ⟨by omega, q.2⟩
  · refine (b5 k i j (hn hk) h1 (fun q => ?_)).trans (a5 k i j hk h1 h2)
    rcases q.2 with w | w
    · exact h2 ⟨q.1, Or.inl w⟩
    · have hi := hk (Or.inl q.1)
      rw [q.1] at hi
      exact h2 ⟨q.1, Or.inr (hpr hi w)⟩
theorem FW.tr {s t u : St} (h : FW s t) (h' : FW t u) : FW s u := by
  obtain ⟨a1, a2, a3, a4, a5, a6⟩ := h
  obtain ⟨b1, b2, b3, b4, b5, b6⟩ := h'
  have hn : ∀ {k i : Nat}, nwk s k i → nwk t k i := fun hk => nwk_le (fun k => (a4 k).1) hk
  refine ⟨fun k i j hk hq => (b1 k i j (hn hk) hq).trans (a1 k i j hk hq), fun j h1 => ?_, fun k i hk => (b3 k i (hn hk)).trans (a3 k i hk), fun k => ⟨Nat.le_trans (a4 k).1 (b4 k).1, fun hk => ((b4 k).2 hk).trans ((a4 k).2 hk)⟩, fun k i j hk h1 h2 h3 => ?_, fun k i j hk h1 => (b6 k i j (hn hk) h1).trans (a6 k i j hk h1)⟩
  · have c1 := (a4 10).1
    have c2 := (b4 10).1
    rcases b2 j h1 with q | q
    · rcases a2 j h1 with w | w
      · exact Or.inl (q.trans w)
      · exact Or.inr ⟨by rw [q]; exact w.1, by rw [q]; omega⟩
    · exact Or.inr ⟨by omega, q.2⟩
  · refine (b5 k i j (hn hk) h1 h2 (fun q => ?_)).trans (a5 k i j hk h1 h2 h3)
    rcases q.2 with w | ⟨j', w1, w2⟩
    · exact h3 ⟨q.1, Or.inl w⟩
    · have hi := hk (Or.inl q.1)
      rw [q.1] at hi
      refine h3 ⟨q.1, Or.inr ⟨j', w1, ?_⟩⟩
      rcases a2 j' w1 with e | e
      · rw [w2, e]
      · omega
theorem FP.fw {s t : St} (h : FP s t) : FW s t := by
  obtain ⟨a1, a2, a3, a4, a5, a6⟩ := h
  refine ⟨fun k i j hk hq => a1 k i j hk (fun w => hq ⟨w.1, by unfold Mj; omega⟩), fun j hj => ?_, a3, a4, fun k i j hk h1 h2 h3 => a5 k i j hk (fun q => h1 q.1) (fun q => h2 q.1) (fun q => h3 ⟨q.1, ?_⟩), a6⟩
  · by_cases c : 19 ≤ j ∧ j ≤ 21
    · exact a2 j c.1 c.2
    · exact Or.inl (a1 9 1 j (fun q => by omega) (fun q => c q.2))
  · rcases q.2 with w | w | w | w
    · have : 23 ≤ i ∧ i ≤ 26 := w
      exact Or.inl (by omega)
    · exact Or.inr ⟨19, mj19, w⟩
    · exact Or.inr ⟨20, mj20, w⟩
    · exact Or.inr ⟨21, mj21, w⟩
theorem LaF.fw {s t : St} (h : LaF s t) : FW s t := by
  obtain ⟨a1, a2, a3, a4, a5, a6⟩ := h
  refine ⟨fun k i j hk hq => a1 k i j hk (fun w => hq ⟨w.1, by unfold Mj; omega⟩), fun j hj => ?_, a3, a4, fun k i j hk h1 h2 h3 => a5 k i j hk (fun q => h2 q.1) (fun q => h3 ⟨q.1, ?_⟩), fun k i j hk _ => a6 k i j hk⟩
  · by_cases c : 46 ≤ j ∧ j ≤ 48
    · exact a2 j c.1 c.2
    · exact Or.inl (a1 9 1 j (fun q => by omega) (fun q => c q.2))
  · rcases q.2 with w | w | w | w
    · exact Or.inl (by omega)
    · exact Or.inr ⟨46, mj46, w⟩
    · exact Or.inr ⟨47, mj47, w⟩
    · exact Or.inr ⟨48, mj48, w⟩
/-- nothing is made -/
theorem FW.of {s t : St} (h : gR t = gR s ∧ gL t = gL s ∧ gN t = gN s) (hI : ∀ k i j, ¬ k = 9 → ¬ k = 13 → ¬ (k = 10 ∧ 20 ≤ i ∧ i ≤ 38) → gI t k i j = gI s k i j) (hJ : gJ t = gJ s) : FW s t := by
  obtain ⟨e1, e2, e3⟩ := h
  exact ⟨fun _ _ _ _ _ => by rw [e1], fun _ _ => Or.inl (by rw [e1]), fun _ _ _ => by rw [e2], fun _ => ⟨by rw [e3]; exact Nat.le_refl _, fun _ => by rw [e3]⟩, fun k i j _ h1 h2 h3 => hI k i j h1 h2 (fun q => h3 ⟨q.1, Or.inl q.2⟩), fun _ _ _ _ _ => by rw [hJ]⟩
section WID
variable {s s' : St} {p n mo u : Nat} {S K : Nat → Int} {x : Ab} {L : List AO}
theorem FW.r (f : FW s s') {k : Nat} (h9 : ¬ k = 9) (h10 : ¬ k = 10) (h11 : ¬ k = 11) (i j : Nat) : gR s' k i j = gR s k i j := f.1 k i j (fun q => by omega) (fun q => h9 q.1)
theorem FW.i (f : FW s s') {k : Nat} (h9 : ¬ k = 9) (h10 : ¬ k = 10) (h11 : ¬ k = 11) (h13 : ¬ k = 13) (i j : Nat) : gI s' k i j = gI s k i j := f.2.2.2.2.1 k i j (fun q => by omega) h9 h13 (fun q => h10 q.1)
theorem FW.crow (f : FW s s') (hL : Lay s) (hO : OwnM s) {a : Nat} (ha : a ≤ 19) (j : Nat) : gI s' 10 a j = gI s 10 a j := by
  have hN := ln_10 hL
  refine f.2.2.2.2.1 10 a j (fun _ => by omega) (by decide) (by decide) (fun q => ?_)
  rcases q.2 with w | ⟨j', w1, w2⟩
  · omega
  · have := (hO.1 j' w1).1; omega
theorem FW.srow (f : FW s s') (hS : Sep s) (hA : OwnA s) (hD : DJ s) {i j : Nat} (hi : i < 10) (h0 : ¬ gR s 14 1 i = 0) (hj : Jn j) (m : Nat) : gI s' 10 (gR s 5 (gR s 14 1 i) j) m = gI s 10 (gR s 5 (gR s 14 1 i) j) m := by
  have h1 := hS.1 i j hi h0 hj
  refine f.2.2.2.2.1 10 _ m (fun _ => hA.lt10 hi h0 hj) (by decide) (by decide) (fun q => ?_)
  rcases q.2 with w | ⟨j', w1, w2⟩
  · omega
  · exact hD i j j' hi h0 hj w1 w2
theorem Lay.fw (h : Lay s) (f : FW s s') : Lay s' :=
  h.of (fun q hq => by
    obtain ⟨h1, h2, h3⟩ := lyR_k q hq
    exact f.1 _ _ _ (fun w => by omega) (fun w => h3 ⟨w.1, w.2⟩)) (fun q hq => f.2.2.1 _ _ (nw_LyL h hq)) (fun q _ => (f.2.2.2.1 q.1).1)
theorem Bas.fw (h : Bas s p n S K) (f : FW s s') (hO : OwnM s) (hD : DJ s) : Bas s' p n S K ∧ (∀ h0 L i, i < 10 → SerI s p n S K h0 L i → SerI s' p n S K h0 L i) ∧ skn s' 10 = skn s 10 := by
  obtain ⟨⟨hL, hS⟩, ⟨hp, hp12, ⟨p0, p1, p2, p3, p4⟩, hV⟩, hA⟩ := h
  have hL' := hL.fw f
  have hlo := pl_lo hL hp
  have r14 := fun (i : Nat) => FW.r f (k := 14) (by decide) (by decide) (by decide) 1 i
  have r5 := fun (o j : Nat) => FW.r f (k := 5) (by decide) (by decide) (by decide) o j
  have r2 := fun (j : Nat) => FW.r f (k := 2) (by decide) (by decide) (by decide) p j
  have l10 : ∀ i j, i < 10 → ¬ gR s 14 1 i = 0 → Jn j → gL s' 10 (gR s 5 (gR s 14 1 i) j) = gL s 10 (gR s 5 (gR s 14 1 i) j) := fun i j hi h0 hj => f.2.2.1 10 _ (fun _ => hA.lt10 hi h0 hj)
  have l11 : ∀ i, i < 10 → ¬ gR s 14 1 i = 0 → gL s' 11 (gR s 5 (gR s 14 1 i) 5) = gL s 11 (gR s 5 (gR s 14 1 i) 5) := fun i hi h0 => f.2.2.1 11 _ (fun _ => hA.lt11 hi h0)
  have hN := ln_10 hL
  have hPl' : PlC s' p n S K := by
    refine ⟨p0, by rw [r2, r2]; exact p1, by rw [r2, r2, f.2.2.1 10 _ (fun _ => by omega), f.2.2.1 10 _ (fun _ => by omega)]; exact p2, by rw [FW.i f (by decide) (by decide) (by decide) (by decide)]; exact p3, fun i hi => ?_⟩
    rw [r2, r2, FW.crow f hL hO (by omega), FW.crow f hL hO (by omega)]
    exact p4 i hi
  refine ⟨⟨⟨hL', fun i j hi h0 hj => ?_, fun i i' j j' hi hi' h0 h0' hj hj' e => ?_⟩, ⟨hp, by rw [FW.r f (by decide) (by decide) (by decide)]; exact hp12, hPl', hV⟩, fun i hi h0 => ?_, fun i i' hi hi' h0 h0' => ?_⟩, fun h0 L i hi hI => ?_, ?_⟩
  · rw [r14] at h0 ⊢
    rw [r5]; exact hS.1 i j hi h0 hj
  · rw [r14] at h0 h0'
    rw [r14, r14, r5, r5] at e
    exact hS.2 i i' j j' hi hi' h0 h0' hj hj' e
  · rw [r14] at h0 ⊢
    obtain ⟨c0, e0, h2, h3⟩ := hA.1 i hi h0
    exact ⟨c0, e0, h2.cong (fun j => r5 _ j) ⟨(f.2.2.2.1 5).1, (f.2.2.2.1 10).1, (f.2.2.2.1 11).1⟩ (fun j hj => l10 i j hi h0 hj) (l11 i hi h0), h3⟩
  · rw [r14] at h0 h0'
    rw [r14, r14, r5, r5]
    exact hA.2 i i' hi hi' h0 h0'
  · obtain ⟨h00, GG, g1, g2, g3⟩ := hI
    refine ⟨by rw [r14]; exact h00, GG, g1, g2, ?_⟩
    rw [r14]
    exact g3.cong hPl' (fun j => r5 _ j) (FW.i f (by decide) (by decide) (by decide) (by decide) _ _) (fun j hj => l10 i j hi h00 hj) (l11 i hi h00) (fun j m hj => FW.srow f hS hA hD hi h00 hj m) (fun m => f.2.2.2.2.2 11 _ m (fun _ => hA.lt11 hi h00) (by decide))
  · refine skn_eq (fun i hi => ?_) 10 (Nat.le_refl _)
    unfold kS
    rw [r14]
    by_cases h0 : gR s 14 1 i = 0
    · rw [if_pos h0, if_pos h0]
    · rw [if_neg h0, if_neg h0, r5, l10 i 3 hi h0 jn3]
theorem CI.fw (h : CI s p n S K mo x) (f : FW s s') (hO : OwnM s) (hD : DJ s) : CI s' p n S K mo x := by
  obtain ⟨hB, ⟨hR, hRW⟩, hSer, hLt, ⟨k1, k2, k3, k4, k5⟩⟩ := h
  obtain ⟨b1, b2, -⟩ := hB.fw f hO hD
  have hL := hB.1.1
  have i8 := fun (j : Nat) => FW.i f (k := 8) (by decide) (by decide) (by decide) (by decide) 1 j
  refine ⟨b1, ⟨hR.cong hL b1.1.1 (FW.i f (by decide) (by decide) (by decide) (by decide) _ _) (fun j => FW.crow f hL hO (by omega) j) (fun j => FW.crow f hL hO (by omega) j), hRW⟩, fun i hi => b2 _ _ i (hRW.2.1 i hi) (hSer i hi), fun i hi => ?_, ⟨by rw [FW.i f (by decide) (by decide) (by decide) (by decide)]; exact k1, by rw [i8]; exact k2, by rw [i8]; exact k3, by rw [i8]; exact k4, by rw [i8]; exact k5⟩⟩
  rw [FW.r f (by decide) (by decide) (by decide), FW.i f (by decide) (by decide) (by decide) (by decide), FW.i f (by decide) (by decide) (by decide) (by decide)]
  exact hLt i hi
theorem DJ.fw (hD : DJ s) (f : FW s s') (hA : OwnA s) : DJ s' := fun i j j' hi h0 hj hj' e => by
  rw [FW.r f (by decide) (by decide) (by decide)] at h0 e
  rw [FW.r f (by decide) (by decide) (by decide)] at e
  have h1 := hA.lt10 hi h0 hj
  rcases f.2.1 j' hj' with q | q
  · exact hD i j j' hi h0 hj hj' (by rw [← q]; exact e)
  · omega
theorem AlC.fw (h : AlC s (gR s 2 p 2) L) (hB : Bas s p n S K) (f : FW s s') (hO : OwnM s) : AlC s' (gR s' 2 p 2) L := by
  have hL := hB.1.1
  have hN := ln_10 hL
  have ha := al_row hL hB.2.1.1
  rw [FW.r f (by decide) (by decide) (by decide)]
  exact h.cong (fun j => FW.r f (by decide) (by decide) (by decide) _ j) ⟨f.2.2.1 10 _ (fun _ => by omega), f.2.2.1 10 _ (fun _ => by omega)⟩ (FW.i f (by decide) (by decide) (by decide) (by decide) _ _) (fun j => FW.crow f hL hO (by omega) j) (fun j => FW.crow f hL hO (by omega) j)
/-- the reference, when rows are laid aside -/
theorem MI.la (h : MI s n S K mo x u) (f : LaF s s') (hO : OwnM s') : MI s' n S K mo x u := by
  obtain ⟨⟨hL, ⟨⟨p1, p2, p3, p4⟩, hV⟩, ⟨hT, hRW⟩, ⟨d1, d2, d3⟩, ⟨t1, t2, t3, t4⟩, hW, hTm⟩, hLt, ⟨k1, k2, k3, k4, k5⟩, ⟨hU1, hU2, hU3⟩, hOs⟩ := h
  have hL' := hL.fw f.fw
  have hN := ln_10 hL
  have g9 : ∀ j, gI s' 9 1 j = gI s 9 1 j := fun j => f.2.2.2.2.1 9 1 j (fun q => by omega) (by omega) (by omega)
  have har : ∀ a, AR s a → a = gR s 9 1 46 ∨ a = gR s 9 1 47 ∨ a = gR s 9 1 48 := fun a q => q
  have m46 := hOs.1 46 mj46
  have m47 := hOs.1 47 mj47
  have m48 := hOs.1 48 mj48
  have row : ∀ a j, a ≤ 26 → gI s' 10 a j = gI s 10 a j := fun a j ha => f.2.2.2.2.1 10 a j (fun _ => by omega) (by omega) (fun q => by
    rcases q.2 with w | w
    · omega
    · have := har a w; omega)
  have pr : ∀ a j, PR s a → gI s' 10 a j = gI s 10 a j := fun a j ha => by
    have hp := hOs.pr ha
    exact f.2.2.2.2.1 10 a j (fun _ => by omega) (by omega) (fun q => by
      rcases q.2 with w | w
      · omega
      · have := har a w; omega)
  have r9 : ∀ j, ¬ (46 ≤ j ∧ j ≤ 48) → gR s' 9 1 j = gR s 9 1 j := fun j hj => f.1 9 1 j (fun q => by omega) (fun q => hj q.2)
  have ln : ∀ j, Mj j → ¬ (46 ≤ j ∧ j ≤ 48) → gL s' 10 (gR s' 9 1 j) = gL s 10 (gR s 9 1 j) := fun j hj h2 => by
    rw [r9 j h2]
    exact f.2.2.1 10 _ (fun _ => (hOs.1 j hj).2.1)
  rw [lr_9_1_4 hL, lr_9_1_5 hL] at p4
  rw [lr_9_1_11 hL] at d3
  refine ⟨⟨hL', ⟨⟨by rw [lr_9_1_4 hL', lr_9_1_5 hL']; decide, by rw [lr_9_1_4 hL', lr_9_1_5 hL', ll_10_20 hL', ll_10_21 hL']; decide, by rw [g9]; exact p3, fun i hi => by rw [lr_9_1_4 hL', lr_9_1_5 hL', row 20 i (by omega), row 21 i (by omega)]; exact p4 i hi⟩, hV⟩, ⟨fun i hi => ?_, hRW⟩, ⟨by rw [lr_9_1_11 hL']; decide, by rw [lr_9_1_11 hL', ll_10_23 hL'], fun i hi => by rw [lr_9_1_11 hL', row 23 i (by omega)]; exact d3 i hi⟩, ⟨?_, ?_, by rw [g9]; exact t3, fun i hi j q hq => ?_⟩, hW, hTm⟩, fun i hi => by rw [row 24 i (by omega), row 25 i (by omega)]; exact hLt i hi, ⟨by rw [g9]; exact k1, by rw [g9]; exact k2, by rw [g9]; exact k3, by rw [g9]; exact k4, by rw [g9]; exact k5⟩, ⟨us_pw.mpr ((us_pw.mp hU1).imp (fun {a b} q => by rw [row 26 a (by omega), row 26 b (by omega)]; exact q)), fun i hi => by rw [row 26 i (by omega)]; exact hU2 i hi, by rw [g9]; exact hU3⟩, hO⟩
  · rw [f.2.2.2.2.1 13 1 i (fun q => by omega) (by omega) (by omega)]; exact hT i hi
  · rw [r9 19 (by omega), r9 20 (by omega), r9 21 (by omega)]; exact t1
  · rw [ln 19 mj19 (by omega), ln 20 mj20 (by omega), ln 21 mj21 (by omega)]; exact t2
  · rw [r9 19 (by omega), r9 20 (by omega), r9 21 (by omega), pr _ _ (Or.inl rfl), pr _ _ (Or.inr (Or.inl rfl)), pr _ _ (Or.inr (Or.inr rfl))]
    exact t4 i hi j q hq
end WID
