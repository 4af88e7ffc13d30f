/-! ===== both sides in one picture: what each may write ===== -/
def Mj (j : Nat) : Prop := j = 19 ∨ j = 20 ∨ j = 21 ∨ j = 46 ∨ j = 47 ∨ j = 48
def dyn (j : Nat) : Prop := j = 3 ∨ (15 ≤ j ∧ j ≤ 18) ∨ j = 22 ∨ (40 ≤ j ∧ j ≤ 43) ∨ 50 < j
def PR (s : St) (a : Nat) : Prop := a = gR s 9 1 19 ∨ a = gR s 9 1 20 ∨ a = gR s 9 1 21
/-- the reference writes: fields D of its own, rows E of ints, rows B of booleans, and the points -/
def Fx (D E B : Nat → Prop) (s s' : St) : Prop :=
  (∀ k i j, nwk s k i → ¬ (k = 9 ∧ 19 ≤ j ∧ j ≤ 21) → gR s' k i j = gR s k i j) ∧
  (∀ j, 19 ≤ j → j ≤ 21 → gR s' 9 1 j = gR s 9 1 j ∨ (gN s 10 < gR s' 9 1 j ∧ gR s' 9 1 j ≤ gN s' 10)) ∧
  (∀ k i, nwk s k i → gL s' k i = gL s k i) ∧ (∀ k, gN s k ≤ gN s' k ∧ (¬ k = 10 → gN s' k = gN s k)) ∧
  (∀ k i j, nwk s k i → ¬ (k = 9 ∧ (i = 1 → D j)) → ¬ (k = 13 ∧ B i) → ¬ (k = 10 ∧ (E i ∨ PR s i)) → gI s' k i j = gI s k i j) ∧
  ∀ k i j, nwk s k i → ¬ k = 9 → gJ s' k i j = gJ s k i j
theorem Fx.rf (D E B : Nat → Prop) (s : St) : Fx D E B s s := ⟨fun _ _ _ _ _ => rfl, fun _ _ _ => Or.inl rfl, fun _ _ _ => rfl, fun _ => ⟨Nat.le_refl _, fun _ => rfl⟩, fun _ _ _ _ _ _ _ => rfl, fun _ _ _ _ _ => rfl⟩
theorem nwk_le {s t : St} (h : ∀ k, gN s k ≤ gN t k) {k i : Nat} (hk : nwk s k i) : nwk t k i := fun q => Nat.le_trans (hk q) (h k)
theorem Fx.pr {D E B : Nat → Prop} {s t : St} (h : Fx D E B s t) {i : Nat} (hi : i ≤ gN s 10) (hp : PR t i) : PR s i := by
  have g : ∀ j, 19 ≤ j → j ≤ 21 → i = gR t 9 1 j → i = gR s 9 1 j := fun j h1 h2 e => by
    rcases h.2.1 j h1 h2 with q | q
    · rw [e, q]
    · omega
  rcases hp with q | q | q
  · exact Or.inl (g 19 (by omega) (by omega) q)
  · exact Or.inr (Or.inl (g 20 (by omega) (by omega) q))
  · exact Or.inr (Or.inr (g 21 (by omega) (by omega) q))
theorem Fx.tr {D E B : Nat → Prop} {s t u : St} (h : Fx D E B s t) (h' : Fx D E B t u) : Fx D E B s u := by
  have hpr := fun {i : Nat} (hi : i ≤ gN s 10) (hp : PR t i) => h.pr hi hp
  obtain ⟨a1, a2, a3, a4, a5, a6⟩ := h
  obtain ⟨b1, b2, b3, b4, b5, b6⟩ := h'
  have hn : ∀ {k i : Nat}, nwk s k i → nwk t k i := fun hk => nwk_le (fun k => (a4 k).1) hk
  refine ⟨fun k i j hk hq => (b1 k i j (hn hk) hq).trans (a1 k i j hk hq), fun j h1 h2 => ?_, fun k i hk => (b3 k i (hn hk)).trans (a3 k i hk), fun k => ⟨Nat.le_trans (a4 k).1 (b4 k).1, fun hk => ((b4 k).2 hk).trans ((a4 k).2 hk)⟩, fun k i j hk h1 h2 h3 => ?_, fun k i j hk h1 => (b6 k i j (hn hk) h1).trans (a6 k i j hk h1)⟩
  · have c1 := (a4 10).1
    have c2 := (b4 10).1
    rcases b2 j h1 h2 with q | q
    · rcases a2 j h1 h2 with w | w
      · exact Or.inl (q.trans w)
      · exact Or.inr ⟨by rw [q]; exact w.1, by rw [q]; omega⟩
    · exact Or.inr ⟨by omega, q.2⟩
  · refine (b5 k i j (hn hk) h1 h2 (fun q => ?_)).trans (a5 k i j hk h1 h2 h3)
    rcases q.2 with w | w
    · exact h3 ⟨q.1, Or.inl w⟩
    · have hi := hk (Or.inl q.1)
      rw [q.1] at hi
      exact h3 ⟨q.1, Or.inr (hpr hi w)⟩
theorem Fx.mono {D E B D' E' B' : Nat → Prop} {s t : St} (h : Fx D E B s t) (hD : ∀ j, D j → D' j) (hE : ∀ j, E j → E' j) (hB : ∀ j, B j → B' j) : Fx D' E' B' s t := by
  obtain ⟨a1, a2, a3, a4, a5, a6⟩ := h
  refine ⟨a1, a2, a3, a4, fun k i j hk h1 h2 h3 => a5 k i j hk (fun q => h1 ⟨q.1, fun e => hD j (q.2 e)⟩) (fun q => h2 ⟨q.1, hB i q.2⟩) (fun q => h3 ⟨q.1, q.2.imp (hE i) id⟩), a6⟩
/-- nothing is made -/
theorem Fx.of {D E B : Nat → Prop} {s t : St} (h : gR t = gR s ∧ gL t = gL s ∧ gN t = gN s) (hI : ∀ k i j, ¬ (k = 9 ∧ (i = 1 → D j)) → ¬ (k = 13 ∧ B i) → ¬ (k = 10 ∧ (E i ∨ PR s i)) → gI t k i j = gI s k i j) (hJ : ∀ k i j, ¬ k = 9 → gJ t k i j = gJ s k i j) : Fx D E B s t := by
  obtain ⟨e1, e2, e3⟩ := h
  exact ⟨fun _ _ _ _ _ => by rw [e1], fun _ _ _ => Or.inl (by rw [e1]), fun _ _ _ => by rw [e2], fun _ => ⟨by rw [e3]; exact Nat.le_refl _, fun _ => by rw [e3]⟩, fun k i j _ => hI k i j, fun k i j _ => hJ k i j⟩
theorem Fx.pf {D E B : Nat → Prop} {s t : St} (h : PF s t) (h22 : D 22) : Fx D E B s t := by
  obtain ⟨⟨a1, a2, a3, a4, a5, a6⟩, a7⟩ := h
  refine Fx.of ⟨a1, a2, a3⟩ (fun k i j h1 _ h3 => a7 k i j (fun q => h1 ⟨q.1, fun _ => by rw [q.2.2]; exact h22⟩) (fun q => h3 ⟨q.1, Or.inr q.2⟩)) (fun k i j _ => by rw [a6])
theorem Fx.f9 {D E B : Nat → Prop} {s : St} {j : Nat} (hj : D j) (v : Int32) : Fx D E B s (sI s 9 1 j v) :=
  Fx.of ⟨rfl, rfl, rfl⟩ (fun k i j' h1 _ _ => by rw [gI_sI, if_neg (fun q => h1 ⟨q.1, fun _ => by rw [q.2.2]; exact hj⟩)]) (fun _ _ _ _ => rfl)
theorem Fx.r10 {D E B : Nat → Prop} {s : St} {a : Nat} (ha : E a) (j : Nat) (v : Int32) : Fx D E B s (sI s 10 a j v) :=
  Fx.of ⟨rfl, rfl, rfl⟩ (fun k i j' _ _ h1 => by rw [gI_sI, if_neg (fun q => h1 ⟨q.1, Or.inl (by rw [q.2.1]; exact ha)⟩)]) (fun _ _ _ _ => rfl)
theorem Fx.b13 {D E B : Nat → Prop} {s : St} {a : Nat} (ha : B a) (j : Nat) (v : Int32) : Fx D E B s (sI s 13 a j v) :=
  Fx.of ⟨rfl, rfl, rfl⟩ (fun k i j' _ h1 _ => by rw [gI_sI, if_neg (fun q => h1 ⟨q.1, by rw [q.2.1]; exact ha⟩)]) (fun _ _ _ _ => rfl)
abbrev rE (i : Nat) : Prop := 23 ≤ i ∧ i ≤ 26
abbrev rB (i : Nat) : Prop := ¬ i = 2
abbrev FP (s s' : St) : Prop := Fx dyn rE rB s s'
theorem FP.ms {s t : St} (h : MS s t) : FP s t := by
  obtain ⟨⟨m1, m2, m3⟩, m4, m5, m6, -⟩ := h
  refine Fx.of ⟨m1, m2, m3⟩ (fun k i j h1 h2 _ => ?_) m6
  by_cases hk : k = 9
  · by_cases hi : i = 1
    · subst hk; subst hi
      have hd : ¬ dyn j := fun q => h1 ⟨rfl, fun _ => q⟩
      unfold dyn at hd
      exact m5 j (by omega) (by omega)
    · exact absurd ⟨hk, fun q => absurd q hi⟩ h1
  · exact m4 k i j hk (fun q => h2 ⟨q.1, by show ¬ i = 2; omega⟩)
theorem lyR_k : ∀ q ∈ LyR, ¬ q.1 = 10 ∧ ¬ q.1 = 11 ∧ ¬ (q.1 = 9 ∧ (q.2.2.1 = 19 ∨ q.2.2.1 = 20 ∨ q.2.2.1 = 21 ∨ q.2.2.1 = 46 ∨ q.2.2.1 = 47 ∨ q.2.2.1 = 48)) := by decide
theorem lyL_k : ∀ q ∈ LyL, (q.1 = 10 → q.2.1 ≤ 38) ∧ (q.1 = 11 → q.2.1 ≤ 1) := by decide
theorem nw_LyL {s : St} (h : Lay s) {q : Nat × Nat × Nat} (hq : q ∈ LyL) : nwk s q.1 q.2.1 := by
  have h1 := lyL_k q hq
  have h2 := ln_10 h
  have h3 := ln_11 h
  rintro (e | e)
  · have := h1.1 e; rw [e]; omega
  · have := h1.2 e; rw [e]; omega
theorem Lay.fx {D E B : Nat → Prop} {s s' : St} (h : Lay s) (f : Fx D E B s s') : Lay s' :=
  h.of (fun q hq => by
    obtain ⟨h1, h2, h3⟩ := lyR_k q hq
    exact f.1 _ _ _ (fun w => by omega) (fun w => h3 (by omega))) (fun q hq => f.2.2.1 _ _ (nw_LyL h hq)) (fun q _ => (f.2.2.2.1 q.1).1)
/-- the rows of the reference that can be made longer -/
def OwnM (s : St) : Prop := (∀ j, Mj j → 26 < gR s 9 1 j ∧ gR s 9 1 j ≤ gN s 10 ∧ ¬ (30 ≤ gR s 9 1 j ∧ gR s 9 1 j ≤ 34) ∧ ¬ gR s 9 1 j = 38) ∧ (∀ j j', Mj j → Mj j' → gR s 9 1 j = gR s 9 1 j' → j = j') ∧
  (gL s 10 (gR s 9 1 20) = gL s 10 (gR s 9 1 19) ∧ gL s 10 (gR s 9 1 21) = gL s 10 (gR s 9 1 19) ∧ 512 ≤ gL s 10 (gR s 9 1 19) ∧ gL s 10 (gR s 9 1 19) ≤ 80000) ∧
  (gL s 10 (gR s 9 1 47) = gL s 10 (gR s 9 1 46) ∧ gL s 10 (gR s 9 1 48) = gL s 10 (gR s 9 1 46) ∧ 512 ≤ gL s 10 (gR s 9 1 46) ∧ gL s 10 (gR s 9 1 46) ≤ 80000)
theorem mj19 : Mj 19 := Or.inl rfl
theorem mj20 : Mj 20 := Or.inr (Or.inl rfl)
theorem mj21 : Mj 21 := Or.inr (Or.inr (Or.inl rfl))
theorem mj46 : Mj 46 := Or.inr (Or.inr (Or.inr (Or.inl rfl)))
theorem mj47 : Mj 47 := Or.inr (Or.inr (Or.inr (Or.inr (Or.inl rfl))))
theorem mj48 : Mj 48 := Or.inr (Or.inr (Or.inr (Or.inr (Or.inr rfl))))
theorem OwnM.eq {s s' : St} (h : OwnM s) (e1 : gR s' = gR s) (e2 : gL s' = gL s) (e3 : gN s' = gN s) : OwnM s' := by
  unfold OwnM; rw [e1, e2, e3]; exact h
theorem OwnM.pd {s : St} (h : OwnM s) : PD s := ⟨fun q => absurd (h.2.1 _ _ mj19 mj20 q) (by decide), fun q => absurd (h.2.1 _ _ mj19 mj21 q) (by decide), fun q => absurd (h.2.1 _ _ mj20 mj21 q) (by decide)⟩
theorem OwnM.pr {s : St} (h : OwnM s) {a : Nat} (ha : PR s a) : 26 < a ∧ a ≤ gN s 10 ∧ ¬ (30 ≤ a ∧ a ≤ 34) ∧ ¬ a = 38 ∧ ¬ a = gR s 9 1 46 ∧ ¬ a = gR s 9 1 47 ∧ ¬ a = gR s 9 1 48 := by
  have d : ∀ j, Mj j → ¬ j = 46 → ¬ j = 47 → ¬ j = 48 → 26 < gR s 9 1 j ∧ gR s 9 1 j ≤ gN s 10 ∧ ¬ (30 ≤ gR s 9 1 j ∧ gR s 9 1 j ≤ 34) ∧ ¬ gR s 9 1 j = 38 ∧ ¬ gR s 9 1 j = gR s 9 1 46 ∧ ¬ gR s 9 1 j = gR s 9 1 47 ∧ ¬ gR s 9 1 j = gR s 9 1 48 := fun j hj h1 h2 h3 => by
    obtain ⟨a1, a2, a3, a4⟩ := h.1 j hj
    exact ⟨a1, a2, a3, a4, fun q => h1 (h.2.1 _ _ hj mj46 q), fun q => h2 (h.2.1 _ _ hj mj47 q), fun q => h3 (h.2.1 _ _ hj mj48 q)⟩
  rcases ha with rfl | rfl | rfl
  · exact d 19 mj19 (by decide) (by decide) (by decide)
  · exact d 20 mj20 (by decide) (by decide) (by decide)
  · exact d 21 mj21 (by decide) (by decide) (by decide)
/-! the whole of the reference, less why, test, tape -/
abbrev Ab : Type := List Nat × (Nat → Int32) × (Nat → List Pt) × (Nat → Int32) × (Nat → Int32) × Q4
abbrev xR (x : Ab) : List Nat := x.1
abbrev xH (x : Ab) : Nat → Int32 := x.2.1
abbrev xP (x : Ab) : Nat → List Pt := x.2.2.1
abbrev xT (x : Ab) : Nat → Int32 := x.2.2.2.1
abbrev xS (x : Ab) : Nat → Int32 := x.2.2.2.2.1
abbrev xC (x : Ab) : Q4 := x.2.2.2.2.2
def AbW (mo : Nat) (x : Ab) : Prop := (∀ i ∈ xR x, -1000000 ≤ (xH x i).toInt ∧ (xH x i).toInt ≤ 1000000) ∧ (∀ i, i < 10 → ¬ i ∈ xR x → xP x i = []) ∧ (xR x).length ≤ mo ∧ 1 ≤ mo ∧ mo ≤ 6
def MI (s : St) (n : Nat) (S K : Nat → Int) (mo : Nat) (x : Ab) (u : Nat) : Prop :=
  RQ s n S K (xR x) (xH x) (xP x) ∧ LtM s (xR x) (xT x) (xS x) ∧ CsM s (nI mo) (xC x) ∧ (UsO s (xR x) ∧ (∀ i ∈ xR x, (gI s 10 26 i).toInt ≤ u) ∧ gI s 9 1 15 = nI u) ∧ OwnM s
section MIS
variable {s s' : St} {n mo u u' : Nat} {S K : Nat → Int} {x x' : Ab}
theorem FP.row (f : FP s s') (hO : OwnM s) {a : Nat} (ha : a ≤ 38) (h1 : a ≤ 22 ∨ (30 ≤ a ∧ a ≤ 34) ∨ a = 38) (hN : 38 ≤ gN s 10) (j : Nat) : gI s' 10 a j = gI s 10 a j :=
  f.2.2.2.2.1 10 a j (fun _ => by omega) (fun q => absurd q.1 (by decide)) (fun q => absurd q.1 (by decide)) (fun q => by
    rcases q.2 with w | w
    · have : 23 ≤ a ∧ a ≤ 26 := w
      omega
    · have := hO.pr w; omega)
theorem FP.fld (f : FP s s') {j : Nat} (hj : ¬ dyn j) : gI s' 9 1 j = gI s 9 1 j :=
  f.2.2.2.2.1 9 1 j (fun q => by omega) (fun q => hj (q.2 rfl)) (fun q => absurd q.1 (by decide)) (fun q => absurd q.1 (by decide))
theorem PlM.fp (hp : PlM s n S K) (hL : Lay s) (f : FP s s') (hO : OwnM s) : PlM s' n S K := by
  obtain ⟨p1, p2, p3, p4⟩ := hp
  have hL' := hL.fx f
  have hN := ln_10 hL
  rw [lr_9_1_4 hL, lr_9_1_5 hL] at p4
  refine ⟨by rw [lr_9_1_4 hL', lr_9_1_5 hL']; decide, by rw [lr_9_1_4 hL', lr_9_1_5 hL', ll_10_20 hL', ll_10_21 hL']; decide, by rw [FP.fld f (by unfold dyn; omega)]; exact p3, fun i hi => ?_⟩
  rw [lr_9_1_4 hL', lr_9_1_5 hL', FP.row f hO (by omega) (by omega) hN, FP.row f hO (by omega) (by omega) hN]
  exact p4 i hi
theorem MI.mk' (h : MI s n S K mo x u) (f : FP s s') (hO : OwnM s') (hT : ThM s' (xR x')) (hRW : RW (xR x')) (hH : ∀ i, i < 10 → gI s' 10 23 i = xH x' i) (hP : PtM s' (xP x')) (hW : PWf (xP x')) (hTm : Tms (xP x')) (hLt : LtM s' (xR x') (xT x') (xS x'))
    (hC : (xC x').1 = (xC x).1 ∧ gI s' 9 1 16 = (xC x').2.1 ∧ gI s' 9 1 17 = (xC x').2.2.1 ∧ gI s' 9 1 18 = (xC x').2.2.2) (hU : UsO s' (xR x') ∧ (∀ i ∈ xR x', (gI s' 10 26 i).toInt ≤ u') ∧ gI s' 9 1 15 = nI u') : MI s' n S K mo x' u' := by
  obtain ⟨⟨hL, ⟨hPl, hV⟩, -, -, -, -⟩, -, ⟨c1, c2, -⟩, -, hOs⟩ := h
  have hL' := hL.fx f
  refine ⟨⟨hL', ⟨hPl.fp hL f hOs, hV⟩, ⟨hT, hRW⟩, ⟨by rw [lr_9_1_11 hL']; decide, by rw [lr_9_1_11 hL', ll_10_23 hL'], fun i hi => by rw [lr_9_1_11 hL']; exact hH i hi⟩, hP, hW, hTm⟩, hLt, ⟨by rw [FP.fld f (by unfold dyn; omega)]; exact c1, by rw [FP.fld f (by unfold dyn; omega), hC.1]; exact c2, hC.2.1, hC.2.2.1, hC.2.2.2⟩, hU, hO⟩
end MIS
