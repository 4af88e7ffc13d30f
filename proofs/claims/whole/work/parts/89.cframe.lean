/-! ===== the class: what puts and ticks may write ===== -/
def crw (s : St) (a : Nat) : Prop := (a = 5 ∨ a = 6 ∨ a = 9 ∨ a = 10 ∨ a = 11) ∨ ∃ i j, i < 10 ∧ ¬ gR s 14 1 i = 0 ∧ Jn j ∧ a = gR s 5 (gR s 14 1 i) j
def lrw (s : St) (a : Nat) : Prop := ∃ i, i < 10 ∧ ¬ gR s 14 1 i = 0 ∧ a = gR s 5 (gR s 14 1 i) 5
def CF (s s' : St) : Prop :=
  (∀ k i j, ¬ k = 5 → ¬ k = 10 → ¬ k = 11 → ¬ k = 14 → gR s' k i j = gR s k i j) ∧
  (∀ k i, nwk s k i → ¬ k = 5 → gL s' k i = gL s k i) ∧
  (∀ k, gN s k ≤ gN s' k ∧ (¬ k = 5 → ¬ k = 10 → ¬ k = 11 → gN s' k = gN s k)) ∧
  (∀ k i j, nwk s k i → ¬ k = 5 → ¬ k = 6 → ¬ (k = 8 ∧ i = 1 ∧ 16 ≤ j ∧ j ≤ 18) → ¬ (k = 4 ∧ i = 1) → ¬ (k = 10 ∧ crw s i) → gI s' k i j = gI s k i j) ∧
  (∀ k i j, nwk s k i → ¬ k = 5 → ¬ k = 6 → ¬ (k = 11 ∧ lrw s i) → gJ s' k i j = gJ s k i j) ∧
  (∀ a, crw s' a → crw s a ∨ gN s 10 < a) ∧ ∀ a, lrw s' a → lrw s a ∨ gN s 11 < a
theorem CF.rf (s : St) : CF s s := ⟨fun _ _ _ _ _ _ _ => rfl, fun _ _ _ _ => rfl, fun _ => ⟨Nat.le_refl _, fun _ _ _ => rfl⟩, fun _ _ _ _ _ _ _ _ _ => rfl, fun _ _ _ _ _ _ _ => rfl, fun _ h => Or.inl h, fun _ h => Or.inl h⟩
theorem CF.tr {s t u : St} (h : CF s t) (h' : CF t u) : CF s u := by
  obtain ⟨a1, a2, a3, a4, a5, a6, a7⟩ := h
  obtain ⟨b1, b2, b3, b4, b5, b6, b7⟩ := h'
  have hn : ∀ {k i : Nat}, nwk s k i → nwk t k i := fun hk => nwk_le (fun k => (a3 k).1) hk
  have n10 := (a3 10).1
  have n11 := (a3 11).1
  refine ⟨fun k i j h1 h2 h3 h4 => (b1 k i j h1 h2 h3 h4).trans (a1 k i j h1 h2 h3 h4), fun k i hk h1 => (b2 k i (hn hk) h1).trans (a2 k i hk h1), fun k => ⟨Nat.le_trans (a3 k).1 (b3 k).1, fun h1 h2 h3 => ((b3 k).2 h1 h2 h3).trans ((a3 k).2 h1 h2 h3)⟩, fun k i j hk h1 h2 h3 h4 h5 => (b4 k i j (hn hk) h1 h2 h3 h4 (fun q => ?_)).trans (a4 k i j hk h1 h2 h3 h4 h5), fun k i j hk h0 h1 h2 => (b5 k i j (hn hk) h0 h1 (fun q => ?_)).trans (a5 k i j hk h0 h1 h2), fun a ha => ?_, fun a ha => ?_⟩
  · rcases a6 i q.2 with w | w
    · exact h5 ⟨q.1, w⟩
    · have := hk (Or.inl q.1); rw [q.1] at this; omega
  · rcases a7 i q.2 with w | w
    · exact h2 ⟨q.1, w⟩
    · have := hk (Or.inr q.1); rw [q.1] at this; omega
  · rcases b6 a ha with w | w
    · exact a6 a w
    · exact Or.inr (by omega)
  · rcases b7 a ha with w | w
    · exact a7 a w
    · exact Or.inr (by omega)
theorem crw_eq {s s' : St} (h : gR s' = gR s) (a : Nat) : crw s' a ↔ crw s a := by unfold crw; rw [h]
theorem lrw_eq {s s' : St} (h : gR s' = gR s) (a : Nat) : lrw s' a ↔ lrw s a := by unfold lrw; rw [h]
/-- nothing is made, no reference changes -/
theorem CF.of {s s' : St} (h : gR s' = gR s ∧ gL s' = gL s ∧ gN s' = gN s) (hI : ∀ k i j, ¬ k = 5 → ¬ k = 6 → ¬ (k = 8 ∧ i = 1 ∧ 16 ≤ j ∧ j ≤ 18) → ¬ (k = 4 ∧ i = 1) → ¬ (k = 10 ∧ crw s i) → gI s' k i j = gI s k i j) (hJ : ∀ k i j, ¬ k = 6 → ¬ (k = 11 ∧ lrw s i) → gJ s' k i j = gJ s k i j) : CF s s' := by
  obtain ⟨e1, e2, e3⟩ := h
  exact ⟨fun _ _ _ _ _ _ _ => by rw [e1], fun _ _ _ _ => by rw [e2], fun _ => ⟨by rw [e3]; exact Nat.le_refl _, fun _ _ _ => by rw [e3]⟩, fun k i j _ => hI k i j, fun k i j _ _ => hJ k i j, fun a ha => Or.inl ((crw_eq e1 a).mp ha), fun a ha => Or.inl ((lrw_eq e1 a).mp ha)⟩
theorem CF.cs {s s' : St} (h : CS s s') : CF s s' := by
  obtain ⟨h1, h2, h3, h4, -⟩ := h
  refine CF.of h1 (fun k i j _ k6 _ _ k10 => ?_) (fun k i j k6 _ => h4 k i j k6)
  by_cases c : k = 10
  · subst c
    refine h3 i j (fun q => k10 ⟨rfl, ?_⟩)
    rcases q with q | q | ⟨i', a1, a2, a3⟩
    · exact Or.inl (by omega)
    · exact Or.inl (by omega)
    · exact Or.inr ⟨i', 2, a1, a2, jn2, a3⟩
  · exact h2 k i j k6 c
theorem CF.f8 (s : St) {j : Nat} (h1 : 16 ≤ j) (h2 : j ≤ 18) (v : Int32) : CF s (sI s 8 1 j v) :=
  CF.of ⟨rfl, rfl, rfl⟩ (fun k i j' _ _ h8 _ _ => by rw [gI_sI, if_neg (fun q => h8 (by omega))]) (fun _ _ _ _ _ => rfl)
theorem CF.f5 (s : St) (o j : Nat) (v : Int32) : CF s (sI s 5 o j v) :=
  CF.of ⟨rfl, rfl, rfl⟩ (fun k i j' h5 _ _ _ _ => by rw [gI_sI, if_neg (fun q => h5 q.1)]) (fun _ _ _ _ _ => rfl)
theorem CF.r11 (s : St) (j : Nat) (v : Int32) : CF s (sI s 10 11 j v) :=
  CF.of ⟨rfl, rfl, rfl⟩ (fun k i j' _ _ _ _ h10 => by rw [gI_sI, if_neg (fun q => h10 ⟨q.1, Or.inl (by omega)⟩)]) (fun _ _ _ _ _ => rfl)
theorem CF.use {s s' : St} (hL : Lay s) (h : RF s s' 1) : CF s s' := by
  obtain ⟨⟨a1, a2, a3, a4, a5, a6⟩, a7⟩ := h
  refine CF.of ⟨a1, a2, a3⟩ (fun k i j _ _ _ h4 h10 => a7 k i j h4 (fun q => h10 ⟨q.1, Or.inl ?_⟩)) (fun k i j _ _ => by rw [a6])
  rw [lr_4_1_0 hL, lr_4_1_1 hL] at q
  omega
/-- one series changes -/
theorem CF.sfr {s s' : St} {id : Nat} (hid : id < 10) (ho : ¬ gR s 14 1 id = 0) (h : Sfr s s' (gR s 14 1 id)) : CF s s' := by
  obtain ⟨a1, a2, a3, a4, a5, a6, a7⟩ := h
  have r14 : ∀ i, gR s' 14 1 i = gR s 14 1 i := fun i => a1 14 1 i (fun q => by omega) (fun q => absurd q.1 (by decide))
  refine ⟨fun k i j h1 h2 h3 _ => a1 k i j (fun q => by omega) (fun q => h1 q.1), fun k i hk _ => a2 k i hk, fun k => ⟨(a3 k).1, fun _ h2 h3 => (a3 k).2 h2 h3⟩, fun k i j hk h5 _ _ _ h10 => a4 k i j hk (fun q => h5 q.1) (fun q => h10 ⟨q.1, ?_⟩), fun k i j hk _ _ h11 => a5 k i j hk (fun q => h11 ⟨q.1, id, hid, ho, q.2⟩), fun a ha => ?_, fun a ha => ?_⟩
  · obtain ⟨-, j', hj', e⟩ := q
    exact Or.inr ⟨id, j', hid, ho, hj', e⟩
  · rcases ha with q | ⟨i, j, hi, hoi, hj, e⟩
    · exact Or.inl (Or.inl q)
    · rw [r14] at hoi e
      by_cases c : gR s 14 1 i = gR s 14 1 id
      · rw [c] at e
        rcases a6 j hj with w | w
        · exact Or.inl (Or.inr ⟨id, j, hid, ho, hj, by rw [e, w]⟩)
        · exact Or.inr (by omega)
      · rw [a1 5 _ j (fun q => by omega) (fun q => c q.2)] at e
        exact Or.inl (Or.inr ⟨i, j, hi, hoi, hj, e⟩)
  · obtain ⟨i, hi, hoi, e⟩ := ha
    rw [r14] at hoi e
    by_cases c : gR s 14 1 i = gR s 14 1 id
    · rw [c] at e
      rcases a7 with w | w
      · exact Or.inl ⟨id, hid, ho, by rw [e, w]⟩
      · exact Or.inr (by omega)
    · rw [a1 5 _ 5 (fun q => by omega) (fun q => c q.2)] at e
      exact Or.inl ⟨i, hi, hoi, e⟩
/-! the class's ground: where all lies, the plan, what the series own -/
def OwnA (s : St) : Prop := (∀ i, i < 10 → ¬ gR s 14 1 i = 0 → ∃ c e, OwnC s (gR s 14 1 i) c ∧ eqC c (16 * 2 ^ e) ∧ e ≤ 11 ∧ c 1 = 4 ∧ c 2 = 4) ∧
  ∀ i i', i < 10 → i' < 10 → ¬ gR s 14 1 i = 0 → ¬ gR s 14 1 i' = 0 → (gR s 14 1 i = gR s 14 1 i' → i = i') ∧ (gR s 5 (gR s 14 1 i) 5 = gR s 5 (gR s 14 1 i') 5 → i = i')
def Bas (s : St) (p n : Nat) (S K : Nat → Int) : Prop := (Lay s ∧ Sep s) ∧ ((p = 1 ∨ p = 2) ∧ gR s 8 1 12 = p ∧ PlC s p n S K ∧ VP n S K) ∧ OwnA s
def SerI (s : St) (p n : Nat) (S K : Nat → Int) (h : Int) (L : List Pt) (i : Nat) : Prop := ¬ gR s 14 1 i = 0 ∧ ∃ GG, L = GG.flatten ∧ WfG n S K h GG ∧ SerC s (gR s 14 1 i) p n S K h GG
theorem SerC.cong {s s' : St} {o p n : Nat} {S K : Nat → Int} {h : Int} {GG : List (List Pt)} (C : SerC s o p n S K h GG) (hPl : PlC s' p n S K) (h5 : ∀ j, gR s' 5 o j = gR s 5 o j) (h8 : gI s' 5 o 8 = gI s 5 o 8) (hL : ∀ j, Jn j → gL s' 10 (gR s 5 o j) = gL s 10 (gR s 5 o j)) (hL5 : gL s' 11 (gR s 5 o 5) = gL s 11 (gR s 5 o 5))
    (hI : ∀ j m, Jn j → gI s' 10 (gR s 5 o j) m = gI s 10 (gR s 5 o j) m) (hJ : ∀ m, gJ s' 11 (gR s 5 o 5) m = gJ s 11 (gR s 5 o 5) m) : SerC s' o p n S K h GG := by
  obtain ⟨⟨a1, a2, a3⟩, ⟨b1, b2, b3⟩, c1, d1, e1, f1⟩ := C
  refine ⟨⟨a1, by rw [h5]; exact a2, hPl⟩, ⟨by rw [h5]; exact b1, by rw [h5, hL 1 jn1]; exact b2, fun i hi => by rw [h5, hI 1 i jn1]; exact b3 i hi⟩, by rw [h8]; exact c1, by simp only [h5]; exact d1, by simp only [h5]; rw [hL 3 jn3, hL 4 jn4, hL5, hL 6 jn6, hL 7 jn7]; exact e1, fun j g hj => ?_⟩
  rw [h5, h5, h5, h5, h5, hI 3 j jn3, hI 4 j jn4, hJ j, hI 6 j jn6, hI 7 j jn7]
  exact f1 j g hj
theorem pl_lo {s : St} (hL : Lay s) {p : Nat} (hp : p = 1 ∨ p = 2) : (12 ≤ gR s 2 p 0 ∧ gR s 2 p 0 ≤ 17) ∧ 12 ≤ gR s 2 p 1 ∧ gR s 2 p 1 ≤ 17 := by
  rcases hp with rfl | rfl
  · rw [lr_2_1_0 hL, lr_2_1_1 hL]; omega
  · rw [lr_2_2_0 hL, lr_2_2_1 hL]; omega
theorem crw_lo {s : St} (hS : Sep s) {a : Nat} (h : crw s a) : a = 5 ∨ a = 6 ∨ a = 9 ∨ a = 10 ∨ a = 11 ∨ 38 < a := by
  rcases h with q | ⟨i, j, hi, ho, hj, e⟩
  · omega
  · have := hS.1 i j hi ho hj; omega
theorem lyR_5 : ∀ q ∈ LyR, ¬ q.1 = 5 ∧ ¬ q.1 = 14 := by decide
theorem lyL_5 : ∀ q ∈ LyL, ¬ q.1 = 5 := by decide
theorem Lay.cf {s s' : St} (h : Lay s) (f : CF s s') : Lay s' :=
  h.of (fun q hq => by
    obtain ⟨h1, h2, h3⟩ := lyR_k q hq
    exact f.1 _ _ _ (lyR_5 q hq).1 h1 h2 (lyR_5 q hq).2) (fun q hq => f.2.1 _ _ (nw_LyL h hq) (lyL_5 q hq)) (fun q _ => (f.2.2.1 q.1).1)
theorem PlC.cf {s s' : St} {p n : Nat} {S K : Nat → Int} (h : PlC s p n S K) (hL : Lay s) (hS : Sep s) (hp : p = 1 ∨ p = 2) (f : CF s s') : PlC s' p n S K := by
  obtain ⟨p0, p1, p2, p3, p4⟩ := h
  have hlo := pl_lo hL hp
  have hN := ln_10 hL
  have r : ∀ j, gR s' 2 p j = gR s 2 p j := fun j => f.1 2 p j (by decide) (by decide) (by decide) (by decide)
  have l : ∀ a, a ≤ 38 → gL s' 10 a = gL s 10 a := fun a ha => f.2.1 10 a (fun _ => by omega) (by decide)
  have i : ∀ a j, 12 ≤ a → a ≤ 17 → gI s' 10 a j = gI s 10 a j := fun a j h1 h2 => f.2.2.2.1 10 a j (fun _ => by omega) (by decide) (by decide) (by omega) (by omega) (fun q => by have := crw_lo hS q.2; omega)
  refine ⟨p0, by rw [r, r]; exact p1, by rw [r, r, l _ (by omega), l _ (by omega)]; exact p2, by rw [f.2.2.2.1 2 p 3 (fun q => by omega) (by decide) (by decide) (by omega) (by omega) (by omega)]; exact p3, fun j hj => ?_⟩
  rw [r, r, i _ _ (by omega) (by omega), i _ _ (by omega) (by omega)]
  exact p4 j hj
