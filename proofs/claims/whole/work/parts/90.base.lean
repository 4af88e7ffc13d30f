/-! ===== the class: one series changes, or is made ===== -/
def kS (s : St) (i : Nat) : Nat := if gR s 14 1 i = 0 then 0 else gL s 10 (gR s 5 (gR s 14 1 i) 3)
def skn (s : St) : Nat → Nat
  | 0 => 0
  | i + 1 => skn s i + kS s i
theorem skn_s (s : St) (i : Nat) : skn s (i + 1) = skn s i + kS s i := rfl
theorem skn_eq {s s' : St} (h : ∀ i, i < 10 → kS s' i = kS s i) : ∀ m, m ≤ 10 → skn s' m = skn s m := by
  intro m
  induction m with
  | zero => intro _; rfl
  | succ m ih => intro hm; rw [skn_s, skn_s, ih (by omega), h m (by omega)]
theorem skn_one {s s' : St} {id : Nat} (h : ∀ i, i < 10 → ¬ i = id → kS s' i = kS s i) : ∀ m, m ≤ 10 → (m ≤ id → skn s' m = skn s m) ∧ (id < m → skn s' m + kS s id = skn s m + kS s' id) := by
  intro m
  induction m with
  | zero => intro _; exact ⟨fun _ => rfl, fun q => by omega⟩
  | succ m ih =>
    intro hm
    obtain ⟨h1, h2⟩ := ih (by omega)
    rw [skn_s, skn_s]
    refine ⟨fun q => ?_, fun q => ?_⟩
    · rw [h1 (by omega), h m (by omega) (by omega)]
    · by_cases c : m = id
      · have := h1 (by omega)
        rw [c] at this ⊢
        omega
      · have e := h m (by omega) c
        have := h2 (by omega)
        omega
def Rmc (s s' : St) : Prop := sn s' + 10 * skn s 10 ≤ sn s + 10 * skn s' 10 ∧ cn s' + skn s 10 ≤ cn s + skn s' 10
theorem Rmc.rf (s : St) : Rmc s s := ⟨Nat.le_refl _, Nat.le_refl _⟩
theorem Rmc.tr {s t u : St} (h : Rmc s t) (h' : Rmc t u) : Rmc s u := by
  obtain ⟨a1, a2⟩ := h
  obtain ⟨b1, b2⟩ := h'
  exact ⟨by omega, by omega⟩
theorem Rmc.eq {s s' : St} (e1 : gR s' = gR s) (e2 : gL s' = gL s) (e3 : cn s' = cn s) (e4 : sn s' = sn s) : Rmc s s' := by
  have : skn s' 10 = skn s 10 := skn_eq (fun i _ => by unfold kS; rw [e1, e2]) 10 (Nat.le_refl _)
  unfold Rmc
  rw [this, e3, e4]
  exact ⟨Nat.le_refl _, Nat.le_refl _⟩
section BAS
variable {s s' : St} {p n : Nat} {S K : Nat → Int}
theorem OwnC.cong {o : Nat} {c : Nat → Nat} (h : OwnC s o c) (h5 : ∀ j, gR s' 5 o j = gR s 5 o j) (hN : gN s 5 ≤ gN s' 5 ∧ gN s 10 ≤ gN s' 10 ∧ gN s 11 ≤ gN s' 11) (hL : ∀ j, Jn j → gL s' 10 (gR s 5 o j) = gL s 10 (gR s 5 o j)) (hL5 : gL s' 11 (gR s 5 o 5) = gL s 11 (gR s 5 o 5)) : OwnC s' o c := by
  obtain ⟨a1, a2, a3, a4, a5, a6⟩ := h
  refine ⟨⟨a1.1, by omega⟩, fun j hj => by have := a2 j hj; rw [h5]; omega, by rw [h5]; omega, fun j j' hj hj' => by rw [h5, h5]; exact a4 j j' hj hj', fun j hj => by rw [h5, hL j hj]; exact a5 j hj, by rw [h5, hL5]; exact a6⟩
theorem OwnC.le {o : Nat} {c : Nat → Nat} (h : OwnC s o c) : (∀ j, Jn j → gR s 5 o j ≤ gN s 10) ∧ gR s 5 o 5 ≤ gN s 11 ∧ o ≤ gN s 5 := ⟨fun j hj => (h.2.1 j hj).2, h.2.2.1.2, h.1.2⟩
/-- nothing is made, no reference changes, and no row that the series own is written -/
theorem Bas.keep (h : Bas s p n S K) (e : gR s' = gR s ∧ gL s' = gL s ∧ gN s' = gN s) (f : CF s s') : Bas s' p n S K := by
  obtain ⟨⟨hL, hS⟩, ⟨hp, hp12, hPl, hV⟩, hO⟩ := h
  obtain ⟨e1, e2, e3⟩ := e
  refine ⟨⟨hL.cf f, hS.eq e1⟩, ⟨hp, by rw [e1]; exact hp12, hPl.cf hL hS hp f, hV⟩, ?_⟩
  unfold OwnA OwnC
  rw [e1, e2, e3]
  exact hO
theorem SerI.keep {h : Int} {L : List Pt} {i : Nat} (hI : SerI s p n S K h L i) (hPl : PlC s' p n S K) (e : gR s' = gR s ∧ gL s' = gL s) (h8 : gI s' 5 (gR s 14 1 i) 8 = gI s 5 (gR s 14 1 i) 8) (hr : ∀ j m, Jn j → gI s' 10 (gR s 5 (gR s 14 1 i) j) m = gI s 10 (gR s 5 (gR s 14 1 i) j) m) (hJ : ∀ m, gJ s' 11 (gR s 5 (gR s 14 1 i) 5) m = gJ s 11 (gR s 5 (gR s 14 1 i) 5) m) : SerI s' p n S K h L i := by
  obtain ⟨ho, GG, h1, h2, h3⟩ := hI
  obtain ⟨e1, e2⟩ := e
  refine ⟨by rw [e1]; exact ho, GG, h1, h2, ?_⟩
  rw [e1]
  exact h3.cong hPl (fun j => by rw [e1]) h8 (fun j _ => by rw [e2]) (by rw [e2]) hr hJ
/-- the roster changes -/
theorem Bas.use (h : Bas s p n S K) (f : RF s s' 1) : Bas s' p n S K ∧ (∀ h0 L i, i < 10 → SerI s p n S K h0 L i → SerI s' p n S K h0 L i) ∧ (∀ o j, gI s' 5 o j = gI s 5 o j) := by
  have hL := h.1.1
  have hS := h.1.2
  have hC := CF.use hL f
  have hB := h.keep ⟨f.1.1, f.1.2.1, f.1.2.2.1⟩ hC
  obtain ⟨⟨a1, a2, a3, a4, a5, a6⟩, a7⟩ := f
  rw [lr_4_1_0 hL, lr_4_1_1 hL] at a7
  refine ⟨hB, fun h0 L i hi hI => hI.keep hB.2.1.2.2.1 ⟨a1, a2⟩ (a7 5 _ 8 (by omega) (by omega)) (fun j m hj => a7 10 _ m (by omega) (fun q => by have := hS.1 i j hi hI.1 hj; omega)) (fun m => by rw [a6]), fun o j => a7 5 o j (by omega) (by omega)⟩
/-- one series changes -/
theorem Bas.sfr (h : Bas s p n S K) {id : Nat} (hid : id < 10) (ho : ¬ gR s 14 1 id = 0) (f : Sfr s s' (gR s 14 1 id)) {c : Nat → Nat} {e : Nat} (hO' : OwnC s' (gR s 14 1 id) c) (hc : eqC c (16 * 2 ^ e)) (he : e ≤ 11) (hc1 : c 1 = 4) (hc2 : c 2 = 4) :
    Bas s' p n S K ∧ (∀ h0 L i, i < 10 → ¬ i = id → SerI s p n S K h0 L i → SerI s' p n S K h0 L i) ∧ (∀ i, i < 10 → gR s' 14 1 i = gR s 14 1 i) ∧ (∀ i j, i < 10 → ¬ i = id → ¬ gR s 14 1 i = 0 → gI s' 5 (gR s 14 1 i) j = gI s 5 (gR s 14 1 i) j) ∧ ∀ i, i < 10 → ¬ i = id → kS s' i = kS s i := by
  have hC := CF.sfr hid ho f
  obtain ⟨⟨hL, hS⟩, ⟨hp, hp12, hPl, hV⟩, hO⟩ := h
  obtain ⟨a1, a2, a3, a4, a5, a6, a7⟩ := f
  have hPl' := hPl.cf hL hS hp hC
  have r14 : ∀ i, gR s' 14 1 i = gR s 14 1 i := fun i => a1 14 1 i (fun q => by omega) (fun q => absurd q.1 (by decide))
  have hne : ∀ i, i < 10 → ¬ i = id → ¬ gR s 14 1 i = 0 → ¬ gR s 14 1 i = gR s 14 1 id := fun i hi hn h0 q => hn ((hO.2 i id hi hid h0 ho).1 q)
  have r5 : ∀ i j, i < 10 → ¬ i = id → ¬ gR s 14 1 i = 0 → gR s' 5 (gR s 14 1 i) j = gR s 5 (gR s 14 1 i) j := fun i j hi hn h0 => a1 5 _ j (fun q => by omega) (fun q => hne i hi hn h0 q.2)
  have lt10 : ∀ i j, i < 10 → ¬ gR s 14 1 i = 0 → Jn j → gR s 5 (gR s 14 1 i) j ≤ gN s 10 := fun i j hi h0 hj => by
    obtain ⟨c0, e0, h1, -⟩ := hO.1 i hi h0
    exact (h1.2.1 j hj).2
  have lt11 : ∀ i, i < 10 → ¬ gR s 14 1 i = 0 → gR s 5 (gR s 14 1 i) 5 ≤ gN s 11 := fun i hi h0 => by
    obtain ⟨c0, e0, h1, -⟩ := hO.1 i hi h0
    exact h1.2.2.1.2
  have l10 : ∀ i j, i < 10 → ¬ gR s 14 1 i = 0 → Jn j → gL s' 10 (gR s 5 (gR s 14 1 i) j) = gL s 10 (gR s 5 (gR s 14 1 i) j) := fun i j hi h0 hj => a2 10 _ (fun _ => lt10 i j hi h0 hj)
  have l11 : ∀ i, i < 10 → ¬ gR s 14 1 i = 0 → gL s' 11 (gR s 5 (gR s 14 1 i) 5) = gL s 11 (gR s 5 (gR s 14 1 i) 5) := fun i hi h0 => a2 11 _ (fun _ => lt11 i hi h0)
  -- rows of the changed one: old, or new
  have hnew : ∀ j, Jn j → gR s' 5 (gR s 14 1 id) j = gR s 5 (gR s 14 1 id) j ∨ gN s 10 < gR s' 5 (gR s 14 1 id) j := a6
  refine ⟨⟨⟨hL.cf hC, fun i j hi h0 hj => ?_, fun i i' j j' hi hi' h0 h0' hj hj' e' => ?_⟩, ⟨hp, by rw [hC.1 8 1 12 (by decide) (by decide) (by decide) (by decide)]; exact hp12, hPl', hV⟩, fun i hi h0 => ?_, fun i i' hi hi' h0 h0' => ?_⟩, fun h0 L i hi hn hI => ?_, fun i _ => r14 i, fun i j hi hn h0 => ?_, fun i hi hn => ?_⟩
  · rw [r14] at h0 ⊢
    by_cases q : i = id
    · rw [q]; exact (hO'.2.1 j hj).1
    · rw [r5 i j hi q h0]; exact hS.1 i j hi h0 hj
  · rw [r14] at h0 h0' e'
    rw [r14] at e'
    by_cases q : i = id
    · by_cases q' : i' = id
      · rw [q, q'] at e'
        exact ⟨q.trans q'.symm, hO'.2.2.2.1 j j' hj hj' e'⟩
      · rw [q, r5 i' j' hi' q' h0'] at e'
        rcases hnew j hj with w | w
        · rw [w] at e'
          exact (by rw [q]; exact hS.2 id i' j j' hid hi' ho h0' hj hj' e')
        · have := lt10 i' j' hi' h0' hj'; omega
    · by_cases q' : i' = id
      · rw [q', r5 i j hi q h0] at e'
        rcases hnew j' hj' with w | w
        · rw [w] at e'
          exact (by rw [q']; exact hS.2 i id j j' hi hid h0 ho hj hj' e')
        · have := lt10 i j hi h0 hj; omega
      · rw [r5 i j hi q h0, r5 i' j' hi' q' h0'] at e'
        exact hS.2 i i' j j' hi hi' h0 h0' hj hj' e'
  · rw [r14] at h0 ⊢
    by_cases q : i = id
    · rw [q]; exact ⟨c, e, hO', hc, he, hc1, hc2⟩
    · obtain ⟨c0, e0, h1, h2⟩ := hO.1 i hi h0
      exact ⟨c0, e0, h1.cong (fun j => r5 i j hi q h0) ⟨(a3 5).1, (a3 10).1, (a3 11).1⟩ (fun j hj => l10 i j hi h0 hj) (l11 i hi h0), h2⟩
  · rw [r14] at h0 h0'
    rw [r14, r14]
    have hh := hO.2 i i' hi hi' h0 h0'
    refine ⟨hh.1, fun e' => ?_⟩
    by_cases q : i = id
    · by_cases q' : i' = id
      · rw [q, q']
      · rw [q, r5 i' 5 hi' q' h0'] at e'
        rcases a7 with w | w
        · rw [w] at e'; rw [q] at hh ⊢; exact hh.2 e'
        · have := lt11 i' hi' h0'; omega
    · by_cases q' : i' = id
      · rw [q', r5 i 5 hi q h0] at e'
        rcases a7 with w | w
        · rw [w] at e'; rw [q'] at hh ⊢; exact hh.2 e'
        · have := lt11 i hi h0; omega
      · rw [r5 i 5 hi q h0, r5 i' 5 hi' q' h0'] at e'
        exact hh.2 e'
  · obtain ⟨h00, GG, g1, g2, g3⟩ := hI
    refine ⟨by rw [r14]; exact h00, GG, g1, g2, ?_⟩
    rw [r14]
    refine g3.cong hPl' (fun j => r5 i j hi hn h00) (a4 5 _ 8 (fun q => by omega) (fun q => hne i hi hn h00 q.2) (fun q => absurd q.1 (by decide))) (fun j hj => l10 i j hi h00 hj) (l11 i hi h00) (fun j m hj => a4 10 _ m (fun _ => lt10 i j hi h00 hj) (fun q => absurd q.1 (by decide)) (fun q => ?_)) (fun m => a5 11 _ m (fun _ => lt11 i hi h00) (fun q => hn ((hO.2 i id hi hid h00 ho).2 q.2)))
    obtain ⟨-, j', hj', e'⟩ := q
    exact hn (hS.2 i id j j' hi hid h00 ho hj hj' e').1
  · exact a4 5 _ j (fun q => by omega) (fun q => hne i hi hn h0 q.2) (fun q => absurd q.1 (by decide))
  · unfold kS
    rw [r14]
    by_cases h0 : gR s 14 1 i = 0
    · rw [if_pos h0, if_pos h0]
    · rw [if_neg h0, if_neg h0, r5 i 3 hi hn h0, l10 i 3 hi h0 jn3]
end BAS
