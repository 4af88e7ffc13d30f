/-! ===== what a series of the class owns; calls that change one ===== -/
/-- numbers of kinds whose rows can be made -/
def nwk (s : St) (k i : Nat) : Prop := (k = 10 ∨ k = 11) → i ≤ gN s k
def OwnC (s : St) (o : Nat) (c : Nat → Nat) : Prop :=
  (¬ o = 0 ∧ o ≤ gN s 5) ∧ (∀ j, Jn j → 38 < gR s 5 o j ∧ gR s 5 o j ≤ gN s 10) ∧ (1 < gR s 5 o 5 ∧ gR s 5 o 5 ≤ gN s 11) ∧
  (∀ j j', Jn j → Jn j' → gR s 5 o j = gR s 5 o j' → j = j') ∧ (∀ j, Jn j → gL s 10 (gR s 5 o j) = c j) ∧ gL s 11 (gR s 5 o 5) = c 5
/-- only what the series owns is written, or what is new -/
def Sfr (s s' : St) (o : Nat) : Prop :=
  (∀ k i j, nwk s k i → ¬ (k = 5 ∧ i = o) → gR s' k i j = gR s k i j) ∧
  (∀ k i, nwk s k i → gL s' k i = gL s k i) ∧
  (∀ k, gN s k ≤ gN s' k ∧ (¬ k = 10 → ¬ k = 11 → gN s' k = gN s k)) ∧
  (∀ k i j, nwk s k i → ¬ (k = 5 ∧ i = o) → ¬ (k = 10 ∧ ∃ j', Jn j' ∧ i = gR s 5 o j') → gI s' k i j = gI s k i j) ∧
  (∀ k i j, nwk s k i → ¬ (k = 11 ∧ i = gR s 5 o 5) → gJ s' k i j = gJ s k i j) ∧
  (∀ j, Jn j → gR s' 5 o j = gR s 5 o j ∨ gN s 10 < gR s' 5 o j) ∧ (gR s' 5 o 5 = gR s 5 o 5 ∨ gN s 11 < gR s' 5 o 5)
theorem Sfr.rf (s : St) (o : Nat) : Sfr s s o := ⟨fun _ _ _ _ _ => rfl, fun _ _ _ => rfl, fun _ => ⟨Nat.le_refl _, fun _ _ => rfl⟩, fun _ _ _ _ _ _ => rfl, fun _ _ _ _ _ => rfl, fun _ _ => Or.inl rfl, Or.inl rfl⟩
theorem Sfr.tr {s t u : St} {o : Nat} (h : Sfr s t o) (h' : Sfr t u o) : Sfr s u o := by
  obtain ⟨a1, a2, a3, a4, a5, a6, a7⟩ := h
  obtain ⟨b1, b2, b3, b4, b5, b6, b7⟩ := h'
  have up : ∀ k i, nwk s k i → nwk t k i := fun k i hk hq => Nat.le_trans (hk hq) (a3 k).1
  refine ⟨fun k i j hk hn => (b1 k i j (up k i hk) hn).trans (a1 k i j hk hn), fun k i hk => (b2 k i (up k i hk)).trans (a2 k i hk), fun k => ⟨Nat.le_trans (a3 k).1 (b3 k).1, fun h1 h2 => ((b3 k).2 h1 h2).trans ((a3 k).2 h1 h2)⟩, ?_, ?_, ?_, ?_⟩
  · intro k i j hk hn ho
    refine (b4 k i j (up k i hk) hn (fun q => ?_)).trans (a4 k i j hk hn ho)
    obtain ⟨hk10, j', hj', e⟩ := q
    rcases a6 j' hj' with w | w
    · exact ho ⟨hk10, j', hj', e.trans w⟩
    · subst hk10; have := hk (Or.inl rfl); omega
  · intro k i j hk ho
    refine (b5 k i j (up k i hk) (fun q => ?_)).trans (a5 k i j hk ho)
    obtain ⟨hk11, e⟩ := q
    rcases a7 with w | w
    · exact ho ⟨hk11, e.trans w⟩
    · subst hk11; have := hk (Or.inr rfl); omega
  · intro j hj
    rcases b6 j hj with w | w
    · rcases a6 j hj with v | v
      · exact Or.inl (w.trans v)
      · right; omega
    · right; have := (a3 10).1; omega
  · rcases b7 with w | w
    · rcases a7 with v | v
      · exact Or.inl (w.trans v)
      · right; omega
    · right; have := (a3 11).1; omega
/-- the rows hold what they held -/
def DC (s s' : St) (o : Nat) (c : Nat → Nat) : Prop := (∀ j, Jn j → ∀ m, m < c j → gI s' 10 (gR s' 5 o j) m = gI s 10 (gR s 5 o j) m) ∧ (∀ m, m < c 5 → gJ s' 11 (gR s' 5 o 5) m = gJ s 11 (gR s 5 o 5) m) ∧ (∀ j, gI s' 5 o j = gI s 5 o j) ∧ gR s' 5 o 0 = gR s 5 o 0
def upf (c : Nat → Nat) (f v : Nat) : Nat → Nat := fun j => if j = f then v else c j
theorem DC.tr {s t u : St} {o : Nat} {c c' : Nat → Nat} (h : DC s t o c) (hc : ∀ j, c j ≤ c' j) (h' : DC t u o c') : DC s u o c := by
  obtain ⟨a1, a2, a3, a4⟩ := h
  obtain ⟨b1, b2, b3, b4⟩ := h'
  exact ⟨fun j hj m hm => (b1 j hj m (by have := hc j; omega)).trans (a1 j hj m hm), fun m hm => (b2 m (by have := hc 5; omega)).trans (a2 m hm), fun j => (b3 j).trans (a3 j), b4.trans a4⟩
/-- one row made longer -/
def grI (s : St) (o f m : Nat) : St := sR (wI (nW s 10 m m) 10 (gN s 10 + 1) (va_cpy (gI s 10 (gR s 5 o f)) (fun _ => 0) 0 0 (gL s 10 (gR s 5 o f)))) 5 o f (gN s 10 + 1)
def grJ (s : St) (o m : Nat) : St := sR (wJ (nW s 11 m m) 11 (gN s 11 + 1) (va_cpy (gJ s 11 (gR s 5 o 5)) (fun _ => 0) 0 0 (gL s 11 (gR s 5 o 5)))) 5 o 5 (gN s 11 + 1)
theorem grI_R (s : St) (o f m k i j : Nat) : gR (grI s o f m) k i j = if k = 5 ∧ i = o ∧ j = f then gN s 10 + 1 else if k = 10 ∧ i = gN s 10 + 1 then 0 else gR s k i j := by
  unfold grI
  rw [gR_sR, gR_wI, gR_nW]
theorem grI_L (s : St) (o f m k i : Nat) : gL (grI s o f m) k i = if k = 10 ∧ i = gN s 10 + 1 then m else gL s k i := by
  unfold grI
  rw [gL_sR, gL_wI, gL_nW]
theorem grI_N (s : St) (o f m k : Nat) : gN (grI s o f m) k = if k = 10 then gN s 10 + 1 else gN s k := by
  unfold grI
  rw [gN_sR, gN_wI, gN_nW]
theorem grI_I (s : St) (o f m k i j : Nat) : gI (grI s o f m) k i j = if k = 10 ∧ i = gN s 10 + 1 then va_cpy (gI s 10 (gR s 5 o f)) (fun _ => 0) 0 0 (gL s 10 (gR s 5 o f)) j else gI s k i j := by
  unfold grI
  rw [gI_sR, gI_wI, gI_nW]
  by_cases h : k = 10 ∧ i = gN s 10 + 1
  · rw [if_pos h, if_pos h]
  · rw [if_neg h, if_neg h, if_neg h]
theorem grI_J (s : St) (o f m k i j : Nat) : gJ (grI s o f m) k i j = if k = 10 ∧ i = gN s 10 + 1 then 0 else gJ s k i j := by
  unfold grI
  rw [gJ_sR, gJ_wI, gJ_nW]
theorem grJ_R (s : St) (o m k i j : Nat) : gR (grJ s o m) k i j = if k = 5 ∧ i = o ∧ j = 5 then gN s 11 + 1 else if k = 11 ∧ i = gN s 11 + 1 then 0 else gR s k i j := by
  unfold grJ
  rw [gR_sR, gR_wJ, gR_nW]
theorem grJ_L (s : St) (o m k i : Nat) : gL (grJ s o m) k i = if k = 11 ∧ i = gN s 11 + 1 then m else gL s k i := by
  unfold grJ
  rw [gL_sR, gL_wJ, gL_nW]
theorem grJ_N (s : St) (o m k : Nat) : gN (grJ s o m) k = if k = 11 then gN s 11 + 1 else gN s k := by
  unfold grJ
  rw [gN_sR, gN_wJ, gN_nW]
theorem grJ_I (s : St) (o m k i j : Nat) : gI (grJ s o m) k i j = if k = 11 ∧ i = gN s 11 + 1 then 0 else gI s k i j := by
  unfold grJ
  rw [gI_sR, gI_wJ, gI_nW]
theorem grJ_J (s : St) (o m k i j : Nat) : gJ (grJ s o m) k i j = if k = 11 ∧ i = gN s 11 + 1 then va_cpy (gJ s 11 (gR s 5 o 5)) (fun _ => 0) 0 0 (gL s 11 (gR s 5 o 5)) j else gJ s k i j := by
  unfold grJ
  rw [gJ_sR, gJ_wJ, gJ_nW]
  by_cases h : k = 11 ∧ i = gN s 11 + 1
  · rw [if_pos h, if_pos h]
  · rw [if_neg h, if_neg h, if_neg h]
theorem Jn5 {j : Nat} (h : Jn j) : ¬ j = 5 := by unfold Jn at h; omega
theorem grI_own {s : St} {o : Nat} {c : Nat → Nat} (h : OwnC s o c) {f : Nat} (hf : Jn f) {m : Nat} (hm : c f ≤ m) : OwnC (grI s o f m) o (upf c f m) ∧ Sfr s (grI s o f m) o ∧ DC s (grI s o f m) o c ∧ cn (grI s o f m) = cn s + 1 ∧ sn (grI s o f m) = sn s + m := by
  obtain ⟨⟨h1, h2⟩, h3, h4, h5, h6, h7⟩ := h
  have rr : ∀ j, gR (grI s o f m) 5 o j = if j = f then gN s 10 + 1 else gR s 5 o j := fun j => by
    rw [grI_R]
    by_cases hj : j = f
    · rw [if_pos ⟨rfl, rfl, hj⟩, if_pos hj]
    · rw [if_neg (fun q => hj q.2.2), if_neg hj, if_neg (fun q => absurd q.1 (by decide))]
  refine ⟨⟨⟨h1, by rw [grI_N, if_neg (by decide)]; exact h2⟩, fun j hj => ?_, ?_, fun j j' hj hj' e => ?_, fun j hj => ?_, ?_⟩, ⟨fun k i j hk hn => ?_, fun k i hk => ?_, fun k => ?_, fun k i j hk hn ho => ?_, fun k i j hk ho => ?_, fun j hj => ?_, ?_⟩, ⟨fun j hj m' hm' => ?_, fun m' hm' => ?_, fun j => ?_, ?_⟩, rfl, rfl⟩
  · have := h3 j hj
    have := h3 f hf
    rw [rr, grI_N, if_pos rfl]
    split <;> omega
  · rw [rr, if_neg (fun q => Jn5 hf q.symm), grI_N, if_neg (by decide)]; exact h4
  · rw [rr, rr] at e
    have a1 := h3 j hj
    have a2 := h3 j' hj'
    by_cases c1 : j = f <;> by_cases c2 : j' = f
    · omega
    · rw [if_pos c1, if_neg c2] at e; omega
    · rw [if_neg c1, if_pos c2] at e; omega
    · rw [if_neg c1, if_neg c2] at e; exact h5 j j' hj hj' e
  · have a1 := h3 j hj
    rw [rr, grI_L]
    unfold upf
    by_cases c1 : j = f
    · rw [if_pos c1, if_pos ⟨rfl, rfl⟩, if_pos c1]
    · rw [if_neg c1, if_neg (fun q => by omega), if_neg c1]; exact h6 j hj
  · rw [rr, if_neg (fun q => Jn5 hf q.symm), grI_L, if_neg (fun q => absurd q.1 (by decide))]
    unfold upf
    rw [if_neg (fun q => Jn5 hf q.symm)]
    exact h7
  · rw [grI_R, if_neg (fun q => hn ⟨q.1, q.2.1⟩), if_neg (fun q => by have := hk (Or.inl q.1); rw [q.1] at this; omega)]
  · rw [grI_L, if_neg (fun q => by have := hk (Or.inl q.1); rw [q.1] at this; omega)]
  · rw [grI_N]
    by_cases c1 : k = 10
    · rw [if_pos c1, c1]; exact ⟨by omega, fun q => absurd rfl q⟩
    · rw [if_neg c1]; exact ⟨Nat.le_refl _, fun _ _ => rfl⟩
  · rw [grI_I, if_neg (fun q => by have := hk (Or.inl q.1); rw [q.1] at this; omega)]
  · rw [grI_J, if_neg (fun q => by have := hk (Or.inl q.1); rw [q.1] at this; omega)]
  · rw [rr]
    split
    · right; omega
    · exact Or.inl rfl
  · rw [rr, if_neg (fun q => Jn5 hf q.symm)]; exact Or.inl rfl
  · have a1 := h3 j hj
    rw [rr, grI_I]
    by_cases c1 : j = f
    · rw [if_pos c1, if_pos ⟨rfl, rfl⟩, c1, pk_cpy_in (Nat.zero_le _) (by rw [h6 f hf]; rw [c1] at hm'; omega)]
      congr 1
      omega
    · rw [if_neg c1, if_neg (fun q => by omega)]
  · rw [rr, if_neg (fun q => Jn5 hf q.symm), grI_J, if_neg (fun q => absurd q.1 (by decide))]
  · rw [grI_I, if_neg (fun q => absurd q.1 (by decide))]
  · rw [rr, if_neg (fun q => by unfold Jn at hf; omega)]
theorem grJ_own {s : St} {o : Nat} {c : Nat → Nat} (h : OwnC s o c) {m : Nat} (hm : c 5 ≤ m) : OwnC (grJ s o m) o (upf c 5 m) ∧ Sfr s (grJ s o m) o ∧ DC s (grJ s o m) o c ∧ cn (grJ s o m) = cn s + 1 ∧ sn (grJ s o m) = sn s + m := by
  obtain ⟨⟨h1, h2⟩, h3, h4, h5, h6, h7⟩ := h
  have rr : ∀ j, gR (grJ s o m) 5 o j = if j = 5 then gN s 11 + 1 else gR s 5 o j := fun j => by
    rw [grJ_R]
    by_cases hj : j = 5
    · rw [if_pos ⟨rfl, rfl, hj⟩, if_pos hj]
    · rw [if_neg (fun q => hj q.2.2), if_neg hj, if_neg (fun q => absurd q.1 (by decide))]
  refine ⟨⟨⟨h1, by rw [grJ_N, if_neg (by decide)]; exact h2⟩, fun j hj => ?_, ?_, fun j j' hj hj' e => ?_, fun j hj => ?_, ?_⟩, ⟨fun k i j hk hn => ?_, fun k i hk => ?_, fun k => ?_, fun k i j hk hn ho => ?_, fun k i j hk ho => ?_, fun j hj => ?_, ?_⟩, ⟨fun j hj m' hm' => ?_, fun m' hm' => ?_, fun j => ?_, ?_⟩, rfl, rfl⟩
  · rw [rr, if_neg (Jn5 hj), grJ_N, if_neg (by decide)]; exact h3 j hj
  · rw [rr, if_pos rfl, grJ_N, if_pos rfl]; omega
  · rw [rr, rr, if_neg (Jn5 hj), if_neg (Jn5 hj')] at e
    exact h5 j j' hj hj' e
  · rw [rr, if_neg (Jn5 hj), grJ_L, if_neg (fun q => absurd q.1 (by decide))]
    unfold upf
    rw [if_neg (Jn5 hj)]
    exact h6 j hj
  · rw [rr, if_pos rfl, grJ_L, if_pos ⟨rfl, rfl⟩]
    unfold upf
    rw [if_pos rfl]
  · rw [grJ_R, if_neg (fun q => hn ⟨q.1, q.2.1⟩), if_neg (fun q => by have := hk (Or.inr q.1); rw [q.1] at this; omega)]
  · rw [grJ_L, if_neg (fun q => by have := hk (Or.inr q.1); rw [q.1] at this; omega)]
  · rw [grJ_N]
    by_cases c1 : k = 11
    · rw [if_pos c1, c1]; exact ⟨by omega, fun _ q => absurd rfl q⟩
    · rw [if_neg c1]; exact ⟨Nat.le_refl _, fun _ _ => rfl⟩
  · rw [grJ_I, if_neg (fun q => by have := hk (Or.inr q.1); rw [q.1] at this; omega)]
  · rw [grJ_J, if_neg (fun q => by have := hk (Or.inr q.1); rw [q.1] at this; omega)]
  · rw [rr, if_neg (Jn5 hj)]; exact Or.inl rfl
  · rw [rr, if_pos rfl]; right; omega
  · rw [rr, if_neg (Jn5 hj), grJ_I, if_neg (fun q => absurd q.1 (by decide))]
  · rw [rr, if_pos rfl, grJ_J, if_pos ⟨rfl, rfl⟩, pk_cpy_in (Nat.zero_le _) (by rw [h7]; omega)]
    congr 1
    omega
  · rw [grJ_I, if_neg (fun q => absurd q.1 (by decide))]
  · rw [rr, if_neg (by decide)]
