/-! ===== a new series; begin ===== -/
/-- only an object that is new is written, and what is new -/
def AF (s s' : St) (o : Nat) : Prop :=
  (∀ k i j, nwk s k i → ¬ (k = 5 ∧ i = o) → gR s' k i j = gR s k i j) ∧ (∀ k i, nwk s k i → gL s' k i = gL s k i) ∧ (∀ k, gN s k ≤ gN s' k ∧ (¬ k = 10 → ¬ k = 11 → gN s' k = gN s k)) ∧
  (∀ k i j, nwk s k i → ¬ (k = 5 ∧ i = o) → gI s' k i j = gI s k i j) ∧ ∀ k i j, nwk s k i → gJ s' k i j = gJ s k i j
theorem AF.rf (s : St) (o : Nat) : AF s s o := ⟨fun _ _ _ _ _ => rfl, fun _ _ _ => rfl, fun _ => ⟨Nat.le_refl _, fun _ _ => rfl⟩, fun _ _ _ _ _ => rfl, fun _ _ _ _ => rfl⟩
theorem AF.tr {s t u : St} {o : Nat} (h : AF s t o) (h' : AF t u o) : AF s u o := by
  obtain ⟨a1, a2, a3, a4, a5⟩ := h
  obtain ⟨b1, b2, b3, b4, b5⟩ := h'
  have up : ∀ k i, nwk s k i → nwk t k i := fun k i hk hq => Nat.le_trans (hk hq) (a3 k).1
  exact ⟨fun k i j hk hn => (b1 k i j (up k i hk) hn).trans (a1 k i j hk hn), fun k i hk => (b2 k i (up k i hk)).trans (a2 k i hk), fun k => ⟨Nat.le_trans (a3 k).1 (b3 k).1, fun h1 h2 => ((b3 k).2 h1 h2).trans ((a3 k).2 h1 h2)⟩, fun k i j hk hn => (b4 k i j (up k i hk) hn).trans (a4 k i j hk hn), fun k i j hk => (b5 k i j (up k i hk)).trans (a5 k i j hk)⟩
def mkI (s : St) (o f m : Nat) : St := sR (nW s 10 m m) 5 o f (gN s 10 + 1)
def mkJ (s : St) (o m : Nat) : St := sR (nW s 11 m m) 5 o 5 (gN s 11 + 1)
theorem mkI_R (s : St) (o f m j : Nat) : gR (mkI s o f m) 5 o j = if j = f then gN s 10 + 1 else gR s 5 o j := by
  unfold mkI
  rw [gR_sR, gR_nW]
  by_cases h : j = f
  · rw [if_pos ⟨rfl, rfl, h⟩, if_pos h]
  · rw [if_neg (fun q => h q.2.2), if_neg h, if_neg (fun q => absurd q.1 (by decide))]
theorem mkI_L (s : St) (o f m k r : Nat) : gL (mkI s o f m) k r = if k = 10 ∧ r = gN s 10 + 1 then m else gL s k r := rfl
theorem mkI_N (s : St) (o f m k : Nat) : gN (mkI s o f m) k = if k = 10 then gN s 10 + 1 else gN s k := rfl
theorem mkJ_R (s : St) (o m j : Nat) : gR (mkJ s o m) 5 o j = if j = 5 then gN s 11 + 1 else gR s 5 o j := by
  unfold mkJ
  rw [gR_sR, gR_nW]
  by_cases h : j = 5
  · rw [if_pos ⟨rfl, rfl, h⟩, if_pos h]
  · rw [if_neg (fun q => h q.2.2), if_neg h, if_neg (fun q => absurd q.1 (by decide))]
theorem mkJ_L (s : St) (o m k r : Nat) : gL (mkJ s o m) k r = if k = 11 ∧ r = gN s 11 + 1 then m else gL s k r := rfl
theorem mkJ_N (s : St) (o m k : Nat) : gN (mkJ s o m) k = if k = 11 then gN s 11 + 1 else gN s k := rfl
theorem mkI_af (s : St) (o f m : Nat) : AF s (mkI s o f m) o := by
  refine ⟨fun k i j hk hn => ?_, fun k i hk => ?_, fun k => ?_, fun k i j hk hn => ?_, fun k i j hk => ?_⟩
  · unfold mkI
    rw [gR_sR, if_neg (fun q => hn ⟨q.1, q.2.1⟩), gR_nW, if_neg (fun q => by have := hk (Or.inl q.1); rw [q.1] at this; omega)]
  · rw [mkI_L, if_neg (fun q => by have := hk (Or.inl q.1); rw [q.1] at this; omega)]
  · rw [mkI_N]
    by_cases c1 : k = 10
    · rw [if_pos c1, c1]; exact ⟨by omega, fun q => absurd rfl q⟩
    · rw [if_neg c1]; exact ⟨Nat.le_refl _, fun _ _ => rfl⟩
  · unfold mkI
    rw [gI_sR, gI_nW, if_neg (fun q => by have := hk (Or.inl q.1); rw [q.1] at this; omega)]
  · unfold mkI
    rw [gJ_sR, gJ_nW, if_neg (fun q => by have := hk (Or.inl q.1); rw [q.1] at this; omega)]
theorem mkJ_af (s : St) (o m : Nat) : AF s (mkJ s o m) o := by
  refine ⟨fun k i j hk hn => ?_, fun k i hk => ?_, fun k => ?_, fun k i j hk hn => ?_, fun k i j hk => ?_⟩
  · unfold mkJ
    rw [gR_sR, if_neg (fun q => hn ⟨q.1, q.2.1⟩), gR_nW, if_neg (fun q => by have := hk (Or.inr q.1); rw [q.1] at this; omega)]
  · rw [mkJ_L, if_neg (fun q => by have := hk (Or.inr q.1); rw [q.1] at this; omega)]
  · rw [mkJ_N]
    by_cases c1 : k = 11
    · rw [if_pos c1, c1]; exact ⟨by omega, fun _ q => absurd rfl q⟩
    · rw [if_neg c1]; exact ⟨Nat.le_refl _, fun _ _ => rfl⟩
  · unfold mkJ
    rw [gI_sR, gI_nW, if_neg (fun q => by have := hk (Or.inr q.1); rw [q.1] at this; omega)]
  · unfold mkJ
    rw [gJ_sR, gJ_nW, if_neg (fun q => by have := hk (Or.inr q.1); rw [q.1] at this; omega)]
def c16 (j : Nat) : Nat := if j < 3 then 4 else 16
def inS (s : St) (o p : Nat) : St := sR (sI (sI (sI (mkI (mkI (mkJ (mkI (mkI (mkI (mkI s o 1 4) o 2 4) o 3 16) o 4 16) o 16) o 6 16) o 7 16) 5 o 8 0) 5 o 9 0) 5 o 10 0) 5 o 0 p
theorem mkI_e (s : St) (o f m : Nat) : sR (nW s 10 m m) 5 o f (gN s 10 + 1) = mkI s o f m := rfl
theorem mkJ_e (s : St) (o m : Nat) : sR (nW s 11 m m) 5 o 5 (gN s 11 + 1) = mkJ s o m := rfl
theorem mkI_c (s : St) (o f m : Nat) : cn (mkI s o f m) = cn s + 1 ∧ sn (mkI s o f m) = sn s + m := ⟨rfl, rfl⟩
theorem mkJ_c (s : St) (o m : Nat) : cn (mkJ s o m) = cn s + 1 ∧ sn (mkJ s o m) = sn s + m := ⟨rfl, rfl⟩
section NEWS
variable {s : St} {o p n : Nat} {S K : Nat → Int} {fu : Nat} {c : Nat → Nat}
theorem X5_init_e (ho : ¬ o = 0) (hr1 : cn s + 7 ≤ 601024) (hr2 : sn s + 88 ≤ 7293034) : f_X5_init fu s o p = some (inS s o p) := by
  have r : ∀ (u : St) (k m : Nat), cn u + 1 ≤ 601024 → sn u + m ≤ 7293034 → rmb (nW u k m m) = true := fun u k m h1 h2 => rmb_of (by rw [cn_nW]; omega) (by rw [sn_nW]; omega)
  have z4 : szb 4 = true := by decide
  have z16 : szb 16 = true := by decide
  have i4 : ix 4 = 4 := rfl
  have i16 : ix 16 = 16 := rfl
  have k1 := mkI_c s o 1 4
  have k2 := mkI_c (mkI s o 1 4) o 2 4
  have k3 := mkI_c (mkI (mkI s o 1 4) o 2 4) o 3 16
  have k4 := mkI_c (mkI (mkI (mkI s o 1 4) o 2 4) o 3 16) o 4 16
  have k5 := mkJ_c (mkI (mkI (mkI (mkI s o 1 4) o 2 4) o 3 16) o 4 16) o 16
  have k6 := mkI_c (mkJ (mkI (mkI (mkI (mkI s o 1 4) o 2 4) o 3 16) o 4 16) o 16) o 6 16
  have r1 := r s 10 4 (by omega) (by omega)
  have r2 := r (mkI s o 1 4) 10 4 (by omega) (by omega)
  have r3 := r (mkI (mkI s o 1 4) o 2 4) 10 16 (by omega) (by omega)
  have r4 := r (mkI (mkI (mkI s o 1 4) o 2 4) o 3 16) 10 16 (by omega) (by omega)
  have r5 := r (mkI (mkI (mkI (mkI s o 1 4) o 2 4) o 3 16) o 4 16) 11 16 (by omega) (by omega)
  have r6 := r (mkJ (mkI (mkI (mkI (mkI s o 1 4) o 2 4) o 3 16) o 4 16) o 16) 10 16 (by omega) (by omega)
  have r7 := r (mkI (mkJ (mkI (mkI (mkI (mkI s o 1 4) o 2 4) o 3 16) o 4 16) o 16) o 6 16) 10 16 (by omega) (by omega)
  have st : ∀ (u : St) (f : Nat) (m : Int32) (mm : Nat) (F : St → Option St), ix m = mm → szb m = true → rmb (nW u 10 mm mm) = true → (if szb m = false then none else lt (nW u 10 (ix m) (ix m) : St) fun a => if rmb a = false then none else lt (sR a 5 o f (gN u 10 + 1) : St) F) = F (mkI u o f mm) := fun u f m mm F hm h1 h2 => by
    subst hm
    rw [if_neg (by rw [h1]; decide)]
    unfold lt
    dsimp only
    rw [if_neg (by rw [h2]; decide)]
    rfl
  have sj : ∀ (u : St) (m : Int32) (mm : Nat) (F : St → Option St), ix m = mm → szb m = true → rmb (nW u 11 mm mm) = true → (if szb m = false then none else lt (nW u 11 (ix m) (ix m) : St) fun a => if rmb a = false then none else lt (sR a 5 o 5 (gN u 11 + 1) : St) F) = F (mkJ u o mm) := fun u m mm F hm h1 h2 => by
    subst hm
    rw [if_neg (by rw [h1]; decide)]
    unfold lt
    dsimp only
    rw [if_neg (by rw [h2]; decide)]
    rfl
  unfold f_X5_init
  rw [if_neg ho, st s 1 4 4 _ i4 z4 r1, st (mkI s o 1 4) 2 4 4 _ i4 z4 r2, st (mkI (mkI s o 1 4) o 2 4) 3 16 16 _ i16 z16 r3, st (mkI (mkI (mkI s o 1 4) o 2 4) o 3 16) 4 16 16 _ i16 z16 r4, sj (mkI (mkI (mkI (mkI s o 1 4) o 2 4) o 3 16) o 4 16) 16 16 _ i16 z16 r5, st (mkJ (mkI (mkI (mkI (mkI s o 1 4) o 2 4) o 3 16) o 4 16) o 16) 6 16 16 _ i16 z16 r6, st (mkI (mkJ (mkI (mkI (mkI (mkI s o 1 4) o 2 4) o 3 16) o 4 16) o 16) o 6 16) 7 16 16 _ i16 z16 r7]
  rfl
theorem inS_own (ho : ¬ o = 0 ∧ o ≤ gN s 5) (hN : 38 ≤ gN s 10) (hM : 1 ≤ gN s 11) : OwnC (inS s o p) o c16 ∧ AF s (inS s o p) o ∧ cn (inS s o p) = cn s + 7 ∧ sn (inS s o p) = sn s + 88 := by
  have hs : AF s (mkI (mkI (mkJ (mkI (mkI (mkI (mkI s o 1 4) o 2 4) o 3 16) o 4 16) o 16) o 6 16) o 7 16) o := ((((((mkI_af s o 1 4).tr (mkI_af _ o 2 4)).tr (mkI_af _ o 3 16)).tr (mkI_af _ o 4 16)).tr (mkJ_af _ o 16)).tr (mkI_af _ o 6 16)).tr (mkI_af _ o 7 16)
  have hR : ∀ j, ¬ j = 0 → gR (inS s o p) 5 o j = gR (mkI (mkI (mkJ (mkI (mkI (mkI (mkI s o 1 4) o 2 4) o 3 16) o 4 16) o 16) o 6 16) o 7 16) 5 o j := fun j hj => by
    unfold inS
    rw [gR_sR, if_neg (fun q => hj q.2.2), gR_sI, gR_sI, gR_sI]
  have hL : gL (inS s o p) = gL (mkI (mkI (mkJ (mkI (mkI (mkI (mkI s o 1 4) o 2 4) o 3 16) o 4 16) o 16) o 6 16) o 7 16) := rfl
  have hNn : gN (inS s o p) = gN (mkI (mkI (mkJ (mkI (mkI (mkI (mkI s o 1 4) o 2 4) o 3 16) o 4 16) o 16) o 6 16) o 7 16) := rfl
  have v1 : gR (inS s o p) 5 o 1 = gN s 10 + 1 := by rw [hR 1 (by decide)]; simp only [mkI_R, mkJ_R, mkI_N, mkJ_N, Nat.reduceEqDiff, reduceIte]
  have v2 : gR (inS s o p) 5 o 2 = gN s 10 + 2 := by rw [hR 2 (by decide)]; simp only [mkI_R, mkJ_R, mkI_N, mkJ_N, Nat.reduceEqDiff, reduceIte]
  have v3 : gR (inS s o p) 5 o 3 = gN s 10 + 3 := by rw [hR 3 (by decide)]; simp only [mkI_R, mkJ_R, mkI_N, mkJ_N, Nat.reduceEqDiff, reduceIte]
  have v4 : gR (inS s o p) 5 o 4 = gN s 10 + 4 := by rw [hR 4 (by decide)]; simp only [mkI_R, mkJ_R, mkI_N, mkJ_N, Nat.reduceEqDiff, reduceIte]
  have v5 : gR (inS s o p) 5 o 5 = gN s 11 + 1 := by rw [hR 5 (by decide)]; simp only [mkI_R, mkJ_R, mkI_N, mkJ_N, Nat.reduceEqDiff, reduceIte]
  have v6 : gR (inS s o p) 5 o 6 = gN s 10 + 5 := by rw [hR 6 (by decide)]; simp only [mkI_R, mkJ_R, mkI_N, mkJ_N, Nat.reduceEqDiff, reduceIte]
  have v7 : gR (inS s o p) 5 o 7 = gN s 10 + 6 := by rw [hR 7 (by decide)]; simp only [mkI_R, mkJ_R, mkI_N, mkJ_N, Nat.reduceEqDiff, reduceIte]
  have vN : gN (inS s o p) 10 = gN s 10 + 6 := by rw [hNn]; simp only [mkI_N, mkJ_N, Nat.reduceEqDiff, reduceIte]
  have vM : gN (inS s o p) 11 = gN s 11 + 1 := by rw [hNn]; simp only [mkI_N, mkJ_N, Nat.reduceEqDiff, reduceIte]
  have v0 : gN (inS s o p) 5 = gN s 5 := by rw [hNn]; simp only [mkI_N, mkJ_N, Nat.reduceEqDiff, reduceIte]
  have vL : ∀ d, d < 6 → gL (inS s o p) 10 (gN s 10 + 1 + d) = if d < 2 then 4 else 16 := by
    intro d hd
    rw [hL]
    have : d = 0 ∨ d = 1 ∨ d = 2 ∨ d = 3 ∨ d = 4 ∨ d = 5 := by omega
    rcases this with rfl | rfl | rfl | rfl | rfl | rfl <;> simp [mkI_L, mkJ_L, mkI_N, mkJ_N] <;> omega
  have vL5 : gL (inS s o p) 11 (gN s 11 + 1) = 16 := by rw [hL]; simp [mkI_L, mkJ_L, mkI_N, mkJ_N]
  refine ⟨⟨⟨ho.1, by rw [v0]; exact ho.2⟩, fun j hj => ?_, by rw [v5, vM]; omega, fun j j' hj hj' e => ?_, fun j hj => ?_, ?_⟩, ?_, rfl, rfl⟩
  · rw [vN]
    rcases hj with rfl | rfl | rfl | rfl | rfl | rfl
    · rw [v1]; omega
    · rw [v2]; omega
    · rw [v3]; omega
    · rw [v4]; omega
    · rw [v6]; omega
    · rw [v7]; omega
  · rcases hj with rfl | rfl | rfl | rfl | rfl | rfl <;> rcases hj' with rfl | rfl | rfl | rfl | rfl | rfl <;> first | rfl | (simp only [v1, v2, v3, v4, v6, v7] at e; omega)
  · rcases hj with rfl | rfl | rfl | rfl | rfl | rfl
    · rw [v1]; exact vL 0 (by omega)
    · rw [v2]; exact vL 1 (by omega)
    · rw [v3]; exact vL 2 (by omega)
    · rw [v4]; exact vL 3 (by omega)
    · rw [v6]; exact vL 4 (by omega)
    · rw [v7]; exact vL 5 (by omega)
  · rw [v5]; exact vL5
  · obtain ⟨a1, a2, a3, a4, a5⟩ := hs
    refine ⟨fun k i j hk hn => ?_, fun k i hk => ?_, fun k => ?_, fun k i j hk hn => ?_, fun k i j hk => ?_⟩
    · unfold inS
      rw [gR_sR, if_neg (fun q => hn ⟨q.1, q.2.1⟩), gR_sI, gR_sI, gR_sI]
      exact a1 k i j hk hn
    · rw [hL]; exact a2 k i hk
    · rw [hNn]; exact a3 k
    · unfold inS
      rw [gI_sR, gI_sI, if_neg (fun q => hn ⟨q.1, q.2.1⟩), gI_sI, if_neg (fun q => hn ⟨q.1, q.2.1⟩), gI_sI, if_neg (fun q => hn ⟨q.1, q.2.1⟩)]
      exact a4 k i j hk hn
    · exact a5 k i j hk
end NEWS
