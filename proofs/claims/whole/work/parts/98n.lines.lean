/-! ===== what a line takes; all lines ===== -/
section LPO
variable {s : St} {fu N : Nat} {T : Nat → Nat} {k : Tk}
theorem aSg_pos (h : TkW T N k) {c : Nat} {k' : Tk} (e : aSg T N k c = .inr k') : TkW T N k' ∧ tB k + 1 ≤ tB k' := by
  unfold aSg at e
  by_cases q : sgQ T k c
  · rw [if_pos q] at e
    cases e
    have h1 := h.nx
    have h2 := h.2.2.2.1 (by rw [q.1]; decide)
    exact ⟨h1.1, by have := h1.2; omega⟩
  · rw [if_neg q] at e; cases e
theorem aNm_pos (h : TkW T N k) {lo hi v : Nat} (e : aNm k lo hi = .inr v) : tB k < tE k ∧ lo ≤ v ∧ v ≤ hi ∧ v < 10000000 := by
  unfold aNm at e
  by_cases c : tK k = 2
  · rw [if_pos c] at e
    by_cases q : tE k - tB k ≤ 7 ∧ lo ≤ tV k ∧ tV k ≤ hi
    · rw [if_pos q] at e
      cases e
      exact ⟨h.2.2.2.1 (by rw [c]; decide), q.2.1, q.2.2, h.2.2.2.2.2.2 c q.1⟩
    · rw [if_neg q] at e; cases e
  · rw [if_neg c] at e; cases e
theorem aTn_pos (h : TkW T N k) {lo hi v : Nat} {k' : Tk} (e : aTn T N k lo hi = .inr (k', v)) : TkW T N k' ∧ tB k + 1 ≤ tB k' ∧ lo ≤ v ∧ v ≤ hi := by
  unfold aTn at e
  cases hr : aNm k lo hi with
  | inl f => rw [hr] at e; cases e
  | inr v0 =>
    rw [hr] at e
    cases e
    obtain ⟨a1, a2, a3, -⟩ := aNm_pos h hr
    have h1 := h.nx
    exact ⟨h1.1, by have := h1.2; omega, a2, a3⟩
theorem aTs_pos (h : TkW T N k) {hi : Nat} {v : Int32} {k' : Tk} (e : aTs T N k hi = .inr (k', v)) : TkW T N k' ∧ tB k + 1 ≤ tB k' ∧ -(hi : Int) ≤ v.toInt ∧ v.toInt ≤ hi := by
  unfold aTs at e
  by_cases q : sgQ T k 45
  · rw [if_pos q] at e
    have h1 := h.nx
    cases hr : aNm (nx T N k) 0 hi with
    | inl f => rw [hr] at e; cases e
    | inr v0 =>
      rw [hr] at e
      cases e
      obtain ⟨a1, a2, a3, a4⟩ := aNm_pos h1.1 hr
      have h2 := h1.1.nx
      have e0 := nu_nI (n := v0) (by omega)
      exact ⟨h2.1, by have := h2.2; have := h1.2; have := h.1; omega, by rw [nu_neg (by omega), e0]; omega, by rw [nu_neg (by omega), e0]; omega⟩
  · rw [if_neg q] at e
    cases hr : aNm k 0 hi with
    | inl f => rw [hr] at e; cases e
    | inr v0 =>
      rw [hr] at e
      cases e
      obtain ⟨a1, a2, a3, a4⟩ := aNm_pos h hr
      have h2 := h.nx
      have e0 := nu_nI (n := v0) (by omega)
      exact ⟨h2.1, by have := h2.2; omega, by rw [e0]; omega, by rw [e0]; omega⟩
/-- lines that can be -/
def LnW (l : Ln) : Prop := l.1 ≤ 2 ∧ l.2.1 ≤ 9 ∧ (-1000000 ≤ l.2.2.1.toInt ∧ l.2.2.1.toInt ≤ 1000000) ∧ (-10000 ≤ l.2.2.2.toInt ∧ l.2.2.2.toInt ≤ 10000)
theorem aKd_w {c : Nat} (h : aKd T k = some c) : tK k = 1 ∧ (if c = 0 then 3 else 4) ≤ tE k - tB k := by
  have wl14 : sL 14 = 3 := rfl
  have wl15 : sL 15 = 4 := rfl
  have wl16 : sL 16 = 4 := rfl
  unfold aKd at h
  split at h
  · rename_i q
    cases h
    exact ⟨q.1, by rw [((wv_iff T k 14).mp q.2).1, wl14]; decide⟩
  · split at h
    · rename_i q
      cases h
      exact ⟨q.1, by rw [((wv_iff T k 15).mp q.2).1, wl15]; decide⟩
    · split at h
      · rename_i q
        cases h
        exact ⟨q.1, by rw [((wv_iff T k 16).mp q.2).1, wl16]; decide⟩
      · cases h
theorem aLn_pos (h : TkW T N k) {k' : Tk} {l : Ln} (e : aLn T N k = .inr (k', l)) : TkW T N k' ∧ tB k + 6 ≤ tB k' ∧ LnW l := by
  unfold aLn at e
  cases hc : aKd T k with
  | none => rw [hc] at e; cases e
  | some c =>
    rw [hc] at e
    have hc2 := aKd_le hc
    obtain ⟨-, hw⟩ := aKd_w hc
    have h1 := h.nx
    have hbe := h.1
    cases hr : aTn T N (nx T N k) 0 9 with
    | inl f => simp only [hr] at e; cases e
    | inr kv =>
      obtain ⟨k2, id⟩ := kv
      simp only [hr] at e
      obtain ⟨t1, t2, t3, t4⟩ := aTn_pos h1.1 hr
      unfold aL1 at e
      -- the time
      have ht : ∃ k3 t, (if c = 2 then (.inr (k2, 0) : Flt (Tk × Int32)) else aTs T N k2 1000000) = .inr (k3, t) ∧ aL2 T N c id t k3 = .inr (k', l) ∧ TkW T N k3 ∧ (tB k2 + (if c = 2 then 0 else 1) ≤ tB k3) ∧ (-1000000 ≤ t.toInt ∧ t.toInt ≤ 1000000) := by
        by_cases c2 : c = 2
        · rw [if_pos c2] at e ⊢
          exact ⟨k2, 0, rfl, e, t1, by rw [if_pos c2]; omega, by rw [nu_0]; omega⟩
        · rw [if_neg c2] at e ⊢
          cases hq : aTs T N k2 1000000 with
          | inl f => simp only [hq] at e; cases e
          | inr kt =>
            obtain ⟨k3, t⟩ := kt
            simp only [hq] at e
            obtain ⟨u1, u2, u3, u4⟩ := aTs_pos t1 hq
            exact ⟨k3, t, rfl, e, u1, by rw [if_neg c2]; omega, by omega⟩
      obtain ⟨k3, t, -, e2, w3, p3, v3⟩ := ht
      unfold aL2 at e2
      have hv : ∃ k4 v, aL3 T N c id t v k4 = .inr (k', l) ∧ TkW T N k4 ∧ (tB k3 + (if c = 0 then 1 else 0) ≤ tB k4) ∧ (-10000 ≤ v.toInt ∧ v.toInt ≤ 10000) := by
        by_cases c0 : c = 0
        · rw [if_pos c0] at e2
          cases hq : aTs T N k3 10000 with
          | inl f => simp only [hq] at e2; cases e2
          | inr kt =>
            obtain ⟨k4, v⟩ := kt
            simp only [hq] at e2
            obtain ⟨u1, u2, u3, u4⟩ := aTs_pos w3 hq
            exact ⟨k4, v, e2, u1, by rw [if_pos c0]; omega, by omega⟩
        · rw [if_neg c0] at e2
          exact ⟨k3, 0, e2, w3, by rw [if_neg c0]; omega, by rw [nu_0]; omega⟩
      obtain ⟨k4, v, e3, w4, p4, v4⟩ := hv
      unfold aL3 at e3
      cases hq : aSg T N k4 59 with
      | inl f => simp only [hq] at e3; cases e3
      | inr k5 =>
        simp only [hq] at e3
        cases e3
        obtain ⟨u1, u2⟩ := aSg_pos w4 hq
        refine ⟨u1, ?_, hc2, t4, v3, v4⟩
        have hn := h1.2
        by_cases c0 : c = 0
        · rw [if_pos c0] at hw p4
          rw [if_neg (by omega)] at p3
          omega
        · rw [if_neg c0] at hw p4
          by_cases c2 : c = 2
          · rw [if_pos c2] at p3; omega
          · rw [if_neg c2] at p3; omega
/-- all lines -/
def aLs (T : Nat → Nat) (N : Nat) : Nat → Tk → List Ln → Flt (List Ln)
  | 0, _, A => .inr A
  | d + 1, k, A => if tK k = 0 then .inr A else match aLn T N k with
    | .inl f => .inl f
    | .inr (k', l) => aLs T N d k' (A ++ [l])
/-- what the class holds of the lines -/
def LsH (s : St) (A : List Ln) : Prop := ∀ m l, A[m]? = some l → LnH s m l
def LtF (s s' : St) : Prop := (gR s' = gR s ∧ gL s' = gL s ∧ gN s' = gN s ∧ cn s' = cn s ∧ sn s' = sn s ∧ gJ s' = gJ s) ∧ ∀ k i j, ¬ (k = 7 ∧ i = 1 ∧ 2 ≤ j) → ¬ (k = 10 ∧ 1 ≤ i ∧ i ≤ 4) → ¬ (k = 1 ∧ i = 1 ∧ j = 5) → gI s' k i j = gI s k i j
theorem X1_loop (hN : N ≤ 600) (hfu : 1000 ≤ fu) : ∀ (d m f0 : Nat) (s s0 : St) (k : Tk) (A : List Ln), m + d = 101 → d < f0 → A.length = m → PC s T N k → 6 * m ≤ tB k → gI s 1 1 5 = nI m → LsH s A → (∀ l ∈ A, LnW l) → LtF s0 s → (gI s 7 1 7 = 0 ∧ gI s 7 1 8 = -1) →
    (∀ f, aLs T N d k A = .inl f → ∃ s', f_X1_read_b15 fu f0 s 1 (nI m) = some (s', 0) ∧ LtF s0 s' ∧ FC s' f) ∧ (∀ B, aLs T N d k A = .inr B → ∃ s', f_X1_read_b15 fu f0 s 1 (nI m) = some (s', 1) ∧ LtF s0 s' ∧ LsH s' B ∧ gI s' 1 1 5 = nI B.length ∧ B.length ≤ 100 ∧ (∀ l ∈ B, LnW l) ∧ (gI s' 7 1 7 = 0 ∧ gI s' 7 1 8 = -1)) := by
  have e10 : ¬ (1 = 0) := by decide
  intro d
  induction d with
  | zero =>
    intro m f0 s s0 k A hm hf hA h hpos h5 hH hW hF hz
    have hw := h.2.2.2
    have := hw.1
    have := hw.2.1
    omega
  | succ d ih =>
    intro m f0 s s0 k A hm hf hA h hpos h5 hH hW hF hz
    obtain ⟨f0, rfl⟩ : ∃ m', f0 = m' + 1 := ⟨f0 - 1, by omega⟩
    have hw := h.2.2.2
    have hL := h.1.1
    have k4 := h.2.2.1.2.2.1
    have hkk := hw.2.2.1
    have hb53 : f_X1_read_b53 fu s = some (s, 1) := by
      unfold f_X1_read_b53
      rw [if_neg (by rw [zb1]; decide)]
    have done : tK k = 0 → ∃ s', f_X1_read_b15 fu (f0 + 1) s 1 (nI m) = some (s', 1) ∧ LtF s0 s' ∧ LsH s' A ∧ gI s' 1 1 5 = nI A.length ∧ A.length ≤ 100 ∧ (∀ l ∈ A, LnW l) ∧ (gI s' 7 1 7 = 0 ∧ gI s' 7 1 8 = -1) := fun q0 => by
      refine ⟨s, ?_, hF, hH, by rw [hA]; exact h5, by omega, hW, hz⟩
      unfold f_X1_read_b15
      by_cases c : (100 : Int32) ≤ nI m
      · rw [if_pos c]; exact hb53
      · rw [if_neg c, if_neg e10, lr_1_1_0 hL, if_neg e10, k4, if_pos (by rw [q0]; rfl)]; exact hb53
    unfold aLs
    by_cases q0 : tK k = 0
    · rw [if_pos q0]
      exact ⟨fun f hf => (by cases hf), fun B hB => by cases hB; exact done q0⟩
    · rw [if_neg q0]
      have hb3 := hw.b3 q0
      have hm100 : m < 100 := by omega
      obtain ⟨a1, a2⟩ := X1_rl (fu := fu) h hm100 h5 hfu
      have c100 : ¬ (100 : Int32) ≤ nI m := fun q => by have := (ni_le (a := 100) (b := m) (by omega) (by omega)).mp q; omega
      have n0 : ¬ nI (tK k) = 0 := fun q => q0 ((ni_eq (b := 0) (by omega) (by omega)).mp q)
      have hpre : f_X1_read_b15 fu (f0 + 1) s 1 (nI m) = bI (f_X1_readLine fu s 1) fun s9 x10 => if x10 = 0 then (if zb 0 = false then none else some (s9, 0)) else f_X1_read_b15 fu f0 (sI s9 1 1 5 (nI (m + 1))) 1 (nI (m + 1)) := by
        conv => lhs; unfold f_X1_read_b15
        rw [if_neg c100, if_neg e10, lr_1_1_0 hL, if_neg e10, k4, if_neg n0]
        simp only [lt, nu_nIa]
      rw [hpre]
      cases hr : aLn T N k with
      | inl fl =>
        obtain ⟨s', y1, y2, y3⟩ := a1 fl hr
        refine ⟨fun f hf => ?_, fun B hB => (by cases hB)⟩
        cases hf
        refine ⟨s', ?_, ⟨⟨y2.1.1.trans hF.1.1, y2.1.2.1.trans hF.1.2.1, y2.1.2.2.1.trans hF.1.2.2.1, y2.1.2.2.2.1.trans hF.1.2.2.2.1, y2.1.2.2.2.2.1.trans hF.1.2.2.2.2.1, y2.1.2.2.2.2.2.trans hF.1.2.2.2.2.2⟩, fun k' i j h1 h2 h3 => (y2.2 k' i j h1 (fun q => h2 ⟨q.1, q.2.1, q.2.2.1⟩)).trans (hF.2 k' i j h1 h2 h3)⟩, y3⟩
        rw [y1]
        simp only [bI, reduceIte]
        rw [if_neg (by rw [zb0]; decide)]
      | inr kl =>
        obtain ⟨k', l⟩ := kl
        obtain ⟨s1, y1, y2, y3, y4, y5⟩ := a2 k' l hr
        obtain ⟨p1, p2, p3⟩ := aLn_pos hw hr
        let s2 := sI s1 1 1 5 (nI (m + 1))
        have G : ∀ kk i j, ¬ (kk = 1 ∧ i = 1 ∧ j = 5) → gI s2 kk i j = gI s1 kk i j := fun kk i j hq => by show gI (sI s1 1 1 5 _) kk i j = _; rw [gI_sI, if_neg hq]
        have P2 : PC s2 T N k' := by
          obtain ⟨⟨w1, w2, w3⟩, w4, ⟨x1, x2, x3, x4⟩, w5⟩ := y3
          exact ⟨⟨w1.same rfl rfl rfl, fun j hj => by rw [G 12 1 j (by omega)]; exact w2 j hj, w3⟩, by rw [G 7 1 1 (by omega)]; exact w4, ⟨by rw [G 7 1 2 (by omega)]; exact x1, by rw [G 7 1 3 (by omega)]; exact x2, by rw [G 7 1 4 (by omega)]; exact x3, fun q => by rw [G 7 1 5 (by omega)]; exact x4 q⟩, w5⟩
        have F2 : LtF s0 s2 := ⟨⟨y2.1.1.trans hF.1.1, y2.1.2.1.trans hF.1.2.1, y2.1.2.2.1.trans hF.1.2.2.1, y2.1.2.2.2.1.trans hF.1.2.2.2.1, y2.1.2.2.2.2.1.trans hF.1.2.2.2.2.1, y2.1.2.2.2.2.2.trans hF.1.2.2.2.2.2⟩, fun kk i j h1 h2 h3 => (G kk i j h3).trans ((y2.2 kk i j h1 (fun q => h2 ⟨q.1, q.2.1, q.2.2.1⟩)).trans (hF.2 kk i j h1 h2 h3))⟩
        have hH2 : LsH s2 (A ++ [l]) := fun m' l' hl' => by
          unfold LnH
          rw [G 10 1 m' (by omega), G 10 2 m' (by omega), G 10 3 m' (by omega), G 10 4 m' (by omega)]
          by_cases c : m' < A.length
          · rw [List.getElem?_append_left c] at hl'
            rw [y2.2 10 1 m' (by omega) (by omega), y2.2 10 2 m' (by omega) (by omega), y2.2 10 3 m' (by omega) (by omega), y2.2 10 4 m' (by omega) (by omega)]
            exact hH m' l' hl'
          · have hlt := get_lt hl'
            rw [List.length_append, List.length_singleton] at hlt
            have hm' : m' = A.length := by omega
            rw [hm', List.getElem?_append_right (Nat.le_refl _), Nat.sub_self] at hl'
            have hll : l = l' := Option.some.inj hl'
            rw [hm', hA, ← hll]
            exact y5
        obtain ⟨b1, b2⟩ := ih (m + 1) f0 s2 s0 k' (A ++ [l]) (by omega) (by omega) (by rw [List.length_append, List.length_singleton, hA]) P2 (by omega) (by show gI (sI s1 1 1 5 (nI (m + 1))) 1 1 5 = _; rw [gI_sI, if_pos ⟨rfl, rfl, rfl⟩]) hH2 (fun l' hl' => by
          rcases List.mem_append.mp hl' with q | q
          · exact hW l' q
          · rw [List.mem_singleton.mp q]; exact p3) F2 ⟨by rw [G 7 1 7 (by omega), y4 7 (by omega)]; exact hz.1, by rw [G 7 1 8 (by omega), y4 8 (by omega)]; exact hz.2⟩
        rw [y1]
        simp only [bI, show ¬ (1 : Int32) = 0 from by decide, reduceIte]
        exact ⟨b1, b2⟩
end LPO
