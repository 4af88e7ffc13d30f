/-! ===== the reference: points go ===== -/
def PF (s s' : St) : Prop := (gR s' = gR s ∧ gL s' = gL s ∧ gN s' = gN s ∧ cn s' = cn s ∧ sn s' = sn s ∧ gJ s' = gJ s) ∧ ∀ k i j, ¬ (k = 9 ∧ i = 1 ∧ j = 22) → ¬ (k = 10 ∧ (i = gR s 9 1 19 ∨ i = gR s 9 1 20 ∨ i = gR s 9 1 21)) → gI s' k i j = gI s k i j
theorem PF.rf (s : St) : PF s s := ⟨⟨rfl, rfl, rfl, rfl, rfl, rfl⟩, fun _ _ _ _ _ => rfl⟩
theorem PF.tr {s t u : St} (h : PF s t) (h' : PF t u) : PF s u := by
  obtain ⟨⟨a1, a2, a3, a4, a5, a6⟩, a7⟩ := h
  obtain ⟨⟨b1, b2, b3, b4, b5, b6⟩, b7⟩ := h'
  rw [a1] at b7
  exact ⟨⟨b1.trans a1, b2.trans a2, b3.trans a3, b4.trans a4, b5.trans a5, b6.trans a6⟩, fun k i j h1 h2 => (b7 k i j h1 h2).trans (a7 k i j h1 h2)⟩
theorem PF.z (s : St) (v : Int32) : PF s (sI s 9 1 22 v) := ⟨⟨rfl, rfl, rfl, rfl, rfl, rfl⟩, fun k i j h1 _ => by rw [gI_sI, if_neg h1]⟩
theorem PF.w (s : St) (m : Nat) (x y z : Int32) : PF s (sI (sI (sI s 10 (gR s 9 1 19) m x) 10 (gR s 9 1 20) m y) 10 (gR s 9 1 21) m z) := ⟨⟨rfl, rfl, rfl, rfl, rfl, rfl⟩, fun k i j _ h2 => by
  rw [gI_sI, if_neg (fun q => h2 ⟨q.1, Or.inr (Or.inr q.2.1)⟩), gI_sI, if_neg (fun q => h2 ⟨q.1, Or.inr (Or.inl q.2.1)⟩), gI_sI, if_neg (fun q => h2 ⟨q.1, Or.inl q.2.1⟩)]⟩
def upP (P : Nat → List Pt) (id : Nat) (L : List Pt) : Nat → List Pt := fun i => if i = id then L else P i
theorem off_lo (P : Nat → List Pt) (id : Nat) (L : List Pt) : ∀ i, i ≤ id → off (upP P id L) i = off P i := by
  intro i
  induction i with
  | zero => intro _; rfl
  | succ i ih =>
    intro hi
    rw [off_s, off_s, ih (by omega)]
    unfold upP
    rw [if_neg (by omega)]
theorem off_hi (P : Nat → List Pt) (id : Nat) (L : List Pt) : ∀ i, id < i → off (upP P id L) i + (P id).length = off P i + L.length := by
  intro i
  induction i with
  | zero => intro h; omega
  | succ i ih =>
    intro hi
    rw [off_s, off_s]
    by_cases h : i = id
    · subst h
      rw [off_lo P i L i (Nat.le_refl _)]
      unfold upP
      rw [if_pos rfl]
      omega
    · have := ih (by omega)
      have e : upP P id L i = P i := by unfold upP; rw [if_neg h]
      rw [e]
      omega
/-- the rows of the points differ -/
def PD (s : St) : Prop := ¬ gR s 9 1 19 = gR s 9 1 20 ∧ ¬ gR s 9 1 19 = gR s 9 1 21 ∧ ¬ gR s 9 1 20 = gR s 9 1 21
section GOE
variable {s : St} {P : Nat → List Pt} {fu : Nat}
theorem X9_go_loop (hD : PD s) (h0 : ¬ gR s 9 1 19 = 0 ∧ ¬ gR s 9 1 20 = 0 ∧ ¬ gR s 9 1 21 = 0) {a d N : Nat} (hd : 0 < d) (hN : N + d ≤ 40000) (hl : N + d ≤ gL s 10 (gR s 9 1 19) ∧ N + d ≤ gL s 10 (gR s 9 1 20) ∧ N + d ≤ gL s 10 (gR s 9 1 21)) :
    ∀ (e i m : Nat) (s1 : St), i + e = N → a ≤ i → e < m → PF s s1 → gI s1 9 1 22 = nI N →
      (∀ j, gI s1 10 (gR s 9 1 19) j = (if a ≤ j ∧ j < i then gI s 10 (gR s 9 1 19) (j + d) else gI s 10 (gR s 9 1 19) j) ∧ gI s1 10 (gR s 9 1 20) j = (if a ≤ j ∧ j < i then gI s 10 (gR s 9 1 20) (j + d) else gI s 10 (gR s 9 1 20) j) ∧ gI s1 10 (gR s 9 1 21) j = (if a ≤ j ∧ j < i then gI s 10 (gR s 9 1 21) (j + d) else gI s 10 (gR s 9 1 21) j)) →
      ∃ s2, f_X9_goes_b17 fu m s1 1 (nI d) (nI i) = some (s2, nI d) ∧ PF s s2 ∧ gI s2 9 1 22 = nI N ∧
        ∀ j, gI s2 10 (gR s 9 1 19) j = (if a ≤ j ∧ j < N then gI s 10 (gR s 9 1 19) (j + d) else gI s 10 (gR s 9 1 19) j) ∧ gI s2 10 (gR s 9 1 20) j = (if a ≤ j ∧ j < N then gI s 10 (gR s 9 1 20) (j + d) else gI s 10 (gR s 9 1 20) j) ∧ gI s2 10 (gR s 9 1 21) j = (if a ≤ j ∧ j < N then gI s 10 (gR s 9 1 21) (j + d) else gI s 10 (gR s 9 1 21) j) := by
  have e10 : ¬ (1 = 0) := by decide
  obtain ⟨n1, n2, n3⟩ := hD
  obtain ⟨z1, z2, z3⟩ := h0
  obtain ⟨l1, l2, l3⟩ := hl
  intro e
  induction e with
  | zero =>
    intro i m s1 hi ha hm hw h22 hr
    have : i = N := by omega
    subst this
    cases m with
    | zero => omega
    | succ m =>
      refine ⟨s1, ?_, hw, h22, hr⟩
      unfold f_X9_goes_b17 f_X9_goes_b84
      rw [if_neg e10, h22, if_pos ((ni_le (by omega) (by omega)).mpr (Nat.le_refl _))]
  | succ e ih =>
    intro i m s1 hi ha hm hw h22 hr
    cases m with
    | zero => omega
    | succ m =>
      have r0 : gR s1 = gR s := hw.1.1
      have r1 : gL s1 = gL s := hw.1.2.1
      have a1 : inb (nI (i + d)) (gL s 10 (gR s 9 1 19)) = true := nu_inbn (by omega) (by omega)
      have a2 : inb (nI (i + d)) (gL s 10 (gR s 9 1 20)) = true := nu_inbn (by omega) (by omega)
      have a3 : inb (nI (i + d)) (gL s 10 (gR s 9 1 21)) = true := nu_inbn (by omega) (by omega)
      have b1 : inb (nI i) (gL s 10 (gR s 9 1 19)) = true := nu_inbn (by omega) (by omega)
      have b2 : inb (nI i) (gL s 10 (gR s 9 1 20)) = true := nu_inbn (by omega) (by omega)
      have b3 : inb (nI i) (gL s 10 (gR s 9 1 21)) = true := nu_inbn (by omega) (by omega)
      obtain ⟨v1, v2, v3⟩ := hr (i + d)
      rw [if_neg (by omega)] at v1 v2 v3
      have w1 := PF.w s1 i (gI s 10 (gR s 9 1 19) (i + d)) (gI s 10 (gR s 9 1 20) (i + d)) (gI s 10 (gR s 9 1 21) (i + d))
      rw [r0] at w1
      have x2 : ∀ x, gI (sI s1 10 (gR s 9 1 19) i x) 10 (gR s 9 1 20) (i + d) = gI s 10 (gR s 9 1 20) (i + d) := fun x => by rw [gI_sI, if_neg (fun q => n1 q.2.1.symm)]; exact v2
      have x3 : ∀ x y, gI (sI (sI s1 10 (gR s 9 1 19) i x) 10 (gR s 9 1 20) i y) 10 (gR s 9 1 21) (i + d) = gI s 10 (gR s 9 1 21) (i + d) := fun x y => by rw [gI_sI, if_neg (fun q => n3 q.2.1.symm), gI_sI, if_neg (fun q => n2 q.2.1.symm)]; exact v3
      obtain ⟨s2, y⟩ := ih (i + 1) m _ (by omega) (by omega) (by omega) (hw.tr w1) (by rw [gI_sI, if_neg (by omega), gI_sI, if_neg (by omega), gI_sI, if_neg (by omega)]; exact h22) (fun j => by
        obtain ⟨u1, u2, u3⟩ := hr j
        have hif : ∀ (f : Nat → Int32), (if j = i then f (i + d) else if a ≤ j ∧ j < i then f (j + d) else f j) = if a ≤ j ∧ j < i + 1 then f (j + d) else f j := fun f => by
          by_cases hj : j = i
          · rw [if_pos hj, if_pos (by omega), hj]
          · rw [if_neg hj]
            by_cases hc : a ≤ j ∧ j < i
            · rw [if_pos hc, if_pos (by omega)]
            · rw [if_neg hc, if_neg (by omega)]
        refine ⟨?_, ?_, ?_⟩
        · rw [gI_sI, if_neg (fun q => n2 q.2.1), gI_sI, if_neg (fun q => n1 q.2.1), gI_sI, u1, ← hif]
          by_cases hj : j = i
          · rw [if_pos ⟨rfl, rfl, hj⟩, if_pos hj]
          · rw [if_neg (fun q => hj q.2.2), if_neg hj]
        · rw [gI_sI, if_neg (fun q => n3 q.2.1), ← hif]
          by_cases hj : j = i
          · rw [gI_sI, if_pos ⟨rfl, rfl, hj⟩, if_pos hj]
          · rw [gI_sI, if_neg (fun q => hj q.2.2), if_neg hj, gI_sI, if_neg (fun q => n1 q.2.1.symm), u2]
        · rw [← hif]
          by_cases hj : j = i
          · rw [gI_sI, if_pos ⟨rfl, rfl, hj⟩, if_pos hj]
          · rw [gI_sI, if_neg (fun q => hj q.2.2), if_neg hj, gI_sI, if_neg (fun q => n3 q.2.1.symm), gI_sI, if_neg (fun q => n2 q.2.1.symm), u3])
      refine ⟨s2, ?_, y.2⟩
      rw [← y.1]
      conv => lhs; unfold f_X9_goes_b17
      rw [if_neg e10, h22, if_neg (fun q => by have := (ni_le (by omega) (by omega)).mp q; omega), if_neg (fun q => by have := (ni_le (b := 0) (by omega) (by omega)).mp q; omega)]
      simp only [gR_sI, gL_sI, r0, r1, z1, z2, z3, reduceIte, ni_add (show i + d < 2147483648 by omega), a1, a2, a3, b1, b2, b3, Bool.true_eq_false, lt, nu_ixn (show i + d < 2147483648 by omega), nu_ixn (show i < 2147483648 by omega), v1, x2, x3, nu_nIa]
theorem X9_goes (hP : PtM s P) (hD : PD s) (hW : off P 10 ≤ 40000) {id b : Nat} (hid : id < 10) (hb : b ≤ (P id).length) (hfu : 50000 ≤ fu) :
    ∃ s', f_X9_goes fu s 1 (nI (off P id)) (nI (off P id + b)) = some (s', nI b) ∧ PF s s' ∧ PtM s' (upP P id ((P id).drop b)) := by
  have e10 : ¬ (1 = 0) := by decide
  obtain ⟨h0, ⟨l1, l2, l3⟩, h22, hr⟩ := hP
  have ho1 : off P (id + 1) ≤ off P 10 := off_mono P (by omega)
  rw [off_s] at ho1
  have hlo := off_lo P id ((P id).drop b)
  have hhi := off_hi P id ((P id).drop b)
  have h10 := hhi 10 hid
  rw [List.length_drop] at h10
  have hst : f_X9_goes fu s 1 (nI (off P id)) (nI (off P id + b)) = f_X9_goes_b17 fu fu (sI s 9 1 22 (nI (off P 10 - b))) 1 (nI b) (nI (off P id)) := by
    unfold f_X9_goes
    simp only [lt]
    rw [ni_sub (by omega) (by omega), Nat.add_sub_cancel_left, if_neg e10, h22, ni_sub (by omega) (by omega)]
  have g22 : gI (sI s 9 1 22 (nI (off P 10 - b))) 9 1 22 = nI (off P 10 - b) := by rw [gI_sI, if_pos ⟨rfl, rfl, rfl⟩]
  have gr : ∀ i j, gI (sI s 9 1 22 (nI (off P 10 - b))) 10 i j = gI s 10 i j := fun i j => by rw [gI_sI, if_neg (by omega)]
  by_cases hb0 : b = 0
  · subst hb0
    have hup : upP P id ((P id).drop 0) = P := by
      funext i
      unfold upP
      rw [List.drop_zero]
      by_cases h : i = id
      · rw [if_pos h, h]
      · rw [if_neg h]
    rw [hup]
    refine ⟨sI s 9 1 22 (nI (off P 10 - 0)), ?_, PF.z s _, ⟨h0, ⟨l1, l2, l3⟩, g22, fun i hi j q hq => ?_⟩⟩
    · rw [hst]
      obtain ⟨f, rfl⟩ : ∃ f, fu = f + 1 := ⟨fu - 1, by omega⟩
      unfold f_X9_goes_b17 f_X9_goes_b84
      rw [if_neg e10, g22]
      by_cases hcc : nI (off P 10 - 0) ≤ nI (off P id)
      · rw [if_pos hcc]
      · rw [if_neg hcc, if_pos (show nI 0 ≤ (0 : Int32) by decide)]
    · rw [gr, gr, gr]
      exact hr i hi j q hq
  · obtain ⟨s2, y1, y2, y3, y4⟩ := X9_go_loop (s := sI s 9 1 22 (nI (off P 10 - b))) (fu := fu) hD h0 (a := off P id) (d := b) (N := off P 10 - b) (by omega) (by omega) ⟨by show _ ≤ gL s 10 (gR s 9 1 19); omega, by show _ ≤ gL s 10 (gR s 9 1 20); omega, by show _ ≤ gL s 10 (gR s 9 1 21); omega⟩ (off P 10 - b - off P id) (off P id) fu _ (by omega) (Nat.le_refl _) (by omega) (PF.rf _) g22 (fun j => by rw [if_neg (by omega), if_neg (by omega), if_neg (by omega)]; exact ⟨rfl, rfl, rfl⟩)
    have r0 : gR s2 = gR s := y2.1.1
    have r1 : gL s2 = gL s := y2.1.2.1
    refine ⟨s2, hst.trans y1, (PF.z s _).tr y2, ⟨by rw [r0]; exact h0, by rw [r0, r1]; omega, by rw [y3]; congr 1; omega, fun i hi j q hq => ?_⟩⟩
    have key : ∀ k k', k < off P 10 - b → (if off P id ≤ k then k + b else k) = k' → gI s2 10 (gR s 9 1 19) k = gI s 10 (gR s 9 1 19) k' ∧ gI s2 10 (gR s 9 1 20) k = gI s 10 (gR s 9 1 20) k' ∧ gI s2 10 (gR s 9 1 21) k = gI s 10 (gR s 9 1 21) k' := by
      intro k k' hk hkk
      obtain ⟨u1, u2, u3⟩ := y4 k
      have u1' : gI s2 10 (gR s 9 1 19) k = _ := u1
      have u2' : gI s2 10 (gR s 9 1 20) k = _ := u2
      have u3' : gI s2 10 (gR s 9 1 21) k = _ := u3
      rw [u1', u2', u3']
      by_cases hc : off P id ≤ k
      · rw [if_pos hc] at hkk
        rw [if_pos ⟨hc, hk⟩, if_pos ⟨hc, hk⟩, if_pos ⟨hc, hk⟩, hkk]
        exact ⟨gr _ _, gr _ _, gr _ _⟩
      · rw [if_neg hc] at hkk
        rw [if_neg (fun q => hc q.1), if_neg (fun q => hc q.1), if_neg (fun q => hc q.1), hkk]
        exact ⟨gr _ _, gr _ _, gr _ _⟩
    rw [r0]
    have hql := get_lt hq
    by_cases h : i = id
    · subst h
      have e1 : upP P i ((P i).drop b) i = (P i).drop b := by unfold upP; rw [if_pos rfl]
      rw [e1] at hq hql
      rw [List.length_drop] at hql
      rw [List.getElem?_drop] at hq
      rw [hlo i (Nat.le_refl _)]
      obtain ⟨k1, k2, k3⟩ := key (off P i + j) (off P i + (b + j)) (by omega) (by rw [if_pos (by omega)]; omega)
      rw [k1, k2, k3]
      exact hr i hi (b + j) q hq
    · have e1 : upP P id ((P id).drop b) i = P i := by unfold upP; rw [if_neg h]
      rw [e1] at hq hql
      have hoi : off P (i + 1) ≤ off P 10 := off_mono P (by omega)
      rw [off_s] at hoi
      by_cases hlt : i < id
      · have hoi2 : off P (i + 1) ≤ off P id := off_mono P (by omega)
        rw [off_s] at hoi2
        rw [hlo i (by omega)]
        obtain ⟨k1, k2, k3⟩ := key (off P i + j) (off P i + j) (by omega) (by rw [if_neg (by omega)])
        rw [k1, k2, k3]
        exact hr i hi j q hq
      · have hh := hhi i (by omega)
        rw [List.length_drop] at hh
        have hoi3 : off P (id + 1) ≤ off P i := off_mono P (by omega)
        rw [off_s] at hoi3
        obtain ⟨k1, k2, k3⟩ := key (off (upP P id ((P id).drop b)) i + j) (off P i + j) (by omega) (by rw [if_pos (by omega)]; omega)
        rw [k1, k2, k3]
        exact hr i hi j q hq
end GOE
