/-! ===== the roster's use and remove ===== -/
def gsh {α : Type} (f : Nat → α) (k i : Nat) : Nat → α := fun j => if i < j ∧ j ≤ k then f (j - 1) else f j
def uph (H : Nat → Int32) (i : Nat) (v : Int32) : Nat → Int32 := fun j => if j = i then v else H j
theorem gsh_k {α : Type} (f : Nat → α) (k : Nat) : gsh f k k = f := by
  funext j
  unfold gsh
  rw [if_neg (by omega)]
theorem gsh_s {α : Type} (f : Nat → α) (k i : Nat) (hi : i + 1 ≤ k) : (fun m => if m = i + 1 then gsh f k (i + 1) i else gsh f k (i + 1) m) = gsh f k i := by
  funext m
  unfold gsh
  by_cases h : m = i + 1
  · rw [if_pos h, if_neg (by omega), if_pos (by omega), h, Nat.add_sub_cancel]
  · rw [if_neg h]
    by_cases h2 : i + 1 < m ∧ m ≤ k
    · rw [if_pos h2, if_pos (by omega)]
    · rw [if_neg h2, if_neg (by omega)]
section USE
variable {s : St} {R : List Nat} {H : Nat → Int32} {fu r : Nat}
def rsA (s : St) (r : Nat) : Prop := (¬ r = 0 ∧ ¬ gR s 4 r 0 = 0 ∧ ¬ gR s 4 r 1 = 0) ∧ (gL s 10 (gR s 4 r 0) = 10 ∧ gL s 10 (gR s 4 r 1) = 10) ∧ ¬ gR s 4 r 1 = gR s 4 r 0
def usS (s : St) (r k id : Nat) (t : Int32) : St := sI (wI s 10 (gR s 4 r 0) (fun j => if j = 0 then nI id else gsh (gI s 10 (gR s 4 r 0)) k 0 j)) 10 (gR s 4 r 1) id (mx (gI s 10 (gR s 4 r 1) id) t)
theorem X4_us_loop (hA : rsA s r) {k id : Nat} (hk : k < 10) (hid : id < 10) (t g : Int32) : ∀ (i m : Nat), i ≤ k → i < m → f_X4_use_b79 fu m (wI s 10 (gR s 4 r 0) (gsh (gI s 10 (gR s 4 r 0)) k i)) r (nI id) t g (nI i) = some (usS s r k id t, g) := by
  obtain ⟨⟨a1, a2, a3⟩, ⟨a4, a5⟩, a6⟩ := hA
  have b0 : inb 0 10 = true := by decide
  have bd : inb (nI id) 10 = true := nu_inbn hid (by omega)
  have x0 : ix 0 = 0 := rfl
  intro i
  induction i with
  | zero =>
    intro m _ hm
    cases m with
    | zero => omega
    | succ m =>
      have e1 : gI (sI (wI s 10 (gR s 4 r 0) (gsh (gI s 10 (gR s 4 r 0)) k 0)) 10 (gR s 4 r 0) 0 (nI id)) 10 (gR s 4 r 1) id = gI s 10 (gR s 4 r 1) id := by
        rw [gI_sI, if_neg (fun q => a6 q.2.1), gI_wI, if_neg (fun q => a6 q.2)]
      unfold f_X4_use_b79 usS
      rw [if_pos (by decide)]
      simp only [a1, reduceIte, gR_wI, gL_wI, gR_sI, gL_sI, a2, a3, a4, a5, b0, bd, Bool.true_eq_false, lt, x0, nu_ixn (show id < 2147483648 by omega), e1, J_max, bI]
      rw [sI_wI]
  | succ i ih =>
    intro m hi hm
    cases m with
    | zero => omega
    | succ m =>
      have h1 := ih m (by omega) (by omega)
      have bi : inb (nI i) 10 = true := nu_inbn (by omega) (by omega)
      have bi' : inb (nI (i + 1)) 10 = true := nu_inbn (by omega) (by omega)
      have e1 : gI (wI s 10 (gR s 4 r 0) (gsh (gI s 10 (gR s 4 r 0)) k (i + 1))) 10 (gR s 4 r 0) i = gsh (gI s 10 (gR s 4 r 0)) k (i + 1) i := by rw [gI_wI, if_pos ⟨rfl, rfl⟩]
      unfold f_X4_use_b79
      rw [if_neg (fun q => by have := (ni_le (b := 0) (by omega) (by omega)).mp q; omega)]
      simp only [a1, reduceIte, gR_wI, gL_wI, a2, a4, ni_dec (show 0 < i + 1 by omega) (show i + 1 < 2147483648 by omega), Nat.add_sub_cancel, bi, bi', Bool.true_eq_false, lt, nu_ixn (show i < 2147483648 by omega), nu_ixn (show i + 1 < 2147483648 by omega), e1, ni_m (show 0 < i + 1 by omega) (show i + 1 < 2147483648 by omega)]
      rw [sI_wI, gsh_s _ _ _ hi]
      exact h1
theorem usS_rf (s : St) (r k id : Nat) (t : Int32) : RF s (usS s r k id t) r := by
  refine ⟨⟨rfl, rfl, rfl, rfl, rfl, rfl⟩, fun k' i j _ h2 => ?_⟩
  unfold usS
  rw [gI_sI, if_neg (fun q => h2 ⟨q.1, Or.inr q.2.1⟩), gI_wI, if_neg (fun q => h2 ⟨q.1, Or.inl q.2⟩)]
theorem usS_r (hA : rsA s r) (k id : Nat) (t : Int32) : (∀ j, gI (usS s r k id t) 10 (gR s 4 r 0) j = if j = 0 then nI id else gsh (gI s 10 (gR s 4 r 0)) k 0 j) ∧ (∀ j, gI (usS s r k id t) 10 (gR s 4 r 1) j = if j = id then mx (gI s 10 (gR s 4 r 1) id) t else gI s 10 (gR s 4 r 1) j) ∧ gI (usS s r k id t) 4 r 2 = gI s 4 r 2 := by
  have a6 := hA.2.2
  unfold usS
  refine ⟨fun j => ?_, fun j => ?_, ?_⟩
  · rw [gI_sI, if_neg (fun q => a6 q.2.1.symm), gI_wI, if_pos ⟨rfl, rfl⟩]
  · rw [gI_sI]
    by_cases h : j = id
    · rw [if_pos ⟨rfl, rfl, h⟩, if_pos h]
    · rw [if_neg (fun q => h q.2.2), if_neg h, gI_wI, if_neg (fun q => a6 q.2)]
  · rw [gI_sI, if_neg (by omega), gI_wI, if_neg (by omega)]
theorem Ros.a (h : Ros s r R H) (hne : ¬ gR s 4 r 1 = gR s 4 r 0) : rsA s r := ⟨h.1, h.2.1, hne⟩
theorem X4_hit (hR : Ros s r R H) (hne : ¬ gR s 4 r 1 = gR s 4 r 0) (hW : RW R) {A B : List Nat} {id : Nat} (e : R = A ++ id :: B) (t mo : Int32) (hfu : 100 ≤ fu) :
    ∃ s', f_X4_use fu s r (nI id) t mo = some (s', -1) ∧ Ros s' r (id :: (A ++ B)) (uph H id (mx (H id) t)) ∧ RF s s' r := by
  have hA := hR.a hne
  have hRl := hW.2.2
  have hlen : R.length = A.length + (B.length + 1) := by rw [e, List.length_append, List.length_cons]
  have hid : id < 10 := hW.2.1 id (by rw [e]; exact List.mem_append_right _ List.mem_cons_self)
  have hgx : R[A.length]? = some id := by rw [e, List.getElem?_append_right (Nat.le_refl _)]; simp
  have hpo := X4_po (fu := fu) hR hW hgx hfu
  have hlo := X4_us_loop (fu := fu) hA (k := A.length) (id := id) (by omega) hid t (-1) A.length fu (Nat.le_refl _) (by omega)
  rw [gsh_k, wI_id] at hlo
  obtain ⟨u1, u2, u3⟩ := usS_r hA A.length id t
  obtain ⟨r1, r2, r3, r4, r5⟩ := hR
  refine ⟨usS s r A.length id t, ?_, ⟨r1, r2, ?_, fun j i hj => ?_, fun i hi => ?_⟩, usS_rf s r A.length id t⟩
  · unfold f_X4_use f_X4_use_b75
    rw [if_neg r1.1, hpo]
    simp only [bI]
    rw [if_neg (ni_m1 (by omega))]
    exact hlo
  · rw [u3, r3, hlen, List.length_cons, List.length_append]
    congr 1
  · show gI _ 10 (gR s 4 r 0) j = _
    rw [u1]
    cases j with
    | zero => rw [List.getElem?_cons_zero] at hj; rw [if_pos rfl, Option.some.inj hj]
    | succ j =>
      rw [List.getElem?_cons_succ] at hj
      rw [if_neg (by omega)]
      unfold gsh
      have hg := ge_at A B id
      by_cases hjA : j < A.length
      · rw [if_pos (by omega), Nat.add_sub_cancel]
        refine r4 j i ?_
        rw [e, hg, if_neg (by omega), if_pos hjA]
        exact hj
      · rw [if_neg (by omega)]
        refine r4 (j + 1) i ?_
        rw [e, hg, if_neg (by omega), if_neg (by omega), Nat.add_sub_cancel]
        exact hj
  · show gI _ 10 (gR s 4 r 1) i = _
    rw [u2]
    unfold uph
    have hidR : id ∈ R := by rw [e]; exact List.mem_append_right _ List.mem_cons_self
    by_cases h : i = id
    · rw [if_pos h, if_pos h, r5 id hidR]
    · rw [if_neg h, if_neg h]
      refine r5 i ?_
      rcases List.mem_cons.mp hi with q | q
      · exact absurd q h
      · rw [e]
        rcases List.mem_append.mp q with w | w
        · exact List.mem_append_left _ w
        · exact List.mem_append_right _ (List.mem_cons_of_mem _ w)
theorem X4_b52 (hR : Ros s r R H) (hne : ¬ gR s 4 r 1 = gR s 4 r 0) (hl : R.length < 10) {id : Nat} (hid : id < 10) (hn : ¬ id ∈ R) (t g : Int32) (hfu : 100 ≤ fu) :
    ∃ s', f_X4_use_b52 fu s r (nI id) t g = some (s', g) ∧ Ros s' r (id :: R) (uph H id t) ∧ RF s s' r := by
  have hA := hR.a hne
  obtain ⟨r1, r2, r3, r4, r5⟩ := hR
  have bd : inb (nI id) 10 = true := nu_inbn hid (by omega)
  have w0 : RF s (sI (sI s 4 r 2 (nI (R.length + 1))) 10 (gR s 4 r 1) id t) r := (RF.z s r _).tr (RF.h _ r id t)
  have q1 : ∀ j, gI (sI (sI s 4 r 2 (nI (R.length + 1))) 10 (gR s 4 r 1) id t) 10 (gR s 4 r 0) j = gI s 10 (gR s 4 r 0) j := fun j => by rw [gI_sI, if_neg (fun q => hne q.2.1.symm), gI_sI, if_neg (by omega)]
  have q2 : ∀ j, gI (sI (sI s 4 r 2 (nI (R.length + 1))) 10 (gR s 4 r 1) id t) 10 (gR s 4 r 1) j = if j = id then t else gI s 10 (gR s 4 r 1) j := fun j => by
    rw [gI_sI]
    by_cases h : j = id
    · rw [if_pos ⟨rfl, rfl, h⟩, if_pos h]
    · rw [if_neg (fun q => h q.2.2), if_neg h, gI_sI, if_neg (by omega)]
  have q3 : gI (sI (sI s 4 r 2 (nI (R.length + 1))) 10 (gR s 4 r 1) id t) 4 r 2 = nI (R.length + 1) := by rw [gI_sI, if_neg (by omega), gI_sI, if_pos ⟨rfl, rfl, rfl⟩]
  have hst : f_X4_use_b52 fu s r (nI id) t g = f_X4_use_b79 fu fu (sI (sI s 4 r 2 (nI (R.length + 1))) 10 (gR s 4 r 1) id t) r (nI id) t g (nI R.length) := by
    unfold f_X4_use_b52 f_X4_use_b75
    simp only [r1.1, reduceIte, lt, r3, nu_nIa, gR_sI, gL_sI, r1.2.2, r2.2, bd, Bool.true_eq_false, nu_ixn (show id < 2147483648 by omega)]
  generalize sI (sI s 4 r 2 (nI (R.length + 1))) 10 (gR s 4 r 1) id t = s1 at w0 q1 q2 q3 hst
  have hA1 : rsA s1 r := by unfold rsA; rw [w0.1.1, w0.1.2.1]; exact hA
  have hlo := X4_us_loop (fu := fu) hA1 (k := R.length) (id := id) hl hid t g R.length fu (Nat.le_refl _) (by omega)
  rw [gsh_k, wI_id] at hlo
  obtain ⟨u1, u2, u3⟩ := usS_r hA1 R.length id t
  rw [w0.1.1] at u1 u2
  refine ⟨usS s1 r R.length id t, hst.trans hlo, ⟨?_, ?_, ?_, fun j i hj => ?_, fun i hi => ?_⟩, w0.tr (usS_rf s1 r _ id t)⟩
  · show ¬ r = 0 ∧ ¬ gR s1 4 r 0 = 0 ∧ ¬ gR s1 4 r 1 = 0
    rw [w0.1.1]; exact r1
  · show gL s1 10 (gR s1 4 r 0) = 10 ∧ gL s1 10 (gR s1 4 r 1) = 10
    rw [w0.1.1, w0.1.2.1]; exact r2
  · rw [u3, q3, List.length_cons]
  · show gI _ 10 (gR s1 4 r 0) j = _
    rw [w0.1.1, u1]
    cases j with
    | zero => rw [List.getElem?_cons_zero] at hj; rw [if_pos rfl, Option.some.inj hj]
    | succ j =>
      rw [List.getElem?_cons_succ] at hj
      have hjl := get_lt hj
      rw [if_neg (by omega)]
      unfold gsh
      rw [if_pos (by omega), Nat.add_sub_cancel, q1]
      exact r4 j i hj
  · show gI _ 10 (gR s1 4 r 1) i = _
    rw [w0.1.1, u2]
    unfold uph
    by_cases h : i = id
    · rw [if_pos h, if_pos h, q2, if_pos rfl, mx_self]
    · rw [if_neg h, if_neg h, q2, if_neg h]
      rcases List.mem_cons.mp hi with q | q
      · exact absurd q h
      · exact r5 i q
theorem ni_ne {R : List Nat} (hW : RW R) {id : Nat} (hid : id < 10) (hn : ¬ id ∈ R) : ∀ i ∈ R, ¬ nI i = nI id := fun i hi q => by
  have := hW.2.1 i hi
  have := (ni_eq (by omega) (by omega)).mp q
  subst this
  exact hn hi
theorem X4_free (hR : Ros s r R H) (hne : ¬ gR s 4 r 1 = gR s 4 r 0) (hW : RW R) {id mo : Nat} (hid : id < 10) (hn : ¬ id ∈ R) (hl : R.length < mo) (hm : mo ≤ 6) (t : Int32) (hfu : 100 ≤ fu) :
    ∃ s', f_X4_use fu s r (nI id) t (nI mo) = some (s', -1) ∧ Ros s' r (id :: R) (uph H id t) ∧ RF s s' r := by
  have hpn := X4_pn (fu := fu) hR hW (ni_ne hW hid hn) hfu
  obtain ⟨s', h1, h2, h3⟩ := X4_b52 (fu := fu) hR hne (by omega) hid hn t (-1) hfu
  refine ⟨s', ?_, h2, h3⟩
  unfold f_X4_use
  rw [if_neg hR.1.1, hpn]
  simp only [bI, reduceIte]
  rw [hR.2.2.1, if_pos ((ni_lt (by omega) (by omega)).mpr hl), h1]
  split <;> rfl
theorem X4_full (hR : Ros s r R H) (hne : ¬ gR s 4 r 1 = gR s 4 r 0) (hW : RW R) {id mo x : Nat} {R0 : List Nat} (e : R = R0 ++ [x]) (hid : id < 10) (hn : ¬ id ∈ R) (hl : mo ≤ R.length) (hm : mo ≤ 6) (t : Int32) (hfu : 100 ≤ fu) :
    ∃ s', f_X4_use fu s r (nI id) t (nI mo) = some (s', nI x) ∧ Ros s' r (id :: R0) (uph H id t) ∧ RF s s' r := by
  have hpn := X4_pn (fu := fu) hR hW (ni_ne hW hid hn) hfu
  have hlen : R.length = R0.length + 1 := by rw [e, List.length_append, List.length_singleton]
  have hRl := hW.2.2
  obtain ⟨r1, r2, r3, r4, r5⟩ := hR
  have w0 := RF.z s r (nI R0.length)
  have R7 : Ros (sI s 4 r 2 (nI R0.length)) r R0 H := by
    refine ⟨r1, r2, by rw [gI_sI, if_pos ⟨rfl, rfl, rfl⟩], fun j i hj => ?_, fun i hi => ?_⟩
    · rw [gI_sI, if_neg (by omega)]
      refine r4 j i ?_
      rw [e, List.getElem?_append_left (get_lt hj)]; exact hj
    · rw [gI_sI, if_neg (by omega)]
      exact r5 i (by rw [e]; exact List.mem_append_left _ hi)
  have hx : gI (sI s 4 r 2 (nI R0.length)) 10 (gR s 4 r 0) R0.length = nI x := by
    rw [gI_sI, if_neg (by omega)]
    exact r4 R0.length x (by rw [e, List.getElem?_append_right (Nat.le_refl _)]; simp)
  have h8 : gI (sI s 4 r 2 (nI R0.length)) 4 r 2 = nI R0.length := by rw [gI_sI, if_pos ⟨rfl, rfl, rfl⟩]
  have bb : inb (nI R0.length) 10 = true := nu_inbn (by omega) (by omega)
  obtain ⟨s', h1, h2, h3⟩ := X4_b52 (fu := fu) R7 hne (by omega) hid (fun q => hn (by rw [e]; exact List.mem_append_left _ q)) t (nI x) hfu
  refine ⟨s', ?_, h2, w0.tr h3⟩
  unfold f_X4_use
  rw [if_neg r1.1, hpn]
  simp only [bI, reduceIte]
  rw [r3, if_neg (fun q => by have := (ni_le (b := 0) (by omega) (by omega)).mp q; omega), if_neg (fun q => by have := (ni_lt (by omega) (by omega)).mp q; omega), ni_dec (by omega) (by omega), show R.length - 1 = R0.length by omega]
  simp only [lt, gR_sI, gL_sI, r1.2.1, reduceIte, h8, r2.1, bb, Bool.true_eq_false, nu_ixn (show R0.length < 2147483648 by omega), hx]
  exact h1
end USE
