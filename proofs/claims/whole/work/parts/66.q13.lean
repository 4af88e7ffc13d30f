/-! ===== alarms ===== -/
def alB (n : Nat) (S K : Nat → Int) (h : Int) (pv g : List Pt) : Bool := decide (tq (sm n S K h) n (ky (ka n S K h) pv) = tq (sm n S K h) n (ky (ka n S K h) g) ∧ ky (ka n S K h) g - ky (ka n S K h) pv = spn n S K h g)
def alU (q : Q4) (r : Nat) (rs st : Int32) : Q4 := (q.1 + 1, if q.1 = 0 then st else q.2.1, if nI r ≤ q.2.2.1 then q.2.2.1 else nI r, if nI r ≤ q.2.2.1 then q.2.2.2 else rs)
abbrev AT : Type := List Pt × Nat × Int32 × Q4
def alS (n : Nat) (S K : Nat → Int) (h : Int) (L : List AO) (t : AT) (g : List Pt) : AT :=
  if alc n S K h L g = true then
    if 0 < t.2.1 ∧ alB n S K h t.1 g = true then (g, t.2.1 + 1, t.2.2.1, alU t.2.2.2 (t.2.1 + 1) t.2.2.1 (Int32.ofInt (ky (ka n S K h) g)))
    else (g, 1, Int32.ofInt (ky (ka n S K h) g), alU t.2.2.2 1 (Int32.ofInt (ky (ka n S K h) g)) (Int32.ofInt (ky (ka n S K h) g)))
  else (g, 0, t.2.2.1, t.2.2.2)
def aT0 : AT := ([], 0, 0, (0, -20000, 0, -20000))
section Q13
variable {s : St} {p n : Nat} {S K : Nat → Int} {R : List Nat} {H : Nat → Int32} {P : Nat → List Pt} {fu : Nat}
theorem alS_1 (h : Int) (L : List AO) (t : AT) (g : List Pt) : (alS n S K h L t g).1 = g := by
  unfold alS
  split
  · split <;> rfl
  · rfl
theorem X5_bes {o : Nat} {h : Int} {GG A B : List (List Pt)} {pv g : List Pt} (V : VP n S K) (W : WfG n S K h GG) (C : SerC s o p n S K h GG) (e : GG = A ++ pv :: g :: B) (hfu : 100 ≤ fu) :
    f_X5_isBesideTheOneAhead fu s o (nI (A.length + 1)) = some (s, bt (alB n S K h pv g = true)) := by
  have hl := wf_len W
  have hpx : GG[A.length]? = some pv := by rw [e, List.getElem?_append_right (Nat.le_refl _)]; simp
  have hgx : GG[A.length + 1]? = some g := by rw [e, List.getElem?_append_right (by omega)]; simp
  have hgl := get_lt hgx
  have hg := List.mem_of_getElem? hgx
  have hpv := List.mem_of_getElem? hpx
  obtain ⟨i, hi, -, bg, -⟩ := wf_g V W hg
  obtain ⟨i', hi', -, bp, -⟩ := wf_g V W hpv
  obtain ⟨w, hw1, hw2⟩ := X5_sp V W C hgx hi hfu
  have t1 : (gI s 10 (gR s 5 o 3) A.length).toInt = ky (ka n S K h) pv := C.st V W hpx
  have t2 : (gI s 10 (gR s 5 o 3) (A.length + 1)).toInt = ky (ka n S K h) g := C.st V W hgx
  obtain ⟨r1, -⟩ := C.2.2.2.1
  have b1 : inb (nI A.length) (gL s 10 (gR s 5 o 3)) = true := nu_inbn (by have := C.2.2.2.2.1.1; omega) (by omega)
  have b2 : inb (nI (A.length + 1)) (gL s 10 (gR s 5 o 3)) = true := nu_inbn (by have := C.2.2.2.2.1.1; omega) (by omega)
  have htc := tc_inj (a := tq (sm n S K h) n (ky (ka n S K h) pv)) (b := tq (sm n S K h) n (ky (ka n S K h) g)) (fun j hj => tq_lt hj) (fun j hj => tq_lt hj) V.1.2
  have hsb : (gI s 10 (gR s 5 o 3) (A.length + 1) - gI s 10 (gR s 5 o 3) A.length = w) ↔ ky (ka n S K h) g - ky (ka n S K h) pv = spn n S K h g := by
    rw [nu_eq, nu_sub (by omega) (by omega), t1, t2, hw2, spn_of hi]
  unfold f_X5_isBesideTheOneAhead f_X5_isBesideTheOneAhead_b56 f_X5_isBesideTheOneAhead_b57
  rw [if_neg (fun q => by have := (ni_le (b := 0) (by omega) (by omega)).mp q; omega)]
  simp only [C.1.1, reduceIte, r1, ni_dec (show 0 < A.length + 1 by omega) (show A.length + 1 < 2147483648 by omega), Nat.add_sub_cancel, b1, b2, Bool.true_eq_false, nu_ixn (show A.length < 2147483648 by omega), nu_ixn (show A.length + 1 < 2147483648 by omega), X5_to V W C _ hfu, bI, t1, t2, htc, hw1, hsb, zb0, zb1]
  unfold alB
  by_cases c1 : tq (sm n S K h) n (ky (ka n S K h) pv) = tq (sm n S K h) n (ky (ka n S K h) g)
  · rw [if_pos c1]
    by_cases c2 : ky (ka n S K h) g - ky (ka n S K h) pv = spn n S K h g
    · rw [if_pos c2, bt_t (decide_eq_true ⟨c1, c2⟩)]
    · rw [if_neg c2, bt_f (fun q => c2 (of_decide_eq_true q).2)]
  · rw [if_neg c1, bt_f (fun q => c1 (of_decide_eq_true q).1)]
theorem X5_b94 (hL : Lay s) (hS : Sep s) (hp : p = 1 ∨ p = 2) {i : Nat} (hid : i < 10) (ho : ¬ gR s 14 1 i = 0) {h : Int} {GG : List (List Pt)} (W : WfG n S K h GG) (C : SerC s (gR s 14 1 i) p n S K h GG) {j : Nat} {g : List Pt} (hj : GG[j]? = some g) (q : Q4) (r : Nat) (rs : Int32) (k41 : St → Nat → Nat → Int32 → Int32 → Int32 → Option St) :
    f_X5_surveyAlarms_b94 fu k41 (aS s q) (gR s 14 1 i) 9 (nI r) rs (nI j) = k41 (aS s (alU q (r + 1) rs (Int32.ofInt (ky (ka n S K h) g)))) (gR s 14 1 i) 9 (nI (r + 1)) rs (nI (j + 1)) := by
  have hl := wf_len W
  have hjl := get_lt hj
  have b0 : inb 0 4 = true := by decide
  have b1 : inb 1 4 = true := by decide
  have b2 : inb 2 4 = true := by decide
  have b3 : inb 3 4 = true := by decide
  have e9 : ¬ (9 = 0) := by decide
  have i0 : ix 0 = 0 := rfl
  have i1 : ix 1 = 1 := rfl
  have i2 : ix 2 = 2 := rfl
  have i3 : ix 3 = 3 := rfl
  have hst : gI (aS s q) 10 (gR s 5 (gR s 14 1 i) 3) j = Int32.ofInt (ky (ka n S K h) g) := ((C.cs hL hS hp hid ho (aS_cz s q).cs).2.2.2.2.2 _ g hj).1
  obtain ⟨r1, -⟩ := C.2.2.2.1
  have bb : inb (nI j) (gL s 10 (gR s 5 (gR s 14 1 i) 3)) = true := nu_inbn (by have := C.2.2.2.2.1.1; omega) (by omega)
  have key : ∀ v, f_X5_surveyAlarms_b113 fu k41 (aS s (q.1, v, q.2.2)) (gR s 14 1 i) 9 (nI (r + 1)) rs (nI j) = k41 (aS s (q.1 + 1, v, if nI (r + 1) ≤ q.2.2.1 then q.2.2.1 else nI (r + 1), if nI (r + 1) ≤ q.2.2.1 then q.2.2.2 else rs)) (gR s 14 1 i) 9 (nI (r + 1)) rs (nI (j + 1)) := by
    intro v
    unfold f_X5_surveyAlarms_b113 f_X5_surveyAlarms_b135
    simp only [e9, reduceIte, (aS_g s _).2, ll_10_9 hL, b0, b2, b3, Bool.true_eq_false, lt, i0, i2, i3, aS_r0, aS_0, aS_r2, aS_2, aS_3, nu_nIa]
    by_cases c : nI (r + 1) ≤ q.2.2.1
    · rw [if_pos c, if_pos c, if_pos c]
    · rw [if_neg c, if_neg c, if_neg c]
  unfold f_X5_surveyAlarms_b94
  simp only [lt, e9, reduceIte, (aS_g s _).1, (aS_g s _).2, ll_10_9 hL, b0, b1, Bool.true_eq_false, i0, i1, aS_r0, C.1.1, r1, bb, nu_ixn (show j < 2147483648 by omega), hst, aS_1, nu_nIa, key]
  unfold alU
  by_cases c : q.1 = 0
  · rw [if_pos c, if_pos c]
  · rw [if_neg c, if_neg c]
theorem X5_sa_loop (hL : Lay s) (hS : Sep s) (hp : p = 1 ∨ p = 2) {i : Nat} (hid : i < 10) (ho : ¬ gR s 14 1 i = 0) {h : Int} {GG : List (List Pt)} (V : VP n S K) (W : WfG n S K h GG) (C : SerC s (gR s 14 1 i) p n S K h GG) {L : List AO} {a : Nat} (ha : gR s 2 p 2 = a) (hA : ∀ q, AlC (aS s q) a L) (hW : aoD 0 L) (hfu : 50000 ≤ fu) :
    ∀ (B A : List (List Pt)) (m : Nat) (t : AT), GG = A ++ B → (0 < t.2.1 → ∃ A', A = A' ++ [t.1]) → t.2.1 ≤ A.length → B.length < m → f_X5_surveyAlarms_b41 fu m (aS s t.2.2.2) (gR s 14 1 i) 9 (nI t.2.1) t.2.2.1 (nI A.length) = some (aS s (B.foldl (alS n S K h L) t).2.2.2) := by
  have hl := wf_len W
  intro B
  induction B with
  | nil =>
    intro A m t e hpv hr hm
    rw [List.append_nil] at e
    subst e
    cases m with
    | zero => omega
    | succ m =>
      unfold f_X5_surveyAlarms_b41
      have C5 := (C.cs hL hS hp hid ho (aS_cz s t.2.2.2).cs).2.2.1
      rw [if_neg ho, C5, if_pos ((ni_le (by omega) (by omega)).mpr (Nat.le_refl _))]
      rfl
  | cons g B ih =>
    intro A m t e hpv hr hm
    cases m with
    | zero => omega
    | succ m =>
      rw [List.length_cons] at hm
      have hgx : GG[A.length]? = some g := by rw [e, List.getElem?_append_right (Nat.le_refl _)]; simp
      have hgl := get_lt hgx
      have e2 : GG = (A ++ [g]) ++ B := by rw [e, List.append_assoc]; rfl
      have hih := ih (A ++ [g]) m (alS n S K h L t g) e2 (fun _ => ⟨A, by rw [alS_1]⟩)
      rw [List.length_append, List.length_singleton] at hih
      have Ca := fun q => C.cs hL hS hp hid ho (aS_cz s q).cs
      have C5 := (Ca t.2.2.2).2.2.1
      have a0 := (hA t.2.2.2).1.1
      have hso := X0_so V W (Ca t.2.2.2) (hA t.2.2.2) hW hgx (fu := fu) (by omega)
      have p0 : ¬ p = 0 := by rcases hp with q | q <;> omega
      have r1 := C.2.2.2.1.1
      have bb : inb (nI A.length) (gL s 10 (gR s 5 (gR s 14 1 i) 3)) = true := nu_inbn (by have := C.2.2.2.2.1.1; omega) (by omega)
      have hst : gI (aS s t.2.2.2) 10 (gR s 5 (gR s 14 1 i) 3) A.length = Int32.ofInt (ky (ka n S K h) g) := ((Ca t.2.2.2).2.2.2.2.2 _ g hgx).1
      have h84 : f_X5_surveyAlarms_b84 fu (f_X5_surveyAlarms_b41 fu m) (aS s t.2.2.2) (gR s 14 1 i) 9 (nI A.length) = f_X5_surveyAlarms_b41 fu m (aS s (alU t.2.2.2 1 (Int32.ofInt (ky (ka n S K h) g)) (Int32.ofInt (ky (ka n S K h) g)))) (gR s 14 1 i) 9 (nI 1) (Int32.ofInt (ky (ka n S K h) g)) (nI (A.length + 1)) := by
        unfold f_X5_surveyAlarms_b84
        simp only [ho, reduceIte, (aS_g s _).1, (aS_g s _).2, r1, bb, Bool.true_eq_false, lt, nu_ixn (show A.length < 2147483648 by omega), hst]
        exact X5_b94 hL hS hp hid ho W C hgx t.2.2.2 0 _ _
      rw [List.foldl_cons]
      unfold f_X5_surveyAlarms_b41
      rw [if_neg ho, C5, if_neg (fun q => by have := (ni_le (by omega) (by omega)).mp q; omega)]
      simp only [(aS_g s _).1, C.1.2.1, p0, ha, a0, reduceIte, hso, bI]
      by_cases hc : alc n S K h L g = true
      · rw [bt_t hc, if_neg (by decide)]
        by_cases hz : t.2.1 = 0
        · have hs : alS n S K h L t g = (g, 1, Int32.ofInt (ky (ka n S K h) g), alU t.2.2.2 1 (Int32.ofInt (ky (ka n S K h) g)) (Int32.ofInt (ky (ka n S K h) g))) := by
            unfold alS
            rw [if_pos hc, if_neg (fun q => by omega)]
          rw [hs] at hih
          rw [if_pos (by rw [hz]; rfl), h84, hs]
          exact hih (by show 1 ≤ _; omega) (by omega)
        · obtain ⟨A', hA'⟩ := hpv (by omega)
          have hbs := X5_bes V W (Ca t.2.2.2) (A := A') (B := B) (pv := t.1) (g := g) (by rw [e, hA', List.append_assoc]; rfl) (fu := fu) (by omega)
          have hlen : A.length = A'.length + 1 := by rw [hA', List.length_append, List.length_singleton]
          rw [← hlen] at hbs
          rw [if_neg (show ¬ nI t.2.1 = (0 : Int32) from fun q => hz ((ni_eq (b := 0) (by omega) (by omega)).mp q)), hbs]
          simp only []
          by_cases hb : alB n S K h t.1 g = true
          · have hs : alS n S K h L t g = (g, t.2.1 + 1, t.2.2.1, alU t.2.2.2 (t.2.1 + 1) t.2.2.1 (Int32.ofInt (ky (ka n S K h) g))) := by
              unfold alS
              rw [if_pos hc, if_pos ⟨by omega, hb⟩]
            rw [hs] at hih
            rw [bt_t hb, if_neg (by decide), X5_b94 hL hS hp hid ho W C hgx, hs]
            exact hih (by show t.2.1 + 1 ≤ _; omega) (by omega)
          · have hs : alS n S K h L t g = (g, 1, Int32.ofInt (ky (ka n S K h) g), alU t.2.2.2 1 (Int32.ofInt (ky (ka n S K h) g)) (Int32.ofInt (ky (ka n S K h) g))) := by
              unfold alS
              rw [if_pos hc, if_neg (fun q => hb q.2)]
            rw [hs] at hih
            rw [bt_f hb, if_pos rfl, h84, hs]
            exact hih (by show 1 ≤ _; omega) (by omega)
      · have hs : alS n S K h L t g = (g, 0, t.2.2.1, t.2.2.2) := by
          unfold alS
          rw [if_neg hc]
        rw [hs] at hih
        rw [bt_f hc, if_pos rfl, hs]
        unfold f_X5_surveyAlarms_b135
        simp only [lt, nu_nIa]
        exact hih (by show 0 ≤ _; omega) (by omega)
end Q13
