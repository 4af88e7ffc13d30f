/-! ===== the reference: leaves, oldest, rises, puts ===== -/
/-- a series rises that is there; one comes that isn't there; one leaves -/
def riK (n : Nat) (S K : Nat → Int) (x : Ab) (id : Nat) (t : Int32) : Ab :=
  (id :: (xR x).erase id, uph (xH x) id (mx (xH x id) t), upP (xP x) id ((xP x id).drop (cl (xP x id) (sm n S K (mx (xH x id) t).toInt (n - 1)))), xT x, uph (xS x) id (xS x id + nI (cl (xP x id) (sm n S K (mx (xH x id) t).toInt (n - 1)))),
   ((xC x).1, (xC x).2.1, (xC x).2.2.1, (xC x).2.2.2 + nI (cl (xP x id) (sm n S K (mx (xH x id) t).toInt (n - 1)))))
def riN (x : Ab) (id : Nat) (t : Int32) : Ab := (id :: xR x, uph (xH x) id t, xP x, uph (xT x) id 0, uph (xS x) id 0, xC x)
def leA (x : Ab) (y : Nat) : Ab := ((xR x).erase y, xH x, upP (xP x) y [], xT x, xS x, xC x)
def puA (x : Ab) : Ab := (xR x, xH x, xP x, xT x, xS x, ((xC x).1, (xC x).2.1 + 1, (xC x).2.2.1, (xC x).2.2.2))
def rise (n : Nat) (S K : Nat → Int) (mo : Nat) (x : Ab) (id : Nat) (t : Int32) : Ab :=
  if id ∈ xR x then riK n S K x id t else if (xR x).length = mo then riN (puA (leA x ((xR x).getLastD 0))) id t else riN x id t
def putA (n : Nat) (S K : Nat → Int) (mo : Nat) (x : Ab) (id : Nat) (t v : Int32) : Ab :=
  (xR (rise n S K mo x id t), xH (rise n S K mo x id t), upP (xP (rise n S K mo x id t)) id (ins (t, v) (xP (rise n S K mo x id t) id)), xT (rise n S K mo x id t), xS (rise n S K mo x id t), xC (rise n S K mo x id t))
theorem upP_id (P : Nat → List Pt) (id : Nat) {L : List Pt} (h : P id = L) : upP P id L = P := by
  funext i
  unfold upP
  by_cases c : i = id
  · rw [if_pos c, c, h]
  · rw [if_neg c]
theorem upP_at (P : Nat → List Pt) (id : Nat) (L : List Pt) : upP P id L id = L := by unfold upP; rw [if_pos rfl]
theorem upP_ne (P : Nat → List Pt) {id i : Nat} (L : List Pt) (h : ¬ i = id) : upP P id L i = P i := by unfold upP; rw [if_neg h]
theorem uph_at (H : Nat → Int32) (id : Nat) (v : Int32) : uph H id v id = v := by unfold uph; rw [if_pos rfl]
theorem uph_ne (H : Nat → Int32) {id i : Nat} (v : Int32) (h : ¬ i = id) : uph H id v i = H i := by unfold uph; rw [if_neg h]
theorem uph_uph (H : Nat → Int32) (id : Nat) (v w : Int32) : uph (uph H id v) id w = uph H id w := by
  funext i
  unfold uph
  by_cases c : i = id
  · rw [if_pos c, if_pos c]
  · rw [if_neg c, if_neg c, if_neg c]
theorem i32_0 (a : Int32) : a + nI 0 = a := by
  have : nI 0 = 0 := rfl
  rw [this, Int32.add_zero]
theorem riK_N {n : Nat} {S K : Nat → Int} {x : Ab} {id : Nat} {t : Int32} (h : xP x id = []) : riK n S K (riN x id t) id t = riN x id t := by
  have e1 : xH (riN x id t) id = t := uph_at _ _ _
  have e2 : xP (riN x id t) id = [] := h
  have e3 : xS (riN x id t) id = 0 := uph_at _ _ _
  unfold riK
  rw [e1, e2, e3, cl_nil, i32_0, i32_0, mx_self, List.drop_nil, upP_id _ _ e2]
  unfold riN
  dsimp only [xR, xH, xP, xT, xS, xC]
  rw [List.erase_cons_head, uph_uph, uph_uph]
theorem off_up_le (P : Nat → List Pt) {id : Nat} (hid : id < 10) {L : List Pt} (hl : L.length ≤ (P id).length) : off (upP P id L) 10 ≤ off P 10 := by
  have := off_hi P id L 10 hid
  omega
theorem PWf.up {P : Nat → List Pt} (h : PWf P) {id : Nat} (hid : id < 10) {L : List Pt} (hl : L.length ≤ (P id).length) (hs : Srt L) : PWf (upP P id L) := by
  refine ⟨fun i hi => ?_, Nat.le_trans (off_up_le P hid hl) h.2⟩
  by_cases c : i = id
  · rw [c, upP_at]; exact hs
  · rw [upP_ne _ _ c]; exact h.1 i hi
theorem Tms.up {P : Nat → List Pt} (h : Tms P) {id : Nat} {L : List Pt} (hs : ∀ p ∈ L, -100000000 ≤ tm p ∧ tm p ≤ 100000000) : Tms (upP P id L) := by
  intro i hi
  by_cases c : i = id
  · rw [c, upP_at]; exact hs
  · rw [upP_ne _ _ c]; exact h i hi
theorem us_pw {s : St} {R : List Nat} : UsO s R ↔ R.Pairwise (fun a b => (gI s 10 26 b).toInt < (gI s 10 26 a).toInt) := by
  constructor
  · intro h
    induction R with
    | nil => exact List.Pairwise.nil
    | cons a R ih =>
      refine List.Pairwise.cons (fun b hb => (h [] R a rfl).2 b hb) (ih (fun A B i e => ?_))
      have := h (a :: A) B i (by rw [e]; rfl)
      exact ⟨fun o ho => this.1 o (List.mem_cons_of_mem _ ho), this.2⟩
  · intro h A B i e
    subst e
    obtain ⟨-, h2, h3⟩ := List.pairwise_append.mp h
    exact ⟨fun o ho => h3 o ho i List.mem_cons_self, fun o ho => (List.pairwise_cons.mp h2).1 o ho⟩
theorem UsO.er {s : St} {R : List Nat} (h : UsO s R) (y : Nat) : UsO s (R.erase y) := us_pw.mpr ((us_pw.mp h).sublist List.erase_sublist)
theorem RW.er {R : List Nat} (h : RW R) (y : Nat) : RW (R.erase y) := ⟨h.1.sublist List.erase_sublist, fun i hi => h.2.1 i (List.mem_of_mem_erase hi), Nat.le_trans List.erase_sublist.length_le h.2.2⟩
theorem nd_er {R : List Nat} (h : RW R) (y i : Nat) : i ∈ R.erase y ↔ ¬ i = y ∧ i ∈ R := by
  rw [h.1.mem_erase_iff]
theorem RW.up {R : List Nat} (h : RW R) {id : Nat} (hid : id < 10) (hR : R.length ≤ 6) : RW (id :: R.erase id) := by
  refine ⟨List.nodup_cons.mpr ⟨fun q => ((nd_er h id id).mp q).1 rfl, (h.er id).1⟩, fun i hi => ?_, ?_⟩
  · rcases List.mem_cons.mp hi with rfl | q
    · exact hid
    · exact (h.er id).2.1 i q
  · have := List.erase_sublist (a := id) (l := R) |>.length_le
    rw [List.length_cons]; omega
section RIS
variable {s : St} {n mo u fu : Nat} {S K : Nat → Int} {x : Ab}
/-- what leaves and rises change of the picture -/
theorem Fp.p {s t : St} (h : PF s t) : FP s t := Fx.pf h (Or.inr (Or.inr (Or.inl rfl)))
theorem X9_leaves (h : MI s n S K mo x u) {y : Nat} (hy : y ∈ xR x) (hfu : 50000 ≤ fu) :
    ∃ s', f_X9_leaves fu s 1 (nI y) = some (s', nI (xP x y).length) ∧ MI s' n S K mo (leA x y) u ∧ FP s s' ∧ (gR s' = gR s ∧ gL s' = gL s ∧ gN s' = gN s ∧ cn s' = cn s ∧ sn s' = sn s) ∧ (∀ j, ¬ j = 22 → gI s' 9 1 j = gI s 9 1 j) := by
  have e10 : ¬ (1 = 0) := by decide
  have h' := h
  obtain ⟨⟨hL, hPl, ⟨hT, hRW⟩, ⟨d1, d2, d3⟩, hP, hW, hTm⟩, hLt, ⟨k1, k2, k3, k4, k5⟩, ⟨hU1, hU2, hU3⟩, hO⟩ := h
  have hy10 := hRW.2.1 y hy
  have b : inb (nI y) 10 = true := nu_inbn (by omega) (by omega)
  have hI : ∀ k i j, ¬ k = 13 → gI (sI s 13 1 y 0) k i j = gI s k i j := fun k i j hk => by rw [gI_sI, if_neg (fun q => hk q.1)]
  have hP1 : PtM (sI s 13 1 y 0) (xP x) := by
    obtain ⟨t1, t2, t3, t4⟩ := hP
    refine ⟨t1, t2, by rw [hI 9 1 22 (by decide)]; exact t3, fun i hi j p hp => ?_⟩
    rw [hI 10 _ _ (by decide), hI 10 _ _ (by decide), hI 10 _ _ (by decide)]
    exact t4 i hi j p hp
  have hO1 : OwnM (sI s 13 1 y 0) := hO.eq rfl rfl rfl
  obtain ⟨s', y1, y2, y3⟩ := X9_goes (fu := fu) hP1 hO1.pd hW.2 (id := y) (b := (xP x y).length) hy10 (Nat.le_refl _) hfu
  rw [List.drop_length] at y3
  have hF : FP s s' := (Fx.b13 (a := 1) (by decide) y 0).tr (Fp.p y2)
  obtain ⟨⟨z1, z2, z3, z4, z5, z6⟩, z7⟩ := y2
  have hL' := hL.fx hF
  have zr : ∀ a j, 23 ≤ a → a ≤ 26 → gI s' 10 a j = gI s 10 a j := fun a j ha hb => by
    rw [z7 10 a j (fun q => by omega) (fun q => by have := hO1.pr q.2; omega), hI 10 a j (by decide)]
  have z9 : ∀ j, ¬ j = 22 → gI s' 9 1 j = gI s 9 1 j := fun j hj => by rw [z7 9 1 j (fun q => hj q.2.2) (fun q => by omega), hI 9 1 j (by decide)]
  refine ⟨s', ?_, ?_, hF, ⟨z1, z2, z3, z4, z5⟩, z9⟩
  · unfold f_X9_leaves
    simp only [e10, reduceIte, lr_9_1_10 hL, ll_13_1 hL, b, Bool.true_eq_false, lt, nar0, nu_ixn (show y < 2147483648 by omega)]
    rw [X9_fo hP1 hW hTm hy10 hfu]
    simp only [bI]
    rw [X9_bo hP1 hW hTm hy10 hfu]
    simp only [bI]
    rw [off_s, y1]
  · refine h'.mk' hF (hO1.eq z1 z2 z3) (fun i hi => ?_) (hRW.er y) (fun i hi => ?_) y3 (hW.up hy10 (Nat.zero_le _) List.Pairwise.nil) (hTm.up (fun p hp => absurd hp (by simp))) (fun i hi => ?_) ⟨rfl, ?_, ?_, ?_⟩ ⟨us_pw.mpr ?_, fun i hi => ?_, ?_⟩
    · rw [z7 13 1 i (fun q => by omega) (fun q => by omega), gI_sI]
      show _ = if i ∈ (xR x).erase y then (1 : Int32) else 0
      by_cases c : i = y
      · rw [if_pos ⟨rfl, rfl, c⟩, if_neg (fun q => ((nd_er hRW y i).mp q).1 c)]
      · rw [if_neg (fun q => c q.2.2), hT i hi]
        by_cases c2 : i ∈ xR x
        · rw [if_pos c2, if_pos ((nd_er hRW y i).mpr ⟨c, c2⟩)]
        · rw [if_neg c2, if_neg (fun q => c2 ((nd_er hRW y i).mp q).2)]
    · rw [zr 23 i (by omega) (by omega)]
      rw [lr_9_1_11 hL] at d3
      exact d3 i hi
    · rw [zr 24 i (by omega) (by omega), zr 25 i (by omega) (by omega)]
      exact hLt i ((nd_er hRW y i).mp hi).2
    · rw [z9 16 (by decide)]; exact k3
    · rw [z9 17 (by decide)]; exact k4
    · rw [z9 18 (by decide)]; exact k5
    · refine ((us_pw.mp hU1).sublist List.erase_sublist).imp (fun {a b} q => ?_)
      rw [zr 26 a (by omega) (by omega), zr 26 b (by omega) (by omega)]
      exact q
    · rw [zr 26 i (by omega) (by omega)]
      exact hU2 i ((nd_er hRW y i).mp hi).2
    · rw [z9 15 (by decide)]; exact hU3
end RIS
