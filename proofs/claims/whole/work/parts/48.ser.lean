/-! ===== a series of the class; groups that are well ===== -/
abbrev ka (n : Nat) (S K : Nat → Int) (h : Int) : Int → Int := kp S (sm n S K h) n
def WfG (n : Nat) (S K : Nat → Int) (h : Int) (GG : List (List Pt)) : Prop :=
  Gd (ka n S K h) GG ∧ Srt GG.flatten ∧ (∀ p ∈ GG.flatten, sm n S K h (n - 1) ≤ tm p ∧ tm p ≤ h ∧ -10000 ≤ p.2.toInt ∧ p.2.toInt ≤ 10000) ∧ GG.flatten.length ≤ 40000 ∧ -1000000 ≤ h ∧ h ≤ 1000000
section WELL
variable {n : Nat} {S K : Nat → Int} {h : Int} {GG : List (List Pt)}
theorem wf_p (V : VP n S K) (W : WfG n S K h GG) {p : Pt} (hp : p ∈ GG.flatten) : ∃ i, TI (sm n S K h) n (tm p) i ∧ ka n S K h (tm p) = al (tm p) (S i) := by
  have hn := V.1
  obtain ⟨i, hi, -⟩ := TI.ex (σ := sm n S K h) (n := n) (t := tm p) (j := n - 1) (by omega) (W.2.2.1 p hp).1
  exact ⟨i, hi, kp_of hi⟩
theorem wf_g (V : VP n S K) (W : WfG n S K h GG) {g : List Pt} (hg : g ∈ GG) : ∃ i, TI (sm n S K h) n (ky (ka n S K h) g) i ∧ (∀ p ∈ g, TI (sm n S K h) n (tm p) i ∧ al (tm p) (S i) = ky (ka n S K h) g) ∧ (-9400000 ≤ ky (ka n S K h) g ∧ ky (ka n S K h) g ≤ 1000000) ∧ g ≠ [] := by
  have hne := W.1.1 g hg
  obtain ⟨p, hp, hk⟩ := ky_mem (κ := ka n S K h) hne
  have hpf : ∀ q ∈ g, q ∈ GG.flatten := fun q hq => List.mem_flatten.mpr ⟨g, hg, hq⟩
  obtain ⟨i, hi, ei⟩ := wf_p V W (hpf p hp)
  have hs := kp_self V hi
  rw [ei] at hk
  refine ⟨i, by rw [hk]; exact hs.1, fun q hq => ?_, ?_, hne⟩
  · obtain ⟨j, hj, ej⟩ := wf_p V W (hpf q hq)
    have e2 := W.1.2.1 g hg q hq
    rw [ej] at e2
    have e3 : al (tm p) (S i) = al (tm q) (S j) := by rw [e2, ← hk]
    have h1 := (kp_self V hj).1
    rw [← e3] at h1
    have := hs.1.u h1
    subst this
    exact ⟨hj, e2⟩
  · have h1 := al_le (x := tm p) (V.sp hi.1).1
    have h2 := al_ge (V.sp hi.1).1 (sm_own V h hi.1) hi.2.1
    have h3 := sm_bd V W.2.2.2.2.1 W.2.2.2.2.2 hi.1
    have h4 := W.2.2.1 p (hpf p hp)
    have h5 := W.2.2.2.2.2
    rw [hk]
    omega
theorem wf_len (W : WfG n S K h GG) : GG.length ≤ 40000 := by
  have h1 : ∀ (L : List (List Pt)), (∀ g ∈ L, g ≠ []) → L.length ≤ L.flatten.length := by
    intro L
    induction L with
    | nil => intro _; exact Nat.le_refl _
    | cons g L ih =>
      intro hL
      have h2 := ih (fun b hb => hL b (List.mem_cons_of_mem _ hb))
      have h3 := List.length_pos_iff.mpr (hL g List.mem_cons_self)
      rw [List.length_cons, List.flatten_cons, List.length_append]
      omega
  have := h1 GG W.1.1
  have := W.2.2.2.1
  omega
theorem wf_gl (W : WfG n S K h GG) {g : List Pt} (hg : g ∈ GG) : 0 < g.length ∧ g.length ≤ 40000 := by
  have h1 := List.length_pos_iff.mpr (W.1.1 g hg)
  obtain ⟨A, B, rfl⟩ := List.append_of_mem hg
  have h2 := W.2.2.2.1
  rw [List.flatten_append, List.flatten_cons, List.length_append, List.length_append] at h2
  omega
/-- a time lies before a seam just when its bucket does -/
theorem kp_thr (V : VP n S K) {u : Int} {i j : Nat} (hi : TI (sm n S K h) n u i) (hj : j < n) : u < sm n S K h j ↔ al u (S i) < sm n S K h j := by
  have hp := (V.sp hi.1).1
  have h1 := al_le (x := u) hp
  constructor
  · intro h2; omega
  · intro h2
    rcases Int.lt_or_le u (sm n S K h j) with q | q
    · exact q
    · have hij : i ≤ j := by
        rcases Nat.lt_or_ge j i with w | w
        · have := hi.2.2 j w; omega
        · exact w
      have := al_ge hp (Int.dvd_trans (V.dv hij hj) (sm_own V h hj)) q
      omega
/-- the groups of a tier -/
theorem tier_cut (V : VP n S K) (W : WfG n S K h GG) {t : Nat} (ht : t < n) : ∃ A M C, GG = A ++ (M ++ C) ∧ (∀ g ∈ A, ky (ka n S K h) g < sm n S K h t) ∧ (∀ g ∈ M, TI (sm n S K h) n (ky (ka n S K h) g) t) ∧ (∀ g ∈ M ++ C, sm n S K h t ≤ ky (ka n S K h) g) ∧
    (t = 0 → C = []) ∧ (t ≠ 0 → ∀ g ∈ C, sm n S K h (t - 1) ≤ ky (ka n S K h) g) ∧ (t ≠ 0 → ∀ g ∈ A ++ M, ky (ka n S K h) g < sm n S K h (t - 1)) ∧
    cl GG.flatten (sm n S K h t) = A.flatten.length ∧ (t ≠ 0 → cl GG.flatten (sm n S K h (t - 1)) = A.flatten.length + M.flatten.length) := by
  have hthr : ∀ j, j < n → ∀ p ∈ GG.flatten, tm p < sm n S K h j ↔ ka n S K h (tm p) < sm n S K h j := by
    intro j hj p hp
    obtain ⟨i, hi, e⟩ := wf_p V W hp
    rw [e]
    exact kp_thr V hi hj
  obtain ⟨A, R, e1, a1, a2, a3⟩ := gr_cut W.1 (hthr t ht)
  by_cases h0 : t = 0
  · refine ⟨A, R, [], by rw [List.append_nil]; exact e1, a1, fun g hg => ?_, fun g hg => a2 g (by rw [List.append_nil] at hg; exact hg), fun _ => rfl, fun q => absurd h0 q, fun q => absurd h0 q, a3, fun q => absurd h0 q⟩
    exact ⟨ht, a2 g hg, fun j hj => by omega⟩
  · obtain ⟨A', C, e2, b1, b2, b3⟩ := gr_cut W.1 (hthr (t - 1) (by omega))
    have hfall := sm_anti V h (i := t - 1) (j := t) (by omega) ht
    have hle : A.length ≤ A'.length := by
      rcases Nat.lt_or_ge A'.length A.length with q | q
      · exfalso
        have h1 : GG[A'.length]? = some A[A'.length] := by rw [e1, List.getElem?_append_left q, List.getElem?_eq_getElem q]
        rw [e2, List.getElem?_append_right (Nat.le_refl _), Nat.sub_self] at h1
        have h2 := a1 _ (List.getElem_mem q)
        have h3 := b2 _ (List.mem_of_getElem? h1)
        omega
      · exact q
    have e3 : A' = A ++ A'.drop A.length := by
      have h1 : A'.take A.length = A := by
        have h2 : (A' ++ C).take A.length = (A ++ R).take A.length := by rw [← e1, ← e2]
        rw [List.take_append_of_le_length hle, List.take_left' rfl] at h2
        exact h2
      conv => lhs; rw [← List.take_append_drop A.length A', h1]
    refine ⟨A, A'.drop A.length, C, by rw [e2]; conv => lhs; rw [e3, List.append_assoc], a1, fun g hg => ?_, fun g hg => ?_, fun q => absurd q h0, fun _ => b2, fun _ g hg => b1 g (by rw [e3]; exact hg), a3, fun _ => ?_⟩
    · have hgA : g ∈ A' := by rw [e3]; exact List.mem_append_right _ hg
      have hgR : g ∈ R := by
        have h2 : A ++ R = A ++ (A'.drop A.length ++ C) := by rw [← List.append_assoc, ← e3, ← e2, ← e1]
        rw [List.append_cancel_left h2]
        exact List.mem_append_left _ hg
      refine ⟨ht, a2 g hgR, fun j hj => ?_⟩
      have h3 := b1 g hgA
      have h4 := sm_anti V h (i := j) (j := t - 1) (by omega) (by omega)
      omega
    · have h2 : A ++ R = A ++ (A'.drop A.length ++ C) := by rw [← List.append_assoc, ← e3, ← e2, ← e1]
      exact a2 g (by rw [List.append_cancel_left h2]; exact hg)
    · rw [b3]
      conv => lhs; rw [e3, List.flatten_append, List.length_append]
theorem s64_bd {g : List Pt} (hv : ∀ p ∈ g, -10000 ≤ p.2.toInt ∧ p.2.toInt ≤ 10000) (hl : g.length ≤ 40000) : -10000 * (g.length : Int) ≤ (s64 g).toInt ∧ (s64 g).toInt ≤ 10000 * (g.length : Int) := by
  induction g with
  | nil => exact ⟨by decide, by decide⟩
  | cons p g ih =>
    have h1 := ih (fun q hq => hv q (List.mem_cons_of_mem _ hq)) (by rw [List.length_cons] at hl; omega)
    have h2 := hv p List.mem_cons_self
    rw [List.length_cons] at hl ⊢
    rw [s64_cons, nj_add (by rw [nj_up]; omega) (by rw [nj_up]; omega), nj_up]
    omega
def mean (g : List Pt) : Int32 := Int32.ofInt ((s64 g).toInt / (g.length : Int))
theorem mean_bd {g : List Pt} (hv : ∀ p ∈ g, -10000 ≤ p.2.toInt ∧ p.2.toInt ≤ 10000) (hl : g.length ≤ 40000) (h0 : 0 < g.length) : -10000 ≤ (mean g).toInt ∧ (mean g).toInt ≤ 10000 := by
  have h1 := s64_bd hv hl
  have hp : (0 : Int) < (g.length : Int) := by omega
  have h2 : -10000 ≤ (s64 g).toInt / (g.length : Int) := (Int.le_ediv_iff_mul_le hp).mpr h1.1
  have h3 : (s64 g).toInt / (g.length : Int) < 10001 := (Int.ediv_lt_iff_lt_mul hp).mpr (by omega)
  unfold mean
  rw [nu_of (by omega) (by omega)]
  omega
theorem wf_v (W : WfG n S K h GG) {g : List Pt} (hg : g ∈ GG) : ∀ p ∈ g, -10000 ≤ p.2.toInt ∧ p.2.toInt ≤ 10000 := fun p hp => (W.2.2.1 p (List.mem_flatten.mpr ⟨g, hg, hp⟩)).2.2
end WELL
def SerC (s : St) (o p n : Nat) (S K : Nat → Int) (h : Int) (GG : List (List Pt)) : Prop :=
  (¬ o = 0 ∧ gR s 5 o 0 = p ∧ PlC s p n S K) ∧ (¬ gR s 5 o 1 = 0 ∧ gL s 10 (gR s 5 o 1) = 4 ∧ ∀ i, i < n → gI s 10 (gR s 5 o 1) i = Int32.ofInt (sm n S K h i)) ∧ gI s 5 o 8 = nI GG.length ∧
  (¬ gR s 5 o 3 = 0 ∧ ¬ gR s 5 o 4 = 0 ∧ ¬ gR s 5 o 5 = 0 ∧ ¬ gR s 5 o 6 = 0 ∧ ¬ gR s 5 o 7 = 0) ∧
  (GG.length ≤ gL s 10 (gR s 5 o 3) ∧ GG.length ≤ gL s 10 (gR s 5 o 4) ∧ GG.length ≤ gL s 11 (gR s 5 o 5) ∧ GG.length ≤ gL s 10 (gR s 5 o 6) ∧ GG.length ≤ gL s 10 (gR s 5 o 7)) ∧
  ∀ j g, GG[j]? = some g → gI s 10 (gR s 5 o 3) j = Int32.ofInt (ky (ka n S K h) g) ∧ gI s 10 (gR s 5 o 4) j = nI g.length ∧ gJ s 11 (gR s 5 o 5) j = s64 g ∧ gI s 10 (gR s 5 o 6) j = gmn g ∧ gI s 10 (gR s 5 o 7) j = gmx g
section SERC
variable {s : St} {o p n : Nat} {S K : Nat → Int} {h : Int} {GG : List (List Pt)}
theorem SerC.sm (V : VP n S K) (W : WfG n S K h GG) (C : SerC s o p n S K h GG) {i : Nat} (hi : i < n) : (gI s 10 (gR s 5 o 1) i).toInt = sm n S K h i := by
  have h1 := sm_bd V W.2.2.2.2.1 W.2.2.2.2.2 hi
  rw [C.2.1.2.2 i hi, nu_of (by omega) (by omega)]
theorem X5_to (V : VP n S K) (W : WfG n S K h GG) (C : SerC s o p n S K h GG) (t : Int32) {fu : Nat} (hfu : 100 ≤ fu) : f_X5_tierOf fu s o t = some (s, tc (tq (sm n S K h) n t.toInt)) := by
  have hp0 : ¬ gR s 5 o 0 = 0 := by rw [C.1.2.1]; exact C.1.2.2.1
  unfold f_X5_tierOf
  simp only [C.1.1, reduceIte, hp0]
  rw [X2_tu V.1.2 hp0 (by rw [C.1.2.1]; exact C.1.2.2.2.2.2.1) ⟨C.2.1.1, C.2.1.2.1⟩ (fun i hi => C.sm V W hi) hfu]
  rfl
theorem SerC.st (V : VP n S K) (W : WfG n S K h GG) (C : SerC s o p n S K h GG) {j : Nat} {g : List Pt} (hj : GG[j]? = some g) : (gI s 10 (gR s 5 o 3) j).toInt = ky (ka n S K h) g := by
  obtain ⟨i, -, -, h1, -⟩ := wf_g V W (List.mem_of_getElem? hj)
  rw [(C.2.2.2.2.2 j g hj).1, nu_of (by omega) (by omega)]
theorem get_lt {α : Type} {L : List α} {j : Nat} {g : α} (hj : L[j]? = some g) : j < L.length := (List.getElem?_eq_some_iff.mp hj).1
/-- the place of the first from a time on -/
theorem ff_ser (V : VP n S K) (W : WfG n S K h GG) (C : SerC s o p n S K h GG) {A R : List (List Pt)} (e : GG = A ++ R) {t : Int32} (hA : ∀ g ∈ A, ky (ka n S K h) g < t.toInt) (hR : ∀ g ∈ R, t.toInt ≤ ky (ka n S K h) g) {fu : Nat} (hfu : 50000 ≤ fu) : f_X5_firstFrom fu s o t = some (s, nI A.length) := by
  have hl := wf_len W
  refine X5_ff C.1.1 C.2.2.1 C.2.2.2.1.1 C.2.2.2.2.1.1 (by omega) (by rw [e, List.length_append]; omega) (fun j hj => ?_) (by omega)
  have hg : GG[j]? = some GG[j] := List.getElem?_eq_getElem hj
  rw [C.st V W hg]
  by_cases hja : j < A.length
  · have h1 : GG[j] ∈ A := by
      have : GG[j]? = A[j]? := by rw [e, List.getElem?_append_left hja]
      rw [hg] at this
      exact List.mem_of_getElem? this.symm
    have := hA _ h1
    omega
  · have h1 : GG[j] ∈ R := by
      have : GG[j]? = R[j - A.length]? := by rw [e, List.getElem?_append_right (by omega)]
      rw [hg] at this
      exact List.mem_of_getElem? this.symm
    have := hR _ h1
    omega
theorem X5_bg (V : VP n S K) (W : WfG n S K h GG) (C : SerC s o p n S K h GG) {t : Nat} (ht : t < n) {A R : List (List Pt)} (e : GG = A ++ R) (hA : ∀ g ∈ A, ky (ka n S K h) g < sm n S K h t) (hR : ∀ g ∈ R, sm n S K h t ≤ ky (ka n S K h) g) {fu : Nat} (hfu : 50000 ≤ fu) : f_X5_beginOf fu s o (nI t) = some (s, nI A.length) := by
  have hn := V.1
  have b4 : inb (nI t) 4 = true := nu_inbn (by omega) (by omega)
  have es := C.sm V W ht
  unfold f_X5_beginOf
  simp only [C.1.1, reduceIte, C.2.1.1, C.2.1.2.1, b4, Bool.true_eq_false, nu_ixn (show t < 2147483648 by omega)]
  rw [ff_ser V W C e (by rw [es]; exact hA) (by rw [es]; exact hR) hfu]
  rfl
theorem X5_en0 (C : SerC s o p n S K h GG) (fu : Nat) : f_X5_endOf fu s o 0 = some (s, nI GG.length) := by
  unfold f_X5_endOf f_X5_endOf_b23
  simp only [reduceIte, C.1.1, C.2.2.1]
theorem X5_en1 (V : VP n S K) (W : WfG n S K h GG) (C : SerC s o p n S K h GG) {t : Nat} (h0 : t ≠ 0) (ht : t < n) {A R : List (List Pt)} (e : GG = A ++ R) (hA : ∀ g ∈ A, ky (ka n S K h) g < sm n S K h (t - 1)) (hR : ∀ g ∈ R, sm n S K h (t - 1) ≤ ky (ka n S K h) g) {fu : Nat} (hfu : 50000 ≤ fu) : f_X5_endOf fu s o (nI t) = some (s, nI A.length) := by
  have hn := V.1
  have b4 : inb (nI (t - 1)) 4 = true := nu_inbn (by omega) (by omega)
  have es := C.sm V W (i := t - 1) (by omega)
  have hz : ¬ nI t = 0 := fun q => h0 ((ni_eq (b := 0) (by omega) (by omega)).mp q)
  unfold f_X5_endOf f_X5_endOf_b23
  simp only [hz, C.1.1, reduceIte, C.2.1.1, C.2.1.2.1, ni_dec (show 0 < t by omega) (show t < 2147483648 by omega), b4, Bool.true_eq_false, nu_ixn (show t - 1 < 2147483648 by omega)]
  rw [ff_ser V W C e (by rw [es]; exact hA) (by rw [es]; exact hR) hfu]
  rfl
/-- both ends of a tier -/
theorem X5_tier (V : VP n S K) (W : WfG n S K h GG) (C : SerC s o p n S K h GG) {t : Nat} (ht : t < n) {A M B : List (List Pt)} (e : GG = A ++ (M ++ B)) (hA : ∀ g ∈ A, ky (ka n S K h) g < sm n S K h t) (hR : ∀ g ∈ M ++ B, sm n S K h t ≤ ky (ka n S K h) g) (h0 : t = 0 → B = [])
    (h1 : t ≠ 0 → ∀ g ∈ B, sm n S K h (t - 1) ≤ ky (ka n S K h) g) (h2 : t ≠ 0 → ∀ g ∈ A ++ M, ky (ka n S K h) g < sm n S K h (t - 1)) {fu : Nat} (hfu : 50000 ≤ fu) :
    f_X5_beginOf fu s o (nI t) = some (s, nI A.length) ∧ f_X5_endOf fu s o (nI t) = some (s, nI (A.length + M.length)) := by
  refine ⟨X5_bg V W C ht e hA hR hfu, ?_⟩
  by_cases hz : t = 0
  · subst hz
    have := X5_en0 C fu
    rw [e, h0 rfl, List.append_nil, List.length_append] at this
    exact this
  · have := X5_en1 V W C hz ht (A := A ++ M) (R := B) (by rw [e, List.append_assoc]) (h2 hz) (h1 hz) hfu
    rw [List.length_append] at this
    exact this
theorem X5_mean (W : WfG n S K h GG) (C : SerC s o p n S K h GG) {j : Nat} {g : List Pt} (hj : GG[j]? = some g) (fu : Nat) : f_X5_mean fu s o (nI j) = some (s, mean g) := by
  have hl := wf_len W
  have hjl := get_lt hj
  obtain ⟨-, c2, c3, -, -⟩ := C.2.2.2.2.2 j g hj
  obtain ⟨r1, r2, r3, r4, r5⟩ := C.2.2.2.1
  obtain ⟨l1, l2, l3, l4, l5⟩ := C.2.2.2.2.1
  have b1 : inb (nI j) (gL s 11 (gR s 5 o 5)) = true := nu_inbn (by omega) (by omega)
  have b2 : inb (nI j) (gL s 10 (gR s 5 o 4)) = true := nu_inbn (by omega) (by omega)
  have hgl := wf_gl W (List.mem_of_getElem? hj)
  unfold f_X5_mean
  simp only [C.1.1, r3, r2, b1, b2, reduceIte, Bool.true_eq_false, nu_ixn (show j < 2147483648 by omega), c2, c3]
  rw [X8_quo (by rw [nu_nI (by omega)]; omega), nu_nI (by omega)]
  rfl
theorem X5_sp (V : VP n S K) (W : WfG n S K h GG) (C : SerC s o p n S K h GG) {j : Nat} {g : List Pt} (hj : GG[j]? = some g) {i : Nat} (hi : TI (sm n S K h) n (ky (ka n S K h) g) i) {fu : Nat} (hfu : 100 ≤ fu) : ∃ w : Int32, f_X5_spanAt fu s o (nI j) = some (s, w) ∧ w.toInt = S i := by
  have hl := wf_len W
  have hjl := get_lt hj
  have hn := V.1
  have hin := hi.1
  obtain ⟨r1, -⟩ := C.2.2.2.1
  obtain ⟨l1, -⟩ := C.2.2.2.2.1
  have b1 : inb (nI j) (gL s 10 (gR s 5 o 3)) = true := nu_inbn (by omega) (by omega)
  have bi : inb (nI i) 4 = true := nu_inbn (by omega) (by omega)
  obtain ⟨p0, ⟨p1, p2⟩, ⟨p3, p4⟩, p5, p6⟩ := C.1.2.2
  have e0 := C.1.2.1
  refine ⟨gI s 10 (gR s 2 p 0) i, ?_, (p6 i hin).1⟩
  unfold f_X5_spanAt f_X5_spanAt_b29
  simp only [C.1.1, r1, b1, reduceIte, Bool.true_eq_false, nu_ixn (show j < 2147483648 by omega), X5_to V W C _ hfu, bI, C.st V W hj, tq_some.mpr hi]
  have em : ¬ tc (some i) = (-1 : Int32) := ni_m1 (by omega)
  have et : tc (some i) = nI i := rfl
  simp only [em, reduceIte, e0, p0, p1, p3]
  rw [et]
  simp only [bi, Bool.true_eq_false, reduceIte, nu_ixn (show i < 2147483648 by omega)]
end SERC
