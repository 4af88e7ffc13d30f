/-! ===== plans: spans, keeps, seams, tiers ===== -/
def VP (n : Nat) (S K : Nat → Int) : Prop := (1 ≤ n ∧ n ≤ 4) ∧ (∀ i, i < n → 1 ≤ S i ∧ S i ≤ 100000 ∧ 1 ≤ K i ∧ K i ≤ 20) ∧ ∀ i, i + 1 < n → S i ∣ S (i + 1)
def sa (n : Nat) (S : Nat → Int) (i : Nat) (v : Int) : Int := if i + 1 < n then al v (S (i + 1)) else v
def sm (n : Nat) (S K : Nat → Int) (h : Int) : Nat → Int
  | 0 => sa n S 0 (al h (S 0) + S 0 - K 0 * S 0)
  | i + 1 => sa n S (i + 1) (sm n S K h i - K (i + 1) * S (i + 1))
section PLANS
variable {n : Nat} {S K : Nat → Int}
theorem VP.sp (V : VP n S K) {i : Nat} (hi : i < n) : 0 < S i ∧ S i ≤ 100000 := ⟨by have := (V.2.1 i hi).1; omega, (V.2.1 i hi).2.1⟩
theorem VP.kp (V : VP n S K) {i : Nat} (hi : i < n) : 1 ≤ K i ∧ K i ≤ 20 := ⟨(V.2.1 i hi).2.2.1, (V.2.1 i hi).2.2.2⟩
theorem VP.ks (V : VP n S K) {i : Nat} (hi : i < n) : S i ≤ K i * S i ∧ K i * S i ≤ 2000000 := by
  have h1 := V.sp hi
  have h2 := V.kp hi
  have h3 : 1 * S i ≤ K i * S i := Int.mul_le_mul_of_nonneg_right h2.1 (by omega)
  have h4 : K i * S i ≤ 20 * S i := Int.mul_le_mul_of_nonneg_right h2.2 (by omega)
  omega
theorem VP.dv (V : VP n S K) {i j : Nat} (hij : i ≤ j) (hj : j < n) : S i ∣ S j := by
  induction j with
  | zero => rw [show i = 0 by omega]; exact Int.dvd_refl _
  | succ j ih =>
    by_cases h : i = j + 1
    · subst h; exact Int.dvd_refl _
    · exact Int.dvd_trans (ih (by omega) (by omega)) (V.2.2 j hj)
theorem sa_le (V : VP n S K) (i : Nat) (v : Int) : sa n S i v ≤ v := by
  unfold sa
  split
  · rename_i h; exact al_le (V.sp h).1
  · exact Int.le_refl _
theorem sa_gt (V : VP n S K) (i : Nat) (v : Int) : v - 100000 < sa n S i v := by
  unfold sa
  split
  · rename_i h
    have h1 := al_lt (x := v) (V.sp h).1
    have h2 := V.sp h
    omega
  · omega
theorem sa_mono (V : VP n S K) (i : Nat) {v w : Int} (h : v ≤ w) : sa n S i v ≤ sa n S i w := by
  unfold sa
  split
  · rename_i h'; exact al_mono (V.sp h').1 h
  · exact h
theorem sm_0 (h : Int) : sm n S K h 0 = sa n S 0 (al h (S 0) + S 0 - K 0 * S 0) := rfl
theorem sm_s (h : Int) (i : Nat) : sm n S K h (i + 1) = sa n S (i + 1) (sm n S K h i - K (i + 1) * S (i + 1)) := rfl
theorem sm_mono (V : VP n S K) {h h' : Int} (hh : h ≤ h') (i : Nat) : sm n S K h i ≤ sm n S K h' i := by
  induction i with
  | zero =>
    rw [sm_0, sm_0]
    have := al_mono (V.sp (i := 0) (by have := V.1; omega)).1 hh
    exact sa_mono V 0 (by omega)
  | succ i ih =>
    rw [sm_s, sm_s]
    exact sa_mono V (i + 1) (by omega)
/-- seams fall -/
theorem sm_fall (V : VP n S K) (h : Int) {i : Nat} (hi : i + 1 < n) : sm n S K h (i + 1) + S (i + 1) ≤ sm n S K h i := by
  rw [sm_s]
  have h1 := sa_le V (i + 1) (sm n S K h i - K (i + 1) * S (i + 1))
  have h2 := V.ks hi
  omega
theorem sm_anti (V : VP n S K) (h : Int) {i j : Nat} (hij : i ≤ j) (hj : j < n) : sm n S K h j ≤ sm n S K h i := by
  induction j with
  | zero => rw [show i = 0 by omega]; exact Int.le_refl _
  | succ j ih =>
    by_cases h' : i = j + 1
    · subst h'; exact Int.le_refl _
    · have h1 := ih (by omega) (by omega)
      have h2 := sm_fall V h hj
      have h3 := V.sp hj
      omega
theorem sm_hd (V : VP n S K) (h : Int) : sm n S K h 0 ≤ h := by
  have h0 : 0 < n := by have := V.1; omega
  rw [sm_0]
  have h1 := sa_le V 0 (al h (S 0) + S 0 - K 0 * S 0)
  have h2 := V.ks h0
  have h3 := al_le (x := h) (V.sp h0).1
  omega
theorem sm_lo (V : VP n S K) (h : Int) {i : Nat} (hi : i < n) : h - 2100000 * (i + 1) ≤ sm n S K h i := by
  have h0 : 0 < n := by have := V.1; omega
  induction i with
  | zero =>
    rw [sm_0]
    have h1 := sa_gt V 0 (al h (S 0) + S 0 - K 0 * S 0)
    have h2 := V.ks h0
    have h3 := al_lt (x := h) (V.sp h0).1
    omega
  | succ i ih =>
    have h1 := sa_gt V (i + 1) (sm n S K h i - K (i + 1) * S (i + 1))
    have h2 := V.ks hi
    have h3 := ih (by omega)
    rw [sm_s]
    omega
theorem sm_bd (V : VP n S K) {h : Int} (h1 : -1000000 ≤ h) (h2 : h ≤ 1000000) {i : Nat} (hi : i < n) : -9400000 ≤ sm n S K h i ∧ sm n S K h i ≤ 1000000 := by
  have h3 := sm_lo V h hi
  have h4 := sm_anti V h (Nat.zero_le i) hi
  have h5 := sm_hd V h
  have h6 := V.1
  omega
/-- a seam is a multiple of its own span, and of the next one -/
theorem sm_up (V : VP n S K) (h : Int) {i : Nat} (hi : i + 1 < n) : S (i + 1) ∣ sm n S K h i := by
  cases i with
  | zero => rw [sm_0, sa, if_pos hi]; exact al_dv _ _
  | succ i => rw [sm_s, sa, if_pos hi]; exact al_dv _ _
theorem sm_own (V : VP n S K) (h : Int) {i : Nat} (hi : i < n) : S i ∣ sm n S K h i := by
  by_cases hl : i + 1 < n
  · exact Int.dvd_trans (V.2.2 i hl) (sm_up V h hl)
  · cases i with
    | zero =>
      rw [sm_0, sa, if_neg hl]
      exact Int.dvd_sub (Int.dvd_add (al_dv _ _) (Int.dvd_refl _)) (Int.dvd_mul_left _ _)
    | succ i =>
      rw [sm_s, sa, if_neg hl]
      exact Int.dvd_sub (sm_up V h hi) (Int.dvd_mul_left _ _)
/-! the tier of a time -/
def tq (σ : Nat → Int) (n : Nat) (t : Int) : Option Nat := (List.range n).find? fun i => decide (σ i ≤ t)
def TI (σ : Nat → Int) (n : Nat) (t : Int) (i : Nat) : Prop := i < n ∧ σ i ≤ t ∧ ∀ j, j < i → t < σ j
theorem TI.u {σ : Nat → Int} {t : Int} {i j : Nat} (h : TI σ n t i) (h' : TI σ n t j) : i = j := by
  rcases Nat.lt_trichotomy i j with q | q | q
  · have := h'.2.2 i q
    have := h.2.1
    omega
  · exact q
  · have := h.2.2 j q
    have := h'.2.1
    omega
theorem tq_some {σ : Nat → Int} {t : Int} {i : Nat} : tq σ n t = some i ↔ TI σ n t i := by
  unfold tq TI
  rw [List.find?_range_eq_some]
  simp only [decide_eq_true_eq, Bool.not_eq_true', decide_eq_false_iff_not, List.mem_range]
  constructor
  · rintro ⟨h1, h2, h3⟩
    exact ⟨h2, h1, fun j hj => by have := h3 j hj; omega⟩
  · rintro ⟨h1, h2, h3⟩
    exact ⟨h2, h1, fun j hj => by have := h3 j hj; omega⟩
theorem tq_none {σ : Nat → Int} {t : Int} : tq σ n t = none ↔ ∀ j, j < n → t < σ j := by
  unfold tq
  rw [List.find?_range_eq_none]
  simp only [Bool.not_eq_true', decide_eq_false_iff_not]
  constructor
  · intro h j hj; have := h j hj; omega
  · intro h j hj; have := h j hj; omega
/-- there is a tier, if it isn't gone -/
theorem TI.ex {σ : Nat → Int} {t : Int} {j : Nat} (hj : j < n) (h : σ j ≤ t) : ∃ i, TI σ n t i ∧ i ≤ j := by
  cases hq : tq σ n t with
  | none => have := tq_none.mp hq j hj; omega
  | some i =>
    have hi := tq_some.mp hq
    refine ⟨i, hi, ?_⟩
    rcases Nat.lt_or_ge j i with q | q
    · have := hi.2.2 j q; omega
    · exact q
def kp (S : Nat → Int) (σ : Nat → Int) (n : Nat) (t : Int) : Int := match tq σ n t with
  | none => t
  | some i => al t (S i)
theorem kp_of {σ : Nat → Int} {t : Int} {i : Nat} (h : TI σ n t i) : kp S σ n t = al t (S i) := by
  unfold kp; rw [tq_some.mpr h]
abbrev sg (n : Nat) (S K : Nat → Int) (h : Int) : Nat → Int := sm n S K h
/-- a bucket: all times in it are of its tier and its start -/
theorem kp_in (V : VP n S K) {h t u : Int} {i : Nat} (hi : TI (sm n S K h) n t i) (h1 : al t (S i) ≤ u) (h2 : u < al t (S i) + S i) : TI (sm n S K h) n u i ∧ al u (S i) = al t (S i) := by
  have hp := (V.sp hi.1).1
  have h3 := al_ge hp (sm_own V h hi.1) hi.2.1
  refine ⟨⟨hi.1, by omega, fun j hj => ?_⟩, al_u (al_dv _ _) h1 h2⟩
  have h4 := hi.2.2 (i - 1) (by omega)
  have h5 := sm_up V h (i := i - 1) (by have := hi.1; omega)
  rw [show i - 1 + 1 = i by omega] at h5
  have h6 := al_le (x := t) hp
  have h7 := dv_gap hp (al_dv t (S i)) h5 (by omega)
  have h8 := sm_anti V h (i := j) (j := i - 1) (by omega) (by have := hi.1; omega)
  omega
theorem kp_self (V : VP n S K) {h t : Int} {i : Nat} (hi : TI (sm n S K h) n t i) : TI (sm n S K h) n (al t (S i)) i ∧ al (al t (S i)) (S i) = al t (S i) := by
  have hp := (V.sp hi.1).1
  exact kp_in V hi (Int.le_refl _) (by omega)
theorem kp_mono (V : VP n S K) {h t u : Int} {i j : Nat} (hi : TI (sm n S K h) n t i) (hj : TI (sm n S K h) n u j) (htu : t ≤ u) : j ≤ i ∧ al t (S i) ≤ al u (S j) := by
  have hp := (V.sp hi.1).1
  have hq := (V.sp hj.1).1
  have h1 : j ≤ i := by
    rcases Nat.lt_or_ge i j with q | q
    · have := hj.2.2 i q
      have := hi.2.1
      omega
    · exact q
  refine ⟨h1, ?_⟩
  by_cases e : i = j
  · subst e; exact al_mono hp htu
  · have h2 := hi.2.2 j (by omega)
    have h3 := al_ge hq (sm_own V h hj.1) hj.2.1
    have h4 := al_le (x := t) hp
    omega
/-- of one start: in one bucket -/
theorem kp_eq (V : VP n S K) {h t u : Int} {i j : Nat} (hi : TI (sm n S K h) n t i) (hj : TI (sm n S K h) n u j) : al t (S i) = al u (S j) ↔ al t (S i) ≤ u ∧ u < al t (S i) + S i := by
  constructor
  · intro e
    have h1 := (kp_self V hi).1
    have h2 := (kp_self V hj).1
    rw [e] at h1
    have h3 := h1.u h2
    subst h3
    have hp := (V.sp hi.1).1
    have h4 := al_le (x := u) hp
    have h5 := al_lt (x := u) hp
    omega
  · rintro ⟨h1, h2⟩
    obtain ⟨h3, h4⟩ := kp_in V hi h1 h2
    have := h3.u hj
    subst this
    exact h4.symm
/-- the head rises: what a bucket holds goes together -/
theorem kp_rise (V : VP n S K) {h h' t : Int} (hh : h ≤ h') {i : Nat} (hi : TI (sm n S K h) n t i) :
    (∀ i', TI (sm n S K h') n t i' → i ≤ i' ∧ TI (sm n S K h') n (al t (S i)) i' ∧ al (al t (S i)) (S i') = al t (S i')) ∧ (tq (sm n S K h') n t = none → tq (sm n S K h') n (al t (S i)) = none) := by
  have hp := (V.sp hi.1).1
  have hle := al_le (x := t) hp
  refine ⟨fun i' h' => ?_, fun hn => tq_none.mpr (fun j hj => by have := tq_none.mp hn j hj; omega)⟩
  have h1 : i ≤ i' := by
    rcases Nat.lt_or_ge i' i with q | q
    · have h2 := hi.2.2 i' q
      have h3 := sm_mono V hh i'
      have := h'.2.1
      omega
    · exact q
  have hq := (V.sp h'.1).1
  have hd := V.dv h1 h'.1
  refine ⟨h1, ⟨h'.1, ?_, fun j hj => by have := h'.2.2 j hj; omega⟩, al_al hp hq hd⟩
  exact al_ge hp (Int.dvd_trans hd (sm_own V _ h'.1)) h'.2.1
/-- if the first seam stays, all stay -/
theorem sm_first {h h' : Int} (e : sm n S K h 0 = sm n S K h' 0) (i : Nat) : sm n S K h i = sm n S K h' i := by
  induction i with
  | zero => exact e
  | succ i ih => rw [sm_s, sm_s, ih]
end PLANS
