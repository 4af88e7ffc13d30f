/-! ===== points, in groups: what a bucket is ===== -/
abbrev Pt : Type := Int32 × Int32
abbrev tm (p : Pt) : Int := p.1.toInt
def Srt (P : List Pt) : Prop := P.Pairwise fun p q => tm p ≤ tm q
def cl (P : List Pt) (t : Int) : Nat := (P.takeWhile fun q => decide (tm q < t)).length
def ins (p : Pt) (P : List Pt) : List Pt := P.take (cl P (tm p)) ++ p :: P.drop (cl P (tm p))
theorem cl_nil (t : Int) : cl [] t = 0 := rfl
theorem cl_cons (q : Pt) (P : List Pt) (t : Int) : cl (q :: P) t = if tm q < t then cl P t + 1 else 0 := by
  unfold cl
  rw [List.takeWhile_cons]
  by_cases h : tm q < t
  · rw [if_pos (by simpa using h), if_pos h, List.length_cons]
  · rw [if_neg (by simpa using h), if_neg h]; rfl
theorem cl_al {A B : List Pt} {t : Int} (h : ∀ q ∈ A, tm q < t) : cl (A ++ B) t = A.length + cl B t := by
  induction A with
  | nil => simp
  | cons q A ih =>
    rw [List.cons_append, cl_cons, if_pos (h q List.mem_cons_self), ih (fun r hr => h r (List.mem_cons_of_mem _ hr)), List.length_cons]
    omega
theorem cl_none {B : List Pt} {t : Int} (h : ∀ q ∈ B, t ≤ tm q) : cl B t = 0 := by
  cases B with
  | nil => rfl
  | cons q B => rw [cl_cons, if_neg (by have := h q List.mem_cons_self; omega)]
theorem cl_r {A B : List Pt} {t : Int} (h : ∀ q ∈ B, t ≤ tm q) : cl (A ++ B) t = cl A t := by
  induction A with
  | nil => rw [List.nil_append, cl_none h, cl_nil]
  | cons q A ih => rw [List.cons_append, cl_cons, cl_cons, ih]
theorem cl_len (P : List Pt) (t : Int) : cl P t ≤ P.length := by
  induction P with
  | nil => exact Nat.le_refl _
  | cons q P ih =>
    rw [cl_cons, List.length_cons]
    split <;> omega
theorem cl_full {A : List Pt} {t : Int} (h : ∀ q ∈ A, tm q < t) : cl A t = A.length := by
  have := cl_al (B := []) h
  rw [List.append_nil, cl_nil] at this
  exact this
theorem Srt.tail {p : Pt} {P : List Pt} (h : Srt (p :: P)) : Srt P := (List.pairwise_cons.mp h).2
theorem Srt.hd {p : Pt} {P : List Pt} (h : Srt (p :: P)) : ∀ q ∈ P, tm p ≤ tm q := (List.pairwise_cons.mp h).1
/-- in a rising row the first ones are less -/
theorem cl_ix {P : List Pt} (hS : Srt P) (t : Int) : ∀ (j : Nat) (h : j < P.length), tm P[j] < t ↔ j < cl P t := by
  induction P with
  | nil => intro j h; exact absurd h (Nat.not_lt_zero _)
  | cons q P ih =>
    intro j h
    rw [cl_cons]
    by_cases hq : tm q < t
    · rw [if_pos hq]
      cases j with
      | zero => simpa using hq
      | succ j =>
        have := ih hS.tail j (by simpa using h)
        rw [List.getElem_cons_succ]
        omega
    · rw [if_neg hq]
      cases j with
      | zero => simpa using hq
      | succ j =>
        rw [List.getElem_cons_succ]
        have hj : j < P.length := by simpa using h
        have h1 := hS.hd P[j] (List.getElem_mem hj)
        constructor
        · intro h2; omega
        · intro h2; omega
theorem ins_l {p : Pt} {A B : List Pt} (h : ∀ q ∈ A, tm q < tm p) : ins p (A ++ B) = A ++ ins p B := by
  unfold ins
  rw [cl_al h, List.take_length_add_append, List.drop_length_add_append, List.append_assoc]
theorem ins_r {p : Pt} {A B : List Pt} (h : ∀ q ∈ B, tm p ≤ tm q) : ins p (A ++ B) = ins p A ++ B := by
  unfold ins
  rw [cl_r h, List.take_append_of_le_length (cl_len _ _), List.drop_append_of_le_length (cl_len _ _), List.append_assoc, List.cons_append]
theorem ins_nil (p : Pt) : ins p [] = [p] := rfl
theorem ins_mem {p q : Pt} {P : List Pt} : q ∈ ins p P ↔ q = p ∨ q ∈ P := by
  unfold ins
  rw [List.mem_append, List.mem_cons]
  have h : q ∈ P ↔ q ∈ P.take (cl P (tm p)) ∨ q ∈ P.drop (cl P (tm p)) := by
    rw [← List.mem_append, List.take_append_drop]
  rw [h]
  constructor
  · rintro (h | h | h)
    · exact Or.inr (Or.inl h)
    · exact Or.inl h
    · exact Or.inr (Or.inr h)
  · rintro (h | h | h)
    · exact Or.inr (Or.inl h)
    · exact Or.inl h
    · exact Or.inr (Or.inr h)
theorem ins_len (p : Pt) (P : List Pt) : (ins p P).length = P.length + 1 := by
  unfold ins
  have := cl_len P (tm p)
  rw [List.length_append, List.length_cons, List.length_take, List.length_drop]
  omega
theorem ins_cons (p q : Pt) (P : List Pt) : ins p (q :: P) = if tm q < tm p then q :: ins p P else p :: q :: P := by
  unfold ins
  rw [cl_cons]
  split
  · rfl
  · rfl
theorem ins_srt {p : Pt} {P : List Pt} (hS : Srt P) : Srt (ins p P) := by
  induction P with
  | nil => exact List.pairwise_singleton _ _
  | cons q P ih =>
    rw [ins_cons]
    split
    · rename_i h
      refine List.pairwise_cons.mpr ⟨fun r hr => ?_, ih hS.tail⟩
      rcases ins_mem.mp hr with rfl | hr
      · omega
      · exact hS.hd r hr
    · rename_i h
      refine List.pairwise_cons.mpr ⟨fun r hr => ?_, hS⟩
      rcases List.mem_cons.mp hr with rfl | hr
      · omega
      · have := hS.hd r hr; omega
theorem cut_srt {P : List Pt} (hS : Srt P) (c : Nat) : Srt (P.drop c) := List.Pairwise.sublist (List.drop_sublist c P) hS
theorem cut_ge {P : List Pt} (hS : Srt P) (t : Int) : ∀ q ∈ P.drop (cl P t), t ≤ tm q := by
  induction P with
  | nil => intro q h; simp at h
  | cons r P ih =>
    intro q h
    rw [cl_cons] at h
    split at h
    · exact ih hS.tail q h
    · rename_i hr
      rcases List.mem_cons.mp h with rfl | h
      · omega
      · have := hS.hd q h; omega
theorem cut_lt {P : List Pt} (t : Int) : ∀ q ∈ P.take (cl P t), tm q < t := by
  induction P with
  | nil => intro q h; simp at h
  | cons r P ih =>
    intro q h
    rw [cl_cons] at h
    split at h
    · rename_i hr
      rcases List.mem_cons.mp h with rfl | h
      · exact hr
      · exact ih q h
    · simp at h
/-! least, greatest, sum -/
def mn (a b : Int32) : Int32 := if b < a then b else a
def mx (a b : Int32) : Int32 := if a < b then b else a
theorem mn_i (a b : Int32) : (mn a b).toInt = min a.toInt b.toInt := by
  unfold mn
  split
  · rename_i h; rw [nu_lt] at h; omega
  · rename_i h; rw [nu_lt] at h; omega
theorem mx_i (a b : Int32) : (mx a b).toInt = max a.toInt b.toInt := by
  unfold mx
  split
  · rename_i h; rw [nu_lt] at h; omega
  · rename_i h; rw [nu_lt] at h; omega
theorem mn_self (a : Int32) : mn a a = a := nu_ext (by rw [mn_i]; omega)
theorem mx_self (a : Int32) : mx a a = a := nu_ext (by rw [mx_i]; omega)
theorem mn_as (a b c : Int32) : mn (mn a b) c = mn a (mn b c) := nu_ext (by simp only [mn_i]; omega)
theorem mx_as (a b c : Int32) : mx (mx a b) c = mx a (mx b c) := nu_ext (by simp only [mx_i]; omega)
theorem mn_cm (a b : Int32) : mn a b = mn b a := nu_ext (by simp only [mn_i]; omega)
theorem mx_cm (a b : Int32) : mx a b = mx b a := nu_ext (by simp only [mx_i]; omega)
def s64 (g : List Pt) : Int64 := g.foldl (fun a p => a + Int32.toInt64 p.2) 0
def fmn (a : Int32) (g : List Pt) : Int32 := g.foldl (fun m q => mn m q.2) a
def fmx (a : Int32) (g : List Pt) : Int32 := g.foldl (fun m q => mx m q.2) a
def gmn (g : List Pt) : Int32 := fmn (g.headD (0, 0)).2 g
def gmx (g : List Pt) : Int32 := fmx (g.headD (0, 0)).2 g
theorem s64_a (g : List Pt) (a : Int64) : g.foldl (fun a p => a + Int32.toInt64 p.2) a = a + s64 g := by
  unfold s64
  induction g generalizing a with
  | nil => exact (Int64.add_zero a).symm
  | cons p g ih =>
    rw [List.foldl_cons, List.foldl_cons, ih, ih (0 + _), Int64.zero_add, Int64.add_assoc]
theorem s64_app (g h : List Pt) : s64 (g ++ h) = s64 g + s64 h := by
  unfold s64
  rw [List.foldl_append, s64_a]
  rfl
theorem s64_cons (p : Pt) (g : List Pt) : s64 (p :: g) = Int32.toInt64 p.2 + s64 g := by
  show List.foldl _ _ _ = _
  rw [List.foldl_cons, s64_a, Int64.zero_add]
theorem fmn_app (a : Int32) (g h : List Pt) : fmn a (g ++ h) = fmn (fmn a g) h := List.foldl_append
theorem fmx_app (a : Int32) (g h : List Pt) : fmx a (g ++ h) = fmx (fmx a g) h := List.foldl_append
theorem fmn_o (a b : Int32) (g : List Pt) : fmn (mn a b) g = mn a (fmn b g) := by
  unfold fmn
  induction g generalizing b with
  | nil => rfl
  | cons p g ih => rw [List.foldl_cons, List.foldl_cons, mn_as, ih]
theorem fmx_o (a b : Int32) (g : List Pt) : fmx (mx a b) g = mx a (fmx b g) := by
  unfold fmx
  induction g generalizing b with
  | nil => rfl
  | cons p g ih => rw [List.foldl_cons, List.foldl_cons, mx_as, ih]
theorem fmn_cons (a : Int32) (p : Pt) (g : List Pt) : fmn a (p :: g) = fmn (mn a p.2) g := rfl
theorem fmx_cons (a : Int32) (p : Pt) (g : List Pt) : fmx a (p :: g) = fmx (mx a p.2) g := rfl
theorem gmn_cons (p : Pt) (g : List Pt) : gmn (p :: g) = fmn p.2 g := by
  show fmn p.2 (p :: g) = _
  rw [fmn_cons, mn_self]
theorem gmx_cons (p : Pt) (g : List Pt) : gmx (p :: g) = fmx p.2 g := by
  show fmx p.2 (p :: g) = _
  rw [fmx_cons, mx_self]
theorem fmn_gm (a : Int32) {g : List Pt} (h : g ≠ []) : fmn a g = mn a (gmn g) := by
  cases g with
  | nil => exact absurd rfl h
  | cons p g => rw [fmn_cons, gmn_cons, fmn_o]
theorem fmx_gm (a : Int32) {g : List Pt} (h : g ≠ []) : fmx a g = mx a (gmx g) := by
  cases g with
  | nil => exact absurd rfl h
  | cons p g => rw [fmx_cons, gmx_cons, fmx_o]
theorem gmn_app {g h : List Pt} (hg : g ≠ []) (hh : h ≠ []) : gmn (g ++ h) = mn (gmn g) (gmn h) := by
  cases g with
  | nil => exact absurd rfl hg
  | cons p g => rw [List.cons_append, gmn_cons, fmn_app, fmn_gm _ hh, gmn_cons]
theorem gmx_app {g h : List Pt} (hg : g ≠ []) (hh : h ≠ []) : gmx (g ++ h) = mx (gmx g) (gmx h) := by
  cases g with
  | nil => exact absurd rfl hg
  | cons p g => rw [List.cons_append, gmx_cons, fmx_app, fmx_gm _ hh, gmx_cons]
theorem gmn_one (p : Pt) : gmn [p] = p.2 := gmn_cons p []
theorem gmx_one (p : Pt) : gmx [p] = p.2 := gmx_cons p []
theorem ins_cut (p : Pt) (P : List Pt) : ∃ A B, P = A ++ B ∧ ins p P = A ++ p :: B := ⟨_, _, (List.take_append_drop _ _).symm, rfl⟩
theorem s64_ins (p : Pt) (g : List Pt) : s64 (ins p g) = s64 g + Int32.toInt64 p.2 := by
  obtain ⟨A, B, h1, h2⟩ := ins_cut p g
  rw [h2, h1, s64_app, s64_app, s64_cons, Int64.add_assoc, Int64.add_comm (Int32.toInt64 p.2)]
theorem gmn_ins (p : Pt) {g : List Pt} (hg : g ≠ []) : gmn (ins p g) = mn (gmn g) p.2 := by
  obtain ⟨A, B, h1, h2⟩ := ins_cut p g
  rw [h2, h1]
  subst h1
  by_cases ha : A = []
  · subst ha
    have hb : B ≠ [] := fun q => hg (by simp [q])
    rw [List.nil_append, List.nil_append, gmn_cons, fmn_gm _ hb, mn_cm]
  · by_cases hb : B = []
    · subst hb; rw [List.append_nil, gmn_app ha (List.cons_ne_nil _ _), gmn_one]
    · rw [gmn_app ha (List.cons_ne_nil _ _), gmn_cons, fmn_gm _ hb, gmn_app ha hb, mn_as, mn_cm p.2]
theorem gmx_ins (p : Pt) {g : List Pt} (hg : g ≠ []) : gmx (ins p g) = mx (gmx g) p.2 := by
  obtain ⟨A, B, h1, h2⟩ := ins_cut p g
  rw [h2, h1]
  subst h1
  by_cases ha : A = []
  · subst ha
    have hb : B ≠ [] := fun q => hg (by simp [q])
    rw [List.nil_append, List.nil_append, gmx_cons, fmx_gm _ hb, mx_cm]
  · by_cases hb : B = []
    · subst hb; rw [List.append_nil, gmx_app ha (List.cons_ne_nil _ _), gmx_one]
    · rw [gmx_app ha (List.cons_ne_nil _ _), gmx_cons, fmx_gm _ hb, gmx_app ha hb, mx_as, mx_cm p.2]
/-- the least lies among them -/
theorem gmn_bd {g : List Pt} (hg : g ≠ []) {lo hi : Int} (h : ∀ p ∈ g, lo ≤ p.2.toInt ∧ p.2.toInt ≤ hi) : lo ≤ (gmn g).toInt ∧ (gmn g).toInt ≤ hi := by
  induction g with
  | nil => exact absurd rfl hg
  | cons p g ih =>
    rw [gmn_cons]
    by_cases h' : g = []
    · subst h'; exact h p List.mem_cons_self
    · rw [fmn_gm _ h', mn_i]
      have h1 := ih h' (fun q hq => h q (List.mem_cons_of_mem _ hq))
      have h2 := h p List.mem_cons_self
      omega
theorem gmx_bd {g : List Pt} (hg : g ≠ []) {lo hi : Int} (h : ∀ p ∈ g, lo ≤ p.2.toInt ∧ p.2.toInt ≤ hi) : lo ≤ (gmx g).toInt ∧ (gmx g).toInt ≤ hi := by
  induction g with
  | nil => exact absurd rfl hg
  | cons p g ih =>
    rw [gmx_cons]
    by_cases h' : g = []
    · subst h'; exact h p List.mem_cons_self
    · rw [fmx_gm _ h', mx_i]
      have h1 := ih h' (fun q hq => h q (List.mem_cons_of_mem _ hq))
      have h2 := h p List.mem_cons_self
      omega
/-! ===== groups ===== -/
def ky (κ : Int → Int) (g : List Pt) : Int := κ (tm (g.headD (0, 0)))
def Gd (κ : Int → Int) (GG : List (List Pt)) : Prop := (∀ g ∈ GG, g ≠ []) ∧ (∀ g ∈ GG, ∀ p ∈ g, κ (tm p) = ky κ g) ∧ GG.Pairwise fun a b => ky κ a < ky κ b
theorem Gd.nil (κ : Int → Int) : Gd κ [] := ⟨fun _ h => by simp at h, fun _ h => by simp at h, List.Pairwise.nil⟩
theorem Gd.app {κ : Int → Int} {A B : List (List Pt)} : Gd κ (A ++ B) ↔ Gd κ A ∧ Gd κ B ∧ ∀ a ∈ A, ∀ b ∈ B, ky κ a < ky κ b := by
  unfold Gd
  rw [List.pairwise_append]
  constructor
  · rintro ⟨h1, h2, h3, h4, h5⟩
    exact ⟨⟨fun g hg => h1 g (List.mem_append_left _ hg), fun g hg => h2 g (List.mem_append_left _ hg), h3⟩, ⟨fun g hg => h1 g (List.mem_append_right _ hg), fun g hg => h2 g (List.mem_append_right _ hg), h4⟩, h5⟩
  · rintro ⟨⟨a1, a2, a3⟩, ⟨b1, b2, b3⟩, h5⟩
    exact ⟨fun g hg => (List.mem_append.mp hg).elim (a1 g) (b1 g), fun g hg => (List.mem_append.mp hg).elim (a2 g) (b2 g), a3, b3, h5⟩
theorem Gd.one {κ : Int → Int} {g : List Pt} : Gd κ [g] ↔ g ≠ [] ∧ ∀ p ∈ g, κ (tm p) = ky κ g := by
  unfold Gd
  constructor
  · rintro ⟨h1, h2, -⟩
    exact ⟨h1 g List.mem_cons_self, h2 g List.mem_cons_self⟩
  · rintro ⟨h1, h2⟩
    exact ⟨fun a ha => by rw [List.mem_singleton.mp ha]; exact h1, fun a ha => by rw [List.mem_singleton.mp ha]; exact h2, List.pairwise_singleton _ _⟩
theorem Gd.cons {κ : Int → Int} {g : List Pt} {G : List (List Pt)} : Gd κ (g :: G) ↔ (g ≠ [] ∧ ∀ p ∈ g, κ (tm p) = ky κ g) ∧ Gd κ G ∧ ∀ b ∈ G, ky κ g < ky κ b := by
  have h := Gd.app (κ := κ) (A := [g]) (B := G)
  rw [List.singleton_append, Gd.one] at h
  rw [h]
  constructor
  · rintro ⟨h1, h2, h3⟩
    exact ⟨h1, h2, h3 g List.mem_cons_self⟩
  · rintro ⟨h1, h2, h3⟩
    exact ⟨h1, h2, fun a ha => by rw [List.mem_singleton.mp ha]; exact h3⟩
theorem ky_mem {κ : Int → Int} {g : List Pt} (h : g ≠ []) : ∃ p ∈ g, ky κ g = κ (tm p) := by
  cases g with
  | nil => exact absurd rfl h
  | cons p g => exact ⟨p, List.mem_cons_self, rfl⟩
/-- cut at a time that no bucket holds within -/
theorem gr_cut {κ : Int → Int} {GG : List (List Pt)} (hG : Gd κ GG) {T : Int} (hT : ∀ p ∈ GG.flatten, tm p < T ↔ κ (tm p) < T) : ∃ A R, GG = A ++ R ∧ (∀ g ∈ A, ky κ g < T) ∧ (∀ g ∈ R, T ≤ ky κ g) ∧ cl GG.flatten T = A.flatten.length := by
  induction GG with
  | nil => exact ⟨[], [], rfl, fun _ h => by simp at h, fun _ h => by simp at h, rfl⟩
  | cons g GG ih =>
    obtain ⟨⟨h1, h2⟩, h3, h4⟩ := Gd.cons.mp hG
    rw [List.flatten_cons] at hT ⊢
    by_cases hg : ky κ g < T
    · obtain ⟨A, R, e, a1, a2, a3⟩ := ih h3 (fun p hp => hT p (List.mem_append_right _ hp))
      refine ⟨g :: A, R, by rw [e]; rfl, fun b hb => ?_, a2, ?_⟩
      · rcases List.mem_cons.mp hb with rfl | hb
        · exact hg
        · exact a1 b hb
      · rw [cl_al (fun q hq => (hT q (List.mem_append_left _ hq)).mpr (by rw [h2 q hq]; exact hg)), a3, List.flatten_cons, List.length_append]
    · refine ⟨[], g :: GG, rfl, fun _ h => by simp at h, fun b hb => ?_, ?_⟩
      · rcases List.mem_cons.mp hb with rfl | hb
        · omega
        · have := h4 b hb; omega
      · rw [List.flatten_nil, List.length_nil]
        refine cl_none (fun q hq => ?_)
        rcases List.mem_append.mp hq with hq' | hq'
        · have h5 := hT q hq
          rw [h2 q hq'] at h5
          omega
        · have h5 := hT q hq
          obtain ⟨b, hb, hqb⟩ := List.mem_flatten.mp hq'
          have h6 := (h3.2.1 b hb q hqb)
          have h7 := h4 b hb
          rw [h6] at h5
          omega
/-- a point comes -/
theorem gr_ins {κ : Int → Int} {GG : List (List Pt)} (hG : Gd κ GG) (p : Pt) (hm : ∀ q ∈ GG.flatten, (tm q < tm p → κ (tm q) ≤ κ (tm p)) ∧ (tm p ≤ tm q → κ (tm p) ≤ κ (tm q))) :
    ∃ G1 G2, GG = G1 ++ G2 ∧ (∀ g ∈ G1, ky κ g < κ (tm p)) ∧
      ((∃ g G3, G2 = g :: G3 ∧ ky κ g = κ (tm p) ∧ g ≠ [] ∧ (G1 ++ ins p g :: G3).flatten = ins p GG.flatten ∧ Gd κ (G1 ++ ins p g :: G3) ∧ ky κ (ins p g) = ky κ g) ∨
       ((∀ g ∈ G2, κ (tm p) < ky κ g) ∧ (G1 ++ [p] :: G2).flatten = ins p GG.flatten ∧ Gd κ (G1 ++ [p] :: G2))) := by
  induction GG with
  | nil =>
    refine ⟨[], [], rfl, fun _ h => by simp at h, Or.inr ⟨fun _ h => by simp at h, rfl, ?_⟩⟩
    exact Gd.one.mpr ⟨List.cons_ne_nil _ _, fun q hq => by rw [List.mem_singleton.mp hq]; rfl⟩
  | cons g GG ih =>
    obtain ⟨⟨h1, h2⟩, h3, h4⟩ := Gd.cons.mp hG
    rw [List.flatten_cons] at hm ⊢
    rcases Int.lt_trichotomy (ky κ g) (κ (tm p)) with hg | hg | hg
    · obtain ⟨G1, G2, e, a1, a2⟩ := ih h3 (fun q hq => hm q (List.mem_append_right _ hq))
      have hlt : ∀ q ∈ g, tm q < tm p := fun q hq => by
        have h5 := (hm q (List.mem_append_left _ hq)).2
        rw [h2 q hq] at h5
        omega
      refine ⟨g :: G1, G2, by rw [e]; rfl, fun b hb => ?_, ?_⟩
      · rcases List.mem_cons.mp hb with rfl | hb
        · exact hg
        · exact a1 b hb
      · rw [ins_l hlt]
        rcases a2 with ⟨g', G3, e2, e3, e4, e5, e6, e7⟩ | ⟨e2, e5, e6⟩
        · refine Or.inl ⟨g', G3, e2, e3, e4, ?_, ?_, e7⟩
          · rw [List.cons_append, List.flatten_cons, e5]
          · rw [List.cons_append]
            refine Gd.cons.mpr ⟨⟨h1, h2⟩, e6, fun b hb => ?_⟩
            rcases List.mem_append.mp hb with hb | hb
            · exact h4 b (by rw [e]; exact List.mem_append_left _ hb)
            · rcases List.mem_cons.mp hb with rfl | hb
              · rw [e7, e3]; exact hg
              · exact h4 b (by rw [e, e2]; exact List.mem_append_right _ (List.mem_cons_of_mem _ hb))
        · refine Or.inr ⟨e2, ?_, ?_⟩
          · rw [List.cons_append, List.flatten_cons, e5]
          · rw [List.cons_append]
            refine Gd.cons.mpr ⟨⟨h1, h2⟩, e6, fun b hb => ?_⟩
            rcases List.mem_append.mp hb with hb | hb
            · exact h4 b (by rw [e]; exact List.mem_append_left _ hb)
            · rcases List.mem_cons.mp hb with rfl | hb
              · exact hg
              · exact h4 b (by rw [e]; exact List.mem_append_right _ hb)
    · have hge : ∀ q ∈ GG.flatten, tm p ≤ tm q := fun q hq => by
        obtain ⟨b, hb, hqb⟩ := List.mem_flatten.mp hq
        have h5 := (hm q (List.mem_append_right _ hq)).1
        rw [h3.2.1 b hb q hqb] at h5
        have h6 := h4 b hb
        omega
      have hk : ky κ (ins p g) = ky κ g := by
        cases g with
        | nil => exact absurd rfl h1
        | cons r g =>
          rw [ins_cons]
          split
          · rfl
          · exact hg.symm
      refine ⟨[], g :: GG, rfl, fun _ h => by simp at h, Or.inl ⟨g, GG, rfl, hg, h1, ?_, ?_, hk⟩⟩
      · rw [List.nil_append, List.flatten_cons, ins_r hge]
      · rw [List.nil_append]
        refine Gd.cons.mpr ⟨⟨fun q => by have := ins_len p g; rw [q] at this; simp at this, fun q hq => ?_⟩, h3, fun b hb => by rw [hk]; exact h4 b hb⟩
        rw [hk]
        rcases ins_mem.mp hq with rfl | hq
        · exact hg.symm
        · exact h2 q hq
    · have hge : ∀ q ∈ g ++ GG.flatten, tm p ≤ tm q := fun q hq => by
        have h5 := (hm q hq).1
        have h6 : κ (tm p) < κ (tm q) := by
          rcases List.mem_append.mp hq with hq' | hq'
          · rw [h2 q hq']; exact hg
          · obtain ⟨b, hb, hqb⟩ := List.mem_flatten.mp hq'
            rw [h3.2.1 b hb q hqb]
            have := h4 b hb
            omega
        omega
      have e0 : ins p (g ++ GG.flatten) = [p] ++ (g ++ GG.flatten) := by
        have := ins_r (p := p) (A := []) hge
        rw [List.nil_append, ins_nil] at this
        exact this
      refine ⟨[], g :: GG, rfl, fun _ h => by simp at h, Or.inr ⟨fun b hb => ?_, ?_, ?_⟩⟩
      · rcases List.mem_cons.mp hb with rfl | hb
        · exact hg
        · have := h4 b hb; omega
      · rw [List.nil_append, List.flatten_cons, List.flatten_cons, e0]
      · rw [List.nil_append]
        refine Gd.cons.mpr ⟨⟨List.cons_ne_nil _ _, fun q hq => by rw [List.mem_singleton.mp hq]; rfl⟩, hG, fun b hb => ?_⟩
        show κ (tm p) < ky κ b
        rcases List.mem_cons.mp hb with rfl | hb
        · exact hg
        · have := h4 b hb; omega
