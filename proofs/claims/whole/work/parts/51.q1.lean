/-! ===== looking calls, the simple ones ===== -/
theorem id_cases (R : List Nat) (a : Int32) : (∃ i, i ∈ R ∧ a = nI i) ∨ ∀ i ∈ R, ¬ nI i = a := by
  by_cases h : ∃ i, i ∈ R ∧ a = nI i
  · exact Or.inl h
  · exact Or.inr (fun i hi q => h ⟨i, hi, q.symm⟩)
theorem tier_cases (n : Nat) (b : Int32) : (∃ t, t < n ∧ b = nI t) ∨ ¬ (0 ≤ b.toInt ∧ b.toInt < n) := by
  by_cases h : 0 ≤ b.toInt ∧ b.toInt < n
  · exact Or.inl ⟨b.toInt.toNat, by omega, nu_toN (by omega)⟩
  · exact Or.inr h
def cmpI (w : Nat ⊕ Int32) (v c : Int32) : Prop := match w with
  | .inl e => c = nI e ∧ (e = 1 ∨ e = 2)
  | .inr x => c = 0 ∧ x = v
def cmpJ (w : Nat ⊕ Int64) (v : Int64) (c : Int32) : Prop := match w with
  | .inl e => c = nI e ∧ (e = 1 ∨ e = 2)
  | .inr x => c = 0 ∧ x = v
/-- where there is one exception alone -/
def cmpI1 (w : Nat ⊕ Int32) (v c : Int32) : Prop := match w with
  | .inl e => c = nI e ∧ e = 1
  | .inr x => c = 0 ∧ x = v
def cmpJ1 (w : Nat ⊕ Int64) (v : Int64) (c : Int32) : Prop := match w with
  | .inl e => c = nI e ∧ e = 1
  | .inr x => c = 0 ∧ x = v
theorem X9_fail (fu : Nat) (s : St) (k : Int32) : f_X9_fail fu s 1 k = some (sI s 9 1 3 k, 0) := rfl
theorem X9_it {s : St} {n : Nat} {S K : Nat → Int} (hp : PlM s n S K) (hV : VP n S K) (b : Int32) (fu : Nat) : f_X9_isTier fu s 1 b = some (s, bt (0 ≤ b.toInt ∧ b.toInt < n)) := by
  have e10 : ¬ (1 = 0) := by decide
  have hn := hV.1
  have e0 : (0 : Int64).toInt = 0 := rfl
  unfold f_X9_isTier
  simp only [e10, reduceIte, X9_isIn, bI, bt_zb, Bool.true_eq_false, hp.2.2.1, ni_dec (show 0 < n by omega) (show n < 2147483648 by omega), nj_up, nu_nI (show n - 1 < 2147483648 by omega), e0]
  congr 2
  unfold bt
  by_cases h : 0 ≤ b.toInt ∧ b.toInt < n
  · rw [if_pos h, if_pos (by omega)]
  · rw [if_neg h, if_neg (by omega)]
theorem fl_app (A B : List (List Pt)) : (A ++ B).flatten.length = A.flatten.length + B.flatten.length := by rw [List.flatten_append, List.length_append]
theorem fl_cons (g : List Pt) (B : List (List Pt)) : (g :: B).flatten.length = g.length + B.flatten.length := by rw [List.flatten_cons, List.length_append]
theorem fl_one (g : List Pt) : [g].flatten.length = g.length := by rw [fl_cons, List.flatten_nil, List.length_nil, Nat.add_zero]
section QS
variable {s : St} {p n : Nat} {S K : Nat → Int} {R : List Nat} {H : Nat → Int32} {P : Nat → List Pt} {fu : Nat}
/-- places in the points of a series are few -/
theorem RQ.pos (h : RQ s n S K R H P) {id : Nat} (hid : id < 10) {GG : List (List Pt)} (hP : P id = GG.flatten) : off P id + GG.flatten.length ≤ off P 10 ∧ off P 10 ≤ 40000 := by
  have h1 := off_mono P (i := id + 1) (j := 10) (by omega)
  rw [off_s, hP] at h1
  exact ⟨h1, h.2.2.2.2.2.1.2⟩
theorem X9_bin_loop (h : RQ s n S K R H P) {id : Nat} (hid : id < 10) {GG C : List (List Pt)} (hP : P id = GG.flatten) (W : WfG n S K (H id).toInt GG) (hfu : 50000 ≤ fu) :
    ∀ (M A : List (List Pt)) (m c : Nat) (s1 : St), GG = A ++ (M ++ C) → MZ s s1 → M.length < m → c + M.length ≤ 100000 → ∃ s2, f_X9_bucketsIn_b18 fu m s1 1 (nI c) (nI (off P id + (A ++ M).flatten.length)) (nI (off P id + A.flatten.length)) = some (s2, nI (c + M.length)) ∧ MZ s s2 := by
  have hpos := h.pos hid hP
  intro M
  induction M with
  | nil =>
    intro A m c s1 e hm hl hc
    cases m with
    | zero => omega
    | succ m =>
      refine ⟨s1, ?_, hm⟩
      unfold f_X9_bucketsIn_b18
      have hA : A.flatten.length ≤ GG.flatten.length := by rw [e, fl_app]; omega
      rw [List.append_nil, if_pos ((ni_le (by omega) (by omega)).mpr (Nat.le_refl _))]
      rfl
  | cons g M ih =>
    intro A m c s1 e hm hl hc
    cases m with
    | zero => omega
    | succ m =>
      have hg : g ∈ GG := by rw [e]; exact List.mem_append_right _ (List.mem_append_left _ List.mem_cons_self)
      have hgl := wf_gl W hg
      have hA : A.flatten.length + g.length + M.flatten.length ≤ GG.flatten.length := by rw [e, fl_app, fl_app, fl_cons]; omega
      have e10 : ¬ (1 = 0) := by decide
      have e2 : GG = (A ++ [g]) ++ (M ++ C) := by rw [e, List.append_assoc]; rfl
      have e3 : A ++ g :: M = (A ++ [g]) ++ M := by rw [List.append_assoc]; rfl
      obtain ⟨s2, h2, h3⟩ := ih (A ++ [g]) m (c + 1) (bG s1 n S K (H id).toInt g) e2 (hm.tr (bG_ms _ _ _ _ _ _)) (by rw [List.length_cons] at hl; omega) (by rw [List.length_cons] at hc; omega)
      refine ⟨s2, ?_, h3⟩
      unfold f_X9_bucketsIn_b18
      rw [if_neg (fun q => by have := (ni_le (by rw [fl_app, fl_cons]; omega) (by omega)).mp q; rw [fl_app, fl_cons] at this; omega)]
      simp only [lt, e10, reduceIte, nu_nIa, X9_nb (h.mz hm) hid hP W (show GG = A ++ g :: (M ++ C) from e) hfu, bI]
      rw [e3, h2, List.length_cons]
      congr 3
      omega
theorem X9_bin (h : RQ s n S K R H P) {id : Nat} (hid : id < 10) {GG A M C : List (List Pt)} (hP : P id = GG.flatten) (W : WfG n S K (H id).toInt GG) {t : Nat} (ht : t < n) (e : GG = A ++ (M ++ C)) (h0 : t = 0 → C = [])
    (ha : cl GG.flatten (sm n S K (H id).toInt t) = A.flatten.length) (hb : t ≠ 0 → cl GG.flatten (sm n S K (H id).toInt (t - 1)) = A.flatten.length + M.flatten.length) (hfu : 50000 ≤ fu) : ∃ s2, f_X9_bucketsIn fu s 1 (nI id) (nI t) = some (s2, nI M.length) ∧ MZ s s2 := by
  have e10 : ¬ (1 = 0) := by decide
  have hl := wf_len W
  have hM : M.length ≤ GG.length := by rw [e, List.length_append, List.length_append]; omega
  obtain ⟨q1, q2⟩ := X9_ends h hid hP W ht e h0 ha hb hfu
  obtain ⟨s2, h2, h3⟩ := X9_bin_loop h hid hP W hfu M A fu 0 s e (MZ.rf s) (by omega) (by omega)
  refine ⟨s2, ?_, h3⟩
  unfold f_X9_bucketsIn
  simp only [e10, reduceIte, q1, q2, bI]
  rw [Nat.zero_add] at h2
  exact h2
theorem CQ.id (h : CQ s p n S K R H P) {i : Nat} (hi : i ∈ R) : i < 10 := h.2.2.1.2.2.1 i hi
theorem CQ.kn (h : CQ s p n S K R H P) {i : Nat} (hi : i ∈ R) (hfu : 100 ≤ fu) : f_X8_known fu s 1 (nI i) = some (s, .inr (gR s 14 1 i)) := X8_kn h.1.1 h.2.2.1.1 h.2.2.1.2 hi (h.2.2.2 i hi).1 hfu
theorem CQ.kx (h : CQ s p n S K R H P) (hr : rmb (nX s) = true) {a : Int32} (ha : ∀ i ∈ R, ¬ nI i = a) (hfu : 100 ≤ fu) : f_X8_known fu s 1 a = some (nX s, .inl 1) := X8_kx h.1.1 hr h.2.2.1.1 h.2.2.1.2 ha hfu
theorem CQ.p0 (h : CQ s p n S K R H P) : ¬ p = 0 := by rcases h.2.1.1 with q | q <;> omega
theorem CQ.nt (h : CQ s p n S K R H P) {t : Nat} (ht : t < n) : f_X8_needTier fu s 1 (nI t) = some (s, .inr ()) := by
  have hn := h.2.1.2.2.2.1
  exact X8_nt h.1.1 h.2.1.2.1 h.p0 h.2.1.2.2.1.2.2.2.1 hn.2 (by rw [nu_nI (by omega)]; omega) (by rw [nu_nI (by omega)]; omega) fu
theorem CQ.ntx (h : CQ s p n S K R H P) (hr : rmb (nX s) = true) {b : Int32} (hb : ¬ (0 ≤ b.toInt ∧ b.toInt < n)) : f_X8_needTier fu s 1 b = some (nX s, .inl 1) := X8_ntx h.1.1 hr h.2.1.2.1 h.p0 h.2.1.2.2.1.2.2.2.1 h.2.1.2.2.2.1.2 hb fu
theorem RQ.s0 (h : RQ s n S K R H P) : RQ (sI s 9 1 3 0) n S K R H P := h.ms (MS.s9 s (Or.inl rfl) 0)
/-- a call of the reference that fails -/
theorem ms_f {s t : St} (h : MS s t) (k : Int32) : MS s (sI t 9 1 3 k) := h.tr (MS.s9 t (Or.inl rfl) k)
theorem f3 (s : St) (k : Int32) : gI (sI s 9 1 3 k) 9 1 3 = k := by rw [gI_sI, if_pos ⟨rfl, rfl, rfl⟩]
theorem Q_seam (h : CQ s p n S K R H P) (hr : rmb (nX s) = true) (hfu : 50000 ≤ fu) (a b : Int32) : ∃ s1 w, f_X8_seam fu s 1 a b = some (s1, w) ∧ CS s s1 ∧
    ∀ s', RQ s' n S K R H P → ∃ s2 v, f_X9_seam fu s' 1 a b = some (s2, v) ∧ MS s' s2 ∧ cmpI1 w v (gI s2 9 1 3) := by
  have e10 : ¬ (1 = 0) := by decide
  have z10 : ¬ ((1 : Int32) = 0) := by decide
  have hV := h.2.1.2.2.2
  have hn := hV.1
  rcases id_cases R a with ⟨i, hi, rfl⟩ | ha
  · have hid := h.id hi
    obtain ⟨ho, GG, hPi, W, C⟩ := h.2.2.2 i hi
    rcases tier_cases n b with ⟨t, ht, rfl⟩ | hb
    · have b4 : inb (nI t) 4 = true := nu_inbn (by omega) (by omega)
      refine ⟨s, .inr (Int32.ofInt (sm n S K (H i).toInt t)), ?_, (CZ.rf s).cs, fun s' h' => ⟨sI s' 9 1 3 0, Int32.ofInt (sm n S K (H i).toInt t), ?_, MS.s9 s' (Or.inl rfl) 0, ?_⟩⟩
      · unfold f_X8_seam
        simp only [e10, reduceIte, h.kn hi (show 100 ≤ fu by omega), bX, h.nt ht, ho, C.2.1.1, C.2.1.2.1, b4, Bool.true_eq_false, nu_ixn (show t < 2147483648 by omega), C.2.1.2.2 t ht]
      · obtain ⟨hL, ⟨hPl, -⟩, ⟨hT, -⟩, ⟨d1, d2, d3⟩, -⟩ := h'.s0
        have b5 : inb (nI i) 10 = true := nu_inbn (by omega) (by omega)
        unfold f_X9_seam f_X9_seam_b40
        simp only [e10, reduceIte, lt, X9_isS hL hT hi hid, bI, z10, X9_it hPl hV, nu_nI (show t < 2147483648 by omega), bt_t (show (0 : Int) ≤ t ∧ (t : Int) < n by omega), d1, d2, b5, Bool.true_eq_false, nu_ixn (show i < 2147483648 by omega), d3 i hid, X9_sb hV hPl W.2.2.2.2.1 W.2.2.2.2.2 ht (show 100 ≤ fu by omega)]
      · exact ⟨f3 _ _, rfl⟩
    · refine ⟨nX s, .inl 1, ?_, (CZ.rf s).x, fun s' h' => ⟨sI (sI s' 9 1 3 0) 9 1 3 1, 0, ?_, ms_f (MS.s9 s' (Or.inl rfl) 0) 1, ?_⟩⟩
      · unfold f_X8_seam
        simp only [e10, reduceIte, h.kn hi (show 100 ≤ fu by omega), bX, h.ntx hr hb]
      · obtain ⟨hL, ⟨hPl, -⟩, ⟨hT, -⟩, -⟩ := h'.s0
        unfold f_X9_seam f_X9_seam_b35 f_X9_seam_b40
        simp only [e10, reduceIte, lt, X9_isS hL hT hi hid, bI, z10, X9_it hPl hV, bt_f hb, X9_fail]
      · exact ⟨f3 _ _, rfl⟩
  · refine ⟨nX s, .inl 1, ?_, (CZ.rf s).x, fun s' h' => ⟨sI (sI s' 9 1 3 0) 9 1 3 1, 0, ?_, ms_f (MS.s9 s' (Or.inl rfl) 0) 1, ?_⟩⟩
    · unfold f_X8_seam
      simp only [e10, reduceIte, h.kx hr ha (show 100 ≤ fu by omega), bX]
    · obtain ⟨hL, -, ⟨hT, -⟩, -⟩ := h'.s0
      unfold f_X9_seam f_X9_seam_b35 f_X9_seam_b40
      simp only [e10, reduceIte, lt, X9_isSx hL hT ha, bI, X9_fail]
    · exact ⟨f3 _ _, rfl⟩
theorem Q_buckets (h : CQ s p n S K R H P) (hr : rmb (nX s) = true) (hfu : 50000 ≤ fu) (a b : Int32) : ∃ s1 w, f_X8_buckets fu s 1 a b = some (s1, w) ∧ CS s s1 ∧
    ∀ s', RQ s' n S K R H P → ∃ s2 v, f_X9_buckets fu s' 1 a b = some (s2, v) ∧ MS s' s2 ∧ cmpI1 w v (gI s2 9 1 3) := by
  have e10 : ¬ (1 = 0) := by decide
  have z10 : ¬ ((1 : Int32) = 0) := by decide
  have hV := h.2.1.2.2.2
  have hn := hV.1
  rcases id_cases R a with ⟨i, hi, rfl⟩ | ha
  · have hid := h.id hi
    obtain ⟨ho, GG, hPi, W, C⟩ := h.2.2.2 i hi
    rcases tier_cases n b with ⟨t, ht, rfl⟩ | hb
    · obtain ⟨A, M, B, e, c1, c2, c3, c4, c5, c6, c7, c8⟩ := tier_cut hV W ht
      obtain ⟨x1, x2⟩ := X5_tier hV W C ht e c1 c3 c4 c5 c6 hfu
      have hl := wf_len W
      have hM : A.length + M.length ≤ GG.length := by rw [e, List.length_append, List.length_append]; omega
      refine ⟨s, .inr (nI M.length), ?_, (CZ.rf s).cs, fun s' h' => ?_⟩
      · unfold f_X8_buckets
        simp only [e10, reduceIte, h.kn hi (show 100 ≤ fu by omega), bX, h.nt ht, ho, x1, x2, bI, ni_sub (show A.length ≤ A.length + M.length by omega) (show A.length + M.length < 2147483648 by omega), Nat.add_sub_cancel_left]
      · obtain ⟨s2, m1, m2⟩ := X9_bin h'.s0 hid hPi W ht e c4 c7 c8 hfu
        obtain ⟨hL, ⟨hPl, -⟩, ⟨hT, -⟩, -⟩ := h'.s0
        refine ⟨s2, nI M.length, ?_, (MS.s9 s' (Or.inl rfl) 0).tr m2.1, ?_⟩
        · unfold f_X9_buckets f_X9_buckets_b35
          simp only [e10, reduceIte, lt, X9_isS hL hT hi hid, bI, z10, X9_it hPl hV, nu_nI (show t < 2147483648 by omega), bt_t (show (0 : Int) ≤ t ∧ (t : Int) < n by omega), m1]
        · exact ⟨by rw [m2.2]; exact f3 _ _, rfl⟩
    · refine ⟨nX s, .inl 1, ?_, (CZ.rf s).x, fun s' h' => ⟨sI (sI s' 9 1 3 0) 9 1 3 1, 0, ?_, ms_f (MS.s9 s' (Or.inl rfl) 0) 1, ?_⟩⟩
      · unfold f_X8_buckets
        simp only [e10, reduceIte, h.kn hi (show 100 ≤ fu by omega), bX, h.ntx hr hb]
      · obtain ⟨hL, ⟨hPl, -⟩, ⟨hT, -⟩, -⟩ := h'.s0
        unfold f_X9_buckets f_X9_buckets_b30 f_X9_buckets_b35
        simp only [e10, reduceIte, lt, X9_isS hL hT hi hid, bI, z10, X9_it hPl hV, bt_f hb, X9_fail]
      · exact ⟨f3 _ _, rfl⟩
  · refine ⟨nX s, .inl 1, ?_, (CZ.rf s).x, fun s' h' => ⟨sI (sI s' 9 1 3 0) 9 1 3 1, 0, ?_, ms_f (MS.s9 s' (Or.inl rfl) 0) 1, ?_⟩⟩
    · unfold f_X8_buckets
      simp only [e10, reduceIte, h.kx hr ha (show 100 ≤ fu by omega), bX]
    · obtain ⟨hL, -, ⟨hT, -⟩, -⟩ := h'.s0
      unfold f_X9_buckets f_X9_buckets_b30 f_X9_buckets_b35
      simp only [e10, reduceIte, lt, X9_isSx hL hT ha, bI, X9_fail]
    · exact ⟨f3 _ _, rfl⟩
end QS
