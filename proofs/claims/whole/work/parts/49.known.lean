/-! ===== the roster; calls that refuse ===== -/
/-- the roster r: which there are, by use, and their heads -/
def Ros (s : St) (r : Nat) (R : List Nat) (H : Nat → Int32) : Prop := (¬ r = 0 ∧ ¬ gR s 4 r 0 = 0 ∧ ¬ gR s 4 r 1 = 0) ∧ (gL s 10 (gR s 4 r 0) = 10 ∧ gL s 10 (gR s 4 r 1) = 10) ∧ gI s 4 r 2 = nI R.length ∧ (∀ j i, R[j]? = some i → gI s 10 (gR s 4 r 0) j = nI i) ∧ ∀ i ∈ R, gI s 10 (gR s 4 r 1) i = H i
def RW (R : List Nat) : Prop := R.Nodup ∧ (∀ i ∈ R, i < 10) ∧ R.length ≤ 10
theorem nd_ix {R : List Nat} (hn : R.Nodup) {j k i : Nat} (hj : R[j]? = some i) (hk : R[k]? = some i) : j = k := by
  have h1 := (List.getElem?_eq_some_iff.mp hj).1
  exact (List.getElem?_inj h1 hn).mp (hj.trans hk.symm)
theorem X4_po {s : St} {r : Nat} {R : List Nat} {H : Nat → Int32} (hR : Ros s r R H) (hW : RW R) {j i : Nat} (hj : R[j]? = some i) {fu : Nat} (hfu : 100 ≤ fu) : f_X4_placeOf fu s r (nI i) = some (s, nI j) := by
  obtain ⟨⟨r0, r1, r2⟩, ⟨l1, l2⟩, hsz, hc, -⟩ := hR
  have hjl : j < R.length := (List.getElem?_eq_some_iff.mp hj).1
  have hl := hW.2.2
  have hi := hW.2.1 i (List.mem_of_getElem? hj)
  have loop : ∀ (d m k : Nat), j - k = d → k ≤ j → d < m → f_X4_placeOf_b2 fu m s r (nI i) (nI k) = some (s, nI j) := by
    intro d
    induction d with
    | zero =>
      intro m k hd hk hm
      have e : k = j := by omega
      subst e
      cases m with
      | zero => omega
      | succ m =>
        have b : inb (nI k) 10 = true := nu_inbn (by omega) (by omega)
        unfold f_X4_placeOf_b2
        simp only [r0, r1, hsz, ni_le (show R.length < 2147483648 by omega) (show k < 2147483648 by omega), show ¬ R.length ≤ k by omega, reduceIte, l1, b, Bool.true_eq_false, nu_ixn (show k < 2147483648 by omega), hc k i hj]
    | succ d ih =>
      intro m k hd hk hm
      cases m with
      | zero => omega
      | succ m =>
        have b : inb (nI k) 10 = true := nu_inbn (by omega) (by omega)
        have hkl : k < R.length := by omega
        have hkx : R[k]? = some R[k] := List.getElem?_eq_getElem hkl
        have hki := hW.2.1 _ (List.getElem_mem hkl)
        have hne : ¬ nI R[k] = nI i := fun q => by
          have q2 := (ni_eq (by omega) (by omega)).mp q
          rw [q2] at hkx
          have := nd_ix hW.1 hkx hj
          omega
        unfold f_X4_placeOf_b2
        simp only [r0, r1, hsz, ni_le (show R.length < 2147483648 by omega) (show k < 2147483648 by omega), show ¬ R.length ≤ k by omega, reduceIte, l1, b, Bool.true_eq_false, nu_ixn (show k < 2147483648 by omega), hc k _ hkx, hne, lt, nu_nIa]
        exact ih m (k + 1) (by omega) (by omega) (by omega)
  unfold f_X4_placeOf
  rw [nu_n0]
  exact loop j fu 0 (by omega) (by omega) (by omega)
theorem X4_pn {s : St} {r : Nat} {R : List Nat} {H : Nat → Int32} (hR : Ros s r R H) (hW : RW R) {a : Int32} (ha : ∀ i ∈ R, ¬ nI i = a) {fu : Nat} (hfu : 100 ≤ fu) : f_X4_placeOf fu s r a = some (s, -1) := by
  obtain ⟨⟨r0, r1, r2⟩, ⟨l1, l2⟩, hsz, hc, -⟩ := hR
  have hl := hW.2.2
  have loop : ∀ (d m k : Nat), R.length - k = d → k ≤ R.length → d < m → f_X4_placeOf_b2 fu m s r a (nI k) = some (s, -1) := by
    intro d
    induction d with
    | zero =>
      intro m k hd hk hm
      have e : k = R.length := by omega
      subst e
      cases m with
      | zero => omega
      | succ m =>
        unfold f_X4_placeOf_b2
        simp only [r0, hsz, ni_le (show R.length < 2147483648 by omega) (show R.length < 2147483648 by omega), Nat.le_refl, reduceIte]
    | succ d ih =>
      intro m k hd hk hm
      cases m with
      | zero => omega
      | succ m =>
        have b : inb (nI k) 10 = true := nu_inbn (by omega) (by omega)
        have hkl : k < R.length := by omega
        have hkx : R[k]? = some R[k] := List.getElem?_eq_getElem hkl
        have hne := ha _ (List.getElem_mem hkl)
        unfold f_X4_placeOf_b2
        simp only [r0, r1, hsz, ni_le (show R.length < 2147483648 by omega) (show k < 2147483648 by omega), show ¬ R.length ≤ k by omega, reduceIte, l1, b, Bool.true_eq_false, nu_ixn (show k < 2147483648 by omega), hc k _ hkx, hne, lt, nu_nIa]
        exact ih m (k + 1) (by omega) (by omega) (by omega)
  unfold f_X4_placeOf
  rw [nu_n0]
  exact loop R.length fu 0 (by omega) (by omega) (by omega)
theorem zb1 : zb 1 = true := rfl
theorem zb0 : zb 0 = true := rfl
theorem X4_kn {s : St} {r : Nat} {R : List Nat} {H : Nat → Int32} (hR : Ros s r R H) (hW : RW R) {i : Nat} (hi : i ∈ R) {fu : Nat} (hfu : 100 ≤ fu) : f_X4_knows fu s r (nI i) = some (s, 1) := by
  obtain ⟨j, hj⟩ := List.getElem?_of_mem hi
  have hjl : j < R.length := (List.getElem?_eq_some_iff.mp hj).1
  have hl := hW.2.2
  have hm : ¬ nI j = (-1 : Int32) := ni_m1 (by omega)
  unfold f_X4_knows f_X4_knows_b14
  simp only [hR.1.1, reduceIte, X4_po hR hW hj hfu, bI, hm, zb1, Bool.true_eq_false]
theorem X4_kx {s : St} {r : Nat} {R : List Nat} {H : Nat → Int32} (hR : Ros s r R H) (hW : RW R) {a : Int32} (ha : ∀ i ∈ R, ¬ nI i = a) {fu : Nat} (hfu : 100 ≤ fu) : f_X4_knows fu s r a = some (s, 0) := by
  unfold f_X4_knows f_X4_knows_b14
  simp only [hR.1.1, reduceIte, X4_pn hR hW ha hfu, bI, zb0, Bool.true_eq_false]
theorem X8_rows {s : St} (hL : Lay s) {i : Nat} (hi : i < 10) (ho : ¬ gR s 14 1 i = 0) (fu : Nat) : f_X8_rowsOf fu s 1 (nI i) = some (s, gR s 14 1 i) := by
  have e10 : ¬ (1 = 0) := by decide
  have b : inb (nI i) 10 = true := nu_inbn (by omega) (by omega)
  unfold f_X8_rowsOf f_X8_rowsOf_b26
  simp only [e10, reduceIte, lr_8_1_6 hL, ll_14_1 hL, b, Bool.true_eq_false, nu_ixn (show i < 2147483648 by omega), ho]
/-- of a series, or not -/
theorem X8_kn {s : St} (hL : Lay s) {R : List Nat} {H : Nat → Int32} (hR : Ros s 1 R H) (hW : RW R) {i : Nat} (hi : i ∈ R) (ho : ¬ gR s 14 1 i = 0) {fu : Nat} (hfu : 100 ≤ fu) : f_X8_known fu s 1 (nI i) = some (s, .inr (gR s 14 1 i)) := by
  have e10 : ¬ (1 = 0) := by decide
  have z10 : ¬ ((1 : Int32) = 0) := by decide
  unfold f_X8_known
  simp only [e10, reduceIte, lr_8_1_4 hL, X4_kn hR hW hi hfu, bI, z10, X8_rows hL (hW.2.1 i hi) ho]
theorem X8_kx {s : St} (hL : Lay s) (hr : rmb (nX s) = true) {R : List Nat} {H : Nat → Int32} (hR : Ros s 1 R H) (hW : RW R) {a : Int32} (ha : ∀ i ∈ R, ¬ nI i = a) {fu : Nat} (hfu : 100 ≤ fu) : f_X8_known fu s 1 a = some (nX s, .inl 1) := by
  have e10 : ¬ (1 = 0) := by decide
  unfold f_X8_known
  simp only [e10, reduceIte, lr_8_1_4 hL, X4_kx hR hW ha hfu, bI, hr, Bool.true_eq_false]
theorem X8_nw {s : St} {a b : Int32} (h0 : 0 ≤ a.toInt) (h1 : a.toInt ≤ b.toInt) (fu : Nat) : f_X8_needWhat fu s a b = some (s, .inr ()) := by
  unfold f_X8_needWhat
  rw [if_neg (by rw [nu_lt, nu_0]; omega), if_pos (by rw [nu_le]; exact h1)]
theorem X8_nx {s : St} (hr : rmb (nX s) = true) {a b : Int32} (h : ¬ (0 ≤ a.toInt ∧ a.toInt ≤ b.toInt)) (fu : Nat) : f_X8_needWhat fu s a b = some (nX s, .inl 1) := by
  unfold f_X8_needWhat f_X8_needWhat_b9
  simp only [hr, Bool.true_eq_false, reduceIte, nu_lt, nu_0, nu_le]
  by_cases h0 : a.toInt < 0
  · rw [if_pos h0]
  · rw [if_neg h0, if_neg (by omega)]
theorem X8_nt {s : St} (hL : Lay s) {p n : Nat} (hp : gR s 8 1 12 = p) (hp0 : ¬ p = 0) (hn : gI s 2 p 3 = nI n) (hn4 : n ≤ 4) {a : Int32} (h0 : 0 ≤ a.toInt) (h1 : a.toInt < n) (fu : Nat) : f_X8_needTier fu s 1 a = some (s, .inr ()) := by
  have e10 : ¬ (1 = 0) := by decide
  unfold f_X8_needTier
  simp only [e10, reduceIte, hp, hp0, hn, nu_lt, nu_0, nu_nI (show n < 2147483648 by omega)]
  rw [if_neg (by omega), if_pos h1]
theorem X8_ntx {s : St} (hL : Lay s) (hr : rmb (nX s) = true) {p n : Nat} (hp : gR s 8 1 12 = p) (hp0 : ¬ p = 0) (hn : gI s 2 p 3 = nI n) (hn4 : n ≤ 4) {a : Int32} (h : ¬ (0 ≤ a.toInt ∧ a.toInt < n)) (fu : Nat) : f_X8_needTier fu s 1 a = some (nX s, .inl 1) := by
  have e10 : ¬ (1 = 0) := by decide
  unfold f_X8_needTier f_X8_needTier_b15
  simp only [e10, reduceIte, hp, hp0, hn, nu_lt, nu_0, nu_nI (show n < 2147483648 by omega), hr, Bool.true_eq_false]
  by_cases h0 : a.toInt < 0
  · rw [if_pos h0]
  · rw [if_neg h0, if_neg (by omega)]
def bt (c : Prop) [Decidable c] : Int32 := if c then 1 else 0
theorem bt_t {c : Prop} [Decidable c] (h : c) : bt c = 1 := if_pos h
theorem bt_f {c : Prop} [Decidable c] (h : ¬ c) : bt c = 0 := if_neg h
theorem bt_z {c : Prop} [Decidable c] : bt c = 0 ↔ ¬ c := by
  unfold bt
  split
  · rename_i h; exact ⟨fun q => absurd q (by decide), fun q => absurd h q⟩
  · rename_i h; exact ⟨fun _ => h, fun _ => rfl⟩
theorem bt_zb {c : Prop} [Decidable c] : zb (bt c) = true := by
  unfold bt
  split <;> rfl
theorem X8_isTime (fu : Nat) (s : St) (a : Int64) : f_X8_isTime fu s a = some (s, bt (-1000000 ≤ a.toInt ∧ a.toInt ≤ 1000000)) := by
  unfold f_X8_isTime f_X8_isTime_b20 f_X8_isTime_b21 bt
  have e1 : (-1000000 : Int64).toInt = -1000000 := by decide
  have e2 : (1000000 : Int64).toInt = 1000000 := by decide
  simp only [lg_lt, lg_gt, e1, e2, zb1, zb0, Bool.true_eq_false, reduceIte]
  by_cases h1 : a.toInt < -1000000
  · rw [if_pos h1, if_neg (by omega)]
  · rw [if_neg h1]
    by_cases h2 : 1000000 < a.toInt
    · rw [if_pos h2, if_neg (by omega)]
    · rw [if_neg h2, if_pos (by omega)]
theorem X8_isValue (fu : Nat) (s : St) (a : Int64) : f_X8_isValue fu s a = some (s, bt (-10000 ≤ a.toInt ∧ a.toInt ≤ 10000)) := by
  unfold f_X8_isValue f_X8_isValue_b20 f_X8_isValue_b21 bt
  have e1 : (-10000 : Int64).toInt = -10000 := by decide
  have e2 : (10000 : Int64).toInt = 10000 := by decide
  simp only [lg_lt, lg_gt, e1, e2, zb1, zb0, Bool.true_eq_false, reduceIte]
  by_cases h1 : a.toInt < -10000
  · rw [if_pos h1, if_neg (by omega)]
  · rw [if_neg h1]
    by_cases h2 : 10000 < a.toInt
    · rw [if_pos h2, if_neg (by omega)]
    · rw [if_neg h2, if_pos (by omega)]
theorem X8_isId (fu : Nat) (s : St) (a : Int32) : f_X8_isId fu s a = some (s, bt (0 ≤ a.toInt ∧ a.toInt ≤ 9)) := by
  unfold f_X8_isId f_X8_isId_b14 f_X8_isId_b15 bt
  have e2 : (10 : Int32).toInt = 10 := by decide
  simp only [nu_lt, nu_le, nu_0, e2, zb1, zb0, Bool.true_eq_false, reduceIte]
  by_cases h1 : a.toInt < 0
  · rw [if_pos h1, if_neg (by omega)]
  · rw [if_neg h1]
    by_cases h2 : 10 ≤ a.toInt
    · rw [if_pos h2, if_neg (by omega)]
    · rw [if_neg h2, if_pos (by omega)]
/-! the reference's -/
theorem X9_isIn (fu : Nat) (s : St) (a b c : Int64) : f_X9_isIn fu s a b c = some (s, bt (b.toInt ≤ a.toInt ∧ a.toInt ≤ c.toInt)) := by
  unfold f_X9_isIn f_X9_isIn_b17 f_X9_isIn_b18 bt
  simp only [lg_lt, lg_gt, zb1, zb0, Bool.true_eq_false, reduceIte]
  by_cases h1 : a.toInt < b.toInt
  · rw [if_pos h1, if_neg (by omega)]
  · rw [if_neg h1]
    by_cases h2 : c.toInt < a.toInt
    · rw [if_pos h2, if_neg (by omega)]
    · rw [if_neg h2, if_pos (by omega)]
theorem X9_isTime (fu : Nat) (s : St) (a : Int64) : f_X9_isTime fu s a = some (s, bt (-1000000 ≤ a.toInt ∧ a.toInt ≤ 1000000)) := by
  unfold f_X9_isTime
  have e1 : (-1000000 : Int64).toInt = -1000000 := by decide
  have e2 : (1000000 : Int64).toInt = 1000000 := by decide
  simp only [X9_isIn, bI, bt_zb, Bool.true_eq_false, reduceIte, e1, e2]
theorem X9_isValue (fu : Nat) (s : St) (a : Int64) : f_X9_isValue fu s a = some (s, bt (-10000 ≤ a.toInt ∧ a.toInt ≤ 10000)) := by
  unfold f_X9_isValue
  have e1 : (-10000 : Int64).toInt = -10000 := by decide
  have e2 : (10000 : Int64).toInt = 10000 := by decide
  simp only [X9_isIn, bI, bt_zb, Bool.true_eq_false, reduceIte, e1, e2]
theorem X9_isId (fu : Nat) (s : St) (a : Int32) : f_X9_isId fu s a = some (s, bt (0 ≤ a.toInt ∧ a.toInt ≤ 9)) := by
  unfold f_X9_isId
  have e1 : (0 : Int64).toInt = 0 := by decide
  have e2 : (9 : Int64).toInt = 9 := by decide
  simp only [X9_isIn, bI, bt_zb, Bool.true_eq_false, reduceIte, e1, e2, nj_up]
/-- which there are, by the reference -/
def ThM (s : St) (R : List Nat) : Prop := ∀ i, i < 10 → gI s 13 1 i = if i ∈ R then 1 else 0
theorem X9_isS {s : St} (hL : Lay s) {R : List Nat} (hT : ThM s R) {i : Nat} (hi : i ∈ R) (hi2 : i < 10) (fu : Nat) : f_X9_isSeries fu s 1 (nI i) = some (s, 1) := by
  have e10 : ¬ (1 = 0) := by decide
  have z10 : ¬ ((1 : Int32) = 0) := by decide
  have b : inb (nI i) 10 = true := nu_inbn (by omega) (by omega)
  unfold f_X9_isSeries f_X9_isSeries_b20 f_X9_isSeries_b21
  simp only [X9_isId, bI, nu_nI (show i < 2147483648 by omega)]
  rw [bt_t (by omega)]
  simp only [z10, e10, reduceIte, lr_9_1_10 hL, ll_13_1 hL, b, Bool.true_eq_false, nu_ixn (show i < 2147483648 by omega), hT i hi2, hi, zb1]
theorem X9_isSx {s : St} (hL : Lay s) {R : List Nat} (hT : ThM s R) {a : Int32} (ha : ∀ i ∈ R, ¬ nI i = a) (fu : Nat) : f_X9_isSeries fu s 1 a = some (s, 0) := by
  have e10 : ¬ (1 = 0) := by decide
  have z10 : ¬ ((1 : Int32) = 0) := by decide
  unfold f_X9_isSeries f_X9_isSeries_b20 f_X9_isSeries_b21
  simp only [X9_isId, bI]
  by_cases h : 0 ≤ a.toInt ∧ a.toInt ≤ 9
  · rw [bt_t h]
    obtain ⟨i, hi, rfl⟩ : ∃ i : Nat, i < 10 ∧ a = nI i := ⟨a.toInt.toNat, by omega, nu_toN (by omega)⟩
    have b : inb (nI i) 10 = true := nu_inbn (by omega) (by omega)
    have hn : ¬ i ∈ R := fun q => ha i q rfl
    simp only [z10, e10, reduceIte, lr_9_1_10 hL, ll_13_1 hL, b, Bool.true_eq_false, nu_ixn (show i < 2147483648 by omega), hT i hi, hn, zb0]
  · rw [bt_f h]
    simp only [reduceIte, zb0, Bool.true_eq_false]
