/-! ===== numbers ===== -/
theorem nu_lo (x : Int32) : -2147483648 ≤ x.toInt := x.le_toInt
theorem nu_hi (x : Int32) : x.toInt ≤ 2147483647 := Int.le_of_lt_add_one x.toInt_lt
theorem nu_of {n : Int} (h1 : -2147483648 ≤ n) (h2 : n ≤ 2147483647) : (Int32.ofInt n).toInt = n := Int32.toInt_ofInt_of_le (by omega) (by omega)
theorem nu_ext {a b : Int32} (h : a.toInt = b.toInt) : a = b := Int32.toInt.inj h
theorem nu_eq {a b : Int32} : a = b ↔ a.toInt = b.toInt := ⟨fun h => h ▸ rfl, nu_ext⟩
theorem nu_add {a b : Int32} (h1 : -2147483648 ≤ a.toInt + b.toInt) (h2 : a.toInt + b.toInt ≤ 2147483647) : (a + b).toInt = a.toInt + b.toInt := by
  have e : a + b = Int32.ofInt (a.toInt + b.toInt) := by rw [Int32.ofInt_add, Int32.ofInt_toInt, Int32.ofInt_toInt]
  rw [e]; exact nu_of h1 h2
theorem nu_sub {a b : Int32} (h1 : -2147483648 ≤ a.toInt - b.toInt) (h2 : a.toInt - b.toInt ≤ 2147483647) : (a - b).toInt = a.toInt - b.toInt := by
  have e : a - b = Int32.ofInt (a.toInt - b.toInt) := by rw [Int32.ofInt_sub, Int32.ofInt_toInt, Int32.ofInt_toInt]
  rw [e]; exact nu_of h1 h2
theorem nu_mul {a b : Int32} (h1 : -2147483648 ≤ a.toInt * b.toInt) (h2 : a.toInt * b.toInt ≤ 2147483647) : (a * b).toInt = a.toInt * b.toInt := by
  have e : a * b = Int32.ofInt (a.toInt * b.toInt) := by rw [Int32.ofInt_mul, Int32.ofInt_toInt, Int32.ofInt_toInt]
  rw [e]; exact nu_of h1 h2
theorem nu_neg {a : Int32} (h1 : -2147483648 < a.toInt) : (-a).toInt = -a.toInt := by
  have e : -a = Int32.ofInt (-a.toInt) := by rw [Int32.ofInt_neg, Int32.ofInt_toInt]
  have := nu_hi a
  rw [e]; exact nu_of (by omega) (by omega)
theorem nu_le {a b : Int32} : a ≤ b ↔ a.toInt ≤ b.toInt := Int32.le_iff_toInt_le
theorem nu_lt {a b : Int32} : a < b ↔ a.toInt < b.toInt := Int32.lt_iff_toInt_lt
theorem nu_ix {a : Int32} (h : 0 ≤ a.toInt) : (ix a : Int) = a.toInt := by
  have := Int32.toNat_toInt a
  show ((a.toNatClampNeg : Nat) : Int) = a.toInt
  rw [← this]; omega
theorem nu_nI {n : Nat} (h : n < 2147483648) : (nI n).toInt = (n : Int) := nI_toInt (by omega)
theorem nu_ixn {n : Nat} (h : n < 2147483648) : ix (nI n) = n := nI_clamp (by omega)
theorem nu_nIa (n : Nat) : nI n + 1 = nI (n + 1) := (nI_succ n).symm
theorem nu_ix1 {a : Int32} {n : Nat} (h : a.toInt = n) : ix a = n := by
  have := nu_ix (a := a) (by omega)
  omega
theorem nu_toN {a : Int32} {n : Nat} (h : a.toInt = n) : a = nI n := by
  have := nu_hi a
  exact nu_ext (by rw [nu_nI (by omega)]; exact h)
theorem nu_inb {i : Int32} {n : Nat} (h1 : 0 ≤ i.toInt) (h2 : i.toInt < n) : inb i n = true := decide_eq_true ⟨h1, h2⟩
theorem nu_inbn {i n : Nat} (h : i < n) (hn : i < 2147483648) : inb (nI i) n = true := nu_inb (by rw [nu_nI hn]; omega) (by rw [nu_nI hn]; omega)
theorem nu_0 : (0 : Int32).toInt = 0 := rfl
theorem nu_1 : (1 : Int32).toInt = 1 := rfl
theorem nu_n0 : (0 : Int32) = nI 0 := rfl
theorem nu_n1 : (1 : Int32) = nI 1 := rfl
/-! longs -/
theorem nj_lo (x : Int64) : -9223372036854775808 ≤ x.toInt := x.le_toInt
theorem nj_hi (x : Int64) : x.toInt ≤ 9223372036854775807 := Int.le_of_lt_add_one x.toInt_lt
theorem nj_of {n : Int} (h1 : -9223372036854775808 ≤ n) (h2 : n ≤ 9223372036854775807) : (Int64.ofInt n).toInt = n := Int64.toInt_ofInt_of_le (by omega) (by omega)
theorem nj_ext {a b : Int64} (h : a.toInt = b.toInt) : a = b := Int64.toInt.inj h
theorem nj_eq {a b : Int64} : a = b ↔ a.toInt = b.toInt := ⟨fun h => h ▸ rfl, nj_ext⟩
theorem nj_add {a b : Int64} (h1 : -9223372036854775808 ≤ a.toInt + b.toInt) (h2 : a.toInt + b.toInt ≤ 9223372036854775807) : (a + b).toInt = a.toInt + b.toInt := by
  have e : a + b = Int64.ofInt (a.toInt + b.toInt) := by rw [Int64.ofInt_add, Int64.ofInt_toInt, Int64.ofInt_toInt]
  rw [e]; exact nj_of h1 h2
theorem nj_sub {a b : Int64} (h1 : -9223372036854775808 ≤ a.toInt - b.toInt) (h2 : a.toInt - b.toInt ≤ 9223372036854775807) : (a - b).toInt = a.toInt - b.toInt := by
  have e : a - b = Int64.ofInt (a.toInt - b.toInt) := by rw [Int64.ofInt_sub, Int64.ofInt_toInt, Int64.ofInt_toInt]
  rw [e]; exact nj_of h1 h2
theorem nj_mul {a b : Int64} (h1 : -9223372036854775808 ≤ a.toInt * b.toInt) (h2 : a.toInt * b.toInt ≤ 9223372036854775807) : (a * b).toInt = a.toInt * b.toInt := by
  have e : a * b = Int64.ofInt (a.toInt * b.toInt) := by rw [Int64.ofInt_mul, Int64.ofInt_toInt, Int64.ofInt_toInt]
  rw [e]; exact nj_of h1 h2
theorem nj_neg {a : Int64} (h1 : -9223372036854775808 < a.toInt) : (-a).toInt = -a.toInt := by
  have e : -a = Int64.ofInt (-a.toInt) := by rw [Int64.ofInt_neg, Int64.ofInt_toInt]
  have := nj_hi a
  rw [e]; exact nj_of (by omega) (by omega)
theorem nj_up (a : Int32) : (Int32.toInt64 a).toInt = a.toInt := Int32.toInt_toInt64 a
theorem nj_dn {a : Int64} (h1 : -2147483648 ≤ a.toInt) (h2 : a.toInt ≤ 2147483647) : (Int64.toInt32 a).toInt = a.toInt := by
  have e : Int64.toInt32 a = Int32.ofInt a.toInt := (Int32.ofInt_int64ToInt a).symm
  rw [e]; exact nu_of h1 h2
theorem nj_le {a b : Int64} : a ≤ b ↔ a.toInt ≤ b.toInt := Int64.le_iff_toInt_le
theorem nj_lt {a b : Int64} : a < b ↔ a.toInt < b.toInt := Int64.lt_iff_toInt_lt
theorem lg_lt {a b : Int64} : lg_cmp a b < 0 ↔ a.toInt < b.toInt := by
  unfold lg_cmp
  split
  · rename_i h
    have h : b < a := h
    rw [nj_lt] at h
    exact ⟨fun q => absurd q (by decide), fun q => absurd q (by omega)⟩
  · rename_i h
    have h : ¬ b < a := h
    rw [nj_lt] at h
    split
    · rename_i h2
      subst h2
      exact ⟨fun q => absurd q (by decide), fun q => absurd q (by omega)⟩
    · rename_i h2
      rw [nj_eq] at h2
      exact ⟨fun _ => by omega, fun _ => by decide⟩
theorem lg_gt {a b : Int64} : 0 < lg_cmp a b ↔ b.toInt < a.toInt := by
  unfold lg_cmp
  split
  · rename_i h
    have h : b < a := h
    rw [nj_lt] at h
    exact ⟨fun _ => h, fun _ => by decide⟩
  · rename_i h
    have h : ¬ b < a := h
    rw [nj_lt] at h
    split
    · rename_i h2
      subst h2
      exact ⟨fun q => absurd q (by decide), fun q => absurd q (by omega)⟩
    · exact ⟨fun q => absurd q (by decide), fun q => absurd q h⟩
theorem lg_z {a b : Int64} : lg_cmp a b = 0 ↔ a = b := by
  unfold lg_cmp
  split
  · rename_i h
    have h : b < a := h
    rw [nj_lt] at h
    exact ⟨fun q => absurd q (by decide), fun q => by subst q; omega⟩
  · split
    · rename_i h2
      exact ⟨fun _ => h2, fun _ => rfl⟩
    · rename_i h2
      exact ⟨fun q => absurd q (by decide), fun q => absurd q h2⟩
theorem lg_ge {a b : Int64} : 0 ≤ lg_cmp a b ↔ b.toInt ≤ a.toInt := by
  have h := lg_lt (a := a) (b := b)
  rw [nu_lt, nu_0] at h
  rw [nu_le, nu_0]
  omega
theorem lg_le {a b : Int64} : lg_cmp a b ≤ 0 ↔ a.toInt ≤ b.toInt := by
  have h := lg_gt (a := a) (b := b)
  rw [nu_lt, nu_0] at h
  rw [nu_le, nu_0]
  omega
theorem nu_div {a b : Int32} (hb : 0 < b.toInt) : (a / b).toInt = a.toInt.tdiv b.toInt := Int32.toInt_div_of_ne_right a b (fun h => by subst h; exact absurd hb (by decide))
theorem nj_div {a b : Int64} (hb : 0 < b.toInt) : (a / b).toInt = a.toInt.tdiv b.toInt := Int64.toInt_div_of_ne_right a b (fun h => by subst h; exact absurd hb (by decide))
theorem nu_sg (x : Int32) : x.toBitVec.msb = decide (x.toInt < 0) := BitVec.msb_eq_toInt
theorem nj_sg (x : Int64) : x.toBitVec.msb = decide (x.toInt < 0) := BitVec.msb_eq_toInt
theorem nu_xor {a b : Int32} (hb : 0 ≤ b.toInt) : (0 ≤ a ^^^ b) ↔ 0 ≤ a.toInt := by
  rw [nu_le, nu_0]
  have h := nu_sg (a ^^^ b)
  rw [Int32.toBitVec_xor, BitVec.msb_xor, nu_sg a, nu_sg b] at h
  have h2 : decide (b.toInt < 0) = false := decide_eq_false (by omega)
  rw [h2, Bool.xor_false] at h
  have h3 := decide_eq_decide.mp h
  omega
theorem nj_xor {a b : Int64} (hb : 0 ≤ b.toInt) : (0 ≤ (a ^^^ b).toInt) ↔ 0 ≤ a.toInt := by
  have h := nj_sg (a ^^^ b)
  rw [Int64.toBitVec_xor, BitVec.msb_xor, nj_sg a, nj_sg b] at h
  have h2 : decide (b.toInt < 0) = false := decide_eq_false (by omega)
  rw [h2, Bool.xor_false] at h
  have h3 := decide_eq_decide.mp h
  omega
/-! quotients downwards -/
theorem em_u {a b x k : Int} (h0 : 0 ≤ x) (h1 : x < b) (h : a = x + b * k) : a % b = x := by
  rw [h, Int.add_mul_emod_self_left, Int.emod_eq_of_lt h0 h1]
theorem ed_u {a b x k : Int} (h0 : 0 ≤ x) (h1 : x < b) (h : a = x + b * k) : a / b = k := by
  have hb : b ≠ 0 := by omega
  rw [h, Int.add_mul_ediv_left _ _ hb, Int.ediv_eq_zero_of_lt h0 h1]; omega
theorem td_nn {a b : Int} (ha : 0 ≤ a) : a.tdiv b = a / b := Int.tdiv_eq_ediv_of_nonneg ha
theorem td_ng {a b : Int} (ha : a ≤ 0) : a.tdiv b = -((-a) / b) := by
  have h : a = -(-a) := by omega
  rw [h, Int.neg_tdiv, td_nn (by omega), Int.neg_neg]
/-- the greatest multiple of b that is no more than x -/
def al (x b : Int) : Int := b * (x / b)
theorem al_em (x b : Int) : al x b = x - x % b := by
  unfold al
  have := Int.mul_ediv_add_emod x b
  omega
theorem al_le {x b : Int} (hb : 0 < b) : al x b ≤ x := by
  have := Int.emod_nonneg x (show b ≠ 0 by omega)
  rw [al_em]; omega
theorem al_lt {x b : Int} (hb : 0 < b) : x < al x b + b := by
  have := Int.emod_lt_of_pos x hb
  rw [al_em]; omega
theorem al_dv (x b : Int) : b ∣ al x b := Int.dvd_mul_right b _
theorem al_u {x b y : Int} (hd : b ∣ y) (h1 : y ≤ x) (h2 : x < y + b) : al x b = y := by
  obtain ⟨k, rfl⟩ := hd
  unfold al
  rw [ed_u (x := x - b * k) (k := k) (by omega) (by omega) (by omega)]
theorem al_mono {x y b : Int} (hb : 0 < b) (h : x ≤ y) : al x b ≤ al y b := by
  unfold al
  exact Int.mul_le_mul_of_nonneg_left (Int.ediv_le_ediv hb h) (by omega)
theorem al_self {x b : Int} (hb : 0 < b) (h : b ∣ x) : al x b = x := al_u h (by omega) (by omega)
/-- what is a multiple and no more than x is no more than its greatest multiple -/
theorem al_ge {x b y : Int} (hb : 0 < b) (h : b ∣ y) (hy : y ≤ x) : y ≤ al x b := by
  have := al_mono hb hy
  rw [al_self hb h] at this
  exact this
theorem dv_gap {b x y : Int} (hb : 0 < b) (hx : b ∣ x) (hy : b ∣ y) (h : x < y) : x + b ≤ y := by
  obtain ⟨k, rfl⟩ := hx
  obtain ⟨m, rfl⟩ := hy
  have h1 : k < m := Int.lt_of_mul_lt_mul_left h (by omega)
  have h2 : b * (k + 1) ≤ b * m := Int.mul_le_mul_of_nonneg_left (by omega) (by omega)
  rw [Int.mul_add] at h2
  omega
theorem al_al {x b c : Int} (hb : 0 < b) (hc : 0 < c) (h : b ∣ c) : al (al x b) c = al x c := by
  refine al_u (al_dv _ _) (al_ge hb (Int.dvd_trans h (al_dv _ _)) (al_le hc)) ?_
  have h1 := al_le (x := x) hb
  have h2 := al_lt (x := x) hc
  omega
