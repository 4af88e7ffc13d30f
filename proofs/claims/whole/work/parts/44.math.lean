/-! ===== the JDK's and the two sides' small arithmetic ===== -/
theorem J_max (fu : Nat) (s : St) (a b : Int32) : f_J9_max_7cf53 fu s a b = some (s, mx a b) := by
  unfold f_J9_max_7cf53 f_J9_max_7cf53_b10 mx
  split <;> rfl
theorem J_min (fu : Nat) (s : St) (a b : Int32) : f_J9_min_7cf53 fu s a b = some (s, mn a b) := by
  unfold f_J9_min_7cf53 f_J9_min_7cf53_b10 mn
  split <;> rfl
def ab32 (a : Int32) : Int32 := if 0 ≤ a then a else -a
theorem J_abs (fu : Nat) (s : St) (a : Int32) : f_J9_abs_0f7a4 fu s a = some (s, ab32 a) := by
  unfold f_J9_abs_0f7a4 f_J9_abs_0f7a4_b10 ab32
  split <;> rfl
theorem J_fm {a b : Int32} (hb : 0 < b.toInt) (fu : Nat) (s : St) : f_J9_floorMod_7cf53 fu s a b = some (s, Int32.ofInt (a.toInt % b.toInt)) := by
  have hk : ∃ r, f_J9_floorMod_7cf53 fu s a b = some (s, r) ∧ r.toInt = a.toInt % b.toInt := by
    have hb0 : ¬ b = 0 := fun h => by subst h; exact absurd hb (by decide)
    have h1 := nu_lo a
    have h2 := nu_hi a
    have h3 := nu_hi b
    unfold f_J9_floorMod_7cf53
    rw [if_neg hb0]
    unfold f_J9_floorMod_7cf53_b18
    simp only [lt]
    have hd := nu_div (a := a) hb
    by_cases ha : 0 ≤ a.toInt
    · rw [if_pos ((nu_xor (a := a) (b := b) (by omega)).mpr ha)]
      refine ⟨_, rfl, ?_⟩
      rw [td_nn ha] at hd
      have e := Int.mul_ediv_add_emod a.toInt b.toInt
      have m0 := Int.emod_nonneg a.toInt (show b.toInt ≠ 0 by omega)
      have m1 := Int.emod_lt_of_pos a.toInt hb
      have q0 : 0 ≤ b.toInt * (a.toInt / b.toInt) := Int.mul_nonneg (by omega) (Int.ediv_nonneg ha (by omega))
      have hm : (a / b * b).toInt = b.toInt * (a.toInt / b.toInt) := by
        have e2 : (a / b).toInt * b.toInt = b.toInt * (a.toInt / b.toInt) := by rw [hd, Int.mul_comm]
        rw [nu_mul (by omega) (by omega), e2]
      rw [nu_sub (by omega) (by omega)]
      omega
    · rw [if_neg (fun h => ha ((nu_xor (a := a) (b := b) (by omega)).mp h))]
      rw [td_ng (by omega)] at hd
      have e := Int.mul_ediv_add_emod (-a.toInt) b.toInt
      have m0 := Int.emod_nonneg (-a.toInt) (show b.toInt ≠ 0 by omega)
      have m1 := Int.emod_lt_of_pos (-a.toInt) hb
      have q0 : 0 ≤ b.toInt * (-a.toInt / b.toInt) := Int.mul_nonneg (by omega) (Int.ediv_nonneg (by omega) (by omega))
      have hm : (a / b * b).toInt = -(b.toInt * (-a.toInt / b.toInt)) := by
        have e2 : (a / b).toInt * b.toInt = -(b.toInt * (-a.toInt / b.toInt)) := by rw [hd, Int.neg_mul, Int.mul_comm]
        rw [nu_mul (by omega) (by omega), e2]
      have hr : (a - a / b * b).toInt = -(-a.toInt % b.toInt) := by
        rw [nu_sub (by omega) (by omega)]; omega
      by_cases hz : a - a / b * b = 0
      · rw [if_pos hz]
        refine ⟨_, rfl, ?_⟩
        rw [hz] at hr ⊢
        rw [nu_0] at hr ⊢
        have hk := em_u (a := a.toInt) (b := b.toInt) (x := 0) (k := -(-a.toInt / b.toInt)) (by omega) hb (by rw [Int.mul_neg]; omega)
        rw [hk]
      · rw [if_neg hz]
        refine ⟨_, rfl, ?_⟩
        have hz' : ¬ (a - a / b * b).toInt = 0 := fun q => hz (nu_ext (by rw [q, nu_0]))
        rw [nu_add (by omega) (by omega), hr]
        have hk := em_u (a := a.toInt) (b := b.toInt) (x := b.toInt - -a.toInt % b.toInt) (k := -(-a.toInt / b.toInt) - 1) (by omega) (by omega) (by rw [Int.mul_sub, Int.mul_neg, Int.mul_one]; omega)
        rw [hk]; omega
  obtain ⟨r, h1, h2⟩ := hk
  rw [h1, ← h2, Int32.ofInt_toInt]
def mu (a b : Int32) : Int32 := Int32.ofInt (al a.toInt b.toInt)
theorem X8_mu {a b : Int32} (hb : 0 < b.toInt) (fu : Nat) (s : St) : f_X8_multipleUpTo fu s a b = some (s, mu a b) := by
  unfold f_X8_multipleUpTo f_X8_multipleUpTo_b16
  have h1 : (1 : Int32) ≤ b := by rw [nu_le, nu_1]; omega
  rw [if_pos h1, J_fm hb]
  show some (s, a - Int32.ofInt (a.toInt % b.toInt)) = some (s, mu a b)
  unfold mu
  rw [al_em, Int32.ofInt_sub, Int32.ofInt_toInt]
theorem mu_i {a b : Int32} (hb : 0 < b.toInt) (h : -2147483648 ≤ a.toInt - b.toInt) : (mu a b).toInt = al a.toInt b.toInt := by
  have h1 := al_le (x := a.toInt) hb
  have h2 := al_lt (x := a.toInt) hb
  have h3 := nu_hi a
  exact nu_of (by omega) (by omega)
/-- upwards -/
def au (x b : Int) : Int := -(al (-x) b)
theorem X8_mf {a b : Int32} (hb : 0 < b.toInt) (fu : Nat) (s : St) : f_X8_multipleFrom fu s a b = some (s, -(mu (-a) b)) := by
  unfold f_X8_multipleFrom
  rw [X8_mu hb]
  rfl
theorem J_fd {a b : Int64} (hb : 0 < b.toInt) (fu : Nat) (s : St) : f_J9_floorDiv_f86c9 fu s a b = some (s, Int64.ofInt (a.toInt / b.toInt)) := by
  have hk : ∃ r, f_J9_floorDiv_f86c9 fu s a b = some (s, r) ∧ r.toInt = a.toInt / b.toInt := by
    have hb0 : ¬ b = 0 := fun h => by subst h; exact absurd hb (by decide)
    have h1 := nj_lo a
    have h2 := nj_hi a
    have h3 := nj_hi b
    unfold f_J9_floorDiv_f86c9
    rw [if_neg hb0]
    unfold f_J9_floorDiv_f86c9_b27
    simp only [lt]
    have hd := nj_div (a := a) hb
    have hx : 0 ≤ lg_cmp (a ^^^ b) 0 ↔ 0 ≤ a.toInt := by
      rw [lg_ge]
      show (0 : Int) ≤ _ ↔ _
      exact nj_xor (by omega)
    by_cases ha : 0 ≤ a.toInt
    · rw [if_pos (hx.mpr ha)]
      refine ⟨_, rfl, ?_⟩
      rw [hd, td_nn ha]
    · rw [if_neg (fun h => ha (hx.mp h))]
      rw [td_ng (by omega)] at hd
      have e := Int.mul_ediv_add_emod (-a.toInt) b.toInt
      have m0 := Int.emod_nonneg (-a.toInt) (show b.toInt ≠ 0 by omega)
      have m1 := Int.emod_lt_of_pos (-a.toInt) hb
      have q1 : 0 ≤ -a.toInt / b.toInt := Int.ediv_nonneg (by omega) (by omega)
      have q0 : 0 ≤ b.toInt * (-a.toInt / b.toInt) := Int.mul_nonneg (by omega) q1
      have hm : (a / b * b).toInt = -(b.toInt * (-a.toInt / b.toInt)) := by
        have e2 : (a / b).toInt * b.toInt = -(b.toInt * (-a.toInt / b.toInt)) := by rw [hd, Int.neg_mul, Int.mul_comm]
        rw [nj_mul (by omega) (by omega), e2]
      by_cases hz : lg_cmp (a / b * b) a = 0
      · rw [if_pos hz]
        refine ⟨_, rfl, ?_⟩
        have hz2 := lg_z.mp hz
        rw [nj_eq, hm] at hz2
        rw [hd]
        have hk := ed_u (a := a.toInt) (b := b.toInt) (x := 0) (k := -(-a.toInt / b.toInt)) (by omega) hb (by rw [Int.mul_neg]; omega)
        rw [hk]
      · rw [if_neg hz]
        refine ⟨_, rfl, ?_⟩
        have hz2 : ¬ (a / b * b).toInt = a.toInt := fun q => hz (lg_z.mpr (nj_ext q))
        have hq : 2 * (-a.toInt / b.toInt) ≤ b.toInt * (-a.toInt / b.toInt) := Int.mul_le_mul_of_nonneg_right (by omega) q1
        have e1 : (1 : Int64).toInt = 1 := rfl
        rw [nj_sub (by rw [hd, e1]; omega) (by rw [hd, e1]; omega), hd, e1]
        have hk := ed_u (a := a.toInt) (b := b.toInt) (x := b.toInt - -a.toInt % b.toInt) (k := -(-a.toInt / b.toInt) - 1) (by omega) (by omega) (by rw [Int.mul_sub, Int.mul_neg, Int.mul_one]; omega)
        rw [hk]
  obtain ⟨r, h1, h2⟩ := hk
  rw [h1, ← h2, Int64.ofInt_toInt]
theorem to32 (x : Int64) : Int64.toInt32 x = Int32.ofInt x.toInt := (Int32.ofInt_int64ToInt x).symm
theorem X8_quo {a : Int64} {b : Int32} (hb : 0 < b.toInt) (fu : Nat) (s : St) : f_X8_quotient fu s a b = some (s, Int32.ofInt (a.toInt / b.toInt)) := by
  unfold f_X8_quotient f_X8_quotient_b16
  have h1 : (1 : Int32) ≤ b := by rw [nu_le, nu_1]; omega
  rw [if_pos h1, J_fd (by rw [nj_up]; exact hb), nj_up]
  show some (s, Int64.toInt32 (Int64.ofInt (a.toInt / b.toInt))) = _
  have h2 := nj_lo a
  have h3 := nj_hi a
  have h4 : -9223372036854775808 ≤ a.toInt / b.toInt ∧ a.toInt / b.toInt ≤ 9223372036854775807 := by
    have e := Int.mul_ediv_add_emod a.toInt b.toInt
    have m0 := Int.emod_nonneg a.toInt (show b.toInt ≠ 0 by omega)
    have m1 := Int.emod_lt_of_pos a.toInt hb
    by_cases ha : 0 ≤ a.toInt
    · have q1 : 0 ≤ a.toInt / b.toInt := Int.ediv_nonneg ha (by omega)
      have q2 := Int.ediv_le_self (b := b.toInt) ha
      omega
    · have q1 : a.toInt / b.toInt < 0 := Int.ediv_neg_of_neg_of_pos (by omega) hb
      have q2 : a.toInt ≤ a.toInt / b.toInt := by
        rw [Int.le_ediv_iff_mul_le hb]
        have : a.toInt * b.toInt ≤ a.toInt * 1 := Int.mul_le_mul_of_nonpos_left (by omega) (by omega)
        omega
      omega
  rw [to32, nj_of h4.1 h4.2]
/-! the reference's -/
theorem X9_by {v n : Int64} (hn : 0 < n.toInt) (h1 : -1000000000000000 ≤ v.toInt) (h2 : v.toInt ≤ 1000000000000000) (h3 : n.toInt ≤ 10000000000) (fu : Nat) (s : St) : f_X9_by fu s v n = some (s, Int64.ofInt (v.toInt / n.toInt)) := by
  have hn0 : ¬ n = 0 := fun h => by subst h; exact absurd hn (by decide)
  have hk : ∃ r, f_X9_by fu s v n = some (s, r) ∧ r.toInt = v.toInt / n.toInt := by
    unfold f_X9_by f_X9_by_b21
    by_cases hv : lg_cmp v 0 < 0
    · rw [if_pos hv, if_neg hn0]
      have hv' : v.toInt < 0 := lg_lt.mp hv
      refine ⟨_, rfl, ?_⟩
      have e1 : (-v).toInt = -v.toInt := nj_neg (by omega)
      have e2 : (-v + n).toInt = -v.toInt + n.toInt := by rw [nj_add (by omega) (by omega), e1]
      have e0 : (1 : Int64).toInt = 1 := rfl
      have e3 : (-v + n - 1).toInt = -v.toInt + n.toInt - 1 := by rw [nj_sub (by omega) (by omega), e2, e0]
      have e4 : ((-v + n - 1) / n).toInt = (-v.toInt + n.toInt - 1) / n.toInt := by rw [nj_div hn, e3, td_nn (by omega)]
      have q := Int.ediv_le_self (b := n.toInt) (a := -v.toInt + n.toInt - 1) (by omega)
      have q1 : 0 ≤ (-v.toInt + n.toInt - 1) / n.toInt := Int.ediv_nonneg (by omega) (by omega)
      rw [nj_neg (by omega), e4]
      have e := Int.mul_ediv_add_emod (-v.toInt + n.toInt - 1) n.toInt
      have m0 := Int.emod_nonneg (-v.toInt + n.toInt - 1) (show n.toInt ≠ 0 by omega)
      have m1 := Int.emod_lt_of_pos (-v.toInt + n.toInt - 1) hn
      have hk := ed_u (a := v.toInt) (b := n.toInt) (x := n.toInt - 1 - (-v.toInt + n.toInt - 1) % n.toInt) (k := -((-v.toInt + n.toInt - 1) / n.toInt)) (by omega) (by omega) (by rw [Int.mul_neg]; omega)
      rw [hk]
    · rw [if_neg hv, if_neg hn0]
      have hv' : ¬ v.toInt < 0 := fun q => hv (lg_lt.mpr q)
      refine ⟨_, rfl, ?_⟩
      rw [nj_div hn, td_nn (by omega)]
  obtain ⟨r, h4, h5⟩ := hk
  rw [h4, ← h5, Int64.ofInt_toInt]
theorem X9_mult {v : Int64} {n : Int32} (hn : 0 < n.toInt) (h1 : -1000000000000 ≤ v.toInt) (h2 : v.toInt ≤ 1000000000000) (fu : Nat) (s : St) : f_X9_multiple fu s v n = some (s, Int32.ofInt (al v.toInt n.toInt)) := by
  unfold f_X9_multiple
  have h3 := nu_hi n
  rw [X9_by (by rw [nj_up]; exact hn) (by omega) (by omega) (by rw [nj_up]; omega), nj_up]
  show some (s, Int64.toInt32 (Int32.toInt64 n * Int64.ofInt (v.toInt / n.toInt))) = _
  have e := Int.mul_ediv_add_emod v.toInt n.toInt
  have m0 := Int.emod_nonneg v.toInt (show n.toInt ≠ 0 by omega)
  have m1 := Int.emod_lt_of_pos v.toInt hn
  have q : -1000000000000 ≤ v.toInt / n.toInt ∧ v.toInt / n.toInt ≤ 1000000000000 := by
    by_cases ha : 0 ≤ v.toInt
    · have q1 : 0 ≤ v.toInt / n.toInt := Int.ediv_nonneg ha (by omega)
      have q2 := Int.ediv_le_self (b := n.toInt) ha
      omega
    · have q1 : v.toInt / n.toInt < 0 := Int.ediv_neg_of_neg_of_pos (by omega) hn
      have q2 : v.toInt ≤ v.toInt / n.toInt := by
        rw [Int.le_ediv_iff_mul_le hn]
        have : v.toInt * n.toInt ≤ v.toInt * 1 := Int.mul_le_mul_of_nonpos_left (by omega) (by omega)
        omega
      omega
  have e1 : (Int64.ofInt (v.toInt / n.toInt)).toInt = v.toInt / n.toInt := nj_of (by omega) (by omega)
  have e2 : (Int32.toInt64 n * Int64.ofInt (v.toInt / n.toInt)).toInt = al v.toInt n.toInt := by
    unfold al
    rw [nj_mul (by rw [nj_up, e1]; omega) (by rw [nj_up, e1]; omega), nj_up, e1]
  rw [to32, e2]
