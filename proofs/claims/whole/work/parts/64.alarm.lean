/-! ===== the alarm: waiting answers as bits, as booleans ===== -/
theorem b32_and (a b : Nat) (ha : a < 4294967296) (hb : b < 4294967296) : nI a &&& nI b = nI (a &&& b) := by
  apply Int32.toBitVec_inj.mp
  rw [Int32.toBitVec_and]
  apply BitVec.eq_of_toNat_eq
  rw [BitVec.toNat_and]
  show (BitVec.ofNat 32 a).toNat &&& (BitVec.ofNat 32 b).toNat = (BitVec.ofNat 32 (a &&& b)).toNat
  rw [BitVec.toNat_ofNat, BitVec.toNat_ofNat, BitVec.toNat_ofNat, Nat.mod_eq_of_lt ha, Nat.mod_eq_of_lt hb]
  rw [Nat.mod_eq_of_lt (Nat.lt_of_le_of_lt Nat.and_le_left ha)]
theorem b32_or (a b : Nat) (ha : a < 2147483648) (hb : b < 2147483648) : nI a ||| nI b = nI (a ||| b) := by
  apply Int32.toBitVec_inj.mp
  rw [Int32.toBitVec_or]
  apply BitVec.eq_of_toNat_eq
  rw [BitVec.toNat_or]
  show (BitVec.ofNat 32 a).toNat ||| (BitVec.ofNat 32 b).toNat = (BitVec.ofNat 32 (a ||| b)).toNat
  have : a ||| b < 2 ^ 32 := Nat.or_lt_two_pow (by omega) (by omega)
  rw [BitVec.toNat_ofNat, BitVec.toNat_ofNat, BitVec.toNat_ofNat, Nat.mod_eq_of_lt (by omega), Nat.mod_eq_of_lt (by omega), Nat.mod_eq_of_lt this]
theorem b32_xor (a b : Nat) (ha : a < 2147483648) (hb : b < 2147483648) : nI a ^^^ nI b = nI (a ^^^ b) := by
  apply Int32.toBitVec_inj.mp
  rw [Int32.toBitVec_xor]
  apply BitVec.eq_of_toNat_eq
  rw [BitVec.toNat_xor]
  show (BitVec.ofNat 32 a).toNat ^^^ (BitVec.ofNat 32 b).toNat = (BitVec.ofNat 32 (a ^^^ b)).toNat
  have : a ^^^ b < 2 ^ 32 := Nat.xor_lt_two_pow (by omega) (by omega)
  rw [BitVec.toNat_ofNat, BitVec.toNat_ofNat, BitVec.toNat_ofNat, Nat.mod_eq_of_lt (by omega), Nat.mod_eq_of_lt (by omega), Nat.mod_eq_of_lt this]
theorem b32_sl (a : Nat) : nI a <<< ((1 : Int32) &&& 31) = nI (2 * a) := by
  apply Int32.toBitVec_inj.mp
  rw [Int32.toBitVec_shiftLeft]
  apply BitVec.eq_of_toNat_eq
  have e : (((1 : Int32) &&& 31).toBitVec.smod 32) = 1#32 := by decide
  rw [e]
  show (BitVec.ofNat 32 a <<< 1).toNat = (BitVec.ofNat 32 (2 * a)).toNat
  rw [BitVec.toNat_shiftLeft, BitVec.toNat_ofNat, BitVec.toNat_ofNat, Nat.shiftLeft_eq]
  omega
theorem b32_sr (a : Nat) (ha : a < 2147483648) : nI a >>> ((1 : Int32) &&& 31) = nI (a / 2) := by
  apply Int32.toBitVec_inj.mp
  rw [Int32.toBitVec_shiftRight]
  apply BitVec.eq_of_toNat_eq
  have e : (((1 : Int32) &&& 31).toBitVec.smod 32) = 1#32 := by decide
  rw [e]
  show (BitVec.sshiftRight (BitVec.ofNat 32 a) 1).toNat = (BitVec.ofNat 32 (a / 2)).toNat
  rw [BitVec.sshiftRight_eq_of_msb_false, BitVec.toNat_ushiftRight, BitVec.toNat_ofNat, BitVec.toNat_ofNat, Nat.shiftRight_eq_div_pow]
  · omega
  · rw [BitVec.msb_eq_false_iff_two_mul_lt, BitVec.toNat_ofNat]
    omega
theorem and_m2 {b r : Nat} (hb : b < 2) (hr : r < 1073741824) : (b + 2 * r) &&& 4294967294 = 2 * r := by
  have h1 : ((b + 2 * r) &&& 4294967294) / 2 = (b + 2 * r) / 2 &&& 4294967294 / 2 := Nat.and_div_two
  have h2 : (b + 2 * r) / 2 &&& 2147483647 = ((b + 2 * r) / 2) % 2 ^ 31 := Nat.and_two_pow_sub_one_eq_mod _ 31
  have h3 : ((b + 2 * r) &&& 4294967294) % 2 ^ 1 = _ := Nat.and_mod_two_pow
  rw [show (4294967294 % 2 ^ 1) = 0 from rfl, Nat.and_zero] at h3
  rw [show 4294967294 / 2 = 2147483647 from rfl, h2] at h1
  omega
theorem xor_1 {b r : Nat} (hb : b < 2) : (b + 2 * r) ^^^ 1 = (1 - b) + 2 * r := by
  have h1 : ((b + 2 * r) ^^^ 1) / 2 = (b + 2 * r) / 2 ^^^ 1 / 2 := Nat.xor_div_two
  have h3 : ((b + 2 * r) ^^^ 1) % 2 ^ 1 = (b + 2 * r) % 2 ^ 1 ^^^ 1 % 2 ^ 1 := Nat.xor_mod_two_pow
  rw [show 1 / 2 = 0 from rfl, Nat.xor_zero] at h1
  have hb' : b = 0 ∨ b = 1 := by omega
  rcases hb' with rfl | rfl
  · rw [show (0 + 2 * r) % 2 ^ 1 = 0 by omega, show (0 ^^^ 1 % 2 ^ 1 : Nat) = 1 by decide] at h3
    omega
  · rw [show (1 + 2 * r) % 2 ^ 1 = 1 by omega, show (1 ^^^ 1 % 2 ^ 1 : Nat) = 0 by decide] at h3
    omega
theorem or_1 {b c r : Nat} (hb : b < 2) (hc : c < 2) : (b + 2 * r) ||| c = (if b = 1 ∨ c = 1 then 1 else 0) + 2 * r := by
  have h1 : ((b + 2 * r) ||| c) / 2 = (b + 2 * r) / 2 ||| c / 2 := Nat.or_div_two
  have h3 : ((b + 2 * r) ||| c) % 2 ^ 1 = (b + 2 * r) % 2 ^ 1 ||| c % 2 ^ 1 := Nat.or_mod_two_pow
  rw [show c / 2 = 0 by omega, Nat.or_zero] at h1
  have hb' : b = 0 ∨ b = 1 := by omega
  have hc' : c = 0 ∨ c = 1 := by omega
  rcases hb' with rfl | rfl <;> rcases hc' with rfl | rfl
  · rw [show (0 + 2 * r) % 2 ^ 1 = 0 by omega, show (0 ||| 0 % 2 ^ 1 : Nat) = 0 by decide] at h3
    rw [if_neg (by decide)]; omega
  · rw [show (0 + 2 * r) % 2 ^ 1 = 0 by omega, show (0 ||| 1 % 2 ^ 1 : Nat) = 1 by decide] at h3
    rw [if_pos (by decide)]; omega
  · rw [show (1 + 2 * r) % 2 ^ 1 = 1 by omega, show (1 ||| 0 % 2 ^ 1 : Nat) = 1 by decide] at h3
    rw [if_pos (by decide)]; omega
  · rw [show (1 + 2 * r) % 2 ^ 1 = 1 by omega, show (1 ||| 1 % 2 ^ 1 : Nat) = 1 by decide] at h3
    rw [if_pos (by decide)]; omega
theorem i32a (a b c : Int32) : (a + b) - (c + 1) * b = a - c * b := by
  rw [Int32.add_mul, Int32.one_mul, Int32.sub_eq_add_neg, Int32.neg_add, Int32.sub_eq_add_neg, Int32.add_assoc, Int32.add_comm (-(c * b)), ← Int32.add_assoc b, Int32.add_right_neg, Int32.zero_add, Int32.sub_eq_add_neg]
theorem i32b (a b : Int32) : (a + b) - 1 * b = a := by
  rw [Int32.one_mul]; exact Int32.add_sub_cancel _ _
abbrev AO : Type := Option (Option (Option (Nat × Nat × Int32)))
def aoC : AO → Int32
  | none => 100
  | some none => 101
  | some (some none) => 102
  | some (some (some (f, r, _))) => nI (f * 3 + r)
def aoF (f : Nat) : Nat := if f = 1 then 3 else if f = 2 then 2 else if f = 3 then 0 else if f = 4 then 1 else if f = 5 then 4 else 5
def aoE : AO → List Int32
  | none => [20]
  | some none => [21]
  | some (some none) => [22]
  | some (some (some (f, r, v))) => [nI (10 + r), nI (aoF f), v]
/-- how many answers wait -/
def aoD : Nat → List AO → Prop
  | d, [] => d = 1
  | d, none :: L => 1 ≤ d ∧ aoD d L
  | d, some none :: L => 2 ≤ d ∧ aoD (d - 1) L
  | d, some (some none) :: L => 2 ≤ d ∧ aoD (d - 1) L
  | d, some (some (some (f, r, _))) :: L => d < 15 ∧ ((1 ≤ f ∧ f ≤ 6) ∧ r ≤ 2) ∧ aoD (d + 1) L
def aoS (c : Nat → Nat → Int32 → Bool) (st : List Bool) (o : AO) : List Bool := match o, st with
  | none, b :: st => (!b) :: st
  | some none, b :: a :: st => (a && b) :: st
  | some (some none), b :: a :: st => (a || b) :: st
  | some (some (some (f, r, v))), st => c f r v :: st
  | _, st => st
def aoV (c : Nat → Nat → Int32 → Bool) (L : List AO) : Bool := (L.foldl (aoS c) []).headD false
def b1 (b : Bool) : Nat := if b = true then 1 else 0
theorem b1_lt (b : Bool) : b1 b < 2 := by cases b <;> decide
def wb : List Bool → Nat
  | [] => 0
  | b :: st => b1 b + 2 * wb st
theorem wb_c (b : Bool) (st : List Bool) : wb (b :: st) = b1 b + 2 * wb st := rfl
theorem wb_lt (st : List Bool) : wb st < 2 ^ st.length := by
  induction st with
  | nil => decide
  | cons b st ih =>
    have := b1_lt b
    rw [List.length_cons, Nat.pow_succ, wb]
    omega
theorem wb_bd {st : List Bool} (h : st.length ≤ 15) : wb st < 32768 := Nat.lt_of_lt_of_le (wb_lt st) (Nat.le_trans (Nat.pow_le_pow_right (by decide) h) (by decide))
def AlC (s : St) (a : Nat) (L : List AO) : Prop := (¬ a = 0 ∧ ¬ gR s 0 a 0 = 0 ∧ ¬ gR s 0 a 1 = 0) ∧ (gL s 10 (gR s 0 a 0) = 160 ∧ gL s 10 (gR s 0 a 1) = 160) ∧ (gI s 0 a 2 = nI L.length ∧ L.length ≤ 160) ∧ (∀ k o, L[k]? = some o → gI s 10 (gR s 0 a 0) k = aoC o) ∧ ∀ k f r v, L[k]? = some (some (some (some (f, r, v)))) → gI s 10 (gR s 0 a 1) k = v
def AlM (s : St) (L : List AO) : Prop := gI s 9 1 9 = nI (L.flatMap aoE).length ∧ (L.flatMap aoE).length ≤ 1300 ∧ ∀ j v, (L.flatMap aoE)[j]? = some v → gI s 10 (gR s 9 1 6) j = v
def aoW (L : List AO) : Prop := L = [] ∨ aoD 0 L
def cmv (x : Int64) (r : Nat) (v : Int32) : Bool := if r = 0 then decide (x.toInt < v.toInt) else if r = 1 then decide (x.toInt = v.toInt) else decide (v.toInt < x.toInt)
def fvl (n : Nat) (S K : Nat → Int) (h : Int) (g : List Pt) (f : Nat) : Int64 := if f = 6 then Int32.toInt64 (tc (tq (sm n S K h) n (ky (ka n S K h) g))) else bfact (ka n S K h) g f
def alc (n : Nat) (S K : Nat → Int) (h : Int) (L : List AO) (g : List Pt) : Bool := aoV (fun f r v => cmv (fvl n S K h g f) r v) L
theorem cd_fr : ∀ f, f < 7 → ∀ r, r < 3 → nI (f * 3 + r) / 3 = nI f ∧ nI (f * 3 + r) - nI (f * 3 + r) / 3 * 3 = nI r ∧ ¬ nI (f * 3 + r) = 100 ∧ ¬ nI (f * 3 + r) = 101 ∧ ¬ nI (f * 3 + r) = 102 := by decide
theorem bt_b (b : Bool) : bt (b = true) = if b = true then (1 : Int32) else 0 := rfl
theorem X0_b38 {s : St} {a : Nat} {L : List AO} (hA : AlC s a L) {k f r : Nat} {v : Int32} (hk : L[k]? = some (some (some (some (f, r, v))))) (hf : f ≤ 6) (hr : r ≤ 2) (x : Int64) (fu : Nat) : f_X0_compares_b38 fu s a (nI k) x = some (s, bt (cmv x r v = true)) := by
  obtain ⟨⟨a1, a2, a3⟩, ⟨a4, a5⟩, ⟨a6, a7⟩, a8, a9⟩ := hA
  have hkl := get_lt hk
  obtain ⟨d1, d2, -⟩ := cd_fr f (by omega) r (by omega)
  have hco : gI s 10 (gR s 0 a 0) k = nI (f * 3 + r) := a8 k _ hk
  have bb : inb (nI k) 160 = true := nu_inbn (by omega) (by omega)
  have q0 : (nI r = 0) ↔ r = 0 := nI_c 0 (by omega) r (by omega)
  have q1 : (nI r = 1) ↔ r = 1 := nI_c 1 (by omega) r (by omega)
  unfold f_X0_compares_b38 f_X0_compares_b94 f_X0_compares_b113 f_X0_compares_b132 cmv
  simp only [a1, a2, a3, a4, a5, bb, reduceIte, Bool.true_eq_false, nu_ixn (show k < 2147483648 by omega), hco, lt, d2, q0, q1, a9 k f r v hk, lg_ge, lg_le, lg_z, nj_up, zb1, zb0]
  by_cases h0 : r = 0
  · simp only [h0, reduceIte, decide_eq_true_eq]
    by_cases hc : v.toInt ≤ x.toInt
    · rw [if_pos hc, bt_f (by omega)]
    · rw [if_neg hc, bt_t (by omega)]
  · by_cases h1 : r = 1
    · simp only [h1, show ¬ (1 = 0) by decide, reduceIte, decide_eq_true_eq]
      by_cases hc : x = Int32.toInt64 v
      · rw [if_pos hc, bt_t (by rw [hc, nj_up])]
      · rw [if_neg hc, bt_f (fun q => hc (nj_ext (by rw [q, nj_up])))]
    · simp only [h0, h1, reduceIte, decide_eq_true_eq]
      by_cases hc : x.toInt ≤ v.toInt
      · rw [if_pos hc, bt_f (by omega)]
      · rw [if_neg hc, bt_t (by omega)]
theorem X0_cmp {s : St} {a o p n : Nat} {S K : Nat → Int} {h : Int} {GG : List (List Pt)} {L : List AO} (V : VP n S K) (W : WfG n S K h GG) (C : SerC s o p n S K h GG) (hA : AlC s a L) {k f r : Nat} {v : Int32} (hk : L[k]? = some (some (some (some (f, r, v))))) (hf : f ≤ 6) (hr : r ≤ 2) {j : Nat} {g : List Pt} (hj : GG[j]? = some g) {fu : Nat} (hfu : 100 ≤ fu) :
    f_X0_compares fu s a (nI k) o (nI j) = some (s, bt (cmv (fvl n S K h g f) r v = true)) := by
  have hA' := hA
  obtain ⟨⟨a1, a2, a3⟩, ⟨a4, a5⟩, ⟨a6, a7⟩, a8, a9⟩ := hA
  have hkl := get_lt hk
  have hl := wf_len W
  have hjl := get_lt hj
  obtain ⟨d1, d2, -⟩ := cd_fr f (by omega) r (by omega)
  have hco : gI s 10 (gR s 0 a 0) k = nI (f * 3 + r) := a8 k _ hk
  have bb : inb (nI k) 160 = true := nu_inbn (by omega) (by omega)
  have b2 : inb (nI j) (gL s 10 (gR s 5 o 3)) = true := nu_inbn (by have := C.2.2.2.2.1.1; omega) (by omega)
  have q6 : (nI f = 6) ↔ f = 6 := nI_c 6 (by omega) f (by omega)
  unfold f_X0_compares fvl
  simp only [a1, a2, a4, bb, reduceIte, Bool.true_eq_false, nu_ixn (show k < 2147483648 by omega), hco, lt, d1, q6]
  by_cases h6 : f = 6
  · rw [if_pos h6, if_pos h6]
    simp only [C.1.1, C.2.2.2.1.1, b2, reduceIte, Bool.true_eq_false, nu_ixn (show j < 2147483648 by omega), X5_to V W C _ hfu, bI, C.st V W hj]
    exact X0_b38 hA' hk hf hr _ fu
  · rw [if_neg h6, if_neg h6]
    simp only [C.1.1, reduceIte, X5_fact W C hj (show f < 100 by omega), bI]
    exact X0_b38 hA' hk hf hr _ fu
theorem X0_so_loop {s : St} {a o : Nat} {L : List AO} (hA : AlC s a L) {i : Int32} {c : Nat → Nat → Int32 → Bool} {fu : Nat} (hc : ∀ k f r v, L[k]? = some (some (some (some (f, r, v)))) → f ≤ 6 → r ≤ 2 → f_X0_compares fu s a (nI k) o i = some (s, bt (c f r v = true))) :
    ∀ (B A : List AO) (m : Nat) (st : List Bool), L = A ++ B → aoD st.length B → st.length ≤ 15 → B.length < m → f_X0_isSoOf_b5 fu m s a o i (nI (wb st)) (nI A.length) = some (s, bt ((B.foldl (aoS c) st).headD false = true)) := by
  have hA' := hA
  obtain ⟨⟨a1, a2, a3⟩, ⟨a4, a5⟩, ⟨a6, a7⟩, a8, a9⟩ := hA
  have v1 : (1 : Int32) = nI 1 := rfl
  intro B
  induction B with
  | nil =>
    intro A m st e hd hl hm
    rw [List.append_nil] at e
    subst e
    cases m with
    | zero => omega
    | succ m =>
      have hd' : st.length = 1 := hd
      obtain ⟨b, rfl⟩ : ∃ b, st = [b] := by
        cases st with
        | nil => simp at hd'
        | cons b st =>
          cases st with
          | nil => exact ⟨b, rfl⟩
          | cons c st => simp at hd'
      unfold f_X0_isSoOf_b5 f_X0_isSoOf_b131
      rw [if_neg a1, a6, if_pos ((ni_le (by omega) (by omega)).mpr (Nat.le_refl _))]
      cases b
      · rw [if_neg (by decide)]; rfl
      · rw [if_pos (by decide)]; rfl
  | cons o' B ih =>
    intro A m st e hd hl hm
    have hk : L[A.length]? = some o' := by rw [e, List.getElem?_append_right (Nat.le_refl _)]; simp
    have hkl := get_lt hk
    cases m with
    | zero => omega
    | succ m =>
      rw [List.length_cons] at hm
      have hco := a8 _ _ hk
      have bb : inb (nI A.length) 160 = true := nu_inbn (by omega) (by omega)
      have hwb := wb_bd hl
      have hih := fun st' h1 h2 => ih (A ++ [o']) m st' (by rw [e, List.append_assoc]; rfl) h1 h2 (by omega)
      rw [List.length_append, List.length_singleton] at hih
      rw [List.foldl_cons]
      unfold f_X0_isSoOf_b5 f_X0_isSoOf_b79 f_X0_isSoOf_b111 f_X0_isSoOf_b113
      rw [if_neg a1, a6, if_neg (fun q => by have := (ni_le (by omega) (by omega)).mp q; omega)]
      simp only [lt, a2, a4, bb, reduceIte, Bool.true_eq_false, nu_ixn (show A.length < 2147483648 by omega), hco, nu_nIa]
      rcases o' with _ | _ | _ | ⟨f, r, v⟩
      · obtain ⟨d1, d2⟩ := (show 1 ≤ st.length ∧ aoD st.length B from hd)
        cases st with
        | nil => simp at d1
        | cons b st =>
          have h1 := b1_lt b
          have e1 : nI (wb (b :: st)) ^^^ 1 = nI (wb ((!b) :: st)) := by
            rw [v1, b32_xor _ _ (by omega) (by omega)]
            rw [wb_c, wb_c, xor_1 h1]
            cases b <;> rfl
          rw [show aoC none = (100 : Int32) from rfl, if_pos rfl, e1]
          exact hih ((!b) :: st) d2 hl
      · obtain ⟨d1, d2⟩ := (show 2 ≤ st.length ∧ aoD (st.length - 1) B from hd)
        cases st with
        | nil => simp at d1
        | cons b st =>
          cases st with
          | nil => simp at d1
          | cons a' st =>
            have h1 := b1_lt b
            have h2 := b1_lt a'
            have e0 : wb (b :: a' :: st) = b1 b + 2 * (b1 a' + 2 * wb st) := rfl
            have e1 : nI (wb (b :: a' :: st)) &&& 1 = nI (b1 b) := by
              rw [v1, b32_and _ _ (by omega) (by omega), Nat.and_one_is_mod, e0]
              congr 1
              omega
            have e2 : nI (wb (b :: a' :: st)) >>> ((1 : Int32) &&& 31) = nI (b1 a' + 2 * wb st) := by
              rw [b32_sr _ (by omega), e0]
              congr 1
              omega
            have e3 : nI (b1 a' + 2 * wb st) &&& (-2) = nI (2 * wb st) := by
              rw [show (-2 : Int32) = nI 4294967294 from by decide, b32_and _ _ (by omega) (by omega), and_m2 h2 (by omega)]
            rw [show aoC (some none) = (101 : Int32) from rfl, if_neg (by decide), if_pos rfl, e1, e2, e3]
            have h3 := hih ((a' && b) :: st) d2 (by rw [List.length_cons] at hl ⊢; rw [List.length_cons] at hl; omega)
            cases b
            · rw [if_neg (by decide)]
              rw [show wb ((a' && false) :: st) = 2 * wb st by rw [Bool.and_false, wb_c, show b1 false = 0 from rfl]; omega] at h3
              exact h3
            · rw [if_pos (by decide)]
              rw [show wb ((a' && true) :: st) = b1 a' + 2 * wb st by rw [Bool.and_true]; rfl] at h3
              exact h3
      · obtain ⟨d1, d2⟩ := (show 2 ≤ st.length ∧ aoD (st.length - 1) B from hd)
        cases st with
        | nil => simp at d1
        | cons b st =>
          cases st with
          | nil => simp at d1
          | cons a' st =>
            have h1 := b1_lt b
            have h2 := b1_lt a'
            have e0 : wb (b :: a' :: st) = b1 b + 2 * (b1 a' + 2 * wb st) := rfl
            have e1 : nI (wb (b :: a' :: st)) &&& 1 = nI (b1 b) := by
              rw [v1, b32_and _ _ (by omega) (by omega), Nat.and_one_is_mod, e0]
              congr 1
              omega
            have e2 : nI (wb (b :: a' :: st)) >>> ((1 : Int32) &&& 31) = nI (b1 a' + 2 * wb st) := by
              rw [b32_sr _ (by omega), e0]
              congr 1
              omega
            have e3 : nI (b1 a' + 2 * wb st) ||| nI (b1 b) = nI (wb ((a' || b) :: st)) := by
              rw [b32_or _ _ (by omega) (by omega), or_1 h2 h1, wb_c]
              cases a' <;> cases b <;> rfl
            rw [show aoC (some (some none)) = (102 : Int32) from rfl, if_neg (by decide), if_neg (by decide), if_pos rfl, e1, e2, e3]
            exact hih ((a' || b) :: st) d2 (by rw [List.length_cons] at hl ⊢; rw [List.length_cons] at hl; omega)
      · obtain ⟨d1, ⟨⟨d2, d3⟩, d4⟩, d5⟩ := (show st.length < 15 ∧ ((1 ≤ f ∧ f ≤ 6) ∧ r ≤ 2) ∧ aoD (st.length + 1) B from hd)
        obtain ⟨-, -, c1, c2, c3⟩ := cd_fr f (by omega) r (by omega)
        have e1 : ∀ y, y < 2 → nI (wb st) <<< ((1 : Int32) &&& 31) ||| nI y = nI (y + 2 * wb st) := by
          intro y hy
          rw [b32_sl, b32_or _ _ (by omega) (by omega)]
          have := or_1 (b := 0) (c := y) (r := wb st) (by omega) hy
          rw [Nat.zero_add] at this
          rw [this]
          have : y = 0 ∨ y = 1 := by omega
          rcases this with rfl | rfl <;> rfl
        rw [show aoC (some (some (some (f, r, v)))) = nI (f * 3 + r) from rfl, if_neg c1, if_neg c2, if_neg c3, hc _ f r v hk d3 d4]
        simp only [bI]
        have h3 := hih (c f r v :: st) d5 (by rw [List.length_cons]; omega)
        cases hcv : c f r v
        · rw [hcv] at h3
          rw [bt_f (by decide), if_pos rfl, show nI (wb st) <<< ((1 : Int32) &&& 31) ||| 0 = nI (0 + 2 * wb st) from e1 0 (by omega)]
          show f_X0_isSoOf_b5 _ _ _ _ _ _ _ _ = some (s, bt ((List.foldl (aoS c) (c f r v :: st) B).headD false = true))
          rw [hcv]
          exact h3
        · rw [hcv] at h3
          rw [bt_t (by decide), if_neg (by decide), show nI (wb st) <<< ((1 : Int32) &&& 31) ||| 1 = nI (1 + 2 * wb st) from e1 1 (by omega)]
          show f_X0_isSoOf_b5 _ _ _ _ _ _ _ _ = some (s, bt ((List.foldl (aoS c) (c f r v :: st) B).headD false = true))
          rw [hcv]
          exact h3
theorem X0_so {s : St} {a o p n : Nat} {S K : Nat → Int} {h : Int} {GG : List (List Pt)} {L : List AO} (V : VP n S K) (W : WfG n S K h GG) (C : SerC s o p n S K h GG) (hA : AlC s a L) (hW : aoD 0 L) {j : Nat} {g : List Pt} (hj : GG[j]? = some g) {fu : Nat} (hfu : 1000 ≤ fu) :
    f_X0_isSoOf fu s a o (nI j) = some (s, bt (alc n S K h L g = true)) :=
  X0_so_loop hA (c := fun f r v => cmv (fvl n S K h g f) r v) (fun k f r v hk hf hr => X0_cmp V W C hA hk hf hr hj (by omega)) L [] fu [] rfl hW (by decide) (by have := hA.2.2.1.2; omega)
theorem X0_told {s : St} {a : Nat} {L : List AO} (hA : AlC s a L) (fu : Nat) : f_X0_isTold fu s a = some (s, bt (¬ L = [])) := by
  obtain ⟨⟨a1, a2, a3⟩, ⟨a4, a5⟩, ⟨a6, a7⟩, a8, a9⟩ := hA
  unfold f_X0_isTold f_X0_isTold_b12
  rw [if_neg a1, a6, show (0 : Int32) = nI 0 from rfl]
  cases L with
  | nil => rw [if_pos (by decide), bt_f (by simp)]; rfl
  | cons o L => rw [if_neg (fun q => by have := (ni_le (by omega) (by omega)).mp q; rw [List.length_cons] at this; omega), bt_t (by simp)]; rfl
