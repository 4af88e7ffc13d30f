/-! ===== the class: the next token ===== -/
theorem vn_lt (T : Nat → Nat) (N : Nat) {b : Nat} : ∀ (d p a : Nat), N - p = d → p ≤ N → b ≤ p → a < 10 ^ (p - b) → vn T N p a < 10 ^ (rn isDg T N p - b) := by
  intro d
  induction d with
  | zero => intro p a hd hp hb ha; rw [vn_e (by omega), rn_e (by omega)]; exact ha
  | succ d ih =>
    intro p a hd hp hb ha
    by_cases c : isDg (T p) = true
    · rw [vn_s (by omega) c, rn_s (by omega) c]
      refine ih (p + 1) _ (by omega) (by omega) (by omega) ?_
      have h9 : T p - 48 ≤ 9 := by
        unfold isDg at c
        rw [Bool.and_eq_true, decide_eq_true_iff, decide_eq_true_iff] at c
        omega
      have : p + 1 - b = (p - b) + 1 := by omega
      rw [this, Nat.pow_succ]
      omega
    · rw [vn_e (fun q => c q.2), rn_e (fun q => c q.2)]; exact ha
theorem ten7 {k : Nat} (h : k ≤ 7) : 10 ^ k ≤ 10000000 := Nat.le_trans (Nat.pow_le_pow_right (by decide) h) (by decide)
theorem dgi {b : Nat} (h : isDg b = true) : 48 ≤ b ∧ b ≤ 57 := by
  unfold isDg at h
  rw [Bool.and_eq_true, decide_eq_true_iff, decide_eq_true_iff] at h
  exact h
theorem sb_nI {b : Nat} (h : b < 128) : sb b = nI b := nu_ext (by rw [sbb_i (by omega), if_pos h, nu_nI (by omega)])
section LX2
variable {s : St} {fu N : Nat} {T : Nat → Nat}
theorem X7_nm (hN : N ≤ 600) {b0 : Nat} : ∀ (d p m : Nat) (s : St) (a : Nat), N - p = d → p ≤ N → d < m → Lay s → TpC s T N → gI s 7 1 1 = nI N → gI s 7 1 3 = nI p → gI s 7 1 2 = nI b0 → b0 ≤ p → (p - b0 ≤ 7 → gI s 7 1 5 = nI a ∧ a < 10 ^ (p - b0)) →
    ∃ s1, f_X7_readNumber_b10 fu m s 1 = some s1 ∧ TkF s s1 ∧ gI s1 7 1 3 = nI (rn isDg T N p) ∧ gI s1 7 1 2 = nI b0 ∧ gI s1 7 1 4 = gI s 7 1 4 ∧ (rn isDg T N p - b0 ≤ 7 → gI s1 7 1 5 = nI (vn T N p a)) ∧ (7 < rn isDg T N p - b0 → gI s1 7 1 5 = 2147483647) := by
  have e10 : ¬ (1 = 0) := by decide
  -- the end
  have fin : ∀ (p : Nat) (s : St) (a : Nat), p ≤ N → gI s 7 1 3 = nI p → gI s 7 1 2 = nI b0 → b0 ≤ p → (p - b0 ≤ 7 → gI s 7 1 5 = nI a ∧ a < 10 ^ (p - b0)) → ¬ (p < N ∧ isDg (T p) = true) →
      ∃ s1, f_X7_readNumber_b86 fu s 1 = some s1 ∧ TkF s s1 ∧ gI s1 7 1 3 = nI (rn isDg T N p) ∧ gI s1 7 1 2 = nI b0 ∧ gI s1 7 1 4 = gI s 7 1 4 ∧ (rn isDg T N p - b0 ≤ 7 → gI s1 7 1 5 = nI (vn T N p a)) ∧ (7 < rn isDg T N p - b0 → gI s1 7 1 5 = 2147483647) := by
    intro p s a hp h3 h2 hb hv hc
    rw [rn_e hc, vn_e hc]
    unfold f_X7_readNumber_b86 f_X7_readNumber_b106
    rw [if_neg e10, h3, h2, ni_sub hb (by omega)]
    by_cases c : p - b0 ≤ 7
    · rw [if_pos (show nI (p - b0) ≤ (7 : Int32) from (ni_le (a := p - b0) (b := 7) (by omega) (by omega)).mpr c)]
      exact ⟨s, rfl, TkF.rf s, h3, h2, rfl, fun _ => (hv c).1, fun q => by omega⟩
    · rw [if_neg (show ¬ nI (p - b0) ≤ (7 : Int32) from fun q => c ((ni_le (a := p - b0) (b := 7) (by omega) (by omega)).mp q))]
      exact ⟨sI s 7 1 5 2147483647, rfl, TkF.w s (by omega) (by omega) _, by rw [gI_sI, if_neg (by omega)]; exact h3, by rw [gI_sI, if_neg (by omega)]; exact h2, by rw [gI_sI, if_neg (by omega)], fun q => absurd q c, fun _ => by rw [gI_sI, if_pos ⟨rfl, rfl, rfl⟩]⟩
  intro d
  induction d with
  | zero =>
    intro p m s a hd hp hm hL hT h1 h3 h2 hb hv
    obtain ⟨m, rfl⟩ : ∃ m', m = m' + 1 := ⟨m - 1, by omega⟩
    unfold f_X7_readNumber_b10
    rw [if_neg e10, h1, h3, if_pos ((ni_le (by omega) (by omega)).mpr (by omega))]
    exact fin p s a hp h3 h2 hb hv (by omega)
  | succ d ih =>
    intro p m s a hd hp hm hL hT h1 h3 h2 hb hv
    obtain ⟨m, rfl⟩ : ∃ m', m = m' + 1 := ⟨m - 1, by omega⟩
    have b : inb (nI p) 600 = true := nu_inbn (by omega) (by omega)
    obtain ⟨t1, t2⟩ := hT p (by omega)
    have hnle : ¬ nI N ≤ nI p := fun q => by have := (ni_le (by omega) (by omega)).mp q; omega
    by_cases c : isDg (T p) = true
    · have hd9 := dgi c
      let v := gI s 7 1 5 * 10 + sb (T p) - 48
      have F : TkF s (sI (sI s 7 1 5 v) 7 1 3 (nI (p + 1))) := (TkF.w s (by omega) (by omega) _).tr (TkF.w _ (by omega) (by omega) _)
      obtain ⟨s1, y1, y2, y3, y4, y5, y6, y7⟩ := ih (p + 1) m (sI (sI s 7 1 5 v) 7 1 3 (nI (p + 1))) (a * 10 + (T p - 48)) (by omega) (by omega) (by omega) (F.lay hL) (hT.f F) (by rw [gI_sI, if_neg (by omega), gI_sI, if_neg (by omega)]; exact h1) (by rw [gI_sI, if_pos ⟨rfl, rfl, rfl⟩]) (by rw [gI_sI, if_neg (by omega), gI_sI, if_neg (by omega)]; exact h2) (by omega) (fun hq => by
        obtain ⟨v1, v2⟩ := hv (by omega)
        have hpw : p + 1 - b0 = (p - b0) + 1 := by omega
        have h6 : 10 ^ (p - b0) ≤ 1000000 := Nat.le_trans (Nat.pow_le_pow_right (by decide) (show p - b0 ≤ 6 by omega)) (by decide)
        refine ⟨?_, by rw [hpw, Nat.pow_succ]; omega⟩
        rw [gI_sI, if_neg (by omega), gI_sI, if_pos ⟨rfl, rfl, rfl⟩]
        show gI s 7 1 5 * 10 + sb (T p) - 48 = _
        rw [v1, sb_nI (by omega)]
        have t10 : (10 : Int32).toInt = 10 := rfl
        have t48 : (48 : Int32).toInt = 48 := rfl
        have na := nu_nI (n := a) (by omega)
        have nt := nu_nI (n := T p) (by omega)
        have q1 : (nI a * 10).toInt = a * 10 := by rw [nu_mul (by rw [na, t10]; omega) (by rw [na, t10]; omega), na, t10]
        have q2 : (nI a * 10 + nI (T p)).toInt = a * 10 + T p := by rw [nu_add (by rw [q1, nt]; omega) (by rw [q1, nt]; omega), q1, nt]
        exact nu_ext (by rw [nu_sub (by rw [q2, t48]; omega) (by rw [q2, t48]; omega), q2, t48, nu_nI (by omega)]; omega))
      refine ⟨s1, ?_, F.tr y2, by rw [rn_s (by omega) c]; exact y3, y4, by rw [y5, gI_sI, if_neg (by omega), gI_sI, if_neg (by omega)], by rw [rn_s (by omega) c, vn_s (by omega) c]; exact y6, by rw [rn_s (by omega) c]; exact y7⟩
      rw [← y1]
      obtain ⟨q1, q2⟩ := (sbb_dg t1).mpr c
      conv => lhs; unfold f_X7_readNumber_b10
      rw [if_neg e10, h1, h3, if_neg hnle, lr_7_1_0 hL, if_neg e10, ll_12_1 hL, if_neg (by rw [b]; decide), nu_ixn (by omega), t2, if_neg q1, if_neg (by rw [b]; decide), if_neg q2, if_neg (by rw [b]; decide)]
      simp only [lt]
      have : gI (sI s 7 1 5 (gI s 7 1 5 * 10 + sb (T p) - 48)) 7 1 3 + 1 = nI (p + 1) := by rw [gI_sI, if_neg (by omega), h3, nu_nIa]
      rw [this]
    · have hr := fin p s a hp h3 h2 hb hv (fun q => c q.2)
      unfold f_X7_readNumber_b10
      rw [if_neg e10, h1, h3, if_neg hnle, lr_7_1_0 hL, if_neg e10, ll_12_1 hL, if_neg (by rw [b]; decide), nu_ixn (by omega), t2]
      by_cases q1 : sb (T p) < 48
      · rw [if_pos q1]; exact hr
      · rw [if_neg q1, if_neg (by rw [b]; decide), if_pos (Decidable.byContradiction fun q2 => c ((sbb_dg t1).mp ⟨q1, q2⟩))]; exact hr
/-! signs -/
theorem ch_b : ∀ b, b < 256 → ((Int32.toUInt32 ((sb b) &&& 255) % 65536).toInt32) = nI b := by decide +kernel
theorem mk_b : ∀ b, b < 256 → (isMk b = true ↔ ∃ j, j < 7 ∧ sB 2 j = sb b) := by decide +kernel
theorem sr0 : ∀ n, n < 40 → nI n >>> ((0 : Int32) &&& 31) = nI n := by decide +kernel
theorem J_len {w : Nat} (hw : ¬ w = 0) (hl : sL w < 40) (s : St) : f_J0_length_8abf5 fu s w = some (s, nI (sL w)) := by
  have hb : byb 0 = true := by decide
  unfold f_J0_length_8abf5 f_J0_coder_7d493 f_J0_coder_7d493_b14
  rw [if_neg hw, if_neg (by decide), if_neg hw, if_neg (by rw [hb]; decide)]
  simp only [bI]
  rw [sr0 _ hl]
theorem nIb {b : Nat} (h : b < 4294967296) : (nI b).toBitVec.toNat = b := by
  unfold nI
  rw [Int32.toBitVec_ofNat', BitVec.toNat_ofNat]
  exact Nat.mod_eq_of_lt h
theorem J_lat {w : Nat} (hw : ¬ w = 0) (s : St) : f_J0_isLatin1_aae02 fu s w = some (s, 1) := by
  unfold f_J0_isLatin1_aae02 f_J0_isLatin1_aae02_b18
  rw [if_neg (by decide), if_neg hw, if_pos rfl, if_neg (by rw [zb1]; decide)]
theorem J_ice {b : Nat} (hb : b < 256) (s : St) : f_J1_canEncode_9a6ad fu s (nI b) = some (s, 1) := by
  have h255 : (255 : Int32).toInt = 255 := rfl
  have e := nu_nI (n := b) (by omega)
  unfold f_J1_canEncode_9a6ad f_J1_canEncode_9a6ad_b16
  rw [if_neg (fun q => by rw [nu_lt, e, nu_0] at q; omega), if_neg (fun q => by rw [nu_lt, e, h255] at q; omega), if_neg (by rw [zb1]; decide)]
theorem J_i8 {b : Nat} (hb : b < 256) : (Int32.toInt8 (nI b)).toInt32 = sb b := by
  rw [m8, nIb (by omega), Nat.mod_eq_of_lt hb]
theorem J_il {b : Nat} (s : St) : ∀ (d i m : Nat), i + d = 7 → d < m → ∃ r : Int32, f_J1_indexOfChar_4cfef_b7 fu m s 2 (nI 7) (sb b) (nI i) = some (s, r) ∧ (r < 0 ↔ ∀ j, i ≤ j → j < 7 → ¬ sB 2 j = sb b) := by
  have e20 : ¬ (2 = 0) := by decide
  have hs2 : sL 2 = 7 := rfl
  intro d
  induction d with
  | zero =>
    intro i m hi hm
    obtain ⟨m, rfl⟩ : ∃ m', m = m' + 1 := ⟨m - 1, by omega⟩
    refine ⟨-1, ?_, ⟨fun _ j h1 h2 => by omega, fun _ => by decide⟩⟩
    unfold f_J1_indexOfChar_4cfef_b7
    rw [if_pos ((ni_le (a := 7) (b := i) (by omega) (by omega)).mpr (by omega))]
  | succ d ih =>
    intro i m hi hm
    obtain ⟨m, rfl⟩ : ∃ m', m = m' + 1 := ⟨m - 1, by omega⟩
    have b7 : inb (nI i) 7 = true := nu_inbn (by omega) (by omega)
    have hnle : ¬ nI 7 ≤ nI i := fun q => by have := (ni_le (a := 7) (b := i) (by omega) (by omega)).mp q; omega
    by_cases c : sB 2 i = sb b
    · refine ⟨nI i, ?_, ⟨fun q => by rw [nu_lt, nu_nI (by omega), nu_0] at q; omega, fun q => absurd c (q i (Nat.le_refl _) (by omega))⟩⟩
      unfold f_J1_indexOfChar_4cfef_b7
      rw [if_neg hnle, if_neg e20, hs2, if_neg (by rw [b7]; decide), nu_ixn (by omega), if_pos c]
    · obtain ⟨r, y1, y2⟩ := ih (i + 1) m (by omega) (by omega)
      refine ⟨r, ?_, y2.trans ⟨fun q j h1 h2 => ?_, fun q j h1 h2 => q j (by omega) h2⟩⟩
      · rw [← y1]
        conv => lhs; unfold f_J1_indexOfChar_4cfef_b7
        rw [if_neg hnle, if_neg e20, hs2, if_neg (by rw [b7]; decide), nu_ixn (by omega), if_neg c]
        simp only [lt, nu_nIa]
      · by_cases e : j = i
        · rw [e]; exact c
        · exact q j (by omega) h2
theorem J_io {b : Nat} (hb : b < 256) (s : St) {r : Int32} (y1 : f_J1_indexOfChar_4cfef_b7 fu fu s 2 (nI 7) (sb b) (nI 0) = some (s, r)) : f_J0_indexOf_0f7a4 fu s 2 (nI b) = some (s, r) := by
  have e20 : ¬ (2 = 0) := by decide
  have hs2 : sL 2 = 7 := rfl
  have hlen := J_len (fu := fu) (w := 2) (by decide) (by decide) s
  rw [hs2] at hlen
  have m1 : mx 0 0 = 0 := mx_self 0
  have m2 : mn (nI 7) (nI 7) = nI 7 := mn_self _
  have h07 : (0 : Int32) < nI 7 := by decide
  have h10 : ¬ (1 : Int32) = 0 := by decide
  unfold f_J0_indexOf_0f7a4 f_J0_indexOf_7cf53 f_J0_indexOf_7cf53_b36 f_J1_indexOf_4cfef f_J1_indexOfChar_4cfef
  rw [J_lat e20 s]
  simp only [bI, h10, reduceIte, hlen, J_ice hb s, J_max, J_min, m1, e20, hs2, m2, h07, lt, J_i8 hb]
  rw [show (0 : Int32) = nI 0 from rfl, y1]
theorem J_iof {b : Nat} (hb : b < 256) (s : St) (hfu : 100 ≤ fu) : ∃ r : Int32, f_J0_indexOf_0f7a4 fu s 2 (nI b) = some (s, r) ∧ (r < 0 ↔ isMk b = false) := by
  obtain ⟨r, y1, y2⟩ := J_il (fu := fu) (b := b) s 7 0 fu rfl (by omega)
  refine ⟨r, J_io hb s y1, y2.trans ⟨fun q => ?_, fun q j h1 h2 e => ?_⟩⟩
  · cases hm : isMk b with
    | false => rfl
    | true =>
      obtain ⟨j, h1, h2⟩ := (mk_b b hb).mp hm
      exact absurd h2 (q j (Nat.zero_le _) h1)
  · have := (mk_b b hb).mpr ⟨j, h2, e⟩
    rw [q] at this
    exact absurd this (by decide)
theorem X7_next (hN : N ≤ 600) {p : Nat} (hp : p ≤ N) (hL : Lay s) (hT : TpC s T N) (h1 : gI s 7 1 1 = nI N) (h3 : gI s 7 1 3 = nI p) (hfu : 1000 ≤ fu) : ∃ s', f_X7_next fu s 1 = some s' ∧ TkF s s' ∧ LxC s' (lex T N p) := by
  have e10 : ¬ (1 = 0) := by decide
  obtain ⟨s0, y1, y2, y3⟩ := X7_sk (fu := fu) hN (N - p) p fu s rfl hp (by omega) hL hT h1 h3
  obtain ⟨r1, r2, r3, r4⟩ := rn_p isSp T N (N - p) p rfl hp
  unfold f_X7_next lex
  rw [y1]
  generalize rn isSp T N p = b at y3 r1 r2 r3 r4
  have F1 : TkF s0 (sI s0 7 1 2 (nI b)) := TkF.w s0 (by omega) (by omega) _
  have hL1 := F1.lay (y2.lay hL)
  have hT1 := (hT.f y2).f F1
  have g1 : gI (sI s0 7 1 2 (nI b)) 7 1 1 = nI N := by rw [gI_sI, if_neg (by omega), y2.2 7 1 1 (by omega)]; exact h1
  have g2 : gI (sI s0 7 1 2 (nI b)) 7 1 2 = nI b := by rw [gI_sI, if_pos ⟨rfl, rfl, rfl⟩]
  have g3 : gI (sI s0 7 1 2 (nI b)) 7 1 3 = nI b := by rw [gI_sI, if_neg (by omega)]; exact y3
  have F0 := y2.tr F1
  unfold f_X7_next_b52 lexB
  rw [if_neg e10, y3]
  simp only [lt]
  generalize sI s0 7 1 2 (nI b) = s1 at F1 F0 hL1 hT1 g1 g2 g3
  rw [g1, g2]
  by_cases hbN : b < N
  · obtain ⟨t1, t2⟩ := hT1 b hbN
    have bb : inb (nI b) 600 = true := nu_inbn (by omega) (by omega)
    rw [if_pos ((ni_lt (by omega) (by omega)).mpr hbN), if_pos hbN, lr_7_1_0 hL1, if_neg e10, ll_12_1 hL1, if_neg (by rw [bb]; decide), nu_ixn (by omega), t2]
    by_cases cL : isLe (T b) = true
    · obtain ⟨q1, q2⟩ := (sbb_le t1).mpr cL
      rw [if_neg q1, if_neg (by rw [bb]; decide), if_neg q2, if_pos cL]
      have F2 : TkF s1 (sI s1 7 1 4 1) := TkF.w s1 (by omega) (by omega) _
      obtain ⟨s2, z1, z2, z3, z4, z5⟩ := X7_wd (fu := fu) hN (N - b) b fu (sI s1 7 1 4 1) rfl (by omega) (by omega) (F2.lay hL1) (hT1.f F2) (by rw [gI_sI, if_neg (by omega)]; exact g1) (by rw [gI_sI, if_neg (by omega)]; exact g3)
      refine ⟨s2, ?_, (F0.tr F2).tr z2, by rw [z4, gI_sI, if_neg (by omega)]; exact g2, z3, by rw [z5, gI_sI, if_pos ⟨rfl, rfl, rfl⟩]; rfl, fun q => absurd q (by show ¬ (1 = 2); decide)⟩
      unfold f_X7_readWord
      rw [if_neg e10]
      simp only [lt]
      rw [z1]
      rfl
    · rw [if_neg cL]
      have h114 : ∀ (X Y : Option St), X = Y → (if sb (T b) < 97 then X else if inb (nI b) 600 = false then none else if 122 < sb (T b) then X else bV (f_X7_readWord fu s1 1) fun s18 => f_X7_next_b190 fu s18) = Y := fun X Y hXY => by
        by_cases q1 : sb (T b) < 97
        · rw [if_pos q1]; exact hXY
        · rw [if_neg q1, if_neg (by rw [bb]; decide), if_pos (Decidable.byContradiction fun q2 => cL ((sbb_le t1).mp ⟨q1, q2⟩))]; exact hXY
      by_cases cD : isDg (T b) = true
      · rw [if_pos cD]
        obtain ⟨q1, q2⟩ := (sbb_dg t1).mpr cD
        have F2 : TkF s1 (sI (sI s1 7 1 4 2) 7 1 5 0) := (TkF.w s1 (by omega) (by omega) _).tr (TkF.w _ (by omega) (by omega) _)
        obtain ⟨s2, z1, z2, z3, z4, z5, z6, z7⟩ := X7_nm (fu := fu) hN (b0 := b) (N - b) b fu (sI (sI s1 7 1 4 2) 7 1 5 0) 0 rfl (by omega) (by omega) (F2.lay hL1) (hT1.f F2) (by rw [gI_sI, if_neg (by omega), gI_sI, if_neg (by omega)]; exact g1) (by rw [gI_sI, if_neg (by omega), gI_sI, if_neg (by omega)]; exact g3) (by rw [gI_sI, if_neg (by omega), gI_sI, if_neg (by omega)]; exact g2) (Nat.le_refl _) (fun _ => ⟨by rw [gI_sI, if_pos ⟨rfl, rfl, rfl⟩]; rfl, by rw [Nat.sub_self]; decide⟩)
        refine ⟨s2, h114 _ _ ?_, (F0.tr F2).tr z2, z4, z3, by rw [z5, gI_sI, if_neg (by omega), gI_sI, if_pos ⟨rfl, rfl, rfl⟩]; rfl, fun _ => ⟨z6, z7⟩⟩
        unfold f_X7_next_b114
        rw [if_neg e10, lr_7_1_0 hL1, if_neg e10, g2, ll_12_1 hL1, if_neg (by rw [bb]; decide), nu_ixn (by omega), t2, if_neg q1, if_neg (by rw [bb]; decide), if_neg q2]
        unfold f_X7_readNumber
        rw [if_neg e10]
        simp only [lt]
        rw [z1]
        rfl
      · rw [if_neg cD]
        obtain ⟨r, w1, w2⟩ := J_iof (fu := fu) t1 s1 (by omega)
        have h149 : f_X7_next_b149 fu s1 1 = some (sI (sI s1 7 1 4 (nI (if isMk (T b) = true then 3 else 4))) 7 1 3 (nI (b + 1))) := by
          have h177 : ∀ v, f_X7_next_b177 fu s1 1 v 1 = some (sI (sI s1 7 1 4 v) 7 1 3 (nI (b + 1))) := fun v => by
            unfold f_X7_next_b177 f_X7_next_b190
            rw [if_neg e10]
            simp only [lt]
            rw [if_neg e10, gI_sI, if_neg (by omega), g2, nu_nIa]
          unfold f_X7_next_b149
          rw [if_neg e10, lr_7_1_0 hL1, if_neg e10, g2, ll_12_1 hL1, if_neg (by rw [bb]; decide), nu_ixn (by omega), t2, ch_b _ t1, w1]
          simp only [bI]
          cases hm : isMk (T b) with
          | false => rw [if_pos (w2.mpr hm), h177]; rfl
          | true => rw [if_neg (fun q => by have := w2.mp q; rw [hm] at this; exact absurd this (by decide)), h177]; rfl
        refine ⟨_, h114 _ _ (?_ : f_X7_next_b114 fu s1 1 = some (sI (sI s1 7 1 4 (nI (if isMk (T b) = true then 3 else 4))) 7 1 3 (nI (b + 1)))), F0.tr ((TkF.w s1 (by omega) (by omega) _).tr (TkF.w _ (by omega) (by omega) _)), by rw [gI_sI, if_neg (by omega), gI_sI, if_neg (by omega)]; exact g2, by rw [gI_sI, if_pos ⟨rfl, rfl, rfl⟩], by rw [gI_sI, if_neg (by omega), gI_sI, if_pos ⟨rfl, rfl, rfl⟩], fun q => ?_⟩
        · unfold f_X7_next_b114
          rw [if_neg e10, lr_7_1_0 hL1, if_neg e10, g2, ll_12_1 hL1, if_neg (by rw [bb]; decide), nu_ixn (by omega), t2]
          by_cases q1 : sb (T b) < 48
          · rw [if_pos q1]; exact h149
          · rw [if_neg q1, if_neg (by rw [bb]; decide), if_pos (Decidable.byContradiction fun q2 => cD ((sbb_dg t1).mp ⟨q1, q2⟩))]; exact h149
        · have : (if isMk (T b) = true then 3 else 4) = 2 := q
          split at this <;> omega
  · rw [if_neg (fun q => hbN ((ni_lt (by omega) (by omega)).mp q)), if_neg hbN]
    refine ⟨sI s1 7 1 4 0, rfl, F0.tr (TkF.w s1 (by omega) (by omega) _), by rw [gI_sI, if_neg (by omega)]; exact g2, by rw [gI_sI, if_neg (by omega)]; exact g3, by rw [gI_sI, if_pos ⟨rfl, rfl, rfl⟩]; rfl, fun q => absurd q (by show ¬ (0 = 2); decide)⟩
end LX2
