/-! ===== words and signs ===== -/
def wv (T : Nat → Nat) (k : Tk) : List Int32 := (List.range (tE k - tB k)).map (fun i => nI (T (tB k + i)))
def wl (w : Nat) : List Int32 := strB.getD (w - 1) []
abbrev wdQ (T : Nat → Nat) (k : Tk) (w : Nat) : Prop := tK k = 1 ∧ wv T k = wl w
theorem sL_e (w : Nat) : sL w = (wl w).length := rfl
theorem sB_e (w j : Nat) : sB w j = (wl w).getD j 0 := rfl
theorem wv_iff (T : Nat → Nat) (k : Tk) (w : Nat) : wv T k = wl w ↔ (tE k - tB k = sL w ∧ ∀ j, j < sL w → nI (T (tB k + j)) = sB w j) := by
  have hl : (wv T k).length = tE k - tB k := by unfold wv; rw [List.length_map, List.length_range]
  have hg : ∀ j, j < tE k - tB k → (wv T k)[j]? = some (nI (T (tB k + j))) := fun j h => by
    unfold wv
    rw [List.getElem?_map, List.getElem?_range h]
    rfl
  have hb : ∀ j, j < sL w → (wl w)[j]? = some (sB w j) := fun j h => by
    rw [sB_e, List.getD_eq_getElem?_getD, List.getElem?_eq_getElem (by rw [sL_e] at h; exact h)]
    rfl
  constructor
  · intro h
    have h1 : tE k - tB k = sL w := by rw [← hl, h]; rfl
    refine ⟨h1, fun j hj => ?_⟩
    have := hb j hj
    rw [← h, hg j (by omega)] at this
    exact Option.some.inj this
  · intro h
    refine List.ext_getElem? (fun j => ?_)
    by_cases c : j < sL w
    · rw [hg j (by omega), hb j c, h.2 j c]
    · rw [List.getElem?_eq_none (by rw [hl]; omega), List.getElem?_eq_none (by rw [sL_e] at c; omega)]
theorem wOK : ∀ w, w < 39 → ∀ j, j < sL w → ((Int32.toUInt32 ((sB w j) &&& 255) % 65536).toInt32 = sB w j ∧ chb (sB w j) = true) ∧ ∃ c, c < 128 ∧ sB w j = nI c := by decide +kernel
theorem wLn : ∀ w, w < 39 → sL w < 40 := by decide +kernel
section WRD
variable {s : St} {fu N : Nat} {T : Nat → Nat}
theorem J_char {w : Nat} (hw : ¬ w = 0) (hw2 : w < 39) {i : Nat} (hi : i < sL w) (s : St) : f_J0_charAt_5068e fu s w (nI i) = some (s, sB w i) := by
  obtain ⟨⟨a1, a2⟩, -⟩ := wOK w hw2 i hi
  have hl := wLn w hw2
  have b : inb (nI i) (sL w) = true := nu_inbn hi (by omega)
  have h1 : ¬ nI i < 0 := fun q => by rw [nu_lt, nu_nI (by omega), nu_0] at q; omega
  have h2 : nI i < nI (sL w) := (ni_lt (by omega) (by omega)).mpr hi
  unfold f_J0_charAt_5068e f_J1_charAt_3b067 f_J0_checkIndex_df160 f_J3_checkIndex_8e157
  rw [if_neg hw, J_lat hw s]
  simp only [bI, bV, show ¬ (1 : Int32) = 0 from by decide, reduceIte, hw, h1, h2, b, Bool.true_eq_false, nu_ixn (show i < 2147483648 by omega), a1, a2]
theorem sb_c {t c : Nat} (ht : t < 256) (hc : c < 128) : sb t = nI c ↔ nI t = nI c := by
  rw [ni_eq (by omega) (by omega), nu_eq, sbb_i ht, nu_nI (by omega)]
  split <;> omega
theorem X7_iw_loop (hL : Lay s) (hT : TpC s T N) (hN : N ≤ 600) {k : Tk} (hk : LxC s k) {w : Nat} (hw : ¬ w = 0) (hw2 : w < 39) (hlen : tE k - tB k = sL w) (hbe : tB k ≤ tE k) (heN : tE k ≤ N) : ∀ (d i m : Nat), i + d = sL w → d < m → f_X7_isWord_b28 fu m s 1 w (nI i) = some (s, bt (∀ j, j < sL w → i ≤ j → nI (T (tB k + j)) = sB w j)) := by
  have e10 : ¬ (1 = 0) := by decide
  have hl := wLn w hw2
  have hJl := J_len (fu := fu) hw hl s
  intro d
  induction d with
  | zero =>
    intro i m hi hm
    obtain ⟨m, rfl⟩ : ∃ m', m = m' + 1 := ⟨m - 1, by omega⟩
    unfold f_X7_isWord_b28
    rw [if_neg hw, hJl]
    simp only [bI]
    rw [if_pos ((ni_le (by omega) (by omega)).mpr (by omega)), if_neg (by rw [zb1]; decide), bt_t (fun j h2 h1 => by omega)]
  | succ d ih =>
    intro i m hi hm
    obtain ⟨m, rfl⟩ : ∃ m', m = m' + 1 := ⟨m - 1, by omega⟩
    have hi2 : i < sL w := by omega
    obtain ⟨-, c, hc, hce⟩ := wOK w hw2 i hi2
    obtain ⟨t1, t2⟩ := hT (tB k + i) (by omega)
    have b : inb (nI (tB k + i)) 600 = true := nu_inbn (by omega) (by omega)
    conv => lhs; unfold f_X7_isWord_b28
    rw [if_neg hw, hJl]
    simp only [bI]
    rw [if_neg (fun q => by have := (ni_le (by omega) (by omega)).mp q; omega), if_neg e10, lr_7_1_0 hL, if_neg e10, hk.1, ni_add (by omega), ll_12_1 hL, if_neg (by rw [b]; decide), J_char hw hw2 hi2 s]
    simp only
    rw [nu_ixn (by omega), t2]
    by_cases c1 : nI (T (tB k + i)) = sB w i
    · rw [if_pos (by rw [hce] at c1 ⊢; exact (sb_c t1 hc).mpr c1)]
      simp only [lt, nu_nIa]
      rw [ih (i + 1) m (by omega) (by omega)]
      congr 2
      unfold bt
      by_cases c2 : ∀ j, j < sL w → i ≤ j → nI (T (tB k + j)) = sB w j
      · rw [if_pos c2, if_pos (fun j h2 h1 => c2 j h2 (by omega))]
      · rw [if_neg c2, if_neg (fun q => c2 (fun j h2 h1 => by
          by_cases e : j = i
          · rw [e]; exact c1
          · exact q j h2 (by omega)))]
    · rw [if_neg (fun q => c1 (by rw [hce] at q ⊢; exact (sb_c t1 hc).mp q)), if_neg (by rw [zb0]; decide), bt_f (fun q => c1 (q i hi2 (Nat.le_refl _)))]
theorem X7_iw (hL : Lay s) (hT : TpC s T N) (hN : N ≤ 600) {k : Tk} (hk : LxC s k) {w : Nat} (hw : ¬ w = 0) (hw2 : w < 39) (hbe : tB k ≤ tE k) (heN : tE k ≤ N) (hkk : tK k ≤ 4) (hfu : 100 ≤ fu) : f_X7_isWord fu s 1 w = some (s, bt (wdQ T k w)) := by
  have e10 : ¬ (1 = 0) := by decide
  have hl := wLn w hw2
  obtain ⟨k1, k2, k3, -⟩ := id hk
  have hb24 : f_X7_isWord_b24 fu s = some (s, 0) := by
    unfold f_X7_isWord_b24
    rw [if_neg (by rw [zb0]; decide)]
  unfold f_X7_isWord
  rw [if_neg e10, k3]
  by_cases c : tK k = 1
  · rw [if_pos (show nI (tK k) = (1 : Int32) from by rw [c]; rfl), if_neg hw, J_len hw hl s]
    simp only [bI]
    rw [k1, k2, ni_sub hbe (by omega)]
    by_cases c2 : tE k - tB k = sL w
    · rw [if_pos (by rw [c2]), show (0 : Int32) = nI 0 from rfl, X7_iw_loop hL hT hN hk hw hw2 c2 hbe heN (sL w) 0 fu (by omega) (by omega)]
      congr 2
      unfold bt
      by_cases c3 : wdQ T k w
      · rw [if_pos c3, if_pos (fun j h2 _ => ((wv_iff T k w).mp c3.2).2 j h2)]
      · rw [if_neg c3, if_neg (fun q => c3 ⟨c, (wv_iff T k w).mpr ⟨c2, fun j h2 => q j h2 (Nat.zero_le _)⟩⟩)]
    · rw [if_neg (fun q => c2 ((ni_eq (by omega) (by omega)).mp q)), hb24, bt_f (fun q => c2 ((wv_iff T k w).mp q.2).1)]
  · rw [if_neg (show ¬ nI (tK k) = (1 : Int32) from fun q => c ((ni_eq (b := 1) (by omega) (by omega)).mp q)), hb24, bt_f (fun q => c q.1)]
/-- a sign -/
abbrev sgQ (T : Nat → Nat) (k : Tk) (c : Nat) : Prop := tK k = 3 ∧ T (tB k) = c
theorem X7_is (hL : Lay s) (hT : TpC s T N) (hN : N ≤ 600) {k : Tk} (hk : LxC s k) {c : Nat} (hc : c < 128) (hbN : tK k = 3 → tB k < N) (hkk : tK k ≤ 4) : f_X7_isSign fu s 1 (nI c) = some (s, bt (sgQ T k c)) := by
  have e10 : ¬ (1 = 0) := by decide
  obtain ⟨k1, k2, k3, -⟩ := id hk
  unfold f_X7_isSign f_X7_isSign_b25 f_X7_isSign_b26
  rw [if_neg e10, k3]
  by_cases c1 : tK k = 3
  · have hb := hbN c1
    have b : inb (nI (tB k)) 600 = true := nu_inbn (by omega) (by omega)
    obtain ⟨t1, t2⟩ := hT (tB k) hb
    rw [if_pos (show nI (tK k) = (3 : Int32) from by rw [c1]; rfl), lr_7_1_0 hL, if_neg e10, k1, ll_12_1 hL, if_neg (by rw [b]; decide), nu_ixn (by omega), t2]
    by_cases c2 : T (tB k) = c
    · rw [if_pos (by rw [c2]; exact sb_nI hc), if_neg (by rw [zb1]; decide), bt_t ⟨c1, c2⟩]
    · rw [if_neg (fun q => c2 ((ni_eq (by omega) (by omega)).mp ((sb_c t1 hc).mp q))), if_neg (by rw [zb0]; decide), bt_f (fun q => c2 q.2)]
  · rw [if_neg (show ¬ nI (tK k) = (3 : Int32) from fun q => c1 ((ni_eq (b := 3) (by omega) (by omega)).mp q)), if_neg (by rw [zb0]; decide), bt_f (fun q => c1 q.1)]
/-! the reference's -/
theorem X9_is0 {w : Nat} (hfu : 1 ≤ fu) : f_X9_is_b35 fu s 1 w = some (s, 0) := by
  obtain ⟨m, rfl⟩ : ∃ m, fu = m + 1 := ⟨fu - 1, by omega⟩
  unfold f_X9_is_b35 f_X9_is_b36 f_X9_is_b39 f_X9_is_b82
  rw [if_pos rfl, if_neg (by rw [zb0]; decide)]
theorem X9_iw_loop (hL : Lay s) (hT : TpM s T N) (hN : N ≤ 600) {k : Tk} (hk : LxM s k) {w : Nat} (hw : ¬ w = 0) (hw2 : w < 39) (hlen : tE k - tB k = sL w) (hbe : tB k ≤ tE k) (heN : tE k ≤ N) : ∀ (d i m : Nat), i + d = sL w → d + 1 < m → f_X9_is_b39 fu m s 1 w 1 (nI i) = some (s, bt (∀ j, j < sL w → i ≤ j → nI (T (tB k + j)) = sB w j)) := by
  have e10 : ¬ (1 = 0) := by decide
  have hl := wLn w hw2
  have hJl := J_len (fu := fu) hw hl s
  have h1 : ¬ (1 : Int32) = 0 := by decide
  intro d
  induction d with
  | zero =>
    intro i m hi hm
    obtain ⟨m, rfl⟩ : ∃ m', m = m' + 1 := ⟨m - 1, by omega⟩
    unfold f_X9_is_b39 f_X9_is_b82
    rw [if_neg h1, if_neg hw, hJl]
    simp only [bI]
    rw [if_pos ((ni_le (by omega) (by omega)).mpr (by omega)), if_neg (by rw [zb1]; decide), bt_t (fun j h2 h1 => by omega)]
  | succ d ih =>
    intro i m hi hm
    obtain ⟨m, rfl⟩ : ∃ m', m = m' + 1 := ⟨m - 1, by omega⟩
    have hi2 : i < sL w := by omega
    obtain ⟨t1, t2⟩ := hT (tB k + i) (by omega)
    have b : inb (nI (tB k + i)) 600 = true := nu_inbn (by omega) (by omega)
    conv => lhs; unfold f_X9_is_b39
    rw [if_neg h1, if_neg hw, hJl]
    simp only [bI]
    rw [if_neg (fun q => by have := (ni_le (by omega) (by omega)).mp q; omega), J_char hw hw2 hi2 s]
    simp only
    rw [if_neg e10, lr_9_1_23 hL, if_neg (by decide), hk.1, ni_add (by omega), ll_10_30 hL, if_neg (by rw [b]; decide), nu_ixn (by omega), t2]
    by_cases c1 : nI (T (tB k + i)) = sB w i
    · rw [if_pos c1.symm]
      unfold f_X9_is_b75
      simp only [lt, nu_nIa]
      rw [ih (i + 1) m (by omega) (by omega)]
      congr 2
      unfold bt
      by_cases c2 : ∀ j, j < sL w → i ≤ j → nI (T (tB k + j)) = sB w j
      · rw [if_pos c2, if_pos (fun j h2 h1 => c2 j h2 (by omega))]
      · rw [if_neg c2, if_neg (fun q => c2 (fun j h2 h1 => by
          by_cases e : j = i
          · rw [e]; exact c1
          · exact q j h2 (by omega)))]
    · rw [if_neg (fun q => c1 q.symm), bt_f (fun q => c1 (q i hi2 (Nat.le_refl _)))]
      unfold f_X9_is_b75
      simp only [lt]
      obtain ⟨m, rfl⟩ : ∃ m', m = m' + 1 := ⟨m - 1, by omega⟩
      unfold f_X9_is_b39 f_X9_is_b82
      rw [if_pos rfl, if_neg (by rw [zb0]; decide)]
theorem X9_iw (hL : Lay s) (hT : TpM s T N) (hN : N ≤ 600) {k : Tk} (hk : LxM s k) {w : Nat} (hw : ¬ w = 0) (hw2 : w < 39) (hbe : tB k ≤ tE k) (heN : tE k ≤ N) (hkk : tK k ≤ 4) (hfu : 100 ≤ fu) : f_X9_is fu s 1 w = some (s, bt (gI s 9 1 31 = 0 ∧ wdQ T k w)) := by
  have e10 : ¬ (1 = 0) := by decide
  have hl := wLn w hw2
  obtain ⟨k1, k2, k2', k3, -⟩ := id hk
  unfold f_X9_is
  rw [if_neg e10]
  by_cases hz : gI s 9 1 31 = 0
  · rw [if_pos hz, k3]
    by_cases c : tK k = 1
    · rw [if_pos (show nI (tK k) = (1 : Int32) from by rw [c]; rfl), if_neg hw, J_len hw hl s]
      simp only [bI]
      rw [k1, k2, ni_sub hbe (by omega)]
      by_cases c2 : tE k - tB k = sL w
      · rw [if_pos (by rw [c2])]
        unfold f_X9_is_b36
        rw [show (0 : Int32) = nI 0 from rfl, X9_iw_loop hL hT hN hk hw hw2 c2 hbe heN (sL w) 0 fu (by omega) (by omega)]
        congr 2
        unfold bt
        by_cases c3 : wdQ T k w
        · rw [if_pos (fun j h2 _ => ((wv_iff T k w).mp c3.2).2 j h2), if_pos ⟨hz, c3⟩]
        · rw [if_neg (fun q => c3 ⟨c, (wv_iff T k w).mpr ⟨c2, fun j h2 => q j h2 (Nat.zero_le _)⟩⟩), if_neg (fun q => c3 q.2)]
      · rw [if_neg (fun q => c2 ((ni_eq (by omega) (by omega)).mp q.symm)), X9_is0 (by omega), bt_f (fun q => c2 ((wv_iff T k w).mp q.2.2).1)]
    · rw [if_neg (show ¬ nI (tK k) = (1 : Int32) from fun q => c ((ni_eq (b := 1) (by omega) (by omega)).mp q)), X9_is0 (by omega), bt_f (fun q => c q.2.1)]
  · rw [if_neg hz, X9_is0 (by omega), bt_f (fun q => hz q.1)]
theorem X9_im (hL : Lay s) (hT : TpM s T N) (hN : N ≤ 600) {k : Tk} (hk : LxM s k) {c : Nat} (hc : c < 128) (hbN : tK k = 3 → tB k < N) (hkk : tK k ≤ 4) : f_X9_isMarked fu s 1 (nI c) = some (s, bt (gI s 9 1 31 = 0 ∧ sgQ T k c)) := by
  have e10 : ¬ (1 = 0) := by decide
  obtain ⟨k1, k2, k2', k3, -⟩ := id hk
  unfold f_X9_isMarked f_X9_isMarked_b32 f_X9_isMarked_b33
  rw [if_neg e10]
  by_cases hz : gI s 9 1 31 = 0
  · rw [if_pos hz, k3]
    by_cases c1 : tK k = 3
    · have hb := hbN c1
      have b : inb (nI (tB k)) 600 = true := nu_inbn (by omega) (by omega)
      obtain ⟨t1, t2⟩ := hT (tB k) hb
      rw [if_pos (show nI (tK k) = (3 : Int32) from by rw [c1]; rfl), lr_9_1_23 hL, if_neg (by decide), k1, ll_10_30 hL, if_neg (by rw [b]; decide), nu_ixn (by omega), t2]
      by_cases c2 : T (tB k) = c
      · rw [if_pos (by rw [c2]), if_neg (by rw [zb1]; decide), bt_t ⟨hz, c1, c2⟩]
      · rw [if_neg (fun q => c2 ((ni_eq (by omega) (by omega)).mp q)), if_neg (by rw [zb0]; decide), bt_f (fun q => c2 q.2.2)]
    · rw [if_neg (show ¬ nI (tK k) = (3 : Int32) from fun q => c1 ((ni_eq (b := 3) (by omega) (by omega)).mp q)), if_neg (by rw [zb0]; decide), bt_f (fun q => c1 q.2.1)]
  · rw [if_neg hz, if_neg (by rw [zb0]; decide), bt_f (fun q => hz q.1)]
end WRD
/-! what a token is -/
theorem lex_w (T : Nat → Nat) (N : Nat) {p : Nat} (hp : p ≤ N) : p ≤ tB (lex T N p) ∧ tB (lex T N p) ≤ tE (lex T N p) ∧ tE (lex T N p) ≤ N ∧ tK (lex T N p) ≤ 4 ∧ (¬ tK (lex T N p) = 0 → tB (lex T N p) < tE (lex T N p)) ∧ (tK (lex T N p) = 0 → tB (lex T N p) = N) ∧ (tK (lex T N p) = 1 → isLe (T (tB (lex T N p))) = true ∧ (tE (lex T N p) < N → isLe (T (tE (lex T N p))) = false)) ∧ (tK (lex T N p) = 2 → tE (lex T N p) - tB (lex T N p) ≤ 7 → tV (lex T N p) < 10000000) := by
  obtain ⟨r1, r2, r3, -⟩ := rn_p isSp T N (N - p) p rfl hp
  unfold lex
  generalize rn isSp T N p = b at r1 r2 r3
  unfold lexB
  by_cases c : b < N
  · rw [if_pos c]
    by_cases cL : isLe (T b) = true
    · rw [if_pos cL]
      obtain ⟨q1, q2, q3, q4⟩ := rn_p isLe T N (N - b) b rfl r2
      have : b + 1 ≤ rn isLe T N b := by
        rw [rn_s c cL]
        exact (rn_p isLe T N (N - (b + 1)) (b + 1) rfl (by omega)).1
      exact ⟨r1, q1, q2, by show 1 ≤ 4; omega, fun _ => by show b < rn isLe T N b; omega, fun q => absurd q (by show ¬ (1 = 0); decide), fun _ => ⟨cL, q3⟩, fun q => absurd q (by show ¬ (1 = 2); decide)⟩
    · rw [if_neg cL]
      by_cases cD : isDg (T b) = true
      · rw [if_pos cD]
        obtain ⟨q1, q2, q3, q4⟩ := rn_p isDg T N (N - b) b rfl r2
        have : b + 1 ≤ rn isDg T N b := by
          rw [rn_s c cD]
          exact (rn_p isDg T N (N - (b + 1)) (b + 1) rfl (by omega)).1
        refine ⟨r1, q1, q2, by show 2 ≤ 4; omega, fun _ => by show b < rn isDg T N b; omega, fun q => absurd q (by show ¬ (2 = 0); decide), fun q => absurd q (by show ¬ (2 = 1); decide), fun _ hq => ?_⟩
        have := vn_lt T N (b := b) (N - b) b 0 rfl r2 (Nat.le_refl _) (by rw [Nat.sub_self]; decide)
        have h7 := ten7 (show rn isDg T N b - b ≤ 7 from hq)
        show vn T N b 0 < 10000000
        omega
      · rw [if_neg cD]
        refine ⟨r1, by show b ≤ b + 1; omega, by show b + 1 ≤ N; omega, ?_, fun _ => by show b < b + 1; omega, fun q => ?_, fun q => ?_, fun q => ?_⟩
        · show (if isMk (T b) = true then 3 else 4) ≤ 4
          split <;> omega
        · have : (if isMk (T b) = true then 3 else 4) = 0 := q
          split at this <;> omega
        · have : (if isMk (T b) = true then 3 else 4) = 1 := q
          split at this <;> omega
        · have : (if isMk (T b) = true then 3 else 4) = 2 := q
          split at this <;> omega
  · rw [if_neg c]
    exact ⟨r1, Nat.le_refl _, r2, by show 0 ≤ 4; omega, fun q => absurd rfl q, fun _ => by show b = N; omega, fun q => absurd q (by show ¬ (0 = 1); decide), fun q => absurd q (by show ¬ (0 = 2); decide)⟩
