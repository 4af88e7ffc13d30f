/-! ===== bytes of the tape; feed ===== -/
def wy (w : Int32) (c : Nat) : Nat := (w.toBitVec.toNat >>> c) % 256
theorem wy_lt (w : Int32) (c : Nat) : wy w c < 256 := Nat.mod_lt _ (by decide)
theorem m8 (y : Int32) : (Int32.toInt8 y).toInt32 = sb (y.toBitVec.toNat % 256) := by
  apply Int32.toInt.inj
  rw [Int8.toInt_toInt32]
  have h1 : (Int32.toInt8 y).toInt = y.toInt.bmod (2^8) := Int32.toInt_toInt8 y
  rw [h1]
  have h2 : y.toInt = (y.toBitVec.toNat : Int).bmod (2^32) := by
    show y.toBitVec.toInt = _
    exact BitVec.toInt_eq_toNat_bmod _
  rw [h2]
  have h3 : ((y.toBitVec.toNat : Int).bmod (2^32)).bmod (2^8) = (y.toBitVec.toNat : Int).bmod (2^8) := by
    apply Int.bmod_bmod_of_dvd; decide
  unfold sb
  have hb := y.toBitVec.isLt
  generalize y.toBitVec.toNat = n at *
  rw [h3]
  have hm : n % 256 < 256 := Nat.mod_lt _ (by decide)
  rw [Int.bmod_def]
  rw [Int32.toInt_ofInt_of_le (by split <;> omega) (by split <;> omega)]
  have : ((n : Int) % (2^8 : Nat)) = ((n % 256 : Nat) : Int) := by omega
  rw [this]
  split <;> split <;> omega
theorem sh_u (w : Int32) : ((w.toUInt32 >>> (Int32.toUInt32 24 &&& Int32.toUInt32 31)).toInt32).toBitVec.toNat % 256 = wy w 24 ∧ ((w.toUInt32 >>> (Int32.toUInt32 16 &&& Int32.toUInt32 31)).toInt32).toBitVec.toNat % 256 = wy w 16 ∧ ((w.toUInt32 >>> (Int32.toUInt32 8 &&& Int32.toUInt32 31)).toInt32).toBitVec.toNat % 256 = wy w 8 ∧ ((w.toUInt32 >>> (Int32.toUInt32 0 &&& Int32.toUInt32 31)).toInt32).toBitVec.toNat % 256 = wy w 0 := by
  refine ⟨?_, ?_, ?_, ?_⟩
  · show (w.toUInt32 >>> (24 : UInt32)).toNat % 256 = _
    rw [UInt32.toNat_shiftRight]; rfl
  · show (w.toUInt32 >>> (16 : UInt32)).toNat % 256 = _
    rw [UInt32.toNat_shiftRight]; rfl
  · show (w.toUInt32 >>> (8 : UInt32)).toNat % 256 = _
    rw [UInt32.toNat_shiftRight]; rfl
  · show (w.toUInt32 >>> (0 : UInt32)).toNat % 256 = _
    rw [UInt32.toNat_shiftRight]; rfl
theorem and255 (v : BitVec 32) (c : Nat) (hc : c ≤ 24) : (v.sshiftRight c) &&& 255#32 = BitVec.ofNat 32 ((v.toNat >>> c) % 256) := by
  apply BitVec.eq_of_getLsbD_eq
  intro i hi
  have e255 : (255#32).getLsbD i = decide (i < 8) := by
    have : (255#32) = BitVec.ofNat 32 (2^8 - 1) := rfl
    rw [this, BitVec.getLsbD_ofNat, Nat.testBit_two_pow_sub_one]
    simp [hi]
  have e2 : (BitVec.ofNat 32 ((v.toNat >>> c) % 256)).getLsbD i = (decide (i < 8) && v.toNat.testBit (c + i)) := by
    have : (256 : Nat) = 2^8 := rfl
    rw [BitVec.getLsbD_ofNat, this, Nat.testBit_mod_two_pow, Nat.testBit_shiftRight]
    simp [hi]
  rw [BitVec.getLsbD_and, e255, e2, BitVec.getLsbD_sshiftRight]
  by_cases h8 : i < 8
  · have h1 : ¬ 32 ≤ i := by omega
    have h2 : c + i < 32 := by omega
    simp [h8, h1, h2, BitVec.getLsbD]
  · simp [h8]
theorem sh_s (w : Int32) : (w >>> ((24 - 0 : Int32) &&& 31)) &&& 255 = nI (wy w 24) ∧ (w >>> ((16 : Int32) &&& 31)) &&& 255 = nI (wy w 16) ∧ (w >>> ((8 : Int32) &&& 31)) &&& 255 = nI (wy w 8) ∧ (w >>> ((0 : Int32) &&& 31)) &&& 255 = nI (wy w 0) := by
  have key : ∀ (b : Int32) (c : Nat), c ≤ 24 → (b.toBitVec.smod 32).toNat = c → (w >>> b) &&& 255 = nI (wy w c) := by
    intro b c hc hb
    apply Int32.toBitVec.inj
    rw [Int32.toBitVec_and, Int32.toBitVec_shiftRight, BitVec.sshiftRight_eq', hb]
    exact and255 _ _ hc
  exact ⟨key _ 24 (by decide) (by decide), key _ 16 (by decide) (by decide), key _ 8 (by decide) (by decide), key _ 0 (by decide) (by decide)⟩
theorem nar8 (y : Int32) : vp_nar .byte ((Int32.toInt8 y).toInt32) = (Int32.toInt8 y).toInt32 := by
  show (Int32.toInt8 ((Int32.toInt8 y).toInt32)).toInt32 = _
  rw [Int8.toInt8_toInt32]
/-- one byte is laid down -/
def pS (k i k2 j2 : Nat) (s : St) (l : Nat) (v : Int32) : St := sI (sI s k i l v) k2 1 j2 (nI (l + 1))
def pN (k i k2 j2 : Nat) : St → Nat → List Int32 → St
  | s, _, [] => s
  | s, l, v :: vs => pN k i k2 j2 (pS k i k2 j2 s l v) (l + 1) vs
theorem pN_f (k i k2 j2 : Nat) (hk : ¬ k = k2) : ∀ (vs : List Int32) (s : St) (l : Nat), (gR (pN k i k2 j2 s l vs) = gR s ∧ gL (pN k i k2 j2 s l vs) = gL s ∧ gN (pN k i k2 j2 s l vs) = gN s ∧ cn (pN k i k2 j2 s l vs) = cn s ∧ sn (pN k i k2 j2 s l vs) = sn s ∧ gJ (pN k i k2 j2 s l vs) = gJ s) ∧
    (∀ k' i' j', ¬ (k' = k ∧ i' = i) → ¬ (k' = k2 ∧ i' = 1 ∧ j' = j2) → gI (pN k i k2 j2 s l vs) k' i' j' = gI s k' i' j') ∧ (∀ m, gI (pN k i k2 j2 s l vs) k i m = if l ≤ m ∧ m < l + vs.length then vs.getD (m - l) 0 else gI s k i m) ∧ (gI s k2 1 j2 = nI l → gI (pN k i k2 j2 s l vs) k2 1 j2 = nI (l + vs.length)) := by
  intro vs
  induction vs with
  | nil => intro s l; exact ⟨⟨rfl, rfl, rfl, rfl, rfl, rfl⟩, fun _ _ _ _ _ => rfl, fun m => by rw [if_neg (by rw [List.length_nil]; omega)]; rfl, fun h => h⟩
  | cons v vs ih =>
    intro s l
    obtain ⟨a1, a2, a3, a4⟩ := ih (pS k i k2 j2 s l v) (l + 1)
    refine ⟨a1, fun k' i' j' h1 h2 => ?_, fun m => ?_, fun _ => ?_⟩
    · show gI (pN k i k2 j2 (pS k i k2 j2 s l v) (l + 1) vs) k' i' j' = _
      rw [a2 k' i' j' h1 h2]
      unfold pS
      rw [gI_sI, if_neg h2, gI_sI, if_neg (fun q => h1 ⟨q.1, q.2.1⟩)]
    · show gI (pN k i k2 j2 (pS k i k2 j2 s l v) (l + 1) vs) k i m = _
      rw [a3 m, List.length_cons]
      by_cases c : l + 1 ≤ m ∧ m < l + 1 + vs.length
      · have : m - l = (m - (l + 1)) + 1 := by omega
        rw [if_pos c, if_pos (by omega), this, List.getD_cons_succ]
      · rw [if_neg c]
        unfold pS
        rw [gI_sI, if_neg (fun q => hk q.1), gI_sI]
        by_cases c2 : m = l
        · rw [if_pos ⟨rfl, rfl, c2⟩, if_pos (by omega), c2, Nat.sub_self]; rfl
        · rw [if_neg (fun q => c2 q.2.2), if_neg (by omega)]
    · show gI (pN k i k2 j2 (pS k i k2 j2 s l v) (l + 1) vs) k2 1 j2 = _
      rw [a4 (by unfold pS; rw [gI_sI, if_pos ⟨rfl, rfl, rfl⟩]), List.length_cons]
      congr 1
      omega
abbrev by4 (w : Int32) : List Int32 := [sb (wy w 24), sb (wy w 16), sb (wy w 8), sb (wy w 0)]
section FEE
variable {s : St} {fu : Nat}
theorem X8_ap1 (hL : Lay s) {l : Nat} (hl : l < 600) (h14 : gI s 8 1 14 = nI l) (w c : Int32) {cv : Nat} (hc : ¬ c < 0) (hv : ((w.toUInt32 >>> (Int32.toUInt32 c &&& Int32.toUInt32 31)).toInt32).toBitVec.toNat % 256 = wy w cv) (m : Nat) : f_X8_appendToTape_b3 fu (m + 1) s 1 w c = f_X8_appendToTape_b3 fu m (pS 12 1 8 14 s l (sb (wy w cv))) 1 w (c + (-8)) := by
  have e10 : ¬ (1 = 0) := by decide
  have b : inb (nI l) 600 = true := nu_inbn (by omega) (by omega)
  have h6 : ¬ (600 : Int32) ≤ nI l := fun q => by have := (ni_le (a := 600) (b := l) (by omega) (by omega)).mp q; omega
  conv => lhs; unfold f_X8_appendToTape_b3
  rw [if_neg hc, if_neg e10, h14, if_neg h6, lr_8_1_0 hL, if_neg e10, ll_12_1 hL, if_neg (by rw [b]; decide), nar8, m8, hv]
  simp only [lt, nu_ixn (show l < 2147483648 by omega)]
  have : gI (sI s 12 1 l (sb (wy w cv))) 8 1 14 + 1 = nI (l + 1) := by rw [gI_sI, if_neg (by omega), h14, nu_nIa]
  rw [this]
  rfl
theorem pS_ly (hL : Lay s) (l : Nat) (v : Int32) : Lay (pS 12 1 8 14 s l v) ∧ gI (pS 12 1 8 14 s l v) 8 1 14 = nI (l + 1) := ⟨hL.same rfl rfl rfl, by unfold pS; rw [gI_sI, if_pos ⟨rfl, rfl, rfl⟩]⟩
theorem X8_ap (hL : Lay s) {l : Nat} (hl : l + 4 ≤ 600) (h14 : gI s 8 1 14 = nI l) (w : Int32) (hfu : 100 ≤ fu) : f_X8_appendToTape fu s 1 w = some (pN 12 1 8 14 s l (by4 w)) := by
  obtain ⟨m, rfl⟩ : ∃ m, fu = m + 5 := ⟨fu - 5, by omega⟩
  obtain ⟨u1, u2, u3, u4⟩ := sh_u w
  obtain ⟨q1, r1⟩ := pS_ly hL l (sb (wy w 24))
  obtain ⟨q2, r2⟩ := pS_ly q1 (l + 1) (sb (wy w 16))
  obtain ⟨q3, r3⟩ := pS_ly q2 (l + 1 + 1) (sb (wy w 8))
  unfold f_X8_appendToTape
  rw [X8_ap1 hL (by omega) h14 w 24 (by decide) u1, show (24 : Int32) + (-8) = 16 from by decide, X8_ap1 q1 (by omega) r1 w 16 (by decide) u2, show (16 : Int32) + (-8) = 8 from by decide, X8_ap1 q2 (by omega) r2 w 8 (by decide) u3, show (8 : Int32) + (-8) = 0 from by decide, X8_ap1 q3 (by omega) r3 w 0 (by decide) u4, show (0 : Int32) + (-8) = -8 from by decide]
  unfold f_X8_appendToTape_b3
  rw [if_pos (by decide)]
  rfl
theorem pN_app (k i k2 j2 : Nat) : ∀ (a b : List Int32) (s : St) (l : Nat), pN k i k2 j2 s l (a ++ b) = pN k i k2 j2 (pN k i k2 j2 s l a) (l + a.length) b := by
  intro a
  induction a with
  | nil => intro b s l; rfl
  | cons v a ih =>
    intro b s l
    show pN k i k2 j2 (pS k i k2 j2 s l v) (l + 1) (a ++ b) = pN k i k2 j2 (pN k i k2 j2 (pS k i k2 j2 s l v) (l + 1) a) (l + (a.length + 1)) b
    rw [ih, Nat.add_assoc, Nat.add_comm 1]
/-- twenty bytes -/
def by20 (a b c d e : Int32) : List Int32 := by4 a ++ (by4 b ++ (by4 c ++ (by4 d ++ by4 e)))
theorem X8_feed (hL : Lay s) {l : Nat} (hl : l ≤ 600) (h14 : gI s 8 1 14 = nI l) (a b c d e : Int32) (hfu : 100 ≤ fu) : f_X8_feed fu s 1 a b c d e = if l ≤ 580 then some (pN 12 1 8 14 s l (by20 a b c d e), nI (l + 20)) else some (s, -1) := by
  have e10 : ¬ (1 = 0) := by decide
  unfold f_X8_feed
  rw [if_neg e10, h14]
  by_cases h : l ≤ 580
  · rw [if_pos (show nI l ≤ (580 : Int32) from (ni_le (a := l) (b := 580) (by omega) (by omega)).mpr h), if_pos h]
    have ly : ∀ (t : St) (l' : Nat) (w : Int32), Lay t → gI t 8 1 14 = nI l' → Lay (pN 12 1 8 14 t l' (by4 w)) ∧ gI (pN 12 1 8 14 t l' (by4 w)) 8 1 14 = nI (l' + 4) := fun t l' w h1 h2 => by
      obtain ⟨p1, -, -, p4⟩ := pN_f 12 1 8 14 (by decide) (by4 w) t l'
      exact ⟨h1.same p1.1 p1.2.1 p1.2.2.1, p4 h2⟩
    rw [X8_ap hL (by omega) h14 a hfu]
    obtain ⟨y1, y2⟩ := ly s l a hL h14
    simp only [bV]
    rw [X8_ap y1 (by omega) y2 b hfu]
    obtain ⟨z1, z2⟩ := ly _ (l + 4) b y1 y2
    simp only
    rw [X8_ap z1 (by omega) z2 c hfu]
    obtain ⟨w1, w2⟩ := ly _ (l + 4 + 4) c z1 z2
    simp only
    rw [X8_ap w1 (by omega) w2 d hfu]
    obtain ⟨v1, v2⟩ := ly _ (l + 4 + 4 + 4) d w1 w2
    simp only
    rw [X8_ap v1 (by omega) v2 e hfu]
    obtain ⟨t1, t2⟩ := ly _ (l + 4 + 4 + 4 + 4) e v1 v2
    simp only
    rw [t2]
    unfold by20
    rw [pN_app, pN_app, pN_app, pN_app]
    rfl
  · rw [if_neg (show ¬ nI l ≤ (580 : Int32) from fun q => h ((ni_le (a := l) (b := 580) (by omega) (by omega)).mp q)), if_neg h]
/-! the reference's -/
def fsel (a b c d e : Int32) (k : Nat) : Int32 := if k < 4 then a else if k < 8 then b else if k < 12 then c else if k < 16 then d else e
def fby (a b c d e : Int32) (k : Nat) : Nat := wy (fsel a b c d e k) (24 - 8 * (k % 4))
def fbl (f : Nat → Int32) : Nat → Nat → List Int32
  | 0, _ => []
  | d + 1, k => f k :: fbl f d (k + 1)
theorem by20_e (a b c d e : Int32) : by20 a b c d e = fbl (fun k => sb (fby a b c d e k)) 20 0 := rfl
theorem fsh : ∀ k, k < 20 → ((24 - (8 * (nI k - nI k / 4 * 4))) &&& 31 : Int32) = nI (24 - 8 * (k % 4)) := by decide
theorem sh_s2 (w : Int32) (k : Nat) : (w >>> (nI (24 - 8 * (k % 4)))) &&& 255 = nI (wy w (24 - 8 * (k % 4))) := by
  obtain ⟨a1, a2, a3, a4⟩ := sh_s w
  have : k % 4 = 0 ∨ k % 4 = 1 ∨ k % 4 = 2 ∨ k % 4 = 3 := by omega
  rcases this with q | q | q | q
  · rw [q]; exact a1
  · rw [q]; exact a2
  · rw [q]; exact a3
  · rw [q]; exact a4
theorem X9_fe_loop (a b c d e : Int32) : ∀ (r k l m : Nat) (s : St), k + r = 20 → r < m → Lay s → l + r ≤ 600 → gI s 9 1 24 = nI l → f_X9_feed_b23 fu m s 1 a b c d e (nI k) = some (pN 10 30 9 24 s l (fbl (fun k => nI (fby a b c d e k)) r k), nI (l + r)) := by
  have e10 : ¬ (1 = 0) := by decide
  intro r
  induction r with
  | zero =>
    intro k l m s hk hm hL hl h24
    obtain ⟨m, rfl⟩ : ∃ m', m = m' + 1 := ⟨m - 1, by omega⟩
    unfold f_X9_feed_b23
    rw [if_pos (show (20 : Int32) ≤ nI k from (ni_le (a := 20) (b := k) (by omega) (by omega)).mpr (by omega)), if_neg e10, h24]
    rfl
  | succ r ih =>
    intro k l m s hk hm hL hl h24
    obtain ⟨m, rfl⟩ : ∃ m', m = m' + 1 := ⟨m - 1, by omega⟩
    have bl : inb (nI l) 600 = true := nu_inbn (by omega) (by omega)
    have hst : ∀ t0, t0 = fsel a b c d e k → f_X9_feed_b76 fu (f_X9_feed_b23 fu m) s 1 a b c d e (nI k) t0 = some (pN 10 30 9 24 s l (fbl (fun k => nI (fby a b c d e k)) (r + 1) k), nI (l + (r + 1))) := fun t0 ht => by
      have := ih (k + 1) (l + 1) m (pS 10 30 9 24 s l (nI (fby a b c d e k))) (by omega) (by omega) (hL.same rfl rfl rfl) (by omega) (by unfold pS; rw [gI_sI, if_pos ⟨rfl, rfl, rfl⟩])
      have e1 : l + 1 + r = l + (r + 1) := by omega
      rw [e1] at this
      unfold f_X9_feed_b76
      rw [if_neg e10, lr_9_1_23 hL, if_neg (by decide), h24, ll_10_30 hL, if_neg (by rw [bl]; decide), fsh k (by omega), sh_s2, ht]
      simp only [lt, nu_ixn (show l < 2147483648 by omega), nu_nIa]
      have g24 : gI (sI s 10 30 l (nI (wy (fsel a b c d e k) (24 - 8 * (k % 4))))) 9 1 24 + 1 = nI (l + 1) := by rw [gI_sI, if_neg (by omega), h24, nu_nIa]
      rw [g24]
      exact this
    have le : ∀ c : Nat, c < 100 → ((Int32.ofNat c ≤ nI k) ↔ c ≤ k) := fun c hc => ni_le (a := c) (b := k) (by omega) (by omega)
    unfold f_X9_feed_b23
    rw [if_neg (fun q => by have := (le 20 (by omega)).mp q; omega)]
    unfold fsel at hst
    by_cases c1 : k < 4
    · rw [if_neg (fun q => by have := (le 4 (by omega)).mp q; omega)]
      exact hst _ (by rw [if_pos c1])
    · rw [if_pos (show (4 : Int32) ≤ nI k from (le 4 (by omega)).mpr (by omega))]
      by_cases c2 : k < 8
      · rw [if_neg (fun q => by have := (le 8 (by omega)).mp q; omega)]
        exact hst _ (by rw [if_neg c1, if_pos c2])
      · rw [if_pos (show (8 : Int32) ≤ nI k from (le 8 (by omega)).mpr (by omega))]
        by_cases c3 : k < 12
        · rw [if_neg (fun q => by have := (le 12 (by omega)).mp q; omega)]
          exact hst _ (by rw [if_neg c1, if_neg c2, if_pos c3])
        · rw [if_pos (show (12 : Int32) ≤ nI k from (le 12 (by omega)).mpr (by omega))]
          by_cases c4 : k < 16
          · rw [if_neg (fun q => by have := (le 16 (by omega)).mp q; omega)]
            exact hst _ (by rw [if_neg c1, if_neg c2, if_neg c3, if_pos c4])
          · rw [if_pos (show (16 : Int32) ≤ nI k from (le 16 (by omega)).mpr (by omega))]
            exact hst _ (by rw [if_neg c1, if_neg c2, if_neg c3, if_neg c4])
theorem X9_feed (hL : Lay s) {l : Nat} (hl : l ≤ 600) (h24 : gI s 9 1 24 = nI l) (a b c d e : Int32) (hfu : 100 ≤ fu) : f_X9_feed fu s 1 a b c d e = if l ≤ 580 then some (pN 10 30 9 24 (sI s 9 1 3 0) l (fbl (fun k => nI (fby a b c d e k)) 20 0), nI (l + 20)) else some (sI s 9 1 3 0, -1) := by
  have e10 : ¬ (1 = 0) := by decide
  have g : gI (sI s 9 1 3 0) 9 1 24 = nI l := by rw [gI_sI, if_neg (by omega)]; exact h24
  have e20 : nI l + 20 = nI (l + 20) := ni_add (a := l) (b := 20) (by omega)
  unfold f_X9_feed
  rw [if_neg e10]
  simp only [lt]
  rw [g, e20]
  by_cases h : l ≤ 580
  · rw [if_pos (show nI (l + 20) ≤ (600 : Int32) from (ni_le (a := l + 20) (b := 600) (by omega) (by omega)).mpr (by omega)), if_pos h]
    exact X9_fe_loop a b c d e 20 0 l fu (sI s 9 1 3 0) rfl (by omega) (hL.same rfl rfl rfl) (by omega) g
  · rw [if_neg (show ¬ nI (l + 20) ≤ (600 : Int32) from fun q => by have := (ni_le (a := l + 20) (b := 600) (by omega) (by omega)).mp q; omega), if_neg h]
end FEE
