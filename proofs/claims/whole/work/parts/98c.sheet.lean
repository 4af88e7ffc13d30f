/-! ===== sheet ===== -/
abbrev okT (T V : Int64) : Prop := (-1000000 ≤ T.toInt ∧ T.toInt ≤ 1000000) ∧ (-10000 ≤ V.toInt ∧ V.toInt ≤ 10000)
def stA (n : Nat) (S K : Nat → Int) (mo id : Nat) (x : Ab) (T V : Int64) : Ab :=
  if okT T V then (if id ∈ xR x ∧ (Int64.toInt32 T).toInt < sm n S K (xH x id).toInt (n - 1) then ltA x id else putA n S K mo x id (Int64.toInt32 T) (Int64.toInt32 V)) else x
def stB (n : Nat) (S K : Nat → Int) (id : Nat) (x : Ab) (T V : Int64) : Nat :=
  if okT T V then (if id ∈ xR x ∧ (Int64.toInt32 T).toInt < sm n S K (xH x id).toInt (n - 1) then 0 else 1) else 0
def shA (n : Nat) (S K : Nat → Int) (mo id : Nat) (tf vf : Nat → Int64) : Nat → Nat → Ab → Ab
  | 0, _, x => x
  | d + 1, k, x => shA n S K mo id tf vf d (k + 1) (stA n S K mo id x (tf k) (vf k))
def shB (n : Nat) (S K : Nat → Int) (mo id : Nat) (tf vf : Nat → Int64) : Nat → Nat → Ab → Nat
  | 0, _, _ => 0
  | d + 1, k, x => stB n S K id x (tf k) (vf k) + shB n S K mo id tf vf d (k + 1) (stA n S K mo id x (tf k) (vf k))
section SHE
variable {s : St} {p n mo fu d d' u : Nat} {S K : Nat → Int} {x : Ab}
theorem stB_le (id : Nat) (T V : Int64) : stB n S K id x T V ≤ 1 := by
  unfold stB
  split
  · split <;> omega
  · omega
theorem shB_le (id : Nat) (tf vf : Nat → Int64) : ∀ (e k : Nat) (x : Ab), shB n S K mo id tf vf e k x ≤ e := by
  intro e
  induction e with
  | zero => intro k x; exact Nat.le_refl _
  | succ e ih =>
    intro k x
    have h1 := ih (k + 1) (stA n S K mo id x (tf k) (vf k))
    have h2 := stB_le (n := n) (S := S) (K := K) (x := x) id (tf k) (vf k)
    show stB n S K id x (tf k) (vf k) + shB n S K mo id tf vf e (k + 1) (stA n S K mo id x (tf k) (vf k)) ≤ e + 1
    omega
theorem dn_t {T : Int64} (h : -1000000 ≤ T.toInt ∧ T.toInt ≤ 1000000) : (Int64.toInt32 T).toInt = T.toInt := nj_dn (by omega) (by omega)
theorem dn_v {T : Int64} (h : -10000 ≤ T.toInt ∧ T.toInt ≤ 10000) : (Int64.toInt32 T).toInt = T.toInt := nj_dn (by omega) (by omega)
/-- what a point of a sheet leaves -/
theorem stA_w (hRW : RW (xR x)) (hA : AbW mo x) {id : Nat} (hid : id < 10) (T V : Int64) : AbW mo (stA n S K mo id x T V) ∧ off (xP (stA n S K mo id x T V)) 10 ≤ off (xP x) 10 + 1 ∧ (xC (stA n S K mo id x T V)).1 = (xC x).1 := by
  unfold stA
  by_cases hok : okT T V
  · rw [if_pos hok]
    have ht := dn_t hok.1
    by_cases hl : id ∈ xR x ∧ (Int64.toInt32 T).toInt < sm n S K (xH x id).toInt (n - 1)
    · rw [if_pos hl]; exact ⟨ltA_w hA id, by show off (xP x) 10 ≤ _; omega, rfl⟩
    · rw [if_neg hl]; exact ⟨putA_w hRW hA hid (by omega) (by omega) _, putA_off hid hRW _ _, rise_c id _⟩
  · rw [if_neg hok]; exact ⟨hA, by omega, rfl⟩
theorem X8_pic (h : CI s p n S K mo x) (hA : AbW mo x) {id : Nat} (hid : id < 10) (T V : Int64) (hoff : off (xP x) 10 < 32768) (hb : Bdg s d d') (hfu : 50000 ≤ fu) :
    ∃ s', f_X8_placeIfItCanBe fu s 1 (nI id) T V = some (s', nI (stB n S K id x T V)) ∧ CI s' p n S K mo (stA n S K mo id x T V) ∧ CF s s' ∧ Rmc s s' := by
  have e10 : ¬ (1 = 0) := by decide
  have hL := h.1.1.1
  have hRW := h.2.1.2
  have hV := h.1.2.1.2.2.2
  have q84 := lr_8_1_4 hL
  have hb15 : f_X8_placeIfItCanBe_b15 fu s = some (s, 0) := by
    unfold f_X8_placeIfItCanBe_b15
    rw [if_neg (by rw [zb0]; decide)]
  unfold stA stB f_X8_placeIfItCanBe
  rw [X8_isTime]
  simp only [bI, bt_z]
  by_cases hT : -1000000 ≤ T.toInt ∧ T.toInt ≤ 1000000
  · rw [if_neg (fun q => q hT), X8_isValue]
    simp only [bt_z]
    by_cases hVv : -10000 ≤ V.toInt ∧ V.toInt ≤ 10000
    · rw [if_neg (fun q => q hVv), if_neg e10, q84, if_pos (show okT T V from ⟨hT, hVv⟩), if_pos (show okT T V from ⟨hT, hVv⟩)]
      have ht := dn_t hT
      have hv := dn_v hVv
      by_cases hlt : id ∈ xR x ∧ (Int64.toInt32 T).toInt < sm n S K (xH x id).toInt (n - 1)
      · rw [if_pos hlt, if_pos hlt]
        obtain ⟨hin, hlt⟩ := hlt
        have hhd := hA.1 id hin
        obtain ⟨z1, z2, z3⟩ := lat_z hV hhd.1 hhd.2 (t := Int64.toInt32 T) (by omega) (by omega)
        obtain ⟨w1, w2, w3, w4⟩ := h.w10 (fsF s 10 n S K (xH x id).toInt n)
        obtain ⟨s4, v1, v2, v3, v4, v5⟩ := X8_nl (fu := fu) w1 hin
        refine ⟨s4, ?_, v2, w2.tr v3, w3.tr v4⟩
        rw [X8_lt (Or.inl rfl) h.1 h.2.1.1 hRW hin hhd.1 hhd.2 _ (by omega)]
        simp only
        rw [if_neg (fun q => by have := z1.mp q; omega), v1]
        simp only [bV, zb0, Bool.true_eq_false, reduceIte]
        rfl
      · rw [if_neg hlt, if_neg hlt]
        have hnl : sm n S K (xH (rise n S K mo x id (Int64.toInt32 T)) id).toInt (n - 1) ≤ (Int64.toInt32 T).toInt := not_late hV (fun hin => by
          rcases Int.lt_or_le (Int64.toInt32 T).toInt (sm n S K (xH x id).toInt (n - 1)) with q | q
          · exact absurd ⟨hin, q⟩ hlt
          · exact q)
        have hro := rise_off (n := n) (S := S) (K := K) (mo := mo) hid hRW (Int64.toInt32 T)
        obtain ⟨sa, za, hl8, hCa, hFa, hRa, hza⟩ : ∃ sa za, f_X8_latenessIn fu s 1 1 (nI id) (Int64.toInt32 T) = some (sa, za) ∧ CI sa p n S K mo x ∧ CF s sa ∧ Rmc s sa ∧ za ≤ 0 := by
          by_cases hin : id ∈ xR x
          · have hhd := hA.1 id hin
            obtain ⟨z1, -, -⟩ := lat_z hV hhd.1 hhd.2 (t := Int64.toInt32 T) (by omega) (by omega)
            obtain ⟨w1, w2, w3, w4⟩ := h.w10 (fsF s 10 n S K (xH x id).toInt n)
            refine ⟨_, _, X8_lt (Or.inl rfl) h.1 h.2.1.1 hRW hin hhd.1 hhd.2 _ (by omega), w1, w2, w3, z1.mpr ?_⟩
            rcases Int.lt_or_le (Int64.toInt32 T).toInt (sm n S K (xH x id).toInt (n - 1)) with q | q
            · exact absurd ⟨hin, q⟩ hlt
            · exact q
          · exact ⟨s, 0, X8_ltx h.2.1.1 hRW hid hin _ (by omega), h, CF.rf s, Rmc.rf s, by decide⟩
        obtain ⟨s1, y1, y2, y3, y4, y5⟩ := X8_place (fu := fu) hCa hA hid (t := Int64.toInt32 T) (v := Int64.toInt32 V) (by omega) (by omega) (by omega) hnl (by omega) (hb.rmc hRa) hfu
        refine ⟨s1, ?_, y2, hFa.tr y3, hRa.tr y4⟩
        rw [hl8]
        simp only
        rw [if_pos hza, y1]
        simp only [zb1, Bool.true_eq_false, reduceIte]
        rfl
    · rw [if_pos hVv, if_neg (fun q : okT T V => hVv q.2), if_neg (fun q : okT T V => hVv q.2)]
      exact ⟨s, hb15, h, CF.rf s, Rmc.rf s⟩
  · rw [if_pos hT, if_neg (fun q : okT T V => hT q.1), if_neg (fun q : okT T V => hT q.1)]
    exact ⟨s, hb15, h, CF.rf s, Rmc.rf s⟩
abbrev tfS (t st : Int32) (k : Nat) : Int64 := Int32.toInt64 t + Int32.toInt64 (nI k) * Int32.toInt64 st
theorem X8_sh_loop {id : Nat} (hid : id < 10) (N : Nat) (hN : N ≤ 60) (t st v r : Int32) (hfu : 50000 ≤ fu) : ∀ (e k m came : Nat) (s : St) (x : Ab), k + e = N → e < m → came ≤ k → CI s p n S K mo x → AbW mo x → off (xP x) 10 + e < 32769 → Bdg s d d' →
    ∃ s', f_X8_sheet_b33 fu m s 1 (nI id) (nI N) t st v r (nI came) (nI k) = some (exS s' (0, 0, -1, -1), nI (came + shB n S K mo id (tfS t st) (tfS v r) e k x)) ∧ CI s' p n S K mo (shA n S K mo id (tfS t st) (tfS v r) e k x) ∧ CF s s' ∧ Rmc s s' ∧ AbW mo (shA n S K mo id (tfS t st) (tfS v r) e k x) ∧ off (xP (shA n S K mo id (tfS t st) (tfS v r) e k x)) 10 ≤ off (xP x) 10 + e ∧ (xC (shA n S K mo id (tfS t st) (tfS v r) e k x)).1 = (xC x).1 := by
  have e10 : ¬ (1 = 0) := by decide
  intro e
  induction e with
  | zero =>
    intro k m came s x hk hm hc h hA hoff hb
    obtain ⟨m, rfl⟩ : ∃ m', m = m' + 1 := ⟨m - 1, by omega⟩
    refine ⟨s, ?_, h, CF.rf s, Rmc.rf s, hA, Nat.le_refl _, rfl⟩
    unfold f_X8_sheet_b33
    rw [if_pos ((ni_le (by omega) (by omega)).mpr (by omega)), if_neg e10, X8_ex h.1.1.1]
    rfl
  | succ e ih =>
    intro k m came s x hk hm hc h hA hoff hb
    obtain ⟨m, rfl⟩ : ∃ m', m = m' + 1 := ⟨m - 1, by omega⟩
    obtain ⟨s1, y1, y2, y3, y4⟩ := X8_pic (fu := fu) h hA hid (tfS t st k) (tfS v r k) (by omega) hb hfu
    obtain ⟨w1, w2, w3⟩ := stA_w (n := n) (S := S) (K := K) h.2.1.2 hA hid (tfS t st k) (tfS v r k)
    have hB := stB_le (n := n) (S := S) (K := K) (x := x) id (tfS t st k) (tfS v r k)
    obtain ⟨s', z1, z2, z3, z4, z5, z6, z7⟩ := ih (k + 1) m (came + stB n S K id x (tfS t st k) (tfS v r k)) s1 (stA n S K mo id x (tfS t st k) (tfS v r k)) (by omega) (by omega) (by omega) y2 w1 (by omega) (hb.rmc y4)
    refine ⟨s', ?_, z2, y3.tr z3, y4.tr z4, z5, by show off (xP (shA n S K mo id (tfS t st) (tfS v r) e (k + 1) (stA n S K mo id x (tfS t st k) (tfS v r k)))) 10 ≤ _; omega, z7.trans w3⟩
    show _ = some (exS s' (0, 0, -1, -1), nI (came + (stB n S K id x (tfS t st k) (tfS v r k) + shB n S K mo id (tfS t st) (tfS v r) e (k + 1) (stA n S K mo id x (tfS t st k) (tfS v r k)))))
    rw [← Nat.add_assoc, ← z1]
    conv => lhs; unfold f_X8_sheet_b33
    rw [if_neg (fun q => by have := (ni_le (by omega) (by omega)).mp q; omega), if_neg e10, y1]
    simp only [bI]
    have hb01 : stB n S K id x (tfS t st k) (tfS v r k) = 0 ∨ stB n S K id x (tfS t st k) (tfS v r k) = 1 := by omega
    rcases hb01 with q | q
    · rw [q, if_pos (show nI 0 = 0 from rfl)]
      unfold f_X8_sheet_b71
      simp only [lt, nu_nIa]
      rfl
    · rw [q, if_neg (by decide)]
      unfold f_X8_sheet_b71
      simp only [lt, nu_nIa]
/-! the reference's -/
theorem tf_eq (t st : Int32) (k : Nat) : Int32.toInt64 st * Int32.toInt64 (nI k) + Int32.toInt64 t = tfS t st k := by
  show _ = Int32.toInt64 t + Int32.toInt64 (nI k) * Int32.toInt64 st
  rw [Int64.add_comm, Int64.mul_comm]
theorem X9_sh_loop {id : Nat} (hid : id < 10) (N : Nat) (hN : N ≤ 60) (t st v r : Int32) (hfu : 50000 ≤ fu) : ∀ (e k m came u : Nat) (s : St) (x : Ab), k + e = N → e < m → came ≤ k → MI s n S K mo x u → AbW mo x → off (xP x) 10 + e < 32769 → u + e < 1000000 → Rmo s →
    ∃ s', f_X9_sheet_b40 fu m s 1 (nI id) (nI N) t st v r (nI came) (nI k) = some (s', nI (came + shB n S K mo id (tfS t st) (tfS v r) e k x)) ∧ MI s' n S K mo (shA n S K mo id (tfS t st) (tfS v r) e k x) (u + shB n S K mo id (tfS t st) (tfS v r) e k x) ∧ FP s s' ∧ Rmm s s' ∧ ∀ j, 30 ≤ j ∨ j = 3 → gI s' 9 1 j = gI s 9 1 j := by
  have e10 : ¬ (1 = 0) := by decide
  intro e
  induction e with
  | zero =>
    intro k m came u s x hk hm hc h hA hoff hu hr
    obtain ⟨m, rfl⟩ : ∃ m', m = m' + 1 := ⟨m - 1, by omega⟩
    refine ⟨s, ?_, h, Fx.rf _ _ _ s, Rmm.rf s, fun _ _ => rfl⟩
    unfold f_X9_sheet_b40
    rw [if_pos ((ni_le (by omega) (by omega)).mpr (by omega))]
    rfl
  | succ e ih =>
    intro k m came u s x hk hm hc h hA hoff hu hr
    obtain ⟨m, rfl⟩ : ∃ m', m = m' + 1 := ⟨m - 1, by omega⟩
    have hRW := h.1.2.2.1.2
    have hV := h.1.2.1.2
    have hL := h.1.1
    have b10 : inb (nI id) 10 = true := nu_inbn (by omega) (by omega)
    obtain ⟨w1, w2, w3⟩ := stA_w (n := n) (S := S) (K := K) hRW hA hid (tfS t st k) (tfS v r k)
    have hB := stB_le (n := n) (S := S) (K := K) (x := x) id (tfS t st k) (tfS v r k)
    -- one point
    have one : ∃ s1, (∀ came', f_X9_sheet_b40 fu (m + 1) s 1 (nI id) (nI N) t st v r (nI came') (nI k) = f_X9_sheet_b40 fu m s1 1 (nI id) (nI N) t st v r (nI (came' + stB n S K id x (tfS t st k) (tfS v r k))) (nI (k + 1))) ∧ MI s1 n S K mo (stA n S K mo id x (tfS t st k) (tfS v r k)) (u + stB n S K id x (tfS t st k) (tfS v r k)) ∧ FP s s1 ∧ Rmm s s1 ∧ ∀ j, 30 ≤ j ∨ j = 3 → gI s1 9 1 j = gI s 9 1 j := by
      unfold stA stB
      by_cases hok : okT (tfS t st k) (tfS v r k)
      · rw [if_pos hok, if_pos hok]
        have ht := dn_t hok.1
        have hv := dn_v hok.2
        by_cases hlt : id ∈ xR x ∧ (Int64.toInt32 (tfS t st k)).toInt < sm n S K (xH x id).toInt (n - 1)
        · rw [if_pos hlt, if_pos hlt]
          obtain ⟨hM1, hF1, hg1⟩ := X9_nl h hlt.1
          refine ⟨nlS s id, fun came' => ?_, hM1, hF1, Rmm.eq rfl rfl rfl rfl, fun j hj => hg1 j (by omega)⟩
          conv => lhs; unfold f_X9_sheet_b40
          rw [if_neg (fun q => by have := (ni_le (by omega) (by omega)).mp q; omega)]
          simp only [lt, tf_eq]
          rw [X9_isTime]
          simp only [bI, bt_z]
          rw [if_neg (fun q => q hok.1), X9_isValue]
          simp only [bt_z]
          rw [if_neg (fun q => q hok.2), if_neg e10, X9_islate h hA hid _ (by omega), bt_t hlt]
          simp only [show ¬ (1 : Int32) = 0 from by decide, reduceIte, lr_9_1_12 hL, ll_10_24 hL, b10, Bool.true_eq_false, show ¬ (24 = 0) from by decide, nu_ixn (show id < 2147483648 by omega)]
          have : gI (sI s 10 24 id (gI s 10 24 id + 1)) 9 1 17 = gI s 9 1 17 := by rw [gI_sI, if_neg (by omega)]
          rw [this]
          unfold f_X9_sheet_b138
          simp only [lt, nu_nIa]
          rfl
        · rw [if_neg hlt, if_neg hlt]
          have hro := rise_off (n := n) (S := S) (K := K) (mo := mo) hid hRW (Int64.toInt32 (tfS t st k))
          obtain ⟨r1, r2⟩ := hr.rm h.2.2.2.2
          obtain ⟨s3, v1, v2, v3, v4, v5⟩ := X9_puts (fu := fu) h hA hid (t := Int64.toInt32 (tfS t st k)) (by omega) (by omega) (Int64.toInt32 (tfS v r k)) (by omega) (by omega) (by omega) (by omega) hfu
          refine ⟨s3, fun came' => ?_, v2, v3, v4, v5⟩
          conv => lhs; unfold f_X9_sheet_b40
          rw [if_neg (fun q => by have := (ni_le (by omega) (by omega)).mp q; omega)]
          simp only [lt, tf_eq]
          rw [X9_isTime]
          simp only [bI, bt_z]
          rw [if_neg (fun q => q hok.1), X9_isValue]
          simp only [bt_z]
          rw [if_neg (fun q => q hok.2), if_neg e10, X9_islate h hA hid _ (by omega), bt_f hlt]
          simp only [reduceIte]
          rw [v1]
          simp only [bV]
          unfold f_X9_sheet_b138
          simp only [lt, nu_nIa]
      · rw [if_neg hok, if_neg hok]
        refine ⟨s, fun came' => ?_, h, Fx.rf _ _ _ s, Rmm.rf s, fun _ _ => rfl⟩
        conv => lhs; unfold f_X9_sheet_b40
        rw [if_neg (fun q => by have := (ni_le (by omega) (by omega)).mp q; omega)]
        simp only [lt, tf_eq]
        rw [X9_isTime]
        simp only [bI, bt_z]
        by_cases hT : -1000000 ≤ (tfS t st k).toInt ∧ (tfS t st k).toInt ≤ 1000000
        · rw [if_neg (fun q => q hT), X9_isValue]
          simp only [bt_z]
          rw [if_pos (fun q => hok ⟨hT, q⟩)]
          unfold f_X9_sheet_b138
          simp only [lt, nu_nIa]
          rfl
        · rw [if_pos hT]
          unfold f_X9_sheet_b138
          simp only [lt, nu_nIa]
          rfl
    obtain ⟨s1, y1, y2, y3, y4, y5⟩ := one
    obtain ⟨s', z1, z2, z3, z4, z5⟩ := ih (k + 1) m (came + stB n S K id x (tfS t st k) (tfS v r k)) (u + stB n S K id x (tfS t st k) (tfS v r k)) s1 (stA n S K mo id x (tfS t st k) (tfS v r k)) (by omega) (by omega) (by omega) y2 w1 (by omega) (by omega) (hr.rmm y4)
    rw [Nat.add_assoc] at z1 z2
    exact ⟨s', (y1 came).trans z1, z2, y3.tr z3, y4.tr z4, fun j hj => by rw [z5 j hj, y5 j hj]⟩
theorem P_sheet (h : CI s p n S K mo x) (hA : AbW mo x) (hoff : off (xP x) 10 < 32700) (hb : Bdg s d d') (hu : u < 900000) (hfu : 50000 ≤ fu) (a b t st v r : Int32) :
    Chg s p n S K mo x u (f_X8_sheet fu s 1 a b t st v r) (fun s2 => f_X9_sheet fu s2 1 a b t st v r) 60 60 := by
  have e10 : ¬ (1 = 0) := by decide
  have hL := h.1.1.1
  have h60 : (60 : Int32).toInt = 60 := rfl
  have h60j : (60 : Int64).toInt = 60 := rfl
  have h0j : (0 : Int64).toInt = 0 := rfl
  by_cases hv : (0 ≤ a.toInt ∧ a.toInt ≤ 9) ∧ (0 ≤ b.toInt ∧ b.toInt ≤ 60)
  · obtain ⟨ha, hb60⟩ := hv
    obtain ⟨id, hid, rfl⟩ := ab_id ha
    obtain ⟨N, hN, rfl⟩ : ∃ N : Nat, N ≤ 60 ∧ b = nI N := ⟨b.toInt.toNat, by omega, nu_toN (by omega)⟩
    obtain ⟨s1, y1, y2, y3, y4, y5, y6, y7⟩ := X8_sh_loop (fu := fu) (d := d) (d' := d') hid N hN t st v r hfu N 0 fu 0 s x (by omega) (by omega) (Nat.le_refl _) h hA (by omega) hb
    obtain ⟨e1, e2, e3⟩ := y2.ex (0, 0, -1, -1)
    have hle := shB_le (n := n) (S := S) (K := K) (mo := mo) id (tfS t st) (tfS v r) N 0 x
    refine ⟨exS s1 (0, 0, -1, -1), nI (0 + shB n S K mo id (tfS t st) (tfS v r) N 0 x), shA n S K mo id (tfS t st) (tfS v r) N 0 x, (0, 0, -1, -1), u + shB n S K mo id (tfS t st) (tfS v r) N 0 x, ?_, e1, y3.tr e2, y4.tr e3, exS_w _ _, y5, y7, by omega, by omega, fun s2 hM hrm2 => ?_⟩
    · unfold f_X8_sheet
      rw [X8_isId]
      simp only [bI, bt_z, ha, not_true_eq_false, and_self, reduceIte]
      rw [if_neg (fun q => by rw [nu_lt, nu_0] at q; omega), if_pos (by rw [nu_le, h60]; omega)]
      exact y1
    · have hM0 := (hM.f9 wh3 0).fine
      generalize hs0 : fiS (sI s2 9 1 3 0) = s0 at hM0
      have hF0 : FP s2 s0 := by rw [← hs0]; exact (Fx.f9 (dyw wh3) 0).tr (fiS_fp _)
      have hfw : WhM s0 (0, 0, -1, -1) := by rw [← hs0]; exact fiS_w _
      have hR0 : Rmm s2 s0 := by
        refine Rmm.eq ?_ ?_ ?_ ?_
        · rw [← hs0]; rfl
        · rw [← hs0]; rfl
        · rw [← hs0]; rfl
        · rw [← hs0]; rfl
      obtain ⟨s3, z1, z2, z3, z4, z5⟩ := X9_sh_loop (fu := fu) hid N hN t st v r hfu N 0 fu 0 u s0 x (by omega) (by omega) (Nat.le_refl _) hM0 hA (by omega) (by omega) (hrm2.rmm hR0)
      refine ⟨s3, ?_, hF0.tr z3, z2, hR0.tr z4, hfw.eq z5⟩
      show f_X9_sheet fu s2 1 (nI id) (nI N) t st v r = _
      unfold f_X9_sheet
      rw [if_neg e10]
      simp only [lt]
      rw [X9_fine, hs0]
      simp only [bV]
      rw [X9_isId]
      simp only [bI, bt_z, ha, not_true_eq_false, and_self, reduceIte]
      rw [X9_isIn]
      simp only [bt_z, i64_id, h60j, h0j]
      rw [if_neg (fun q => q hb60)]
      exact z1
  · obtain ⟨e1, e2, e3⟩ := h.ex (1, 0, -1, -1)
    refine ⟨exS s (1, 0, -1, -1), -1, x, (1, 0, -1, -1), u, ?_, e1, e2, e3, exS_w _ _, hA, rfl, by omega, by omega, fun s2 hM hrm2 => ?_⟩
    · have hb17 : f_X8_sheet_b17 fu s 1 = some (exS s (1, 0, -1, -1), -1) := by
        unfold f_X8_sheet_b17
        rw [if_neg e10, X8_ex hL]
        rfl
      unfold f_X8_sheet
      rw [X8_isId]
      simp only [bI, bt_z]
      by_cases ha : 0 ≤ a.toInt ∧ a.toInt ≤ 9
      · rw [if_neg (fun q => q ha)]
        by_cases hz : b < 0
        · rw [if_pos hz]; exact hb17
        · rw [if_neg hz, if_neg (fun q => hv ⟨ha, by rw [nu_lt, nu_0] at hz; omega, by rw [nu_le, h60] at q; exact q⟩)]
          exact hb17
      · rw [if_pos ha]; exact hb17
    · obtain ⟨q1, q2, q3, q4⟩ := X9_refused hM 1
      refine ⟨_, ?_, q2, q1, q3, q4⟩
      show f_X9_sheet fu s2 1 a b t st v r = _
      have hb28 : f_X9_sheet_b28 fu (fiS (sI s2 9 1 3 0)) 1 = some (sI (fiS (sI s2 9 1 3 0)) 9 1 40 1, -1) := by
        unfold f_X9_sheet_b28
        rw [if_neg e10, X9_ref]
        rfl
      unfold f_X9_sheet
      rw [if_neg e10]
      simp only [lt]
      rw [X9_fine]
      simp only [bV]
      rw [X9_isId]
      simp only [bI, bt_z]
      by_cases ha : 0 ≤ a.toInt ∧ a.toInt ≤ 9
      · rw [if_neg (fun q => q ha), X9_isIn]
        simp only [bt_z, i64_id, h60j, h0j]
        rw [if_pos (fun q => hv ⟨ha, q⟩)]
        exact hb28
      · rw [if_pos ha]; exact hb28
end SHE
