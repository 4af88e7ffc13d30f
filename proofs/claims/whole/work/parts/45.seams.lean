/-! ===== seams and tiers, on both sides ===== -/
theorem ni_le {a b : Nat} (ha : a < 2147483648) (hb : b < 2147483648) : (nI a ≤ nI b) ↔ a ≤ b := by
  rw [nu_le, nu_nI ha, nu_nI hb]; omega
theorem ni_lt {a b : Nat} (ha : a < 2147483648) (hb : b < 2147483648) : (nI a < nI b) ↔ a < b := by
  rw [nu_lt, nu_nI ha, nu_nI hb]; omega
theorem ni_eq {a b : Nat} (ha : a < 2147483648) (hb : b < 2147483648) : (nI a = nI b) ↔ a = b := by
  rw [nu_eq, nu_nI ha, nu_nI hb]; omega
theorem ni_m1 {a : Nat} (ha : a < 2147483648) : ¬ (nI a = (-1 : Int32)) := by
  rw [nu_eq, nu_nI ha]
  have : (-1 : Int32).toInt = -1 := rfl
  omega
theorem ni_sub {a b : Nat} (h : b ≤ a) (ha : a < 2147483648) : nI a - nI b = nI (a - b) := by
  refine nu_ext ?_
  rw [nu_sub (by rw [nu_nI ha, nu_nI (by omega)]; omega) (by rw [nu_nI ha, nu_nI (by omega)]; omega), nu_nI ha, nu_nI (by omega), nu_nI (by omega)]
  omega
theorem ni_add {a b : Nat} (ha : a + b < 2147483648) : nI a + nI b = nI (a + b) := by
  refine nu_ext ?_
  rw [nu_add (by rw [nu_nI (by omega), nu_nI (by omega)]; omega) (by rw [nu_nI (by omega), nu_nI (by omega)]; omega), nu_nI (by omega), nu_nI (by omega), nu_nI (by omega)]
  omega
theorem ni_dec {a : Nat} (h : 0 < a) (ha : a < 2147483648) : nI a - 1 = nI (a - 1) := ni_sub (b := 1) h ha
theorem ni_m {a : Nat} (h : 0 < a) (ha : a < 2147483648) : nI a + (-1) = nI (a - 1) := by
  rw [← ni_dec h ha]
  exact Int32.add_neg_eq_sub
def PlC (s : St) (p n : Nat) (S K : Nat → Int) : Prop := ¬ p = 0 ∧ (¬ gR s 2 p 0 = 0 ∧ ¬ gR s 2 p 1 = 0) ∧ (gL s 10 (gR s 2 p 0) = 4 ∧ gL s 10 (gR s 2 p 1) = 4) ∧ gI s 2 p 3 = nI n ∧ ∀ i, i < n → (gI s 10 (gR s 2 p 0) i).toInt = S i ∧ (gI s 10 (gR s 2 p 1) i).toInt = K i
def fsF (s : St) (a n : Nat) (S K : Nat → Int) (h : Int) (i : Nat) : Nat → Int32 := fun j => if j < i then Int32.ofInt (sm n S K h j) else gI s 10 a j
def pre (n : Nat) (S K : Nat → Int) (h : Int) (i : Nat) : Int := match i with
  | 0 => al h (S 0) + S 0
  | i + 1 => sm n S K h i
theorem sm_pre {n : Nat} {S K : Nat → Int} {h : Int} (i : Nat) : sm n S K h i = sa n S i (pre n S K h i - K i * S i) := by
  cases i with
  | zero => rfl
  | succ i => rfl
theorem fsF_step (s : St) (a n : Nat) (S K : Nat → Int) (h : Int) (i : Nat) {v : Int32} (hv : v = Int32.ofInt (sm n S K h i)) : sI (wI s 10 a (fsF s a n S K h i)) 10 a i v = wI s 10 a (fsF s a n S K h (i + 1)) := by
  rw [sI_wI]
  congr 1
  funext j
  unfold fsF
  by_cases hj : j = i
  · subst hj; rw [if_pos rfl, if_pos (by omega), hv]
  · rw [if_neg hj]
    by_cases h1 : j < i
    · rw [if_pos h1, if_pos (by omega)]
    · rw [if_neg h1, if_neg (by omega)]
theorem pre_bd {n : Nat} {S K : Nat → Int} (V : VP n S K) {h : Int} (h1 : -1000000 ≤ h) (h2 : h ≤ 1000000) {i : Nat} (hi : i < n) : -9400000 ≤ pre n S K h i ∧ pre n S K h i ≤ 1100000 := by
  cases i with
  | zero =>
    show -9400000 ≤ al h (S 0) + S 0 ∧ al h (S 0) + S 0 ≤ 1100000
    have h3 := V.sp hi
    have h4 := al_le (x := h) h3.1
    have h5 := al_lt (x := h) h3.1
    omega
  | succ i =>
    have := sm_bd V h1 h2 (i := i) (by omega)
    show -9400000 ≤ sm n S K h i ∧ sm n S K h i ≤ 1100000
    omega
theorem X2_fs_loop {n : Nat} {S K : Nat → Int} (V : VP n S K) {s : St} {p a : Nat} (hp : PlC s p n S K) (ha : ¬ a = 0 ∧ gL s 10 a = 4 ∧ ¬ gR s 2 p 0 = a ∧ ¬ gR s 2 p 1 = a) {h : Int} (h1 : -1000000 ≤ h) (h2 : h ≤ 1000000) (fu : Nat) :
    ∀ (d m i : Nat) (v : Int32), n - i = d → i ≤ n → d < m → (i < n → v.toInt = pre n S K h i) → f_X2_findSeams_b21 fu m (wI s 10 a (fsF s a n S K h i)) p a v (nI i) = some (wI s 10 a (fsF s a n S K h n)) := by
  obtain ⟨p0, ⟨p1, p2⟩, ⟨p3, p4⟩, p5, p6⟩ := hp
  obtain ⟨a0, a1, a2, a3⟩ := ha
  have hn := V.1
  intro d
  induction d with
  | zero =>
    intro m i v hd hi hm hv
    have e : i = n := by omega
    subst e
    cases m with
    | zero => omega
    | succ m =>
      unfold f_X2_findSeams_b21
      simp only [p0, gI_sI, gJ_sI, gR_sI, gL_sI, gN_sI, cn_sI, sn_sI, gI_sJ, gJ_sJ, gR_sJ, gL_sJ, gN_sJ, cn_sJ, sn_sJ, gI_sR, gJ_sR, gR_sR, gL_sR, gN_sR, cn_sR, sn_sR, gI_nX, gJ_nX, gR_nX, gL_nX, gN_nX, cn_nX, sn_nX, gI_wI, gJ_wI, gR_wI, gL_wI, gN_wI, cn_wI, sn_wI, gI_wJ, gJ_wJ, gR_wJ, gL_wJ, gN_wJ, cn_wJ, sn_wJ, gI_nW, gJ_nW, gR_nW, gL_nW, gN_nW, cn_nW, sn_nW, p5, ni_le (show i < 2147483648 by omega) (show i < 2147483648 by omega), Nat.le_refl, if_true, if_false, Nat.reduceEqDiff, false_and, reduceIte]
  | succ d ih =>
    intro m i v hd hi hm hv
    have hin : i < n := by omega
    cases m with
    | zero => omega
    | succ m =>
      have b4 : inb (nI i) 4 = true := nu_inbn (by omega) (by omega)
      obtain ⟨q1, q2⟩ := p6 i hin
      have hv := hv hin
      have hb := pre_bd V h1 h2 hin
      have hk := V.ks hin
      have e1 : (gI s 10 (gR s 2 p 1) i * gI s 10 (gR s 2 p 0) i).toInt = K i * S i := by
        rw [nu_mul (by rw [q1, q2]; have := V.sp hin; omega) (by rw [q1, q2]; omega), q1, q2]
      have e2 : (v - gI s 10 (gR s 2 p 1) i * gI s 10 (gR s 2 p 0) i).toInt = pre n S K h i - K i * S i := by
        have := V.sp hin
        rw [nu_sub (by rw [e1, hv]; omega) (by rw [e1, hv]; omega), e1, hv]
      have hsm := sm_pre (n := n) (S := S) (K := K) (h := h) i
      have key : ∀ w : Int32, w.toInt = sm n S K h i → f_X2_findSeams_b73 fu (f_X2_findSeams_b21 fu m) (wI s 10 a (fsF s a n S K h i)) p a w (nI i) = some (wI s 10 a (fsF s a n S K h n)) := by
        intro w hw
        unfold f_X2_findSeams_b73
        simp only [a0, gI_sI, gJ_sI, gR_sI, gL_sI, gN_sI, cn_sI, sn_sI, gI_sJ, gJ_sJ, gR_sJ, gL_sJ, gN_sJ, cn_sJ, sn_sJ, gI_sR, gJ_sR, gR_sR, gL_sR, gN_sR, cn_sR, sn_sR, gI_nX, gJ_nX, gR_nX, gL_nX, gN_nX, cn_nX, sn_nX, gI_wI, gJ_wI, gR_wI, gL_wI, gN_wI, cn_wI, sn_wI, gI_wJ, gJ_wJ, gR_wJ, gL_wJ, gN_wJ, cn_wJ, sn_wJ, gI_nW, gJ_nW, gR_nW, gL_nW, gN_nW, cn_nW, sn_nW, a1, b4, if_false, reduceIte, Bool.true_eq_false, lt, nu_ixn (show i < 2147483648 by omega), nu_nIa]
        rw [fsF_step s a n S K h i (by rw [← hw, Int32.ofInt_toInt])]
        exact ih m (i + 1) w (by omega) (by omega) (by omega) (fun _ => hw)
      unfold f_X2_findSeams_b21
      simp only [p0, gI_sI, gJ_sI, gR_sI, gL_sI, gN_sI, cn_sI, sn_sI, gI_sJ, gJ_sJ, gR_sJ, gL_sJ, gN_sJ, cn_sJ, sn_sJ, gI_sR, gJ_sR, gR_sR, gL_sR, gN_sR, cn_sR, sn_sR, gI_nX, gJ_nX, gR_nX, gL_nX, gN_nX, cn_nX, sn_nX, gI_wI, gJ_wI, gR_wI, gL_wI, gN_wI, cn_wI, sn_wI, gI_wJ, gJ_wJ, gR_wJ, gL_wJ, gN_wJ, cn_wJ, sn_wJ, gI_nW, gJ_nW, gR_nW, gL_nW, gN_nW, cn_nW, sn_nW, p5, ni_le (show n < 2147483648 by omega) (show i < 2147483648 by omega), if_false, Nat.reduceEqDiff, false_and, reduceIte, show ¬ n ≤ i by omega, p1, p2, p3, p4, a2, a3, b4, Bool.true_eq_false, lt, nu_ixn (show i < 2147483648 by omega), nu_nIa, and_false, ni_le (show n < 2147483648 by omega) (show i + 1 < 2147483648 by omega)]
      by_cases hl : n ≤ i + 1
      · rw [if_pos hl]
        refine key _ ?_
        rw [e2, hsm, sa, if_neg (by omega)]
      · rw [if_neg hl]
        have b5 : inb (nI (i + 1)) 4 = true := nu_inbn (by omega) (by omega)
        obtain ⟨q3, q4⟩ := p6 (i + 1) (by omega)
        have hs := V.sp (i := i + 1) (by omega)
        simp only [b5, Bool.true_eq_false, reduceIte, nu_ixn (show i + 1 < 2147483648 by omega), X8_mu (b := gI s 10 (gR s 2 p 0) (i + 1)) (by rw [q3]; exact hs.1), bI]
        refine key _ ?_
        rw [mu_i (by rw [q3]; exact hs.1) (by rw [e2, q3]; omega), e2, q3, hsm, sa, if_pos (by omega)]
theorem X2_fs {n : Nat} {S K : Nat → Int} (V : VP n S K) {s : St} {p a : Nat} (hp : PlC s p n S K) (ha : ¬ a = 0 ∧ gL s 10 a = 4 ∧ ¬ gR s 2 p 0 = a ∧ ¬ gR s 2 p 1 = a) {h : Int32} (h1 : -1000000 ≤ h.toInt) (h2 : h.toInt ≤ 1000000) {fu : Nat} (hfu : 100 ≤ fu) :
    f_X2_findSeams fu s p h a = some (wI s 10 a (fsF s a n S K h.toInt n)) := by
  have hp' := hp
  obtain ⟨p0, ⟨p1, p2⟩, ⟨p3, p4⟩, p5, p6⟩ := hp
  have hn := V.1
  obtain ⟨q1, -⟩ := p6 0 (by omega)
  have hs := V.sp (i := 0) (by omega)
  have b4 : inb 0 4 = true := by decide
  have i0 : ix 0 = 0 := rfl
  have e0 : wI s 10 a (fsF s a n S K h.toInt 0) = s := by
    have : fsF s a n S K h.toInt 0 = gI s 10 a := by
      funext j; unfold fsF; rw [if_neg (by omega)]
    rw [this, wI_id]
  have hl := X2_fs_loop V hp' ha h1 h2 fu n fu 0
  rw [e0] at hl
  unfold f_X2_findSeams
  simp only [p0, p1, p3, b4, if_false, reduceIte, Bool.true_eq_false, i0, X8_mu (b := gI s 10 (gR s 2 p 0) 0) (by rw [q1]; exact hs.1), bI, lt]
  refine hl _ (by omega) (by omega) (by omega) (fun _ => ?_)
  have e1 := mu_i (a := h) (b := gI s 10 (gR s 2 p 0) 0) (by rw [q1]; exact hs.1) (by rw [q1]; omega)
  have h4 := al_le (x := h.toInt) hs.1
  have h5 := al_lt (x := h.toInt) hs.1
  rw [nu_add (by rw [e1, q1]; omega) (by rw [e1, q1]; omega), e1, q1]
  rfl
/-! the tier under some seams -/
def tc (o : Option Nat) : Int32 := match o with
  | none => -1
  | some i => nI i
theorem tc_none : tc none = -1 := rfl
theorem tc_m1 {o : Option Nat} {n : Nat} (h : ∀ i, o = some i → i < n) (hn : n ≤ 4) : tc o = -1 ↔ o = none := by
  cases o with
  | none => exact ⟨fun _ => rfl, fun _ => rfl⟩
  | some i =>
    have := h i rfl
    exact ⟨fun q => absurd q (ni_m1 (by omega)), fun q => by cases q⟩
theorem tq_lt {σ : Nat → Int} {n : Nat} {t : Int} {i : Nat} (h : tq σ n t = some i) : i < n := (tq_some.mp h).1
theorem X2_tu {n : Nat} (hn : n ≤ 4) {s : St} {p a : Nat} (hp0 : ¬ p = 0) (hpn : gI s 2 p 3 = nI n) (ha : ¬ a = 0 ∧ gL s 10 a = 4) {σ : Nat → Int} (hσ : ∀ i, i < n → (gI s 10 a i).toInt = σ i) {t : Int32} {fu : Nat} (hfu : 100 ≤ fu) :
    f_X2_tierUnder fu s p a t = some (s, tc (tq σ n t.toInt)) := by
  have loop : ∀ (d m i : Nat), n - i = d → i ≤ n → d < m → (∀ j, j < i → t.toInt < σ j) → f_X2_tierUnder_b2 fu m s p a t (nI i) = some (s, tc (tq σ n t.toInt)) := by
    intro d
    induction d with
    | zero =>
      intro m i hd hi hm hj
      have e : i = n := by omega
      subst e
      cases m with
      | zero => omega
      | succ m =>
        have e2 : tq σ i t.toInt = none := tq_none.mpr hj
        unfold f_X2_tierUnder_b2
        simp only [hp0, hpn, ni_le (show i < 2147483648 by omega) (show i < 2147483648 by omega), Nat.le_refl, reduceIte, e2, tc_none]
    | succ d ih =>
      intro m i hd hi hm hj
      cases m with
      | zero => omega
      | succ m =>
        have b4 : inb (nI i) 4 = true := nu_inbn (by omega) (by omega)
        unfold f_X2_tierUnder_b2
        simp only [hp0, hpn, ni_le (show n < 2147483648 by omega) (show i < 2147483648 by omega), show ¬ n ≤ i by omega, reduceIte, ha.1, ha.2, b4, Bool.true_eq_false, nu_ixn (show i < 2147483648 by omega), lt, nu_nIa, nu_lt, hσ i (by omega)]
        by_cases h : t.toInt < σ i
        · rw [if_pos h]
          exact ih m (i + 1) (by omega) (by omega) (by omega) (fun j hj' => by
            by_cases e : j = i
            · subst e; exact h
            · exact hj j (by omega))
        · rw [if_neg h]
          have e2 : tq σ n t.toInt = some i := tq_some.mpr ⟨by omega, by omega, hj⟩
          rw [e2]
          rfl
  unfold f_X2_tierUnder
  rw [nu_n0]
  exact loop n fu 0 (by omega) (by omega) (by omega) (fun j hj => by omega)
/-! the reference's -/
def PlM (s : St) (n : Nat) (S K : Nat → Int) : Prop := (¬ gR s 9 1 4 = 0 ∧ ¬ gR s 9 1 5 = 0) ∧ (gL s 10 (gR s 9 1 4) = 4 ∧ gL s 10 (gR s 9 1 5) = 4) ∧ gI s 9 1 7 = nI n ∧ ∀ i, i < n → (gI s 10 (gR s 9 1 4) i).toInt = S i ∧ (gI s 10 (gR s 9 1 5) i).toInt = K i
theorem X9_sb {n : Nat} {S K : Nat → Int} (V : VP n S K) {s : St} (hp : PlM s n S K) {h : Int32} (h1 : -1000000 ≤ h.toInt) (h2 : h.toInt ≤ 1000000) {t : Nat} (ht : t < n) {fu : Nat} (hfu : 100 ≤ fu) :
    f_X9_seamBy fu s 1 h (nI t) = some (s, Int32.ofInt (sm n S K h.toInt t)) := by
  obtain ⟨⟨p1, p2⟩, ⟨p3, p4⟩, p5, p6⟩ := hp
  have hn := V.1
  have e10 : ¬ (1 = 0) := by decide
  have loop : ∀ (d m i : Nat) (v : Int64), t + 1 - i = d → i ≤ t + 1 → d < m → (0 < i → v.toInt = pre n S K h.toInt i) → f_X9_seamBy_b5 fu m s 1 h (nI t) v (nI i) = some (s, Int32.ofInt (sm n S K h.toInt t)) := by
    intro d
    induction d with
    | zero =>
      intro m i v hd hi hm hv
      have e : i = t + 1 := by omega
      subst e
      cases m with
      | zero => omega
      | succ m =>
        unfold f_X9_seamBy_b5
        simp only [ni_lt (show t < 2147483648 by omega) (show t + 1 < 2147483648 by omega), show t < t + 1 by omega, reduceIte]
        rw [to32, hv (by omega)]
        rfl
    | succ d ih =>
      intro m i v hd hi hm hv
      have hin : i < n := by omega
      cases m with
      | zero => omega
      | succ m =>
        have b4 : inb (nI i) 4 = true := nu_inbn (by omega) (by omega)
        obtain ⟨q1, q2⟩ := p6 i hin
        have hb := pre_bd V h1 h2 hin
        have hk := V.ks hin
        have hs0 := V.sp hin
        have hsm := sm_pre (n := n) (S := S) (K := K) (h := h.toInt) i
        have key2 : ∀ w : Int64, w.toInt = sm n S K h.toInt i → f_X9_seamBy_b91 fu (f_X9_seamBy_b5 fu m) s 1 h (nI t) w (nI i) = some (s, Int32.ofInt (sm n S K h.toInt t)) := by
          intro w hw
          unfold f_X9_seamBy_b91
          simp only [lt, nu_nIa]
          exact ih m (i + 1) w (by omega) (by omega) (by omega) (fun _ => hw)
        have key : ∀ w : Int64, w.toInt = pre n S K h.toInt i → f_X9_seamBy_b42 fu (f_X9_seamBy_b5 fu m) s 1 h (nI t) (nI i) w = some (s, Int32.ofInt (sm n S K h.toInt t)) := by
          intro w hw
          have e1 : (Int32.toInt64 (gI s 10 (gR s 9 1 5) i) * Int32.toInt64 (gI s 10 (gR s 9 1 4) i)).toInt = K i * S i := by
            rw [nj_mul (by rw [nj_up, nj_up, q1, q2]; omega) (by rw [nj_up, nj_up, q1, q2]; omega), nj_up, nj_up, q1, q2]
          have e2 : (w - Int32.toInt64 (gI s 10 (gR s 9 1 5) i) * Int32.toInt64 (gI s 10 (gR s 9 1 4) i)).toInt = pre n S K h.toInt i - K i * S i := by
            rw [nj_sub (by rw [e1, hw]; omega) (by rw [e1, hw]; omega), e1, hw]
          unfold f_X9_seamBy_b42
          simp only [e10, p1, p2, p3, p4, b4, reduceIte, Bool.true_eq_false, lt, nu_ixn (show i < 2147483648 by omega), p5, nu_nIa, ni_le (show n < 2147483648 by omega) (show i + 1 < 2147483648 by omega)]
          by_cases hl : n ≤ i + 1
          · rw [if_pos hl]
            refine key2 _ ?_
            rw [e2, hsm, sa, if_neg (by omega)]
          · rw [if_neg hl]
            have b5 : inb (nI (i + 1)) 4 = true := nu_inbn (by omega) (by omega)
            obtain ⟨q3, q4⟩ := p6 (i + 1) (by omega)
            have hs := V.sp (i := i + 1) (by omega)
            simp only [b5, Bool.true_eq_false, reduceIte, nu_ixn (show i + 1 < 2147483648 by omega)]
            rw [X9_mult (by rw [q3]; exact hs.1) (by rw [e2]; omega) (by rw [e2]; omega)]
            simp only [bI]
            refine key2 _ ?_
            have h3 := al_le (x := pre n S K h.toInt i - K i * S i) hs.1
            have h4 := al_lt (x := pre n S K h.toInt i - K i * S i) hs.1
            rw [nj_up, e2, q3, nu_of (by omega) (by omega), hsm, sa, if_pos (by omega)]
        unfold f_X9_seamBy_b5
        simp only [ni_lt (show t < 2147483648 by omega) (show i < 2147483648 by omega), show ¬ t < i by omega, reduceIte]
        by_cases h0 : i = 0
        · subst h0
          have z0 : nI 0 = 0 := rfl
          have b0 : inb 0 4 = true := by decide
          have i0 : ix 0 = 0 := rfl
          simp only [z0, reduceIte, e10, p1, p3, b0, Bool.true_eq_false, i0]
          rw [X9_by (by rw [nj_up, q1]; exact hs0.1) (by rw [nj_up]; omega) (by rw [nj_up]; omega) (by rw [nj_up, q1]; omega)]
          simp only [bI, p1, p3, b0, Bool.true_eq_false, reduceIte]
          have h3 := al_le (x := h.toInt) hs0.1
          have h4 := al_lt (x := h.toInt) hs0.1
          refine key _ ?_
          rw [nj_up, nj_up, q1]
          have m1 : -1000000 ≤ h.toInt / S 0 ∧ h.toInt / S 0 ≤ 1000000 := by
            have e := Int.mul_ediv_add_emod h.toInt (S 0)
            by_cases ha : 0 ≤ h.toInt
            · have q1 : 0 ≤ h.toInt / S 0 := Int.ediv_nonneg ha (by omega)
              have q2 := Int.ediv_le_self (S 0) ha
              omega
            · have q1 : h.toInt / S 0 < 0 := Int.ediv_neg_of_neg_of_pos (by omega) hs0.1
              have q2 : h.toInt ≤ h.toInt / S 0 := by
                rw [Int.le_ediv_iff_mul_le hs0.1]
                have : h.toInt * S 0 ≤ h.toInt * 1 := Int.mul_le_mul_of_nonpos_left (by omega) (by omega)
                omega
              omega
          have e1 : (Int64.ofInt (h.toInt / S 0) + 1).toInt = h.toInt / S 0 + 1 := by
            have e0 : (1 : Int64).toInt = 1 := rfl
            have e3 := nj_of (n := h.toInt / S 0) (by omega) (by omega)
            rw [nj_add (by rw [e3, e0]; omega) (by rw [e3, e0]; omega), e3, e0]
          have e4 : (h.toInt / S 0 + 1) * S 0 = al h.toInt (S 0) + S 0 := by
            unfold al
            rw [Int.add_mul, Int.one_mul, Int.mul_comm]
          rw [nj_mul (by rw [e1, nj_up, q1, e4]; omega) (by rw [e1, nj_up, q1, e4]; omega), e1, nj_up, q1, e4]
          rfl
        · have z0 : ¬ nI i = 0 := fun q => h0 ((ni_eq (b := 0) (by omega) (by omega)).mp q)
          simp only [z0, reduceIte]
          exact key v (hv (by omega))
  unfold f_X9_seamBy
  rw [nu_n0]
  exact loop (t + 1) fu 0 0 (by omega) (by omega) (by omega) (fun q => by omega)
theorem X9_tb {n : Nat} {S K : Nat → Int} (V : VP n S K) {s : St} (hp : PlM s n S K) {h t : Int32} (h1 : -1000000 ≤ h.toInt) (h2 : h.toInt ≤ 1000000) {fu : Nat} (hfu : 100 ≤ fu) :
    f_X9_tierBy fu s 1 h t = some (s, tc (tq (sm n S K h.toInt) n t.toInt)) := by
  have hn := V.1
  have e10 : ¬ (1 = 0) := by decide
  have loop : ∀ (d m i : Nat), n - i = d → i ≤ n → d < m → (∀ j, j < i → t.toInt < sm n S K h.toInt j) → f_X9_tierBy_b2 fu m s 1 h t (nI i) = some (s, tc (tq (sm n S K h.toInt) n t.toInt)) := by
    intro d
    induction d with
    | zero =>
      intro m i hd hi hm hj
      have e : i = n := by omega
      subst e
      cases m with
      | zero => omega
      | succ m =>
        have e2 : tq (sm i S K h.toInt) i t.toInt = none := tq_none.mpr hj
        unfold f_X9_tierBy_b2
        simp only [e10, hp.2.2.1, ni_le (show i < 2147483648 by omega) (show i < 2147483648 by omega), Nat.le_refl, reduceIte, e2, tc_none]
    | succ d ih =>
      intro m i hd hi hm hj
      cases m with
      | zero => omega
      | succ m =>
        have hb := sm_bd V h1 h2 (i := i) (by omega)
        unfold f_X9_tierBy_b2
        simp only [e10, hp.2.2.1, ni_le (show n < 2147483648 by omega) (show i < 2147483648 by omega), show ¬ n ≤ i by omega, reduceIte, X9_sb V hp h1 h2 (show i < n by omega) hfu, bI, lt, nu_nIa, nu_lt, nu_of (show -2147483648 ≤ sm n S K h.toInt i by omega) (by omega)]
        by_cases h : t.toInt < sm n S K h.toInt i
        · rw [if_pos h]
          exact ih m (i + 1) (by omega) (by omega) (by omega) (fun j hj' => by
            by_cases e : j = i
            · subst e; exact h
            · exact hj j (by omega))
        · rw [if_neg h]
          rw [tq_some.mpr ⟨by omega, by omega, hj⟩]
          rfl
  unfold f_X9_tierBy
  rw [nu_n0]
  exact loop n fu 0 (by omega) (by omega) (by omega) (fun j hj => by omega)
