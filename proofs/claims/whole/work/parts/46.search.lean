/-! ===== places: both sides look by halves ===== -/
theorem sh1 {k : Nat} (h : k < 2147483648) : ((nI k).toUInt32 >>> (Int32.toUInt32 1 &&& Int32.toUInt32 31)).toInt32 = nI (k / 2) := by
  have e : (nI k).toUInt32 >>> (Int32.toUInt32 1 &&& Int32.toUInt32 31) = UInt32.ofNat (k / 2) := by
    apply UInt32.toNat.inj
    rw [UInt32.toNat_shiftRight]
    have e1 : (Int32.toUInt32 1 &&& Int32.toUInt32 31).toNat % 32 = 1 := by decide
    have e2 : (nI k).toUInt32.toNat = k := by
      show (UInt32.ofNat k).toNat = k
      rw [UInt32.toNat_ofNat']
      omega
    rw [e1, e2, UInt32.toNat_ofNat', Nat.shiftRight_eq_div_pow]
    omega
  rw [e]
  rfl
theorem hf2 {k : Nat} (h : k < 2147483648) : nI k / 2 = nI (k / 2) := by
  refine nu_ext ?_
  have e : (2 : Int32).toInt = 2 := rfl
  rw [nu_div (by rw [e]; omega), nu_nI h, e, td_nn (by omega), nu_nI (by omega)]
  omega
theorem X5_ff {s : St} {o size N : Nat} {t : Int32} (ho : ¬ o = 0) (hsz : gI s 5 o 8 = nI size) (har : ¬ gR s 5 o 3 = 0) (hlen : size ≤ gL s 10 (gR s 5 o 3)) (hsz2 : size < 1000000) (hN : N ≤ size)
    (hj : ∀ j, j < size → ((gI s 10 (gR s 5 o 3) j).toInt < t.toInt ↔ j < N)) {fu : Nat} (hfu : size < fu) : f_X5_firstFrom fu s o t = some (s, nI N) := by
  have loop : ∀ (d m lo hi : Nat), hi - lo ≤ d → d < m → lo ≤ N → N ≤ hi → hi ≤ size → f_X5_firstFrom_b7 fu m s o t (nI lo) (nI hi) = some (s, nI N) := by
    intro d
    induction d with
    | zero =>
      intro m lo hi h1 h2 h3 h4 h5
      cases m with
      | zero => omega
      | succ m =>
        unfold f_X5_firstFrom_b7
        rw [if_pos ((ni_le (by omega) (by omega)).mpr (by omega)), show lo = N by omega]
    | succ d ih =>
      intro m lo hi h1 h2 h3 h4 h5
      cases m with
      | zero => omega
      | succ m =>
        unfold f_X5_firstFrom_b7
        by_cases hle : hi ≤ lo
        · rw [if_pos ((ni_le (by omega) (by omega)).mpr hle), show lo = N by omega]
        · have b4 : inb (nI ((lo + hi) / 2)) (gL s 10 (gR s 5 o 3)) = true := nu_inbn (by omega) (by omega)
          have hx := hj ((lo + hi) / 2) (by omega)
          rw [if_neg (fun q => hle ((ni_le (by omega) (by omega)).mp q)), ni_add (by omega), sh1 (by omega)]
          simp only [lt, ho, har, b4, reduceIte, Bool.true_eq_false, nu_ixn (show (lo + hi) / 2 < 2147483648 by omega), nu_nIa, f_X5_firstFrom_b41, nu_le]
          by_cases hq : t.toInt ≤ (gI s 10 (gR s 5 o 3) ((lo + hi) / 2)).toInt
          · rw [if_pos hq]
            exact ih m lo ((lo + hi) / 2) (by omega) (by omega) h3 (by omega) (by omega)
          · rw [if_neg hq]
            exact ih m ((lo + hi) / 2 + 1) hi (by omega) (by omega) (by omega) h4 h5
  unfold f_X5_firstFrom
  simp only [ho, reduceIte, lt, hsz]
  rw [nu_n0]
  exact loop size fu 0 size (by omega) hfu (by omega) hN (by omega)
/-! the reference's points -/
def off (P : Nat → List Pt) : Nat → Nat
  | 0 => 0
  | i + 1 => off P i + (P i).length
theorem off_s (P : Nat → List Pt) (i : Nat) : off P (i + 1) = off P i + (P i).length := rfl
theorem off_mono (P : Nat → List Pt) {i j : Nat} (h : i ≤ j) : off P i ≤ off P j := by
  induction j with
  | zero => rw [show i = 0 by omega]; exact Nat.le_refl _
  | succ j ih =>
    by_cases e : i = j + 1
    · subst e; exact Nat.le_refl _
    · have := ih (by omega)
      rw [off_s]; omega
theorem off_find (P : Nat → List Pt) {n k : Nat} (h : k < off P n) : ∃ i j p, i < n ∧ k = off P i + j ∧ (P i)[j]? = some p := by
  induction n with
  | zero => exact absurd h (Nat.not_lt_zero _)
  | succ n ih =>
    by_cases hk : k < off P n
    · obtain ⟨i, j, p, h1, h2, h3⟩ := ih hk
      exact ⟨i, j, p, by omega, h2, h3⟩
    · rw [off_s] at h
      have hj : k - off P n < (P n).length := by omega
      exact ⟨n, k - off P n, (P n)[k - off P n], by omega, by omega, List.getElem?_eq_getElem hj⟩
def PtM (s : St) (P : Nat → List Pt) : Prop := (¬ gR s 9 1 19 = 0 ∧ ¬ gR s 9 1 20 = 0 ∧ ¬ gR s 9 1 21 = 0) ∧ (off P 10 ≤ gL s 10 (gR s 9 1 19) ∧ off P 10 ≤ gL s 10 (gR s 9 1 20) ∧ off P 10 ≤ gL s 10 (gR s 9 1 21)) ∧ gI s 9 1 22 = nI (off P 10) ∧
  ∀ i, i < 10 → ∀ j p, (P i)[j]? = some p → gI s 10 (gR s 9 1 19) (off P i + j) = nI i ∧ gI s 10 (gR s 9 1 20) (off P i + j) = p.1 ∧ gI s 10 (gR s 9 1 21) (off P i + j) = p.2
/-- rising, and few enough -/
def PWf (P : Nat → List Pt) : Prop := (∀ i, i < 10 → Srt (P i)) ∧ off P 10 ≤ 40000
theorem pt_ahead {s : St} {P : Nat → List Pt} (hP : PtM s P) (hW : PWf P) {id : Nat} (hid : id < 10) (t : Int) {k : Nat} (hk : k < off P 10) :
    ((gI s 10 (gR s 9 1 19) k < nI id ∨ (gI s 10 (gR s 9 1 19) k = nI id ∧ (gI s 10 (gR s 9 1 20) k).toInt < t)) ↔ k < off P id + cl (P id) t) := by
  obtain ⟨i, j, p, hi, rfl, hp⟩ := off_find P hk
  obtain ⟨e1, e2, -⟩ := hP.2.2.2 i hi j p hp
  obtain ⟨hj, hpj⟩ := List.getElem?_eq_some_iff.mp hp
  rw [e1, e2, ni_lt (by omega) (by omega), ni_eq (by omega) (by omega)]
  have hc := cl_len (P id) t
  rcases Nat.lt_trichotomy i id with h | h | h
  · have := off_mono P (i := i + 1) (j := id) h
    rw [off_s] at this
    omega
  · subst h
    have h2 := cl_ix (hW.1 i hi) t j hj
    rw [hpj] at h2
    have h3 : tm p = p.1.toInt := rfl
    omega
  · have := off_mono P (i := id + 1) (j := i) h
    rw [off_s] at this
    omega
theorem X9_po {s : St} {P : Nat → List Pt} (hP : PtM s P) (hW : PWf P) {id : Nat} (hid : id < 10) {t : Int64} {fu : Nat} (hfu : 50000 ≤ fu) :
    f_X9_placeOf fu s 1 (nI id) t = some (s, nI (off P id + cl (P id) t.toInt)) := by
  have hah := fun k hk => pt_ahead hP hW hid t.toInt (k := k) hk
  obtain ⟨⟨r1, r2, r3⟩, ⟨l1, l2, l3⟩, hn, hc⟩ := hP
  have hNle : off P id + cl (P id) t.toInt ≤ off P 10 := by
    have h1 := cl_len (P id) t.toInt
    have h2 := off_mono P (i := id + 1) (j := 10) (by omega)
    rw [off_s] at h2
    omega
  have hsz := hW.2
  generalize off P id + cl (P id) t.toInt = N at hah hNle ⊢
  have e10 : ¬ (1 = 0) := by decide
  have z10 : ¬ ((1 : Int32) = 0) := by decide
  have loop : ∀ (d m lo hi : Nat), hi - lo ≤ d → d < m → lo ≤ N → N ≤ hi → hi ≤ off P 10 → f_X9_placeOf_b9 fu m s 1 (nI id) t (nI lo) (nI hi) = some (s, nI N) := by
    intro d
    induction d with
    | zero =>
      intro m lo hi h1 h2 h3 h4 h5
      cases m with
      | zero => omega
      | succ m =>
        unfold f_X9_placeOf_b9
        rw [if_pos ((ni_le (by omega) (by omega)).mpr (by omega)), show lo = N by omega]
    | succ d ih =>
      intro m lo hi h1 h2 h3 h4 h5
      cases m with
      | zero => omega
      | succ m =>
        unfold f_X9_placeOf_b9
        by_cases hle : hi ≤ lo
        · rw [if_pos ((ni_le (by omega) (by omega)).mpr hle), show lo = N by omega]
        · have b4 : inb (nI ((lo + hi) / 2)) (gL s 10 (gR s 9 1 19)) = true := nu_inbn (by omega) (by omega)
          have b5 : inb (nI ((lo + hi) / 2)) (gL s 10 (gR s 9 1 20)) = true := nu_inbn (by omega) (by omega)
          have hx := hah ((lo + hi) / 2) (by omega)
          rw [if_neg (fun q => hle ((ni_le (by omega) (by omega)).mp q)), ni_add (by omega), hf2 (by omega)]
          simp only [lt, e10, r1, r2, b4, b5, reduceIte, Bool.true_eq_false, nu_ixn (show (lo + hi) / 2 < 2147483648 by omega), nu_nIa, f_X9_placeOf_b60, f_X9_placeOf_b64, f_X9_placeOf_b65, f_X9_placeOf_b81, f_X9_placeOf_b95, z10, lg_ge, nj_up]
          have up := ih m ((lo + hi) / 2 + 1) hi (by omega) (by omega)
          have dn := ih m lo ((lo + hi) / 2) (by omega) (by omega)
          by_cases c1 : gI s 10 (gR s 9 1 19) ((lo + hi) / 2) < nI id
          · rw [if_pos c1]
            have := hx.mp (Or.inl c1)
            exact up (by omega) h4 h5
          · rw [if_neg c1]
            by_cases c2 : gI s 10 (gR s 9 1 19) ((lo + hi) / 2) = nI id
            · rw [if_pos c2]
              by_cases c3 : t.toInt ≤ (gI s 10 (gR s 9 1 20) ((lo + hi) / 2)).toInt
              · rw [if_pos c3]
                have : ¬ (lo + hi) / 2 < N := fun q => by
                  rcases hx.mpr q with q | q
                  · exact c1 q
                  · omega
                exact dn h3 (by omega) (by omega)
              · rw [if_neg c3]
                have := hx.mp (Or.inr ⟨c2, by omega⟩)
                exact up (by omega) h4 h5
            · rw [if_neg c2]
              have : ¬ (lo + hi) / 2 < N := fun q => by
                rcases hx.mpr q with q | q
                · exact c1 q
                · exact c2 q.1
              exact dn h3 (by omega) (by omega)
  unfold f_X9_placeOf
  simp only [e10, reduceIte, lt, hn]
  rw [nu_n0]
  exact loop (off P 10) fu 0 (off P 10) (by omega) (by omega) (by omega) hNle (by omega)
/-- times that can be -/
def Tms (P : Nat → List Pt) : Prop := ∀ i, i < 10 → ∀ p ∈ P i, -100000000 ≤ tm p ∧ tm p ≤ 100000000
theorem X9_fo {s : St} {P : Nat → List Pt} (hP : PtM s P) (hW : PWf P) (hT : Tms P) {id : Nat} (hid : id < 10) {fu : Nat} (hfu : 50000 ≤ fu) : f_X9_firstOf fu s 1 (nI id) = some (s, nI (off P id)) := by
  unfold f_X9_firstOf
  have e10 : ¬ (1 = 0) := by decide
  have e : (-200000000 : Int64).toInt = -200000000 := by decide
  simp only [e10, reduceIte, X9_po hP hW hid hfu, bI, e]
  rw [cl_none (fun q hq => by have := hT id hid q hq; omega)]
  rfl
theorem X9_bo {s : St} {P : Nat → List Pt} (hP : PtM s P) (hW : PWf P) (hT : Tms P) {id : Nat} (hid : id < 10) {fu : Nat} (hfu : 50000 ≤ fu) : f_X9_behindOf fu s 1 (nI id) = some (s, nI (off P (id + 1))) := by
  unfold f_X9_behindOf
  have e10 : ¬ (1 = 0) := by decide
  have e : (200000000 : Int64).toInt = 200000000 := by decide
  simp only [e10, reduceIte, X9_po hP hW hid hfu, bI, e]
  rw [cl_full (fun q hq => by have := hT id hid q hq; omega)]
  rfl
