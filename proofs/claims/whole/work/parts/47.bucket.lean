/-! ===== the reference's bucket from a place on ===== -/
def bS (s : St) (t st c : Int32) (m : Int64) (lo hi : Int32) : St := sJ (sI (sI (sI (sI (sI s 9 1 51 t) 9 1 52 st) 9 1 53 c) 9 1 54 lo) 9 1 55 hi) 9 1 56 m
theorem bS_step (s : St) (t st c : Int32) (m : Int64) (lo hi c' : Int32) (m' : Int64) (lo' hi' : Int32) : sI (sI (sJ (sI (bS s t st c m lo hi) 9 1 53 c') 9 1 56 m') 9 1 54 lo') 9 1 55 hi' = bS s t st c' m' lo' hi' := by
  refine st_ext (fun k i j => ?_) (fun k i j => ?_) (fun _ _ _ => rfl) (fun _ _ => rfl) (fun _ => rfl) rfl rfl
  · simp only [bS, gI_sI, gJ_sI, gR_sI, gL_sI, gN_sI, cn_sI, sn_sI, gI_sJ, gJ_sJ, gR_sJ, gL_sJ, gN_sJ, cn_sJ, sn_sJ, gI_sR, gJ_sR, gR_sR, gL_sR, gN_sR, cn_sR, sn_sR, gI_nX, gJ_nX, gR_nX, gL_nX, gN_nX, cn_nX, sn_nX, gI_wI, gJ_wI, gR_wI, gL_wI, gN_wI, cn_wI, sn_wI, gI_wJ, gJ_wJ, gR_wJ, gL_wJ, gN_wJ, cn_wJ, sn_wJ, gI_nW, gJ_nW, gR_nW, gL_nW, gN_nW, cn_nW, sn_nW]
    repeat' split
    all_goals first | rfl | (exfalso; omega)
  · simp only [bS, gI_sI, gJ_sI, gR_sI, gL_sI, gN_sI, cn_sI, sn_sI, gI_sJ, gJ_sJ, gR_sJ, gL_sJ, gN_sJ, cn_sJ, sn_sJ, gI_sR, gJ_sR, gR_sR, gL_sR, gN_sR, cn_sR, sn_sR, gI_nX, gJ_nX, gR_nX, gL_nX, gN_nX, cn_nX, sn_nX, gI_wI, gJ_wI, gR_wI, gL_wI, gN_wI, cn_wI, sn_wI, gI_wJ, gJ_wJ, gR_wJ, gL_wJ, gN_wJ, cn_wJ, sn_wJ, gI_nW, gJ_nW, gR_nW, gL_nW, gN_nW, cn_nW, sn_nW]
    repeat' split
    all_goals first | rfl | (exfalso; omega)
theorem bS_init (s : St) (t st lo hi : Int32) (m : Int64) : sI (sI (sJ (sI (sI (sI s 9 1 51 t) 9 1 52 st) 9 1 53 0) 9 1 56 m) 9 1 54 lo) 9 1 55 hi = bS s t st 0 m lo hi := by
  refine st_ext (fun k i j => ?_) (fun k i j => ?_) (fun _ _ _ => rfl) (fun _ _ => rfl) (fun _ => rfl) rfl rfl
  · simp only [bS, gI_sI, gJ_sI, gR_sI, gL_sI, gN_sI, cn_sI, sn_sI, gI_sJ, gJ_sJ, gR_sJ, gL_sJ, gN_sJ, cn_sJ, sn_sJ, gI_sR, gJ_sR, gR_sR, gL_sR, gN_sR, cn_sR, sn_sR, gI_nX, gJ_nX, gR_nX, gL_nX, gN_nX, cn_nX, sn_nX, gI_wI, gJ_wI, gR_wI, gL_wI, gN_wI, cn_wI, sn_wI, gI_wJ, gJ_wJ, gR_wJ, gL_wJ, gN_wJ, cn_wJ, sn_wJ, gI_nW, gJ_nW, gR_nW, gL_nW, gN_nW, cn_nW, sn_nW]
  · simp only [bS, gI_sI, gJ_sI, gR_sI, gL_sI, gN_sI, cn_sI, sn_sI, gI_sJ, gJ_sJ, gR_sJ, gL_sJ, gN_sJ, cn_sJ, sn_sJ, gI_sR, gJ_sR, gR_sR, gL_sR, gN_sR, cn_sR, sn_sR, gI_nX, gJ_nX, gR_nX, gL_nX, gN_nX, cn_nX, sn_nX, gI_wI, gJ_wI, gR_wI, gL_wI, gN_wI, cn_wI, sn_wI, gI_wJ, gJ_wJ, gR_wJ, gL_wJ, gN_wJ, cn_wJ, sn_wJ, gI_nW, gJ_nW, gR_nW, gL_nW, gN_nW, cn_nW, sn_nW]
/-- what the reference's scratch is made of: reads that stay -/
theorem bS_g (s : St) (t st c : Int32) (m : Int64) (lo hi : Int32) : gR (bS s t st c m lo hi) = gR s ∧ gL (bS s t st c m lo hi) = gL s ∧ gN (bS s t st c m lo hi) = gN s ∧ cn (bS s t st c m lo hi) = cn s ∧ sn (bS s t st c m lo hi) = sn s := ⟨rfl, rfl, rfl, rfl, rfl⟩
theorem bS_I (s : St) (t st c : Int32) (m : Int64) (lo hi : Int32) {k : Nat} (hk : ¬ k = 9) (i j : Nat) : gI (bS s t st c m lo hi) k i j = gI s k i j := by
  simp only [bS, gI_sI, gJ_sI, gR_sI, gL_sI, gN_sI, cn_sI, sn_sI, gI_sJ, gJ_sJ, gR_sJ, gL_sJ, gN_sJ, cn_sJ, sn_sJ, gI_sR, gJ_sR, gR_sR, gL_sR, gN_sR, cn_sR, sn_sR, gI_nX, gJ_nX, gR_nX, gL_nX, gN_nX, cn_nX, sn_nX, gI_wI, gJ_wI, gR_wI, gL_wI, gN_wI, cn_wI, sn_wI, gI_wJ, gJ_wJ, gR_wJ, gL_wJ, gN_wJ, cn_wJ, sn_wJ, gI_nW, gJ_nW, gR_nW, gL_nW, gN_nW, cn_nW, sn_nW, hk, false_and, reduceIte]
theorem bS_f (s : St) (t st c : Int32) (m : Int64) (lo hi : Int32) {j : Nat} (hj : j < 51 ∨ 55 < j) : gI (bS s t st c m lo hi) 9 1 j = gI s 9 1 j := by
  simp only [bS, gI_sI, gJ_sI, gR_sI, gL_sI, gN_sI, cn_sI, sn_sI, gI_sJ, gJ_sJ, gR_sJ, gL_sJ, gN_sJ, cn_sJ, sn_sJ, gI_sR, gJ_sR, gR_sR, gL_sR, gN_sR, cn_sR, sn_sR, gI_nX, gJ_nX, gR_nX, gL_nX, gN_nX, cn_nX, sn_nX, gI_wI, gJ_wI, gR_wI, gL_wI, gN_wI, cn_wI, sn_wI, gI_wJ, gJ_wJ, gR_wJ, gL_wJ, gN_wJ, cn_wJ, sn_wJ, gI_nW, gJ_nW, gR_nW, gL_nW, gN_nW, cn_nW, sn_nW]
  repeat' split
  all_goals first | rfl | (exfalso; omega)
theorem bS_51 (s : St) (t st c : Int32) (m : Int64) (lo hi : Int32) : gI (bS s t st c m lo hi) 9 1 51 = t := by simp only [bS, gI_sI, gJ_sI, gR_sI, gL_sI, gN_sI, cn_sI, sn_sI, gI_sJ, gJ_sJ, gR_sJ, gL_sJ, gN_sJ, cn_sJ, sn_sJ, gI_sR, gJ_sR, gR_sR, gL_sR, gN_sR, cn_sR, sn_sR, gI_nX, gJ_nX, gR_nX, gL_nX, gN_nX, cn_nX, sn_nX, gI_wI, gJ_wI, gR_wI, gL_wI, gN_wI, cn_wI, sn_wI, gI_wJ, gJ_wJ, gR_wJ, gL_wJ, gN_wJ, cn_wJ, sn_wJ, gI_nW, gJ_nW, gR_nW, gL_nW, gN_nW, cn_nW, sn_nW, Nat.reduceEqDiff, and_false, and_self, reduceIte]
theorem bS_52 (s : St) (t st c : Int32) (m : Int64) (lo hi : Int32) : gI (bS s t st c m lo hi) 9 1 52 = st := by simp only [bS, gI_sI, gJ_sI, gR_sI, gL_sI, gN_sI, cn_sI, sn_sI, gI_sJ, gJ_sJ, gR_sJ, gL_sJ, gN_sJ, cn_sJ, sn_sJ, gI_sR, gJ_sR, gR_sR, gL_sR, gN_sR, cn_sR, sn_sR, gI_nX, gJ_nX, gR_nX, gL_nX, gN_nX, cn_nX, sn_nX, gI_wI, gJ_wI, gR_wI, gL_wI, gN_wI, cn_wI, sn_wI, gI_wJ, gJ_wJ, gR_wJ, gL_wJ, gN_wJ, cn_wJ, sn_wJ, gI_nW, gJ_nW, gR_nW, gL_nW, gN_nW, cn_nW, sn_nW, Nat.reduceEqDiff, and_false, and_self, reduceIte]
theorem bS_53 (s : St) (t st c : Int32) (m : Int64) (lo hi : Int32) : gI (bS s t st c m lo hi) 9 1 53 = c := by simp only [bS, gI_sI, gJ_sI, gR_sI, gL_sI, gN_sI, cn_sI, sn_sI, gI_sJ, gJ_sJ, gR_sJ, gL_sJ, gN_sJ, cn_sJ, sn_sJ, gI_sR, gJ_sR, gR_sR, gL_sR, gN_sR, cn_sR, sn_sR, gI_nX, gJ_nX, gR_nX, gL_nX, gN_nX, cn_nX, sn_nX, gI_wI, gJ_wI, gR_wI, gL_wI, gN_wI, cn_wI, sn_wI, gI_wJ, gJ_wJ, gR_wJ, gL_wJ, gN_wJ, cn_wJ, sn_wJ, gI_nW, gJ_nW, gR_nW, gL_nW, gN_nW, cn_nW, sn_nW, Nat.reduceEqDiff, and_false, and_self, reduceIte]
theorem bS_54 (s : St) (t st c : Int32) (m : Int64) (lo hi : Int32) : gI (bS s t st c m lo hi) 9 1 54 = lo := by simp only [bS, gI_sI, gJ_sI, gR_sI, gL_sI, gN_sI, cn_sI, sn_sI, gI_sJ, gJ_sJ, gR_sJ, gL_sJ, gN_sJ, cn_sJ, sn_sJ, gI_sR, gJ_sR, gR_sR, gL_sR, gN_sR, cn_sR, sn_sR, gI_nX, gJ_nX, gR_nX, gL_nX, gN_nX, cn_nX, sn_nX, gI_wI, gJ_wI, gR_wI, gL_wI, gN_wI, cn_wI, sn_wI, gI_wJ, gJ_wJ, gR_wJ, gL_wJ, gN_wJ, cn_wJ, sn_wJ, gI_nW, gJ_nW, gR_nW, gL_nW, gN_nW, cn_nW, sn_nW, Nat.reduceEqDiff, and_false, and_self, reduceIte]
theorem bS_55 (s : St) (t st c : Int32) (m : Int64) (lo hi : Int32) : gI (bS s t st c m lo hi) 9 1 55 = hi := by simp only [bS, gI_sI, gJ_sI, gR_sI, gL_sI, gN_sI, cn_sI, sn_sI, gI_sJ, gJ_sJ, gR_sJ, gL_sJ, gN_sJ, cn_sJ, sn_sJ, gI_sR, gJ_sR, gR_sR, gL_sR, gN_sR, cn_sR, sn_sR, gI_nX, gJ_nX, gR_nX, gL_nX, gN_nX, cn_nX, sn_nX, gI_wI, gJ_wI, gR_wI, gL_wI, gN_wI, cn_wI, sn_wI, gI_wJ, gJ_wJ, gR_wJ, gL_wJ, gN_wJ, cn_wJ, sn_wJ, gI_nW, gJ_nW, gR_nW, gL_nW, gN_nW, cn_nW, sn_nW, Nat.reduceEqDiff, and_false, and_self, reduceIte]
theorem bS_56 (s : St) (t st c : Int32) (m : Int64) (lo hi : Int32) : gJ (bS s t st c m lo hi) 9 1 56 = m := by simp only [bS, gI_sI, gJ_sI, gR_sI, gL_sI, gN_sI, cn_sI, sn_sI, gI_sJ, gJ_sJ, gR_sJ, gL_sJ, gN_sJ, cn_sJ, sn_sJ, gI_sR, gJ_sR, gR_sR, gL_sR, gN_sR, cn_sR, sn_sR, gI_nX, gJ_nX, gR_nX, gL_nX, gN_nX, cn_nX, sn_nX, gI_wI, gJ_wI, gR_wI, gL_wI, gN_wI, cn_wI, sn_wI, gI_wJ, gJ_wJ, gR_wJ, gL_wJ, gN_wJ, cn_wJ, sn_wJ, gI_nW, gJ_nW, gR_nW, gL_nW, gN_nW, cn_nW, sn_nW, and_self, reduceIte]
theorem bS_J (s : St) (t st c : Int32) (m : Int64) (lo hi : Int32) {k i j : Nat} (h : ¬ (k = 9 ∧ i = 1 ∧ j = 56)) : gJ (bS s t st c m lo hi) k i j = gJ s k i j := by
  simp only [bS, gI_sI, gJ_sI, gR_sI, gL_sI, gN_sI, cn_sI, sn_sI, gI_sJ, gJ_sJ, gR_sJ, gL_sJ, gN_sJ, cn_sJ, sn_sJ, gI_sR, gJ_sR, gR_sR, gL_sR, gN_sR, cn_sR, sn_sR, gI_nX, gJ_nX, gR_nX, gL_nX, gN_nX, cn_nX, sn_nX, gI_wI, gJ_wI, gR_wI, gL_wI, gN_wI, cn_wI, sn_wI, gI_wJ, gJ_wJ, gR_wJ, gL_wJ, gN_wJ, cn_wJ, sn_wJ, gI_nW, gJ_nW, gR_nW, gL_nW, gN_nW, cn_nW, sn_nW]
  rw [if_neg h]
/-- heads of the reference -/
def HdM (s : St) (H : Nat → Int32) : Prop := ¬ gR s 9 1 11 = 0 ∧ gL s 10 (gR s 9 1 11) = 10 ∧ ∀ i, i < 10 → gI s 10 (gR s 9 1 11) i = H i
theorem X9_bf {n : Nat} {S K : Nat → Int} (V : VP n S K) {s : St} (hp : PlM s n S K) {P : Nat → List Pt} (hP : PtM s P) (hW : PWf P) {H : Nat → Int32} (hH : HdM s H) {id : Nat} (hid : id < 10)
    (h1 : -1000000 ≤ (H id).toInt) (h2 : (H id).toInt ≤ 1000000) {A g C : List Pt} (hPid : P id = A ++ (g ++ C)) (hg : g ≠ []) {b : Int} {i : Nat}
    (hb : ∀ p ∈ g, TI (sm n S K (H id).toInt) n (tm p) i ∧ al (tm p) (S i) = b) (hC : ∀ p ∈ C, b + S i ≤ tm p) (hT : ∀ p ∈ g, -100000000 ≤ tm p ∧ tm p ≤ 100000000) {fu : Nat} (hfu : 50000 ≤ fu) :
    f_X9_bucketFrom fu s 1 (nI (off P id + A.length)) = some (bS s (nI i) (Int32.ofInt b) (nI g.length) (s64 g) (gmn g) (gmx g), nI (off P id + A.length + g.length)) := by
  have hn := V.1
  have hsz := hW.2
  have hlen : off P id + A.length + g.length + C.length ≤ off P 10 := by
    have h3 := off_mono P (i := id + 1) (j := 10) (by omega)
    rw [off_s, hPid, List.length_append, List.length_append] at h3
    omega
  have hgl : 0 < g.length := List.length_pos_iff.mpr hg
  obtain ⟨⟨r1, r2, r3⟩, ⟨l1, l2, l3⟩, hpn, hc⟩ := hP
  obtain ⟨⟨p1, p2⟩, ⟨p3, p4⟩, p5, p6⟩ := hp
  obtain ⟨d1, d2, d3⟩ := hH
  have e10 : ¬ (1 = 0) := by decide
  -- the loop
  have hin : i < n := by
    cases g with
    | nil => exact absurd rfl hg
    | cons p g => exact (hb p List.mem_cons_self).1.1
  have hsp := V.sp hin
  have bi : inb (nI i) 4 = true := nu_inbn (by omega) (by omega)
  obtain ⟨q1, q2⟩ := p6 i hin
  have hbb : -100200000 ≤ b ∧ b ≤ 100000000 := by
    cases g with
    | nil => exact absurd rfl hg
    | cons p g =>
      have h3 := hb p List.mem_cons_self
      have h4 := hT p List.mem_cons_self
      have h5 := al_le (x := tm p) hsp.1
      have h6 := al_lt (x := tm p) hsp.1
      omega
  have hbi : (Int32.ofInt b).toInt = b := nu_of (by omega) (by omega)
  have hend : (Int32.ofInt b + gI s 10 (gR s 9 1 4) i).toInt = b + S i := by
    rw [nu_add (by rw [hbi, q1]; omega) (by rw [hbi, q1]; omega), hbi, q1]
  have loop : ∀ (g2 g1 : List Pt) (m : Nat) (lo hi : Int32), g = g1 ++ g2 → g2.length < m → f_X9_bucketFrom_b80 fu m (bS s (nI i) (Int32.ofInt b) (nI g1.length) (s64 g1) lo hi) 1 (nI id) (nI (off P id + A.length + g1.length)) = some (bS s (nI i) (Int32.ofInt b) (nI g.length) (s64 g) (fmn lo g2) (fmx hi g2), nI (off P id + A.length + g.length)) := by
    intro g2
    induction g2 with
    | nil =>
      intro g1 m lo hi hg1 hm
      rw [List.append_nil] at hg1
      subst hg1
      cases m with
      | zero => omega
      | succ m =>
        unfold f_X9_bucketFrom_b80
        simp only [e10, reduceIte, bS_f s _ _ _ _ _ _ (show 22 < 51 ∨ 55 < 22 by omega), hpn, ni_le (show off P 10 < 2147483648 by omega) (show off P id + A.length + g.length < 2147483648 by omega), f_X9_bucketFrom_b187]
        by_cases hx : off P 10 ≤ off P id + A.length + g.length
        · rw [if_pos hx]; rfl
        · have b5 : inb (nI (off P id + A.length + g.length)) (gL s 10 (gR s 9 1 19)) = true := nu_inbn (by omega) (by omega)
          have b6 : inb (nI (off P id + A.length + g.length)) (gL s 10 (gR s 9 1 20)) = true := nu_inbn (by omega) (by omega)
          rw [if_neg hx]
          simp only [(bS_g s _ _ _ _ _ _).1, (bS_g s _ _ _ _ _ _).2.1, r1, r2, b5, b6, reduceIte, Bool.true_eq_false, nu_ixn (show off P id + A.length + g.length < 2147483648 by omega), bS_I s _ _ _ _ _ _ (show ¬ 10 = 9 by decide), bS_51, bS_52, p1, p3, bi, nu_ixn (show i < 2147483648 by omega), nu_le, hend]
          cases C with
          | nil =>
            rw [List.append_nil] at hPid
            obtain ⟨i', j', p', hi', hk', hp'⟩ := off_find P (show off P id + A.length + g.length < off P 10 by omega)
            have hne : i' ≠ id := by
              intro e
              subst e
              obtain ⟨hj, -⟩ := List.getElem?_eq_some_iff.mp hp'
              rw [hPid, List.length_append] at hj
              omega
            obtain ⟨e1, -, -⟩ := hc i' hi' j' p' hp'
            rw [hk', e1, if_neg (fun q => hne ((ni_eq (by omega) (by omega)).mp q))]
            rfl
          | cons c C =>
            have hcx : (P id)[A.length + g.length]? = some c := by
              rw [hPid, ← List.append_assoc, List.getElem?_append_right (by rw [List.length_append]; omega), List.length_append]
              simp
            obtain ⟨e1, e2, -⟩ := hc id hid _ c hcx
            rw [← Nat.add_assoc] at e1 e2
            rw [e1, e2, if_pos rfl, if_pos (hC c List.mem_cons_self)]
            rfl
    | cons p g2 ih =>
      intro g1 m lo hi hg1 hm
      cases m with
      | zero => omega
      | succ m =>
        have hgl2 : g1.length + g2.length + 1 = g.length := by rw [hg1, List.length_append, List.length_cons]; omega
        have hpg : p ∈ g := by rw [hg1]; exact List.mem_append_right _ List.mem_cons_self
        have b5 : inb (nI (off P id + A.length + g1.length)) (gL s 10 (gR s 9 1 19)) = true := nu_inbn (by omega) (by omega)
        have b6 : inb (nI (off P id + A.length + g1.length)) (gL s 10 (gR s 9 1 20)) = true := nu_inbn (by omega) (by omega)
        have b7 : inb (nI (off P id + A.length + g1.length)) (gL s 10 (gR s 9 1 21)) = true := nu_inbn (by omega) (by omega)
        have hpx : (P id)[A.length + g1.length]? = some p := by
          rw [hPid, hg1, List.append_assoc, ← List.append_assoc, List.getElem?_append_right (by rw [List.length_append]; omega), List.length_append]
          simp
        obtain ⟨e1, e2, e3⟩ := hc id hid _ p hpx
        rw [← Nat.add_assoc] at e1 e2 e3
        have hlt : ¬ b + S i ≤ p.1.toInt := by
          have h3 := hb p hpg
          have h4 := al_lt (x := tm p) hsp.1
          have h5 : tm p = p.1.toInt := rfl
          omega
        have hih := ih (g1 ++ [p]) m (mn lo p.2) (mx hi p.2) (by rw [hg1, List.append_assoc]; rfl) (by rw [List.length_cons] at hm; omega)
        rw [List.length_append, List.length_singleton, s64_app, ← Nat.add_assoc] at hih
        have es : s64 [p] = Int32.toInt64 p.2 := by rw [s64_cons]; exact Int64.add_zero _
        rw [es] at hih
        unfold f_X9_bucketFrom_b80
        simp only [e10, reduceIte, bS_f s _ _ _ _ _ _ (show 22 < 51 ∨ 55 < 22 by omega), hpn, ni_le (show off P 10 < 2147483648 by omega) (show off P id + A.length + g1.length < 2147483648 by omega), show ¬ off P 10 ≤ off P id + A.length + g1.length by omega,
          (bS_g s _ _ _ _ _ _).1, (bS_g s _ _ _ _ _ _).2.1, r1, r2, r3, b5, b6, b7, Bool.true_eq_false, nu_ixn (show off P id + A.length + g1.length < 2147483648 by omega), bS_I s _ _ _ _ _ _ (show ¬ 10 = 9 by decide), bS_51, bS_52, p1, p3, bi, nu_ixn (show i < 2147483648 by omega), nu_le, hend, e1, e2, hlt,
          lt, gI_sI, gJ_sI, gR_sI, gL_sI, gN_sI, cn_sI, sn_sI, gI_sJ, gJ_sJ, gR_sJ, gL_sJ, gN_sJ, cn_sJ, sn_sJ, gI_sR, gJ_sR, gR_sR, gL_sR, gN_sR, cn_sR, sn_sR, gI_nX, gJ_nX, gR_nX, gL_nX, gN_nX, cn_nX, sn_nX, gI_wI, gJ_wI, gR_wI, gL_wI, gN_wI, cn_wI, sn_wI, gI_wJ, gJ_wJ, gR_wJ, gL_wJ, gN_wJ, cn_wJ, sn_wJ, gI_nW, gJ_nW, gR_nW, gL_nW, gN_nW, cn_nW, sn_nW, Nat.reduceEqDiff, false_and, and_false, bS_53, bS_54, bS_55, bS_56, e3, J_min, J_max, bI, nu_nIa, bS_step, and_self]
        exact hih
  have hloop := loop g [] fu (gmn g) (gmx g) rfl (by omega)
  rw [List.length_nil, Nat.add_zero] at hloop
  have ef1 : fmn (gmn g) g = gmn g := by rw [fmn_gm _ hg, mn_self]
  have ef2 : fmx (gmx g) g = gmx g := by rw [fmx_gm _ hg, mx_self]
  -- the start of the method
  have hloop' := loop g [] fu (g.headD (0, 0)).2 (g.headD (0, 0)).2 rfl (by omega)
  rw [List.length_nil, Nat.add_zero] at hloop'
  cases hgc : g with
  | nil => exact absurd hgc hg
  | cons p g' =>
    have hpg : p ∈ g := by rw [hgc]; exact List.mem_cons_self
    have hpx : (P id)[A.length + 0]? = some p := by
      rw [hPid, hgc, Nat.add_zero, List.getElem?_append_right (Nat.le_refl _)]
      simp
    obtain ⟨e1, e2, e3⟩ := hc id hid _ p hpx
    rw [Nat.add_zero] at e1 e2 e3
    have b5 : inb (nI (off P id + A.length)) (gL s 10 (gR s 9 1 19)) = true := nu_inbn (by omega) (by omega)
    have b6 : inb (nI (off P id + A.length)) (gL s 10 (gR s 9 1 20)) = true := nu_inbn (by omega) (by omega)
    have b7 : inb (nI (off P id + A.length)) (gL s 10 (gR s 9 1 21)) = true := nu_inbn (by omega) (by omega)
    have b8 : inb (nI id) 10 = true := nu_inbn (by omega) (by omega)
    obtain ⟨ht1, ht2⟩ := hb p hpg
    have htq : tc (tq (sm n S K (H id).toInt) n p.1.toInt) = nI i := by rw [tq_some.mpr ht1]; rfl
    have hTp := hT p hpg
    have htm : tm p = p.1.toInt := rfl
    unfold f_X9_bucketFrom
    simp only [e10, reduceIte, r1, r2, r3, b5, b6, b7, Bool.true_eq_false, nu_ixn (show off P id + A.length < 2147483648 by omega), lt, e1, d1, d2, b8, nu_ixn (show id < 2147483648 by omega), d3 id hid, e2,
      X9_tb V ⟨⟨p1, p2⟩, ⟨p3, p4⟩, p5, p6⟩ h1 h2 (show 100 ≤ fu by omega), bI, htq, gI_sI, gJ_sI, gR_sI, gL_sI, gN_sI, cn_sI, sn_sI, gI_sJ, gJ_sJ, gR_sJ, gL_sJ, gN_sJ, cn_sJ, sn_sJ, gI_sR, gJ_sR, gR_sR, gL_sR, gN_sR, cn_sR, sn_sR, gI_nX, gJ_nX, gR_nX, gL_nX, gN_nX, cn_nX, sn_nX, gI_wI, gJ_wI, gR_wI, gL_wI, gN_wI, cn_wI, sn_wI, gI_wJ, gJ_wJ, gR_wJ, gL_wJ, gN_wJ, cn_wJ, sn_wJ, gI_nW, gJ_nW, gR_nW, gL_nW, gN_nW, cn_nW, sn_nW, Nat.reduceEqDiff, false_and, and_false, and_self, p1, p3, bi, nu_ixn (show i < 2147483648 by omega),
      X9_mult (v := Int32.toInt64 p.1) (n := gI s 10 (gR s 9 1 4) i) (by rw [q1]; exact hsp.1) (by rw [nj_up]; omega) (by rw [nj_up]; omega), nj_up, q1, e3, bS_init]
    rw [← htm, ht2]
    rw [hgc] at hloop'
    exact hloop'
theorem X9_mean {s : St} (h0 : 0 < (gI s 9 1 53).toInt) (h1 : -1000000000000000 ≤ (gJ s 9 1 56).toInt) (h2 : (gJ s 9 1 56).toInt ≤ 1000000000000000) (fu : Nat) : f_X9_meanNow fu s 1 = some (s, Int32.ofInt ((gJ s 9 1 56).toInt / (gI s 9 1 53).toInt)) := by
  have e10 : ¬ (1 = 0) := by decide
  have h3 := nu_hi (gI s 9 1 53)
  unfold f_X9_meanNow
  simp only [e10, reduceIte]
  rw [X9_by (by rw [nj_up]; exact h0) h1 h2 (by rw [nj_up]; omega), nj_up]
  simp only [bI, to32]
  have q : -1000000000000000 ≤ (gJ s 9 1 56).toInt / (gI s 9 1 53).toInt ∧ (gJ s 9 1 56).toInt / (gI s 9 1 53).toInt ≤ 1000000000000000 := by
    by_cases ha : 0 ≤ (gJ s 9 1 56).toInt
    · have q1 : 0 ≤ (gJ s 9 1 56).toInt / (gI s 9 1 53).toInt := Int.ediv_nonneg ha (by omega)
      have q2 := Int.ediv_le_self (gI s 9 1 53).toInt ha
      omega
    · have q1 : (gJ s 9 1 56).toInt / (gI s 9 1 53).toInt < 0 := Int.ediv_neg_of_neg_of_pos (by omega) h0
      have q2 : (gJ s 9 1 56).toInt ≤ (gJ s 9 1 56).toInt / (gI s 9 1 53).toInt := by
        rw [Int.le_ediv_iff_mul_le h0]
        have : (gJ s 9 1 56).toInt * (gI s 9 1 53).toInt ≤ (gJ s 9 1 56).toInt * 1 := Int.mul_le_mul_of_nonpos_left (by omega) (by omega)
        omega
      omega
  rw [nj_of (by omega) (by omega)]
