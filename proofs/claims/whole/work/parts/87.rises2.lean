/-! ===== the reference: oldest, rises, puts ===== -/
section RI2
variable {s : St} {n mo u fu : Nat} {S K : Nat → Int} {x : Ab}
theorem X9_old_loop (hL : Lay s) {R : List Nat} (hT : ThM s R) {y : Nat} (hy : y ∈ R) (hy10 : y < 10) (hmin : ∀ o ∈ R, ¬ o = y → (gI s 10 26 y).toInt < (gI s 10 26 o).toInt) (h10 : ∀ o ∈ R, o < 10) :
    ∀ (d k m : Nat) (best : Int32), k + d = 10 → d < m → ((best = -1 ∧ ∀ i ∈ R, k ≤ i) ∨ (∃ b ∈ R, b < k ∧ best = nI b ∧ ∀ i ∈ R, i < k → (gI s 10 26 b).toInt ≤ (gI s 10 26 i).toInt)) → f_X9_oldest_b4 fu m s 1 best (nI k) = some (s, nI y) := by
  have e10 : ¬ (1 = 0) := by decide
  have e26 : ¬ (26 = 0) := by decide
  intro d
  induction d with
  | zero =>
    intro k m best hk hm hb
    obtain ⟨m, rfl⟩ : ∃ m', m = m' + 1 := ⟨m - 1, by omega⟩
    have : k = 10 := by omega
    subst this
    unfold f_X9_oldest_b4
    rw [if_pos (show (10 : Int32) ≤ nI 10 by decide)]
    rcases hb with ⟨-, q⟩ | ⟨b, hbR, -, rfl, q⟩
    · exact absurd (q y hy) (by omega)
    · have hby : b = y := Decidable.byContradiction fun c => by
        have h1 := hmin b hbR c
        have h2 := q y hy hy10
        omega
      rw [hby]
  | succ d ih =>
    intro k m best hk hm hb
    obtain ⟨m, rfl⟩ : ∃ m', m = m' + 1 := ⟨m - 1, by omega⟩
    have bk : inb (nI k) 10 = true := nu_inbn (by omega) (by omega)
    have hk10 : ¬ (10 : Int32) ≤ nI k := fun q => by have := (ni_le (a := 10) (b := k) (by omega) (by omega)).mp q; omega
    have hadd : nI k + 1 = nI (k + 1) := nu_nIa k
    have htk := hT k (by omega)
    unfold f_X9_oldest_b4
    simp only [hk10, e10, reduceIte, lr_9_1_10 hL, ll_13_1 hL, bk, Bool.true_eq_false, nu_ixn (show k < 2147483648 by omega), htk, lr_9_1_14 hL, ll_10_26 hL, e26]
    by_cases hkR : k ∈ R
    · have h1 : ¬ (1 : Int32) = 0 := by decide
      simp only [hkR, reduceIte, h1]
      rcases hb with ⟨rfl, q⟩ | ⟨b, hbR, hbk, rfl, q⟩
      · simp only [reduceIte, f_X9_oldest_b39, f_X9_oldest_b41, lt, hadd]
        refine ih (k + 1) m (nI k) (by omega) (by omega) (Or.inr ⟨k, hkR, by omega, rfl, fun i hi hik => ?_⟩)
        have := q i hi
        have : i = k := by omega
        rw [this]; exact Int.le_refl _
      · have hb10 := h10 b hbR
        have bb : inb (nI b) 10 = true := nu_inbn (by omega) (by omega)
        have hm1 : ¬ nI b = (-1 : Int32) := ni_m1 (by omega)
        simp only [hm1, reduceIte, bb, Bool.true_eq_false, nu_ixn (show b < 2147483648 by omega)]
        by_cases hc : gI s 10 26 b ≤ gI s 10 26 k
        · simp only [hc, reduceIte, f_X9_oldest_b41, lt, hadd]
          refine ih (k + 1) m (nI b) (by omega) (by omega) (Or.inr ⟨b, hbR, by omega, rfl, fun i hi hik => ?_⟩)
          by_cases c : i = k
          · rw [c]; exact nu_le.mp hc
          · exact q i hi (by omega)
        · simp only [hc, reduceIte, f_X9_oldest_b39, f_X9_oldest_b41, lt, hadd]
          refine ih (k + 1) m (nI k) (by omega) (by omega) (Or.inr ⟨k, hkR, by omega, rfl, fun i hi hik => ?_⟩)
          rw [nu_le] at hc
          by_cases c : i = k
          · rw [c]; exact Int.le_refl _
          · have := q i hi (by omega)
            omega
    · simp only [hkR, reduceIte, f_X9_oldest_b41, lt, hadd]
      refine ih (k + 1) m best (by omega) (by omega) ?_
      rcases hb with ⟨q1, q⟩ | ⟨b, hbR, hbk, q1, q⟩
      · refine Or.inl ⟨q1, fun i hi => ?_⟩
        have h2 := q i hi
        by_cases c : i = k
        · exact absurd (c ▸ hi) hkR
        · omega
      · refine Or.inr ⟨b, hbR, by omega, q1, fun i hi hik => ?_⟩
        by_cases c : i = k
        · exact absurd (c ▸ hi) hkR
        · exact q i hi (by omega)
theorem X9_oldest (hL : Lay s) {R : List Nat} (hT : ThM s R) (hW : RW R) (hU : UsO s R) {R0 : List Nat} {y : Nat} (e : R = R0 ++ [y]) (hfu : 100 ≤ fu) : f_X9_oldest fu s 1 = some (s, nI y) := by
  have hy : y ∈ R := by rw [e]; exact List.mem_append_right _ List.mem_cons_self
  have hu := (hU R0 [] y e).1
  exact X9_old_loop hL hT hy (hW.2.1 y hy) (fun o ho hne => by
    rw [e] at ho
    rcases List.mem_append.mp ho with q | q
    · exact hu o q
    · exact absurd (List.mem_singleton.mp q) hne) hW.2.1 10 0 fu (-1) rfl (by omega) (Or.inl ⟨rfl, fun i _ => Nat.zero_le i⟩)
theorem X9_ls {R : List Nat} {H : Nat → Int32} {P : Nat → List Pt} (hL : Lay s) (hPl : PlM s n S K) (hV : VP n S K) (hH : HdM s H) {id : Nat} (hid : id < 10) (h1 : -1000000 ≤ (H id).toInt) (h2 : (H id).toInt ≤ 1000000) (hfu : 100 ≤ fu) :
    f_X9_lastSeam fu s 1 (nI id) = some (s, Int32.ofInt (sm n S K (H id).toInt (n - 1))) := by
  have e10 : ¬ (1 = 0) := by decide
  have b : inb (nI id) 10 = true := nu_inbn (by omega) (by omega)
  obtain ⟨d1, d2, d3⟩ := hH
  have hn := hV.1
  unfold f_X9_lastSeam
  simp only [e10, d1, d2, b, reduceIte, Bool.true_eq_false, nu_ixn (show id < 2147483648 by omega), d3 id hid, hPl.2.2.1, ni_dec (show 0 < n by omega) (show n < 2147483648 by omega), X9_sb hV hPl h1 h2 (show n - 1 < n by omega) hfu, bI]
/-- the last part of rises: the series is there -/
theorem X9_r67 {id : Nat} (hQ : RQ s n S K (xR x) (xH x) (xP x)) (hLt : LtM s (xR x) (xT x) (xS x)) (hC : CsM s (nI mo) (xC x)) (hU1 : UsO s ((xR x).erase id)) (hU2 : ∀ i ∈ (xR x).erase id, (gI s 10 26 i).toInt ≤ u) (hU3 : gI s 9 1 15 = nI u) (hO : OwnM s)
    (hid : id ∈ xR x) (hR6 : (xR x).length ≤ 6) {t : Int32} (h1 : -1000000 ≤ (mx (xH x id) t).toInt) (h2 : (mx (xH x id) t).toInt ≤ 1000000) (hu : u < 1000000) (hfu : 50000 ≤ fu) :
    ∃ s', f_X9_rises_b67 fu s 1 (nI id) t = some s' ∧ MI s' n S K mo (riK n S K x id t) (u + 1) ∧ FP s s' ∧ (gR s' = gR s ∧ gL s' = gL s ∧ gN s' = gN s ∧ cn s' = cn s ∧ sn s' = sn s) ∧ (∀ j, 30 ≤ j ∨ j = 3 → gI s' 9 1 j = gI s 9 1 j) := by
  have e10 : ¬ (1 = 0) := by decide
  obtain ⟨hL, ⟨hPl, hV⟩, ⟨hT, hRW⟩, hH, hP, hW, hTm⟩ := hQ
  obtain ⟨k1, k2, k3, k4, k5⟩ := hC
  have hid10 := hRW.2.1 id hid
  have b : inb (nI id) 10 = true := nu_inbn (by omega) (by omega)
  have hn := hV.1
  obtain ⟨d1, d2, d3⟩ := hH
  rw [lr_9_1_11 hL] at d1 d2 d3
  have hI : ∀ k i j, ¬ (k = 10 ∧ i = 23) → gI (sI s 10 23 id (mx (xH x id) t)) k i j = gI s k i j := fun k i j hk => by rw [gI_sI, if_neg (fun q => hk ⟨q.1, q.2.1⟩)]
  generalize hs1 : sI s 10 23 id (mx (xH x id) t) = s1 at hI
  have q1 : gR s1 = gR s := by rw [← hs1]; rfl
  have q2 : gL s1 = gL s := by rw [← hs1]; rfl
  have q3 : gN s1 = gN s := by rw [← hs1]; rfl
  have q4 : cn s1 = cn s := by rw [← hs1]; rfl
  have q5 : sn s1 = sn s := by rw [← hs1]; rfl
  have F1 : FP s s1 := by rw [← hs1]; exact Fx.r10 (a := 23) (by decide) id _
  have hL1 := hL.fx F1
  have hO1 : OwnM s1 := hO.eq q1 q2 q3
  have hPl1 : PlM s1 n S K := hPl.fp hL F1 hO
  have g23 : ∀ i, i < 10 → gI s1 10 23 i = uph (xH x) id (mx (xH x id) t) i := fun i hi => by
    rw [← hs1, gI_sI]
    by_cases c : i = id
    · rw [if_pos ⟨rfl, rfl, c⟩, c, uph_at]
    · rw [if_neg (fun q => c q.2.2), uph_ne _ _ c]; exact d3 i hi
  have hH1 : HdM s1 (uph (xH x) id (mx (xH x id) t)) := ⟨by rw [lr_9_1_11 hL1]; decide, by rw [lr_9_1_11 hL1, ll_10_23 hL1], fun i hi => by rw [lr_9_1_11 hL1]; exact g23 i hi⟩
  have hP1 : PtM s1 (xP x) := by
    have p23 : ∀ j, Mj j → ¬ gR s 9 1 j = 23 := fun j hj q => by have := hO.1 j hj; omega
    obtain ⟨t1, t2, t3, t4⟩ := hP
    refine ⟨by rw [q1]; exact t1, by rw [q1, q2]; exact t2, by rw [hI 9 1 22 (by decide)]; exact t3, fun i hi j p hp => ?_⟩
    rw [q1, hI 10 _ _ (fun w => p23 19 mj19 w.2), hI 10 _ _ (fun w => p23 20 mj20 w.2), hI 10 _ _ (fun w => p23 21 mj21 w.2)]
    exact t4 i hi j p hp
  have hls := X9_ls (R := xR x) (P := xP x) (fu := fu) hL1 hPl1 hV hH1 hid10 (by rw [uph_at]; exact h1) (by rw [uph_at]; exact h2) (by omega)
  rw [uph_at] at hls
  have hb := sm_bd hV h1 h2 (i := n - 1) (by omega)
  have hpo := X9_po (fu := fu) hP1 hW hid10 (t := Int32.toInt64 (Int32.ofInt (sm n S K (mx (xH x id) t).toInt (n - 1)))) hfu
  rw [nj_up, nu_of (by omega) (by omega)] at hpo
  obtain ⟨s2, y1, y2, y3⟩ := X9_goes (fu := fu) hP1 hO1.pd hW.2 (id := id) (b := cl (xP x id) (sm n S K (mx (xH x id) t).toInt (n - 1))) hid10 (cl_len _ _) hfu
  generalize hcl : cl (xP x id) (sm n S K (mx (xH x id) t).toInt (n - 1)) = c at hpo y1 y3
  have hcl2 := cl_len (xP x id) (sm n S K (mx (xH x id) t).toInt (n - 1))
  rw [hcl] at hcl2
  have F2 : FP s1 s2 := Fp.p y2
  have hL2 := hL1.fx F2
  obtain ⟨⟨z1, z2, z3, z4, z5, z6⟩, z7⟩ := y2
  have hO2 : OwnM s2 := hO1.eq z1 z2 z3
  have zr : ∀ a j, 23 ≤ a → a ≤ 26 → gI s2 10 a j = gI s1 10 a j := fun a j ha hb => z7 10 a j (fun q => by omega) (fun q => by have := hO1.pr q.2; omega)
  have z9 : ∀ j, ¬ j = 22 → gI s2 9 1 j = gI s 9 1 j := fun j hj => by rw [z7 9 1 j (fun q => hj q.2.2) (fun q => by omega), hI 9 1 j (by decide)]
  have hn1 : nI u + 1 = nI (u + 1) := nu_nIa u
  -- the four last writes
  let s3 := sI (sI (sI (sI s2 10 25 id (gI s2 10 25 id + nI c)) 9 1 18 (gI s2 9 1 18 + nI c)) 9 1 15 (nI (u + 1))) 10 26 id (nI (u + 1))
  have G : ∀ k i j, gI s3 k i j = if k = 10 ∧ i = 26 ∧ j = id then nI (u + 1) else if k = 9 ∧ i = 1 ∧ j = 15 then nI (u + 1) else if k = 9 ∧ i = 1 ∧ j = 18 then gI s2 9 1 18 + nI c else if k = 10 ∧ i = 25 ∧ j = id then gI s2 10 25 id + nI c else gI s2 k i j := fun k i j => by
    show gI (sI (sI (sI (sI s2 10 25 id (gI s2 10 25 id + nI c)) 9 1 18 (gI s2 9 1 18 + nI c)) 9 1 15 (nI (u + 1))) 10 26 id (nI (u + 1))) k i j = _
    rw [gI_sI, gI_sI, gI_sI, gI_sI]
  have F3 : FP s2 s3 := (((Fx.r10 (a := 25) (by decide) id _).tr (Fx.f9 (j := 18) (by unfold dyn; omega) _)).tr (Fx.f9 (j := 15) (by unfold dyn; omega) _)).tr (Fx.r10 (a := 26) (by decide) id _)
  have FF : FP s s3 := (F1.tr F2).tr F3
  have r3 : gR s3 = gR s2 := rfl
  have l3 : gL s3 = gL s2 := rfl
  have n3 : gN s3 = gN s2 := rfl
  refine ⟨s3, ?_, ?_, FF, ⟨r3.trans (z1.trans q1), l3.trans (z2.trans q2), n3.trans (z3.trans q3), (show cn s3 = cn s2 from rfl).trans (z4.trans q4), (show sn s3 = sn s2 from rfl).trans (z5.trans q5)⟩, fun j hj => ?_⟩
  · unfold f_X9_rises_b67
    simp only [e10, reduceIte, lr_9_1_11 hL, ll_10_23 hL, b, Bool.true_eq_false, nu_ixn (show id < 2147483648 by omega), d3 id hid10, J_max, bI, lt, show ¬ (23 = 0) from by decide]
    rw [hs1, X9_fo hP1 hW hTm hid10 hfu]
    simp only [bI]
    rw [hls]
    simp only [bI]
    rw [hpo]
    simp only [bI]
    rw [y1]
    simp only [bI, lt, lr_9_1_13 hL2, ll_10_25 hL2, b, Bool.true_eq_false, reduceIte, nu_ixn (show id < 2147483648 by omega), show ¬ (25 = 0) from by decide, gR_sI, gL_sI, lr_9_1_14 hL2, ll_10_26 hL2, show ¬ (26 = 0) from by decide]
    have w18 : gI (sI s2 10 25 id (gI s2 10 25 id + nI c)) 9 1 18 = gI s2 9 1 18 := by rw [gI_sI, if_neg (by omega)]
    have w15 : gI (sI (sI s2 10 25 id (gI s2 10 25 id + nI c)) 9 1 18 (gI s2 9 1 18 + nI c)) 9 1 15 + 1 = nI (u + 1) := by rw [gI_sI, if_neg (by omega), gI_sI, if_neg (by omega), z9 15 (by decide), hU3, hn1]
    rw [w18, w15]
    have w15' : gI (sI (sI (sI s2 10 25 id (gI s2 10 25 id + nI c)) 9 1 18 (gI s2 9 1 18 + nI c)) 9 1 15 (nI (u + 1))) 9 1 15 = nI (u + 1) := by rw [gI_sI, if_pos ⟨rfl, rfl, rfl⟩]
    rw [w15']
  · have hL3 := hL.fx FF
    have hO3 : OwnM s3 := hO2.eq r3 l3 n3
    have p2526 : ∀ j, Mj j → 26 < gR s2 9 1 j := fun j hj => (hO2.1 j hj).1
    have hP3 : PtM s3 (upP (xP x) id ((xP x id).drop c)) := by
      obtain ⟨t1, t2, t3, t4⟩ := y3
      refine ⟨t1, t2, ?_, fun i hi j p hp => ?_⟩
      · rw [G, if_neg (by omega), if_neg (by omega), if_neg (by omega), if_neg (by omega)]; exact t3
      · have v19 := p2526 19 mj19
        have v20 := p2526 20 mj20
        have v21 := p2526 21 mj21
        rw [r3, G, G, G, if_neg (by omega), if_neg (by omega), if_neg (by omega), if_neg (by omega), if_neg (by omega), if_neg (by omega), if_neg (by omega), if_neg (by omega), if_neg (by omega), if_neg (by omega), if_neg (by omega), if_neg (by omega)]
        exact t4 i hi j p hp
    have hRW' : RW (id :: (xR x).erase id) := hRW.up hid10 hR6
    have hmem : ∀ i, i ∈ id :: (xR x).erase id ↔ i ∈ xR x := fun i => by
      rw [List.mem_cons, nd_er hRW]
      constructor
      · rintro (rfl | q)
        · exact hid
        · exact q.2
      · intro q
        by_cases c : i = id
        · exact Or.inl c
        · exact Or.inr ⟨c, q⟩
    have hn10 := ln_10 hL
    unfold riK
    rw [hcl]
    refine ⟨⟨hL3, ⟨hPl.fp hL FF hO, hV⟩, ⟨fun i hi => ?_, hRW'⟩, ⟨by rw [lr_9_1_11 hL3]; decide, by rw [lr_9_1_11 hL3, ll_10_23 hL3], fun i hi => ?_⟩, hP3, hW.up hid10 (by rw [List.length_drop]; omega) (cut_srt (hW.1 id hid10) c), hTm.up (fun p hp => hTm id hid10 p (List.mem_of_mem_drop hp))⟩, fun i hi => ?_, ⟨?_, ?_, ?_, ?_, ?_⟩, ⟨us_pw.mpr (List.Pairwise.cons (fun i hi => ?_) ?_), fun i hi => ?_, ?_⟩, hO3⟩
    · rw [G, if_neg (by omega), if_neg (by omega), if_neg (by omega), if_neg (by omega), z7 13 1 i (fun q => by omega) (fun q => by omega), hI 13 1 i (by decide), hT i hi]
      by_cases c : i ∈ xR x
      · rw [if_pos c, if_pos ((hmem i).mpr c)]
      · rw [if_neg c, if_neg (fun q => c ((hmem i).mp q))]
    · rw [lr_9_1_11 hL3, G, if_neg (by omega), if_neg (by omega), if_neg (by omega), if_neg (by omega), zr 23 i (by omega) (by omega)]
      exact g23 i hi
    · have hl := hLt i ((hmem i).mp hi)
      constructor
      · rw [G, if_neg (by omega), if_neg (by omega), if_neg (by omega), if_neg (by omega), zr 24 i (by omega) (by omega), hI 10 24 i (by omega)]
        exact hl.1
      · rw [G, if_neg (by omega), if_neg (by omega), if_neg (by omega)]
        by_cases cc : i = id
        · rw [if_pos ⟨rfl, rfl, cc⟩, cc]
          show _ = uph (xS x) id (xS x id + nI c) id
          rw [uph_at, zr 25 id (by omega) (by omega), hI 10 25 id (by omega), ← cc, hl.2]
        · rw [if_neg (fun q => cc q.2.2)]
          show _ = uph (xS x) id (xS x id + nI c) i
          rw [uph_ne _ _ cc, zr 25 i (by omega) (by omega), hI 10 25 i (by omega), hl.2]
    · rw [FP.fld FF (by unfold dyn; omega)]; exact k1
    · rw [FP.fld FF (by unfold dyn; omega)]; exact k2
    · rw [G, if_neg (by omega), if_neg (by omega), if_neg (by omega), if_neg (by omega), z9 16 (by decide)]; exact k3
    · rw [G, if_neg (by omega), if_neg (by omega), if_neg (by omega), if_neg (by omega), z9 17 (by decide)]; exact k4
    · rw [G, if_neg (by omega), if_neg (by omega), if_pos ⟨rfl, rfl, rfl⟩, z9 18 (by decide), k5]
    · have hne := ((nd_er hRW id i).mp hi).1
      have := hU2 i hi
      rw [G, if_neg (fun q => hne q.2.2), if_neg (by omega), if_neg (by omega), if_neg (by omega), zr 26 i (by omega) (by omega), hI 10 26 i (by omega), G, if_pos ⟨rfl, rfl, rfl⟩, nu_nI (by omega)]
      omega
    · refine (us_pw.mp hU1).imp_of_mem (fun {a b'} ha hb' q => ?_)
      have na := ((nd_er hRW id a).mp ha).1
      have nb := ((nd_er hRW id b').mp hb').1
      rw [G, G, if_neg (fun q => nb q.2.2), if_neg (by omega), if_neg (by omega), if_neg (by omega), if_neg (fun q => na q.2.2), if_neg (by omega), if_neg (by omega), if_neg (by omega), zr 26 a (by omega) (by omega), hI 10 26 a (by omega), zr 26 b' (by omega) (by omega), hI 10 26 b' (by omega)]
      exact q
    · rcases List.mem_cons.mp hi with rfl | q
      · rw [G, if_pos ⟨rfl, rfl, rfl⟩, nu_nI (by omega)]; exact Int.le_refl _
      · have hne := ((nd_er hRW id i).mp q).1
        have := hU2 i q
        rw [G, if_neg (fun q => hne q.2.2), if_neg (by omega), if_neg (by omega), if_neg (by omega), zr 26 i (by omega) (by omega), hI 10 26 i (by omega)]
        omega
    · rw [G, if_neg (by omega), if_pos ⟨rfl, rfl, rfl⟩]
  · rw [G, if_neg (by omega), if_neg (by omega), if_neg (by omega), if_neg (by omega), z9 j (by omega)]
end RI2
