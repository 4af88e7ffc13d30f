/-! ===== add ===== -/
theorem ge_at {α : Type} (A B : List α) (x : α) (j : Nat) : (A ++ x :: B)[j]? = if j = A.length then some x else if j < A.length then (A ++ B)[j]? else (A ++ B)[j - 1]? := by
  by_cases h : j = A.length
  · rw [if_pos h, h, List.getElem?_append_right (Nat.le_refl _)]; simp
  · rw [if_neg h]
    by_cases h2 : j < A.length
    · rw [if_pos h2, List.getElem?_append_left h2, List.getElem?_append_left h2]
    · rw [if_neg h2, List.getElem?_append_right (by omega), List.getElem?_append_right (by omega), show j - A.length = (j - 1 - A.length) + 1 by omega, List.getElem?_cons_succ]
theorem ge_sw {α : Type} (A B : List α) (x y : α) (j : Nat) : (A ++ y :: B)[j]? = if j = A.length then some y else (A ++ x :: B)[j]? := by
  rw [ge_at, ge_at A B x]
  by_cases h : j = A.length
  · rw [if_pos h, if_pos h]
  · rw [if_neg h, if_neg h, if_neg h]
section ADD
variable {s : St} {o p n : Nat} {S K : Nat → Int} {fu : Nat} {c : Nat → Nat} {h : Int} {GG : List (List Pt)}
theorem PlC.sf {s' : St} (hP : PlC s p n S K) (f : Sfr s s' o) (hO : OwnC s o c) (hl : gR s 2 p 0 ≤ 38 ∧ gR s 2 p 1 ≤ 38) : PlC s' p n S K := by
  obtain ⟨p0, ⟨p1, p2⟩, ⟨p3, p4⟩, p5, p6⟩ := hP
  obtain ⟨f1, f2, f3, f4, -⟩ := f
  have hN := hO.2.1 1 jn1
  have k2 : nwk s 2 p := fun q => by omega
  have ka : nwk s 10 (gR s 2 p 0) := fun _ => by omega
  have kb : nwk s 10 (gR s 2 p 1) := fun _ => by omega
  have r0 : gR s' 2 p 0 = gR s 2 p 0 := f1 2 p 0 k2 (fun q => by omega)
  have r1 : gR s' 2 p 1 = gR s 2 p 1 := f1 2 p 1 k2 (fun q => by omega)
  have ia : ∀ j, gI s' 10 (gR s 2 p 0) j = gI s 10 (gR s 2 p 0) j := fun j => f4 10 _ j ka (fun q => by omega) (fun ⟨_, j', hj', e⟩ => by have := (hO.2.1 j' hj').1; omega)
  have ib : ∀ j, gI s' 10 (gR s 2 p 1) j = gI s 10 (gR s 2 p 1) j := fun j => f4 10 _ j kb (fun q => by omega) (fun ⟨_, j', hj', e⟩ => by have := (hO.2.1 j' hj').1; omega)
  refine ⟨p0, ?_, ?_, ?_, ?_⟩
  · rw [r0, r1]; exact ⟨p1, p2⟩
  · rw [r0, r1, f2 10 _ ka, f2 10 _ kb]; exact ⟨p3, p4⟩
  · rw [f4 2 p 3 k2 (fun q => by omega) (fun q => by omega)]; exact p5
  · intro i hi
    rw [r0, r1, ia, ib]
    exact p6 i hi
theorem wf_ins (V : VP n S K) (W : WfG n S K h GG) {pt : Pt} (h1 : sm n S K h (n - 1) ≤ tm pt) (h2 : tm pt ≤ h) (h3 : -10000 ≤ pt.2.toInt ∧ pt.2.toInt ≤ 10000) (hl : GG.flatten.length < 40000) {GG' : List (List Pt)} (hf : GG'.flatten = ins pt GG.flatten) (hG : Gd (ka n S K h) GG') : WfG n S K h GG' := by
  obtain ⟨w1, w2, w3, w4, w5, w6⟩ := W
  refine ⟨hG, by rw [hf]; exact ins_srt w2, fun q hq => ?_, by rw [hf, ins_len]; omega, w5, w6⟩
  rw [hf] at hq
  rcases ins_mem.mp hq with rfl | hq
  · exact ⟨h1, h2, h3⟩
  · exact w3 q hq
theorem SerC.mk' {s' : St} (C : SerC s o p n S K h GG) {GG' : List (List Pt)} (f : Sfr s s' o) (hO : OwnC s o c) (hl : gR s 2 p 0 ≤ 38 ∧ gR s 2 p 1 ≤ 38) {c' : Nat → Nat} (hO' : OwnC s' o c') {k' : Nat} (hc' : eqC c' k') (hk : GG'.length ≤ k') (h0 : gR s' 5 o 0 = gR s 5 o 0) (c1 : c' 1 = c 1) (hs : ∀ i, i < n → gI s' 10 (gR s' 5 o 1) i = gI s 10 (gR s 5 o 1) i) (hz : gI s' 5 o 8 = nI GG'.length)
    (hr : ∀ j g, GG'[j]? = some g → gI s' 10 (gR s' 5 o 3) j = Int32.ofInt (ky (ka n S K h) g) ∧ gI s' 10 (gR s' 5 o 4) j = nI g.length ∧ gJ s' 11 (gR s' 5 o 5) j = s64 g ∧ gI s' 10 (gR s' 5 o 6) j = gmn g ∧ gI s' 10 (gR s' 5 o 7) j = gmx g) : SerC s' o p n S K h GG' := by
  obtain ⟨⟨a1, a2, a3⟩, ⟨b1, b2, b3⟩, -, -, -, -⟩ := C
  obtain ⟨k3, k4, k5, k6, k7⟩ := hc'
  have l1 := hO.2.2.2.2.1 1 jn1
  have l := fun j hj => hO'.2.2.2.2.1 j hj
  refine ⟨⟨a1, by rw [h0]; exact a2, a3.sf f hO hl⟩, ⟨hO'.nz jn1, by rw [l 1 jn1, c1, ← l1]; exact b2, fun i hi => by rw [hs i hi]; exact b3 i hi⟩, hz, ⟨hO'.nz jn3, hO'.nz jn4, fun q => by have := hO'.2.2.1.1; omega, hO'.nz jn6, hO'.nz jn7⟩, ⟨by rw [l 3 jn3, k3]; exact hk, by rw [l 4 jn4, k4]; exact hk, by rw [hO'.2.2.2.2.2, k5]; exact hk, by rw [l 6 jn6, k6]; exact hk, by rw [l 7 jn7, k7]; exact hk⟩, hr⟩
theorem X5_add (V : VP n S K) (W : WfG n S K h GG) (C : SerC s o p n S K h GG) (hO : OwnC s o c) {k : Nat} (hc : eqC c k) (hl : gR s 2 p 0 ≤ 38 ∧ gR s 2 p 1 ≤ 38) {t v : Int32} (h1 : sm n S K h (n - 1) ≤ t.toInt) (h2 : t.toInt ≤ h) (h3 : -10000 ≤ v.toInt ∧ v.toInt ≤ 10000) (hlen : GG.flatten.length < 32768) (hk1 : 1 ≤ k) (hk2 : k ≤ 32768) (hr1 : cn s + 5 ≤ 601024) (hr2 : sn s + 10 * k ≤ 7293034) (hfu : 50000 ≤ fu) :
    ∃ s' c' k' GG', f_X5_add fu s o t v = some s' ∧ GG'.flatten = ins (t, v) GG.flatten ∧ WfG n S K h GG' ∧ SerC s' o p n S K h GG' ∧ OwnC s' o c' ∧ eqC c' k' ∧ c' 1 = c 1 ∧ c' 2 = c 2 ∧ Sfr s s' o ∧ (gI s' 5 o 9 = gI s 5 o 9 ∧ gI s' 5 o 10 = gI s 5 o 10) ∧
      ((k' = k ∧ cn s' = cn s ∧ sn s' = sn s) ∨ (k' = 2 * k ∧ k < 32768 ∧ cn s' = cn s + 5 ∧ sn s' = sn s + 10 * k)) := by
  have hn := V.1
  obtain ⟨i, hi, -⟩ := TI.ex (σ := sm n S K h) (n := n) (t := t.toInt) (j := n - 1) (by omega) h1
  have hin := hi.1
  have hka : ka n S K h t.toInt = al t.toInt (S i) := kp_of hi
  have hl0 := wf_len W
  have hGl : GG.length ≤ GG.flatten.length := by
    have hne := W.1.1
    clear hlen hl0 C W
    induction GG with
    | nil => simp
    | cons g G ih =>
      have := ih (fun b hb => hne b (List.mem_cons_of_mem _ hb))
      have : 0 < g.length := List.length_pos_iff.mpr (hne g List.mem_cons_self)
      rw [fl_cons, List.length_cons]; omega
  have hSi := V.2.1 i hi.1
  have hbt := W.2.2.2.2
  obtain ⟨q0, ⟨q1, q2⟩, ⟨q3, q4⟩, q5, q6⟩ := C.1.2.2
  have hsp := (q6 i hi.1).1
  have hmu := X8_mu (a := t) (b := gI s 10 (gR s 2 p 0) i) (by rw [hsp]; omega) fu s
  have hst : (mu t (gI s 10 (gR s 2 p 0) i)).toInt = ka n S K h t.toInt := by
    have hb := sm_bd V hbt.1 hbt.2 (i := n - 1) (by omega)
    rw [mu_i (by rw [hsp]; omega) (by rw [hsp]; omega), hsp, hka]
  have hst2 : mu t (gI s 10 (gR s 2 p 0) i) = Int32.ofInt (ka n S K h t.toInt) := by
    unfold mu
    rw [hsp, hka]
  have bi : inb (nI i) 4 = true := nu_inbn (by have := hi.1; omega) (by omega)
  have hm : ∀ q ∈ GG.flatten, (tm q < t.toInt → ka n S K h (tm q) ≤ ka n S K h t.toInt) ∧ (t.toInt ≤ tm q → ka n S K h t.toInt ≤ ka n S K h (tm q)) := by
    intro q hq
    obtain ⟨i', hi', e'⟩ := wf_p V W hq
    rw [e', hka]
    exact ⟨fun w => (kp_mono V hi' hi (by omega)).2, fun w => (kp_mono V hi hi' w).2⟩
  obtain ⟨G1, G2, e, g1, g2⟩ := gr_ins W.1 (t, v) hm
  have hG2 : ∀ g ∈ G2, (mu t (gI s 10 (gR s 2 p 0) i)).toInt ≤ ky (ka n S K h) g := by
    intro g hg
    rw [hst]
    rcases g2 with ⟨g', G3, x1, x2, x3, x4, x5, x6⟩ | ⟨x1, -⟩
    · subst x1
      rcases List.mem_cons.mp hg with rfl | hg
      · rw [x2]; exact Int.le_refl _
      · have hGd := W.1
        rw [e] at hGd
        have := (Gd.cons.mp (Gd.app.mp hGd).2.1).2.2 g hg
        have x2' : ky (ka n S K h) g' = ka n S K h t.toInt := x2
        omega
    · have : ka n S K h t.toInt < ky (ka n S K h) g := x1 g hg
      omega
  have hff := ff_ser V W C (t := mu t (gI s 10 (gR s 2 p 0) i)) e (fun g hg => by rw [hst]; exact g1 g hg) hG2 hfu
  have hto := X5_to V W C t (fu := fu) (by omega)
  rw [tq_some.mpr hi] at hto
  have htc : tc (some i) = nI i := rfl
  rw [htc] at hto
  have z10 : ¬ ((1 : Int32) = 0) := by decide
  have hG1 : G1.length + G2.length = GG.length := by rw [e, List.length_append]
  have hrow := C.2.2.2.2.2
  rcases g2 with ⟨g, G3, x1, x2, x3, x4, x5, x6⟩ | ⟨x1, x4, x5⟩
  · subst x1
    have hhs := hs_ser (fu := fu) V W C (t := mu t (gI s 10 (gR s 2 p 0) i)) e (by rw [hst]; exact x2)
    have hb := X5_b63 (fu := fu) hO hc (i := G1.length) (by have := C.2.2.2.2.1.1; rw [hO.2.2.2.2.1 3 jn3, hc.1] at this; rw [List.length_cons] at hG1; omega) (by omega) v
    have hO' := (adS_wf s o G1.length v).own hO
    have hgk := hc
    have hwf := adS_wf s o G1.length v
    have hgx : GG[G1.length]? = some g := by rw [e, List.getElem?_append_right (Nat.le_refl _)]; simp
    refine ⟨adS s o G1.length v, c, k, G1 ++ ins (t, v) g :: G3, ?_, x4, wf_ins V W h1 h2 h3 (by omega) x4 x5, ?_, hO', hc, rfl, rfl, hwf.sf, ⟨adS_5 s o _ v 9, adS_5 s o _ v 10⟩, Or.inl ⟨rfl, hwf.1.2.2.2.1, hwf.1.2.2.2.2⟩⟩
    · unfold f_X5_add
      simp only [C.1.1, reduceIte, hto, bI, ni_m1 (show i < 2147483648 by have := hi.1; omega), C.1.2.1, q0, q1, q3, bi, Bool.true_eq_false, nu_ixn (show i < 2147483648 by have := hi.1; omega), hmu, hff, hhs, z10]
      exact hb
    · refine C.mk' hwf.sf hO hl hO' hc ?_ (by rw [hwf.1.1]) rfl (fun i hi => ?_) ?_ (fun j gg hj => ?_)
      · have := C.2.2.2.2.1.1
        rw [hO.2.2.2.2.1 3 jn3, hc.1] at this
        rw [List.length_append, List.length_cons]
        rw [List.length_cons] at hG1
        omega
      · rw [hwf.1.1]
        exact (adS_r hO G1.length v i).2.2.2.2.2
      · have : gI (adS s o G1.length v) 5 o 8 = gI s 5 o 8 := by
          unfold adS
          rw [gI_sI, if_neg (by omega), gI_sI, if_neg (by omega), gI_sJ, gI_sI, if_neg (by omega)]
        rw [this, C.2.2.1, ← hG1, List.length_append, List.length_cons, List.length_cons]
      · rw [hwf.1.1]
        obtain ⟨y3, y4, y5, y6, y7, -⟩ := adS_r hO G1.length v j
        rw [y3, y4, y5, y6, y7]
        rw [ge_sw G1 G3 g, ← e] at hj
        obtain ⟨w3, w4, w5, w6, w7⟩ := hrow G1.length g hgx
        by_cases hjj : j = G1.length
        · rw [if_pos hjj] at hj
          have := Option.some.inj hj
          subst this
          subst hjj
          rw [if_pos rfl, if_pos rfl, if_pos rfl, if_pos rfl, w3, w4, w5, w6, w7, x6, ins_len, s64_ins, gmn_ins _ x3, gmx_ins _ x3, nu_nIa]
          exact ⟨rfl, rfl, rfl, rfl, rfl⟩
        · rw [if_neg hjj] at hj
          rw [if_neg hjj, if_neg hjj, if_neg hjj, if_neg hjj]
          exact hrow j gg hj
  · have hcap : GG.length ≤ k := by have := C.2.2.2.2.1.1; rw [hO.2.2.2.2.1 3 jn3, hc.1] at this; exact this
    have hhs := hs_no (fu := fu) V W C (t := mu t (gI s 10 (gR s 2 p 0) i)) e (fun g hg => by
      rw [hst]
      have : ka n S K h t.toInt < ky (ka n S K h) g := x1 g hg
      omega)
    obtain ⟨s1, c1, k1, m1, m2, m3, m4, m5, m6, m7, m8, m9⟩ := X5_mr (fu := fu) hO hc C.2.2.1 hcap hk1 (by omega) hk2 hr1 hr2
    have hk1' : k1 ≤ 65536 := by rcases m9 with q | q <;> omega
    have hsz1 : gI s1 5 o 8 = nI GG.length := by rw [m4.2.2.1 8]; exact C.2.2.1
    have hop := X5_op (fu := fu) m2 m5 hsz1 (i := G1.length) (by omega) m6 hk1' (mu t (gI s 10 (gR s 2 p 0) i)) v
    have hw2 := opS_wf s1 o G1.length GG.length (mu t (gI s 10 (gR s 2 p 0) i)) v
    have hO2 := hw2.own m2
    have hb := X5_b63 (fu := fu) hO2 m5 (i := G1.length) (by omega) hk1' v
    have hop5 := fun j (hj : ¬ j = 8) => opS_5 s1 o G1.length GG.length (mu t (gI s 10 (gR s 2 p 0) i)) v hj
    have hopr := opS_r m2 G1.length GG.length (mu t (gI s 10 (gR s 2 p 0) i)) v
    generalize opS s1 o G1.length GG.length (mu t (gI s 10 (gR s 2 p 0) i)) v = s2 at hop hw2 hO2 hb hop5 hopr
    have hw3 := adS_wf s2 o G1.length v
    have hO3 := hw3.own hO2
    have hsf := (m3.tr hw2.sf).tr hw3.sf
    have hR3 : gR (adS s2 o G1.length v) = gR s1 := hw3.1.1.trans hw2.1.1
    have hwl := wf_ins V W (pt := (t, v)) h1 h2 h3 (by omega) x4 x5
    have d1 := fun j (hj : Jn j) m (hm : m < c j) => m4.1 j hj m hm
    have d5 := fun m (hm : m < c 5) => m4.2.1 m hm
    obtain ⟨e3, e4, e5, e6, e7⟩ := hc
    refine ⟨adS s2 o G1.length v, c1, k1, G1 ++ [(t, v)] :: G2, ?_, x4, hwl, ?_, hO3, m5, m8 1 (by omega), m8 2 (by omega), hsf, ⟨?_, ?_⟩, ?_⟩
    · unfold f_X5_add
      simp only [C.1.1, reduceIte, hto, bI, ni_m1 (show i < 2147483648 by omega), C.1.2.1, q0, q1, q3, bi, Bool.true_eq_false, nu_ixn (show i < 2147483648 by omega), hmu, hff, hhs, m1, z10, hop, bV]
      exact hb
    · refine C.mk' hsf hO hl hO3 m5 ?_ ?_ (m8 1 (by omega)) (fun i' hi' => ?_) ?_ (fun j gg hj => ?_)
      · rw [List.length_append, List.length_cons]; omega
      · rw [hR3]; exact m4.2.2.2
      · have l1 := hO.2.2.2.2.1 1 jn1
        rw [C.2.1.2.1] at l1
        have y := (adS_r hO2 G1.length v i').2.2.2.2.2
        rw [hw2.1.1] at y
        rw [hR3, y, (hopr i').2.2.2.2.2.1]
        exact d1 1 jn1 i' (by omega)
      · rw [adS_5, (hopr 0).2.2.2.2.2.2, List.length_append, List.length_cons, ← hG1]
        rfl
      · rw [hR3]
        have y := adS_r hO2 G1.length v j
        rw [hw2.1.1] at y
        obtain ⟨y3, y4, y5, y6, y7, -⟩ := y
        obtain ⟨z3, z4, z5, z6, z7, -⟩ := hopr j
        obtain ⟨u3, u4, u5, u6, u7, -⟩ := hopr G1.length
        rw [y3, y4, y5, y6, y7, z3, z4, z5, z6, z7, u4, u5, u6, u7]
        rw [ge_at, ← e] at hj
        by_cases hjj : j = G1.length
        · rw [if_pos hjj] at hj
          have := Option.some.inj hj
          subst this
          rw [if_pos hjj, if_pos hjj, if_pos hjj, if_pos hjj, if_pos hjj, if_pos rfl, if_pos rfl, if_pos rfl, if_pos rfl, gmn_one, gmx_one, s64_cons, mn_self, mx_self]
          refine ⟨hst2, rfl, ?_, rfl, rfl⟩
          show 0 + Int32.toInt64 v = Int32.toInt64 v + 0
          rw [Int64.zero_add, Int64.add_zero]
        · rw [if_neg hjj] at hj
          simp only [hjj, reduceIte]
          by_cases hjl : j < G1.length
          · rw [if_pos hjl] at hj
            have hjG := get_lt hj
            rw [shf_lo _ (by omega), shf_lo _ (by omega), shf_lo _ (by omega), shf_lo _ (by omega), shf_lo _ (by omega), d1 3 jn3 j (by omega), d1 4 jn4 j (by omega), d5 j (by omega), d1 6 jn6 j (by omega), d1 7 jn7 j (by omega)]
            exact hrow j gg hj
          · rw [if_neg hjl] at hj
            have hjG := get_lt hj
            rw [shf_hi _ (by omega) (by omega), shf_hi _ (by omega) (by omega), shf_hi _ (by omega) (by omega), shf_hi _ (by omega) (by omega), shf_hi _ (by omega) (by omega), d1 3 jn3 (j - 1) (by omega), d1 4 jn4 (j - 1) (by omega), d5 (j - 1) (by omega), d1 6 jn6 (j - 1) (by omega), d1 7 jn7 (j - 1) (by omega)]
            exact hrow (j - 1) gg hj
    · rw [adS_5, hop5 9 (by omega)]; exact m4.2.2.1 9
    · rw [adS_5, hop5 10 (by omega)]; exact m4.2.2.1 10
    · rw [hw3.1.2.2.2.1, hw3.1.2.2.2.2, hw2.1.2.2.2.1, hw2.1.2.2.2.2]
      rcases m9 with ⟨r1, r2⟩ | ⟨r1, r2, r3, r4, r5⟩
      · left; rw [r2]; exact ⟨r1, rfl, rfl⟩
      · right; exact ⟨r1, r2, r4, r5⟩
end ADD
