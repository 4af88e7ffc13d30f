/-! ===== the loop of moveTo ===== -/
def Rcx (s : St) (o j : Nat) (st : Int32) (g : List Pt) : Prop := gI s 10 (gR s 5 o 3) j = st ∧ gI s 10 (gR s 5 o 4) j = nI g.length ∧ gJ s 11 (gR s 5 o 5) j = s64 g ∧ gI s 10 (gR s 5 o 6) j = gmn g ∧ gI s 10 (gR s 5 o 7) j = gmx g
def kpt (n : Nat) (S K : Nat → Int) (h h' : Int) (g : List Pt) : Bool := (tq (sm n S K h') n (ky (ka n S K h) g)).isSome
section MV2
variable {s : St} {o p n : Nat} {S K : Nat → Int} {fu : Nat} {c : Nat → Nat} {h h' : Int} {GG : List (List Pt)}
theorem mv_g (V : VP n S K) (W : WfG n S K h GG) (hh : h ≤ h') {g : List Pt} (hg : g ∈ GG) {i' : Nat} (hi' : tq (sm n S K h') n (ky (ka n S K h) g) = some i') :
    (∀ q ∈ g, TI (sm n S K h') n (tm q) i' ∧ al (tm q) (S i') = al (ky (ka n S K h) g) (S i')) ∧ ky (ka n S K h') g = al (ky (ka n S K h) g) (S i') ∧ -9600000 ≤ al (ky (ka n S K h) g) (S i') ∧ al (ky (ka n S K h) g) (S i') ≤ 1000000 := by
  obtain ⟨i, hi, h2, h3, h4⟩ := wf_g V W hg
  have key : ∀ q ∈ g, TI (sm n S K h') n (tm q) i' ∧ al (tm q) (S i') = al (ky (ka n S K h) g) (S i') := by
    intro q hq
    obtain ⟨q1, q2⟩ := h2 q hq
    obtain ⟨r1, r2⟩ := kp_rise V hh q1
    rw [q2] at r1 r2
    cases hx : tq (sm n S K h') n (tm q) with
    | none => rw [r2 hx] at hi'; exact absurd hi' (by simp)
    | some i2 =>
      have ht := tq_some.mp hx
      obtain ⟨-, w1, w2⟩ := r1 i2 ht
      have := TI.u w1 (tq_some.mp hi')
      subst this
      exact ⟨ht, w2.symm⟩
  obtain ⟨q, hq, e⟩ := ky_mem (κ := ka n S K h') h4
  have hS := V.sp (tq_lt hi')
  have b1 := al_le (x := ky (ka n S K h) g) hS.1
  have b2 := al_lt (x := ky (ka n S K h) g) hS.1
  refine ⟨key, ?_, by omega, by omega⟩
  rw [e, show ka n S K h' (tm q) = al (tm q) (S i') from kp_of (key q hq).1, (key q hq).2]
theorem X5_mv_loop (V : VP n S K) (W : WfG n S K h GG) (hh : h ≤ h') {s0 : St} (hO : OwnC s0 o c) {z : Nat} (hc : eqC c z) (hz : z ≤ 65536) (hzl : GG.length ≤ z) (hP : PlC s0 p n S K) (hp : gR s0 5 o 0 = p) (hl : gR s0 2 p 0 ≤ 38 ∧ gR s0 2 p 1 ≤ 38) (c1 : c 1 = 4) (hσ : ∀ i, i < n → (gI s0 10 (gR s0 5 o 1) i).toInt = sm n S K h' i) (hfu : 50000 ≤ fu) :
    ∀ (B A N : List (List Pt)) (m : Nat) (s1 : St), GG = A ++ B → WFr s0 s1 o → (∀ i, gI s1 10 (gR s0 5 o 1) i = gI s0 10 (gR s0 5 o 1) i) → gI s1 5 o 8 = nI GG.length → gI s1 5 o 9 = gI s0 5 o 9 → gI s1 5 o 10 = gI s0 5 o 10 →
      N.flatten = (A.filter (kpt n S K h h')).flatten → Gd (ka n S K h') N → N.length ≤ A.length → (∀ g ∈ N, -9600000 ≤ ky (ka n S K h') g ∧ ky (ka n S K h') g ≤ 1000000) →
      (∀ j g, N[j]? = some g → Rcx s1 o j (Int32.ofInt (ky (ka n S K h') g)) g) → (∀ j g, GG[j]? = some g → A.length ≤ j → Rcx s1 o j (Int32.ofInt (ky (ka n S K h) g)) g) → B.length < m →
      ∃ s2 N', f_X5_moveTo_b54 fu m s1 o (nI N.length) (nI (A.filter (fun g => !kpt n S K h h' g)).flatten.length) (nI A.length) = some (s2, nI (GG.filter (fun g => !kpt n S K h h' g)).flatten.length) ∧ WFr s0 s2 o ∧ (∀ i, gI s2 10 (gR s0 5 o 1) i = gI s0 10 (gR s0 5 o 1) i) ∧ gI s2 5 o 8 = nI N'.length ∧ gI s2 5 o 9 = gI s0 5 o 9 ∧ gI s2 5 o 10 = gI s0 5 o 10 + nI (GG.filter (fun g => !kpt n S K h h' g)).flatten.length ∧
        N'.flatten = (GG.filter (kpt n S K h h')).flatten ∧ Gd (ka n S K h') N' ∧ N'.length ≤ GG.length ∧ ∀ j g, N'[j]? = some g → Rcx s2 o j (Int32.ofInt (ky (ka n S K h') g)) g := by
  have hlen := wf_len W
  have o0 := hO.1.1
  have hW4 := W.2.2.2.1
  have hn := V.1
  intro B
  induction B with
  | nil =>
    intro A N m s1 e hw h1 h8 h9 h10 hN hG hNl hb hr hold hm
    rw [List.append_nil] at e
    subst e
    cases m with
    | zero => omega
    | succ m =>
      refine ⟨sI (sI s1 5 o 8 (nI N.length)) 5 o 10 (gI s1 5 o 10 + nI (GG.filter (fun g => !kpt n S K h h' g)).flatten.length), N, ?_, (hw.tr (WFr.o _ o (by omega) _)).tr (WFr.o _ o (by omega) _), ?_, ?_, ?_, ?_, hN, hG, hNl, ?_⟩
      · unfold f_X5_moveTo_b54
        rw [if_neg o0, h8, if_pos ((ni_le (by omega) (by omega)).mpr (Nat.le_refl _))]
        simp only [lt]
        rw [gI_sI, if_neg (by omega)]
      · intro i; rw [gI_sI, if_neg (by omega), gI_sI, if_neg (by omega)]; exact h1 i
      · rw [gI_sI, if_neg (by omega), gI_sI, if_pos ⟨rfl, rfl, rfl⟩]
      · rw [gI_sI, if_neg (by omega), gI_sI, if_neg (by omega)]; exact h9
      · rw [gI_sI, if_pos ⟨rfl, rfl, rfl⟩, h10]
      · intro j g hj
        obtain ⟨r1, r2, r3, r4, r5⟩ := hr j g hj
        unfold Rcx
        simp only [gR_sI, gJ_sI]
        refine ⟨?_, ?_, r3, ?_, ?_⟩
        · rw [gI_sI, if_neg (by omega), gI_sI, if_neg (by omega)]; exact r1
        · rw [gI_sI, if_neg (by omega), gI_sI, if_neg (by omega)]; exact r2
        · rw [gI_sI, if_neg (by omega), gI_sI, if_neg (by omega)]; exact r4
        · rw [gI_sI, if_neg (by omega), gI_sI, if_neg (by omega)]; exact r5
  | cons g B ih =>
    intro A N m s1 e hw h1 h8 h9 h10 hN hG hNl hb hr hold hm
    cases m with
    | zero => omega
    | succ m =>
      rw [List.length_cons] at hm
      have hg : g ∈ GG := by rw [e]; exact List.mem_append_right _ List.mem_cons_self
      have hgx : GG[A.length]? = some g := by rw [e, List.getElem?_append_right (Nat.le_refl _)]; simp
      have hAl := get_lt hgx
      have hgl := wf_gl W hg
      obtain ⟨ti, hti, -, bg, hne⟩ := wf_g V W hg
      obtain ⟨x1, x2, x3, x4, x5⟩ := hold _ g hgx (Nat.le_refl _)
      have hO1 := hw.own hO
      have hP1 := hP.sf hw.sf hO hl
      have hp1 : gR s1 5 o 0 = p := by rw [hw.1.1]; exact hp
      have e2 : GG = (A ++ [g]) ++ B := by rw [e, List.append_assoc]; rfl
      have hst : (gI s1 10 (gR s1 5 o 3) A.length).toInt = ky (ka n S K h) g := by rw [x1]; exact nu_of (by omega) (by omega)
      have hto : f_X5_tierOf fu s1 o (gI s1 10 (gR s1 5 o 3) A.length) = some (s1, tc (tq (sm n S K h') n (ky (ka n S K h) g))) := by
        unfold f_X5_tierOf
        rw [if_neg o0, hp1, if_neg hP.1]
        rw [X2_tu hn.2 hP.1 hP1.2.2.2.1 ⟨hO1.nz jn1, by rw [hO1.2.2.2.2.1 1 jn1, c1]⟩ (σ := sm n S K h') (fun i hi => by rw [hw.1.1, h1 i]; exact hσ i hi) (show 100 ≤ fu by omega), hst]
        rfl
      obtain ⟨k3, k4, k5, k6, k7⟩ := hc
      have l3 := hO1.2.2.2.2.1 3 jn3
      have l4 := hO1.2.2.2.2.1 4 jn4
      rw [k3] at l3
      rw [k4] at l4
      have bA : inb (nI A.length) z = true := nu_inbn (by omega) (by omega)
      have hA' : (A ++ [g]).length = A.length + 1 := by rw [List.length_append, List.length_singleton]
      have hgo : (A.filter (fun g => !kpt n S K h h' g)).flatten.length + g.length ≤ 80000 := by
        have := (ft_len (fun g => !kpt n S K h h' g) A).1
        have : A.flatten.length ≤ GG.flatten.length := by rw [e, fl_app]; omega
        omega
      unfold f_X5_moveTo_b54
      rw [if_neg o0, h8, if_neg (fun q => by have := (ni_le (by omega) (by omega)).mp q; omega), if_neg (hO1.nz jn3), l3, if_neg (by rw [bA]; decide), nu_ixn (by omega), hto]
      cases hq : tq (sm n S K h') n (ky (ka n S K h) g) with
      | none =>
        have hk : kpt n S K h h' g = false := by unfold kpt; rw [hq]; rfl
        obtain ⟨s2, N', y⟩ := ih (A ++ [g]) N m s1 e2 hw h1 h8 h9 h10 (by rw [ft_s, if_neg (by rw [hk]; decide)]; exact hN) hG (by omega) hb hr (fun j g' hj hl' => hold j g' hj (by omega)) (by omega)
        refine ⟨s2, N', ?_, y.2⟩
        rw [← y.1, hA', ft_s, if_pos (by rw [hk]; rfl), fl_app, fl_one]
        unfold f_X5_moveTo_b158
        simp only [bI, tc_none, reduceIte, hO1.nz jn4, l4, bA, Bool.true_eq_false, nu_ixn (show A.length < 2147483648 by omega), x2, lt, nu_nIa, ni_add (show (A.filter (fun g => !kpt n S K h h' g)).flatten.length + g.length < 2147483648 by omega)]
      | some i' =>
        have hk : kpt n S K h h' g = true := by unfold kpt; rw [hq]; rfl
        obtain ⟨mg1, mg2, mg3, mg4⟩ := mv_g V W hh hg hq
        have hi' := tq_lt hq
        have hSi := V.sp hi'
        obtain ⟨q0, ⟨q1, q2⟩, ⟨q3, q4⟩, q5, q6⟩ := hP1
        have hsp := (q6 i' hi').1
        have bi : inb (nI i') 4 = true := nu_inbn (by omega) (by omega)
        have hmu := X8_mu (a := gI s1 10 (gR s1 5 o 3) A.length) (b := gI s1 10 (gR s1 2 p 0) i') (by rw [hsp]; omega) fu s1
        have hmu2 : mu (gI s1 10 (gR s1 5 o 3) A.length) (gI s1 10 (gR s1 2 p 0) i') = Int32.ofInt (ky (ka n S K h') g) := by
          unfold mu
          rw [hst, hsp, mg2]
        rw [hmu2] at hmu
        have htc : tc (some i') = nI i' := rfl
        have hgN : (A ++ [g]).filter (kpt n S K h h') = A.filter (kpt n S K h h') ++ [g] := by rw [ft_s, if_pos hk]
        have hgM : (A ++ [g]).filter (fun g => !kpt n S K h h' g) = A.filter (fun g => !kpt n S K h h' g) := by rw [ft_s, if_neg (by rw [hk]; decide)]
        have hgd1 : Gd (ka n S K h') [g] := Gd.one.mpr ⟨hne, fun q hq' => by rw [show ka n S K h' (tm q) = al (tm q) (S i') from kp_of (mg1 q hq').1, (mg1 q hq').2, mg2]⟩
        have carry : (∀ a ∈ N, ky (ka n S K h') a < ky (ka n S K h') g) → ∃ s2 N', f_X5_moveTo_b146 fu (f_X5_moveTo_b54 fu m) s1 o (nI N.length) (nI (A.filter (fun g => !kpt n S K h h' g)).flatten.length) (nI A.length) (Int32.ofInt (ky (ka n S K h') g)) = some (s2, nI (GG.filter (fun g => !kpt n S K h h' g)).flatten.length) ∧ WFr s0 s2 o ∧ (∀ i, gI s2 10 (gR s0 5 o 1) i = gI s0 10 (gR s0 5 o 1) i) ∧ gI s2 5 o 8 = nI N'.length ∧ gI s2 5 o 9 = gI s0 5 o 9 ∧ gI s2 5 o 10 = gI s0 5 o 10 + nI (GG.filter (fun g => !kpt n S K h h' g)).flatten.length ∧ N'.flatten = (GG.filter (kpt n S K h h')).flatten ∧ Gd (ka n S K h') N' ∧ N'.length ≤ GG.length ∧ ∀ j g, N'[j]? = some g → Rcx s2 o j (Int32.ofInt (ky (ka n S K h') g)) g := by
          intro hlt
          have hca := X5_carry (fu := fu) hO1 ⟨k3, k4, k5, k6, k7⟩ (i := A.length) (k := N.length) (by omega) (by omega) hz (Int32.ofInt (ky (ka n S K h') g))
          have hcr := caS_r hO1 A.length N.length (Int32.ofInt (ky (ka n S K h') g))
          have hwc := caS_wf s1 o A.length N.length (Int32.ofInt (ky (ka n S K h') g))
          have hc5 := caS_5 s1 o A.length N.length (Int32.ofInt (ky (ka n S K h') g))
          generalize caS s1 o A.length N.length (Int32.ofInt (ky (ka n S K h') g)) = s3 at hca hcr hwc hc5
          obtain ⟨s2, N', y⟩ := ih (A ++ [g]) (N ++ [g]) m s3 e2 (hw.tr hwc) (fun i => by have := (hcr i).2.2.2.2.2; rw [hw.1.1] at this; rw [this]; exact h1 i) (by rw [hc5]; exact h8) (by rw [hc5]; exact h9) (by rw [hc5]; exact h10)
            (by rw [hgN, List.flatten_append, List.flatten_append, hN]) (Gd.app.mpr ⟨hG, hgd1, fun a ha b hb' => by rw [List.mem_singleton.mp hb']; exact hlt a ha⟩) (by rw [hA', List.length_append, List.length_singleton]; omega)
            (fun b hb' => by
              rcases List.mem_append.mp hb' with q | q
              · exact hb b q
              · rw [List.mem_singleton.mp q, mg2]; exact ⟨mg3, mg4⟩)
            (fun j g' hj => by
              obtain ⟨y3, y4, y5, y6, y7, -⟩ := hcr j
              unfold Rcx
              rw [hwc.1.1, y3, y4, y5, y6, y7]
              rw [ge_at N [] g, List.append_nil] at hj
              by_cases hjj : j = N.length
              · rw [if_pos hjj] at hj
                have := Option.some.inj hj
                subst this
                rw [if_pos hjj, if_pos hjj, if_pos hjj, if_pos hjj, if_pos hjj]
                exact ⟨rfl, x2, x3, x4, x5⟩
              · rw [if_neg hjj] at hj
                rw [if_neg hjj, if_neg hjj, if_neg hjj, if_neg hjj, if_neg hjj]
                by_cases hjl : j < N.length
                · rw [if_pos hjl] at hj; exact hr j g' hj
                · rw [if_neg hjl] at hj; have := get_lt hj; omega)
            (fun j g' hj hl' => by
              obtain ⟨y3, y4, y5, y6, y7, -⟩ := hcr j
              have hjj : ¬ j = N.length := by omega
              unfold Rcx
              rw [hwc.1.1, y3, y4, y5, y6, y7, if_neg hjj, if_neg hjj, if_neg hjj, if_neg hjj, if_neg hjj]
              exact hold j g' hj (by omega)) (by omega)
          refine ⟨s2, N', ?_, y.2⟩
          rw [← y.1, hA', hgM, List.length_append, List.length_singleton]
          unfold f_X5_moveTo_b146 f_X5_moveTo_b158
          simp only [o0, reduceIte, hca, bV, lt, nu_nIa]
        simp only [bI, htc, ni_m1 (show i' < 2147483648 by omega), reduceIte, hO1.nz jn3, l3, bA, Bool.true_eq_false, hp1, q0, q1, q3, bi, nu_ixn (show A.length < 2147483648 by omega), nu_ixn (show i' < 2147483648 by omega), hmu]
        by_cases hz0 : N = []
        · subst hz0
          rw [if_pos (show nI ([] : List (List Pt)).length ≤ 0 by decide)]
          exact carry (fun a ha => by simp at ha)
        · obtain ⟨N0, l, rfl⟩ : ∃ N0 l, N = N0 ++ [l] := ⟨N.dropLast, N.getLast hz0, (List.dropLast_concat_getLast hz0).symm⟩
          have hNL : (N0 ++ [l]).length = N0.length + 1 := by rw [List.length_append, List.length_singleton]
          have hlx : (N0 ++ [l])[N0.length]? = some l := by rw [List.getElem?_append_right (Nat.le_refl _)]; simp
          obtain ⟨u1, u2, u3, u4, u5⟩ := hr _ l hlx
          have hlm : l ∈ N0 ++ [l] := List.mem_append_right _ List.mem_cons_self
          obtain ⟨bl1, bl2⟩ := hb l hlm
          have hGa := Gd.app.mp hG
          have hlne := (Gd.one.mp hGa.2.1)
          have hle : ky (ka n S K h') l ≤ ky (ka n S K h') g := by
            obtain ⟨pl, hpl, el⟩ := ky_mem (κ := ka n S K h') hlne.1
            obtain ⟨pg, hpg, eg⟩ := ky_mem (κ := ka n S K h') hne
            have hpf : pl ∈ (A.filter (kpt n S K h h')).flatten := by rw [← hN]; exact List.mem_flatten.mpr ⟨l, hlm, hpl⟩
            obtain ⟨a, haf, hpa⟩ := List.mem_flatten.mp hpf
            obtain ⟨haA, hak⟩ := List.mem_filter.mp haf
            obtain ⟨ia, hia⟩ : ∃ ia, tq (sm n S K h') n (ky (ka n S K h) a) = some ia := Option.isSome_iff_exists.mp hak
            have haG : a ∈ GG := by rw [e]; exact List.mem_append_left _ haA
            have ma := (mv_g V W hh haG hia).1 pl hpa
            have hsr := W.2.1
            rw [e, List.flatten_append] at hsr
            have htm : tm pl ≤ tm pg := (List.pairwise_append.mp hsr).2.2 pl (List.mem_flatten.mpr ⟨a, haA, hpa⟩) pg (List.mem_flatten.mpr ⟨g, List.mem_cons_self, hpg⟩)
            rw [el, eg, show ka n S K h' (tm pl) = al (tm pl) (S ia) from kp_of ma.1, show ka n S K h' (tm pg) = al (tm pg) (S i') from kp_of (mg1 pg hpg).1]
            exact (kp_mono V ma.1 (mg1 pg hpg).1 htm).2
          have beq : (gI s1 10 (gR s1 5 o 3) N0.length = Int32.ofInt (ky (ka n S K h') g)) ↔ ky (ka n S K h') l = ky (ka n S K h') g := by
            rw [u1, nu_eq, nu_of (by omega) (by omega), nu_of (by omega) (by omega)]
          have bN : inb (nI N0.length) z = true := nu_inbn (by omega) (by omega)
          rw [hNL, if_neg (fun q => by have := (ni_le (b := 0) (by omega) (by omega)).mp q; omega), ni_dec (by omega) (by omega), Nat.add_sub_cancel, if_neg (by rw [bN]; decide), nu_ixn (by omega)]
          by_cases hcs : ky (ka n S K h') l = ky (ka n S K h') g
          · rw [if_pos (beq.mpr hcs)]
            have hjo := X5_join (fu := fu) hO1 ⟨k3, k4, k5, k6, k7⟩ (i := A.length) (k := N0.length) (by omega) (by omega) hz
            have hjr := joS_r hO1 A.length N0.length
            have hwj := joS_wf s1 o A.length N0.length
            have hj5 := joS_5 s1 o A.length N0.length
            generalize joS s1 o A.length N0.length = s3 at hjo hjr hwj hj5
            have hkl : ky (ka n S K h') (l ++ g) = ky (ka n S K h') l := by
              unfold ky
              cases l with
              | nil => exact absurd rfl hlne.1
              | cons a l => rfl
            have hll : l.length + g.length ≤ 80000 := by
              have a1 : N0.flatten.length + l.length = (A.filter (kpt n S K h h')).flatten.length := by rw [← hN, fl_app, fl_one]
              have a2 := (ft_len (kpt n S K h h') A).1
              have : A.flatten.length ≤ GG.flatten.length := by rw [e, fl_app]; omega
              omega
            obtain ⟨s2, N', y⟩ := ih (A ++ [g]) (N0 ++ [l ++ g]) m s3 e2 (hw.tr hwj) (fun i => by have := (hjr i).2.2.2.2.2; rw [hw.1.1] at this; rw [this]; exact h1 i) (by rw [hj5]; exact h8) (by rw [hj5]; exact h9) (by rw [hj5]; exact h10)
              (by
                have e5 : (N0 ++ [l ++ g]).flatten = (N0 ++ [l]).flatten ++ g := by simp
                rw [e5, hN, hgN]; simp) (Gd.app.mpr ⟨hGa.1, Gd.one.mpr ⟨by simp [hlne.1], fun q hq' => by
                rw [hkl]
                rcases List.mem_append.mp hq' with w | w
                · exact hlne.2 q w
                · rw [(Gd.one.mp hgd1).2 q w, hcs]⟩, fun a ha b hb' => by rw [List.mem_singleton.mp hb', hkl]; exact hGa.2.2 a ha l List.mem_cons_self⟩) (by rw [List.length_append, List.length_singleton, hA']; omega)
              (fun b hb' => by
                rcases List.mem_append.mp hb' with q | q
                · exact hb b (List.mem_append_left _ q)
                · rw [List.mem_singleton.mp q, hkl]; exact ⟨bl1, bl2⟩)
              (fun j g' hj => by
                obtain ⟨y3, y4, y5, y6, y7, -⟩ := hjr j
                unfold Rcx
                rw [hwj.1.1, y3, y4, y5, y6, y7]
                rw [ge_sw N0 [] l] at hj
                by_cases hjj : j = N0.length
                · rw [if_pos hjj] at hj
                  have := Option.some.inj hj
                  subst this
                  rw [if_pos hjj, if_pos hjj, if_pos hjj, if_pos hjj, hkl, List.length_append, s64_app, gmn_app hlne.1 hne, gmx_app hlne.1 hne, u2, u3, u4, u5, x2, x3, x4, x5, ni_add (by omega), hjj]
                  exact ⟨u1, rfl, rfl, rfl, rfl⟩
                · rw [if_neg hjj] at hj
                  rw [if_neg hjj, if_neg hjj, if_neg hjj, if_neg hjj]
                  exact hr j g' hj)
              (fun j g' hj hl' => by
                obtain ⟨y3, y4, y5, y6, y7, -⟩ := hjr j
                have hjj : ¬ j = N0.length := by omega
                unfold Rcx
                rw [hwj.1.1, y3, y4, y5, y6, y7, if_neg hjj, if_neg hjj, if_neg hjj, if_neg hjj]
                exact hold j g' hj (by omega)) (by omega)
            refine ⟨s2, N', ?_, y.2⟩
            rw [← y.1, hA', hgM, List.length_append, List.length_singleton]
            unfold f_X5_moveTo_b158
            simp only [hjo, bV, lt, nu_nIa]
          · rw [if_neg (fun q => hcs (beq.mp q))]
            rw [hNL] at carry
            exact carry (fun a ha => by
              rcases List.mem_append.mp ha with w | w
              · have := hGa.2.2 a w l List.mem_cons_self; omega
              · rw [List.mem_singleton.mp w]; omega)
end MV2
