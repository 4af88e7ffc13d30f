/-! ===== would: both sides ===== -/
theorem tc_inj {a b : Option Nat} {n : Nat} (ha : ∀ i, a = some i → i < n) (hb : ∀ i, b = some i → i < n) (hn : n ≤ 4) : tc a = tc b ↔ a = b := by
  cases a with
  | none =>
    cases b with
    | none => exact ⟨fun _ => rfl, fun _ => rfl⟩
    | some j =>
      have := hb j rfl
      exact ⟨fun q => absurd q.symm (ni_m1 (by omega)), fun q => by cases q⟩
  | some i =>
    have h1 := ha i rfl
    cases b with
    | none => exact ⟨fun q => absurd q (ni_m1 (by omega)), fun q => by cases q⟩
    | some j =>
      have h2 := hb j rfl
      constructor
      · intro q
        have : i = j := (ni_eq (by omega) (by omega)).mp q
        rw [this]
      · intro q; cases q; rfl
section Q10
variable {s : St} {p n : Nat} {S K : Nat → Int} {R : List Nat} {H : Nat → Int32} {P : Nat → List Pt} {fu : Nat}
/-- rows for seams then -/
def ThC (s : St) : Prop := ∀ i, i < 10 → ¬ gR s 14 1 i = 0 → gL s 10 (gR s 5 (gR s 14 1 i) 2) = 4
theorem X5_fore (hL : Lay s) (hS : Sep s) (hTh : ThC s) (hp : p = 1 ∨ p = 2) {i : Nat} (hid : i < 10) (ho : ¬ gR s 14 1 i = 0) {h : Int} {GG : List (List Pt)} (V : VP n S K) (W : WfG n S K h GG) (C : SerC s (gR s 14 1 i) p n S K h GG) {top : Int32} (h1 : -1000000 ≤ top.toInt) (h2 : top.toInt ≤ 1000000) (hfu : 50000 ≤ fu) :
    ∃ sF, CZ s sF ∧ f_X5_foresee fu s (gR s 14 1 i) top 9 = (let q := GG.foldl (foS n S K h top.toInt) (0, 0, 0, 0); some (sI (sI (sI sF 10 9 0 q.1) 10 9 1 q.2.1) 10 9 2 q.2.2.1)) := by
  have hl := wf_len W
  have hn := V.1
  have hJ2 : Jn 2 := Or.inr (Or.inl rfl)
  have ha38 := hS.1 i 2 hid ho hJ2
  have hscr : scr s (gR s 5 (gR s 14 1 i) 2) := Or.inr (Or.inr ⟨i, hid, ho, rfl⟩)
  have hplr : gR s 2 p 0 < 38 ∧ gR s 2 p 1 < 38 := by
    rcases hp with rfl | rfl
    · rw [lr_2_1_0 hL, lr_2_1_1 hL]; omega
    · rw [lr_2_2_0 hL, lr_2_2_1 hL]; omega
  have hfs := X2_fs V C.1.2.2 (a := gR s 5 (gR s 14 1 i) 2) ⟨by omega, hTh i hid ho, by omega, by omega⟩ h1 h2 (fu := fu) (by omega)
  generalize hsF : wI s 10 (gR s 5 (gR s 14 1 i) 2) (fsF s (gR s 5 (gR s 14 1 i) 2) n S K top.toInt n) = sF at hfs
  have hcz : CZ s sF := by rw [← hsF]; exact CZ.wa hscr _
  have CF := C.cs hL hS hp hid ho hcz.cs
  have hFR : gR sF = gR s := hcz.1.1
  have hFL : gL sF = gL s := hcz.1.2.1
  have hσ' : ∀ j, j < n → (gI sF 10 (gR s 5 (gR s 14 1 i) 2) j).toInt = sm n S K top.toInt j := by
    intro j hj
    have hb := sm_bd V h1 h2 hj
    rw [← hsF, gI_wI, if_pos ⟨rfl, rfl⟩]
    unfold fsF
    rw [if_pos hj, nu_of (by omega) (by omega)]
  have e9 : ¬ (9 = 0) := by decide
  have b0 : inb 0 4 = true := by decide
  have b1 : inb 1 4 = true := by decide
  have b2 : inb 2 4 = true := by decide
  have i0 : ix 0 = 0 := rfl
  have i1 : ix 1 = 1 := rfl
  have i2 : ix 2 = 2 := rfl
  have loop : ∀ (B X : List (List Pt)) (m : Nat) (q : F4), GG = X ++ B → B.length < m → f_X5_foresee_b26 fu m sF (gR s 14 1 i) 9 q.1 q.2.1 q.2.2.1 q.2.2.2 (nI X.length) = (let r := B.foldl (foS n S K h top.toInt) q; some (sI (sI (sI sF 10 9 0 r.1) 10 9 1 r.2.1) 10 9 2 r.2.2.1)) := by
    intro B
    induction B with
    | nil =>
      intro X m q e hm
      rw [List.append_nil] at e
      subst e
      cases m with
      | zero => omega
      | succ m =>
        unfold f_X5_foresee_b26
        simp only [ho, reduceIte, CF.2.2.1, ni_le (show GG.length < 2147483648 by omega) (show GG.length < 2147483648 by omega), Nat.le_refl, e9, gL_sI, hFL, ll_10_9 hL, b0, b1, b2, Bool.true_eq_false, lt, i0, i1, i2]
        rfl
    | cons g B ih =>
      intro X m q e hm
      have hgx : GG[X.length]? = some g := by rw [e, List.getElem?_append_right (Nat.le_refl _)]; simp
      have hgl := get_lt hgx
      have hg := List.mem_of_getElem? hgx
      obtain ⟨-, -, -, bg, -⟩ := wf_g V W hg
      cases m with
      | zero => omega
      | succ m =>
        rw [List.length_cons] at hm
        have hih := ih (X ++ [g]) m (foS n S K h top.toInt q g) (by rw [e, List.append_assoc]; rfl) (by omega)
        rw [List.length_append, List.length_singleton] at hih
        have hst := CF.st V W hgx
        obtain ⟨c1, c2, -⟩ := CF.2.2.2.2.2 _ g hgx
        obtain ⟨r1, r2, -⟩ := CF.2.2.2.1
        obtain ⟨l1, l2, -⟩ := CF.2.2.2.2.1
        rw [hFR] at r1 r2 hst c1 c2
        rw [hFR, hFL] at l1 l2
        have bb : inb (nI X.length) (gL s 10 (gR s 5 (gR s 14 1 i) 3)) = true := nu_inbn (by omega) (by omega)
        have bb4 : inb (nI X.length) (gL s 10 (gR s 5 (gR s 14 1 i) 4)) = true := nu_inbn (by omega) (by omega)
        have hp0 : ¬ p = 0 := by rcases hp with q | q <;> omega
        have hpl : gR s 5 (gR s 14 1 i) 0 = p := C.1.2.1
        obtain ⟨-, ⟨p1, p2⟩, ⟨p3, p4⟩, p5, p6⟩ := CF.1.2.2
        rw [hFR] at p1 p2 p6
        rw [hFR, hFL] at p3
        have htu := X2_tu (n := n) (s := sF) (p := p) (a := gR s 5 (gR s 14 1 i) 2) hn.2 hp0 p5 ⟨by omega, by rw [hFL]; exact hTh i hid ho⟩ hσ' (t := gI sF 10 (gR s 5 (gR s 14 1 i) 3) X.length) (fu := fu) (by omega)
        rw [hst] at htu
        have hto := X5_to V W CF (gI sF 10 (gR s 5 (gR s 14 1 i) 3) X.length) (fu := fu) (by omega)
        rw [hst] at hto
        have htci : tc (tq (sm n S K top.toInt) n (ky (ka n S K h) g)) = tc (tq (sm n S K h) n (ky (ka n S K h) g)) ↔ tq (sm n S K top.toInt) n (ky (ka n S K h) g) = tq (sm n S K h) n (ky (ka n S K h) g) := tc_inj (fun j hj => tq_lt hj) (fun j hj => tq_lt hj) hn.2
        have key : ∀ o' : Int32, o' = (if tq (sm n S K top.toInt) n (ky (ka n S K h) g) = tq (sm n S K h) n (ky (ka n S K h) g) then q.2.2.1 else q.2.2.1 + 1) → f_X5_foresee_b74 fu (f_X5_foresee_b26 fu m) sF (gR s 14 1 i) 9 q.1 q.2.1 o' q.2.2.2 (nI X.length) (tc (tq (sm n S K top.toInt) n (ky (ka n S K h) g))) = (let r := (g :: B).foldl (foS n S K h top.toInt) q; some (sI (sI (sI sF 10 9 0 r.1) 10 9 1 r.2.1) 10 9 2 r.2.2.1)) := by
          intro o' ho'
          rw [List.foldl_cons]
          refine Eq.trans ?_ hih
          cases htq : tq (sm n S K top.toInt) n (ky (ka n S K h) g) with
          | none =>
            rw [htq] at ho'
            have hfo : foS n S K h top.toInt q g = (q.1, q.2.1 + nI g.length, o', q.2.2.2) := by
              unfold foS
              rw [htq, ho']
            rw [hfo]
            unfold f_X5_foresee_b74 f_X5_foresee_b135
            simp only [tc_none, reduceIte, ho, hFR, hFL, r2, bb4, Bool.true_eq_false, lt, nu_ixn (show X.length < 2147483648 by omega), c2, nu_nIa]
          | some t =>
            rw [htq] at ho'
            have hti := tq_some.mp htq
            have htn := hti.1
            have hs := V.sp htn
            have em : ¬ tc (some t) = (-1 : Int32) := ni_m1 (by omega)
            have et : tc (some t) = nI t := rfl
            have btt : inb (nI t) 4 = true := nu_inbn (by omega) (by omega)
            obtain ⟨q1, -⟩ := p6 t htn
            have hmo : mu (gI sF 10 (gR s 5 (gR s 14 1 i) 3) X.length) (gI sF 10 (gR s 2 p 0) t) = Int32.ofInt (al (ky (ka n S K h) g) (S t)) := by
              have := mu_i (a := gI sF 10 (gR s 5 (gR s 14 1 i) 3) X.length) (b := gI sF 10 (gR s 2 p 0) t) (by rw [q1]; exact hs.1) (by rw [hst, q1]; omega)
              rw [hst, q1] at this
              rw [← this, Int32.ofInt_toInt]
            have hfo : foS n S K h top.toInt q g = ((if q.1 = 0 then q.1 + 1 else if Int32.ofInt (al (ky (ka n S K h) g) (S t)) = q.2.2.2 then q.1 else q.1 + 1), q.2.1, o', Int32.ofInt (al (ky (ka n S K h) g) (S t))) := by
              unfold foS
              rw [htq, ho']
            rw [hfo]
            unfold f_X5_foresee_b74 f_X5_foresee_b128 f_X5_foresee_b131 f_X5_foresee_b135
            simp only [em, reduceIte, ho, hFR, hFL, r1, bb, Bool.true_eq_false, hpl, hp0, p1, p3]
            rw [et]
            simp only [btt, Bool.true_eq_false, reduceIte, nu_ixn (show X.length < 2147483648 by omega), nu_ixn (show t < 2147483648 by omega), X8_mu (a := gI sF 10 (gR s 5 (gR s 14 1 i) 3) X.length) (b := gI sF 10 (gR s 2 p 0) t) (show 0 < (gI sF 10 (gR s 2 p 0) t).toInt by rw [q1]; exact hs.1), bI, hmo, lt, nu_nIa]
            by_cases c1 : q.1 = 0
            · rw [if_pos c1, if_pos c1]
            · rw [if_neg c1, if_neg c1]
              by_cases c2 : Int32.ofInt (al (ky (ka n S K h) g) (S t)) = q.2.2.2
              · rw [if_pos c2, if_pos c2]
              · rw [if_neg c2, if_neg c2]
        unfold f_X5_foresee_b26
        simp only [ho, reduceIte, CF.2.2.1, ni_le (show GG.length < 2147483648 by omega) (show X.length < 2147483648 by omega), show ¬ GG.length ≤ X.length by omega, hFR, hFL, r1, bb, Bool.true_eq_false, nu_ixn (show X.length < 2147483648 by omega), hpl, hp0, htu, bI, hto, htci, lt]
        by_cases hq : tq (sm n S K top.toInt) n (ky (ka n S K h) g) = tq (sm n S K h) n (ky (ka n S K h) g)
        · rw [if_pos hq]
          exact key _ (by rw [if_pos hq])
        · rw [if_neg hq]
          exact key _ (by rw [if_neg hq])
  refine ⟨sF, hcz, ?_⟩
  have hp0 : ¬ gR s 5 (gR s 14 1 i) 0 = 0 := by rw [C.1.2.1]; rcases hp with q | q <;> omega
  unfold f_X5_foresee
  rw [← C.1.2.1] at hfs
  simp only [ho, reduceIte, hp0, hfs, bV]
  exact loop GG [] fu (0, 0, 0, 0) rfl (by omega)
/-- cut what is gone by then -/
theorem gone_cut {h h' : Int} {GG : List (List Pt)} (V : VP n S K) (W : WfG n S K h GG) : ∃ A B, GG = A ++ B ∧ (∀ g ∈ A, tq (sm n S K h') n (ky (ka n S K h) g) = none) ∧ (∀ g ∈ B, ∃ i, TI (sm n S K h') n (ky (ka n S K h) g) i) ∧ cl GG.flatten (sm n S K h' (n - 1)) = A.flatten.length := by
  have hn := V.1
  obtain ⟨A, B, e, a1, a2, a3⟩ := gr_cut W.1 (T := sm n S K h' (n - 1)) (fun p hp => by
    obtain ⟨j, hj, e⟩ := wf_p V W hp
    have hpj := (V.sp hj.1).1
    rw [e]
    have h1 := al_le (x := tm p) hpj
    constructor
    · intro h2; omega
    · intro h2
      rcases Int.lt_or_le (tm p) (sm n S K h' (n - 1)) with q | q
      · exact q
      · have hdv : S j ∣ sm n S K h' (n - 1) := Int.dvd_trans (V.dv (i := j) (j := n - 1) (by have := hj.1; omega) (by omega)) (sm_own V h' (by omega))
        have := al_ge hpj hdv q
        omega)
  refine ⟨A, B, e, fun g hg => tq_none.mpr (fun j hj => ?_), fun g hg => ?_, a3⟩
  · have h1 := a1 g hg
    have h2 := sm_anti V h' (i := j) (j := n - 1) (by omega) (by omega)
    omega
  · obtain ⟨i, hi, -⟩ := TI.ex (σ := sm n S K h') (n := n) (j := n - 1) (by omega) (a2 g hg)
    exact ⟨i, hi⟩
theorem kc_run {h h' : Int} : ∀ (X Y : List (List Pt)) (l : Int), (∀ g ∈ X, ka n S K h' (ky (ka n S K h) g) = l) → kc n S K h h' l (X ++ Y) = kc n S K h h' l Y := by
  intro X
  induction X with
  | nil => intro Y l _; rfl
  | cons g X ih =>
    intro Y l hX
    have hg := hX g List.mem_cons_self
    rw [List.cons_append, kc_c, hg, if_pos rfl, Nat.zero_add]
    exact ih Y l (fun b hb => hX b (List.mem_cons_of_mem _ hb))
theorem X9_bby (h : RQ s n S K R H P) {id : Nat} (hid : id < 10) {GG A B : List (List Pt)} (hP : P id = GG.flatten) (W : WfG n S K (H id).toInt GG) {top : Int32} (ht0 : (H id).toInt ≤ top.toInt) (ht2 : top.toInt ≤ 1000000) (e : GG = A ++ B) (hB : ∀ g ∈ B, ∃ i, TI (sm n S K top.toInt) n (ky (ka n S K (H id).toInt) g) i) (ha : cl GG.flatten (sm n S K top.toInt (n - 1)) = A.flatten.length) (hfu : 50000 ≤ fu) :
    f_X9_bucketsBy fu s 1 (nI id) top = some (s, nI (kn n S K (H id).toInt top.toInt B)) := by
  have e10 : ¬ (1 = 0) := by decide
  have hpos := h.pos hid hP
  have hl := wf_len W
  have ht1 : -1000000 ≤ top.toInt := by have := W.2.2.2.2.1; omega
  obtain ⟨hL, ⟨hPl, hV⟩, -, -, hPt, hPW, hTm⟩ := h
  have hn := hV.1
  have hPl' := hPl
  obtain ⟨⟨m1, m2⟩, ⟨m3, m4⟩, m5, m6⟩ := hPl
  have hPt' := hPt
  obtain ⟨⟨r1, r2, r3⟩, ⟨l1, l2, l3⟩, hpn, hc⟩ := hPt
  have loop : ∀ (m : Nat) (B X : List (List Pt)) (c : Nat), GG = (A ++ X) ++ B → (∀ g ∈ B, ∃ i, TI (sm n S K top.toInt) n (ky (ka n S K (H id).toInt) g) i) → B.length < m → f_X9_bucketsBy_b28 fu m s 1 (nI id) top (nI c) (nI (off P id + GG.flatten.length)) (nI (off P id + (A ++ X).flatten.length)) = some (s, nI (c + kn n S K (H id).toInt top.toInt B)) := by
    intro m
    induction m with
    | zero => intro B X c _ _ hm; omega
    | succ m ih =>
      intro B X c eX hBt hm
      cases hBc : B with
      | nil =>
        subst hBc
        rw [List.append_nil] at eX
        unfold f_X9_bucketsBy_b28
        rw [← eX, if_pos ((ni_le (by omega) (by omega)).mpr (Nat.le_refl _))]
        rfl
      | cons g B' =>
        subst hBc
        have hg : g ∈ GG := by rw [eX]; exact List.mem_append_right _ List.mem_cons_self
        have hgl := wf_gl W hg
        obtain ⟨i, hi, hpg, bg, hgne⟩ := wf_g hV W hg
        obtain ⟨t, ht⟩ := hBt g List.mem_cons_self
        have htn := ht.1
        have hs := hV.sp htn
        have hfl : (A ++ X).flatten.length + g.length + B'.flatten.length = GG.flatten.length := by rw [eX, fl_app (A ++ X), fl_cons]; omega
        -- the first point of the group
        obtain ⟨q0, g', hgc⟩ : ∃ q0 g', g = q0 :: g' := by
          cases g with
          | nil => exact absurd rfl hgne
          | cons q0 g' => exact ⟨q0, g', rfl⟩
        have hq0 : q0 ∈ g := by rw [hgc]; exact List.mem_cons_self
        have hPx : (P id)[(A ++ X).flatten.length]? = some q0 := by
          rw [hP, eX, List.flatten_append, List.flatten_cons, hgc, List.getElem?_append_right (Nat.le_refl _)]
          simp
        obtain ⟨-, e2, -⟩ := hc id hid _ q0 hPx
        obtain ⟨hi0, hk0⟩ := hpg q0 hq0
        have hrise := kp_rise hV ht0 hi0
        have htq0 : TI (sm n S K top.toInt) n (tm q0) t ∧ al (tm q0) (S t) = al (ky (ka n S K (H id).toInt) g) (S t) := by
          cases hq : tq (sm n S K top.toInt) n (tm q0) with
          | none =>
            have := hrise.2 hq
            rw [hk0] at this
            have := tq_none.mp this t htn
            have := ht.2.1
            omega
          | some i' =>
            have hi' := tq_some.mp hq
            obtain ⟨-, a1, a2⟩ := hrise.1 i' hi'
            rw [hk0] at a1 a2
            have := a1.u ht
            subst this
            exact ⟨hi', a2.symm⟩
        have htcq : tc (tq (sm n S K top.toInt) n q0.1.toInt) = nI t := by
          have : tq (sm n S K top.toInt) n q0.1.toInt = some t := tq_some.mpr htq0.1
          rw [this]; rfl
        have a1 := al_le (x := ky (ka n S K (H id).toInt) g) hs.1
        have a2 := al_lt (x := ky (ka n S K (H id).toInt) g) hs.1
        -- the end of the bucket then
        have hthr : ∀ p ∈ GG.flatten, tm p < al (ky (ka n S K (H id).toInt) g) (S t) + S t ↔ ka n S K (H id).toInt (tm p) < al (ky (ka n S K (H id).toInt) g) (S t) + S t := by
          intro p hp
          obtain ⟨j, hj, ej⟩ := wf_p hV W hp
          have hpj := (hV.sp hj.1).1
          rw [ej]
          have q1 := al_le (x := tm p) hpj
          constructor
          · intro w; omega
          · intro w
            rcases Int.lt_or_le (tm p) (al (ky (ka n S K (H id).toInt) g) (S t) + S t) with z | z
            · exact z
            · have hex : ∃ i', TI (sm n S K top.toInt) n (tm p) i' := by
                obtain ⟨i', hi', -⟩ := TI.ex (σ := sm n S K top.toInt) (n := n) (t := tm p) (j := t) htn (by have := ht.2.1; omega)
                exact ⟨i', hi'⟩
              obtain ⟨i', hi'⟩ := hex
              have hle1 := (kp_mono hV ht hi' (by omega)).1
              have hle2 := ((kp_rise hV ht0 hj).1 i' hi').1
              have hdv : S j ∣ al (ky (ka n S K (H id).toInt) g) (S t) + S t := Int.dvd_trans (hV.dv (i := j) (j := t) (by omega) htn) (Int.dvd_add (al_dv _ _) (Int.dvd_refl _))
              have := al_ge hpj hdv z
              omega
        have hGd := W.1
        rw [eX] at hGd
        have hGdB := (Gd.cons.mp (Gd.app.mp hGd).2.1)
        obtain ⟨run, rest, eB, x1, x2, x3⟩ := gr_cut hGdB.2.1 (T := al (ky (ka n S K (H id).toInt) g) (S t) + S t) (fun p hp => hthr p (by rw [eX, List.flatten_append, List.flatten_cons]; exact List.mem_append_right _ (List.mem_append_right _ hp)))
        have hpre : ∀ q ∈ (A ++ X ++ [g]).flatten, tm q < al (ky (ka n S K (H id).toInt) g) (S t) + S t := by
          intro q hq
          obtain ⟨b, hb, hqb⟩ := List.mem_flatten.mp hq
          have hbG : b ∈ GG := by
            rw [eX]
            rcases List.mem_append.mp hb with w | w
            · exact List.mem_append_left _ w
            · rw [List.mem_singleton.mp w]; exact List.mem_append_right _ List.mem_cons_self
          refine (hthr q (List.mem_flatten.mpr ⟨b, hbG, hqb⟩)).mpr ?_
          rw [W.1.2.1 b hbG q hqb]
          rcases List.mem_append.mp hb with w | w
          · have := (Gd.app.mp hGd).2.2 b w g List.mem_cons_self
            omega
          · rw [List.mem_singleton.mp w]; exact a2
        have hcl : cl GG.flatten (al (ky (ka n S K (H id).toInt) g) (S t) + S t) = (A ++ (X ++ [g] ++ run)).flatten.length := by
          have e4 : GG.flatten = (A ++ X ++ [g]).flatten ++ B'.flatten := by rw [eX]; simp
          rw [e4, cl_al hpre, x3, ← fl_app]
          simp
        have eX2 : GG = (A ++ (X ++ [g] ++ run)) ++ rest := by rw [eX, eB]; simp
        have hrun : ∀ b ∈ run, ka n S K top.toInt (ky (ka n S K (H id).toInt) b) = al (ky (ka n S K (H id).toInt) g) (S t) := by
          intro b hb
          have h1 := x1 b hb
          have h2 := hGdB.2.2 b (by rw [eB]; exact List.mem_append_left _ hb)
          obtain ⟨y1, y2⟩ := kp_in hV ht (u := ky (ka n S K (H id).toInt) b) (by omega) h1
          show kp S (sm n S K top.toInt) n (ky (ka n S K (H id).toInt) b) = _
          rw [kp_of y1, y2]
        have hkg : ka n S K top.toInt (ky (ka n S K (H id).toInt) g) = al (ky (ka n S K (H id).toInt) g) (S t) := kp_of ht
        have hkn : kn n S K (H id).toInt top.toInt (g :: B') = 1 + kn n S K (H id).toInt top.toInt rest := by
          rw [kn_c, hkg, eB, kc_run run rest _ hrun]
          cases hrc : rest with
          | nil => rfl
          | cons r rest' =>
            rw [kc_c, kn_c]
            have hr1 := x2 r (by rw [hrc]; exact List.mem_cons_self)
            obtain ⟨j, hj⟩ := hBt r (by rw [eB, hrc]; exact List.mem_cons_of_mem _ (List.mem_append_right _ List.mem_cons_self))
            have hkr : ka n S K top.toInt (ky (ka n S K (H id).toInt) r) = al (ky (ka n S K (H id).toInt) r) (S j) := kp_of hj
            have hne : ¬ al (ky (ka n S K (H id).toInt) r) (S j) = al (ky (ka n S K (H id).toInt) g) (S t) := fun w => by
              have := (kp_eq hV ht hj).mp w.symm
              omega
            rw [hkr, if_neg hne]
        have hrl : rest.length ≤ B'.length := by rw [eB, List.length_append]; omega
        rw [List.length_cons] at hm
        have hih := ih rest (X ++ [g] ++ run) (c + 1) eX2 (fun b hb => hBt b (by rw [eB]; exact List.mem_cons_of_mem _ (List.mem_append_right _ hb))) (by omega)
        have b5 : inb (nI (off P id + (A ++ X).flatten.length)) (gL s 10 (gR s 9 1 20)) = true := nu_inbn (by omega) (by omega)
        have btt : inb (nI t) 4 = true := nu_inbn (by omega) (by omega)
        obtain ⟨u3, -⟩ := m6 t htn
        have hTq := hTm id hid q0 (by rw [hP]; exact List.mem_flatten.mpr ⟨g, hg, hq0⟩)
        have htm : tm q0 = q0.1.toInt := rfl
        unfold f_X9_bucketsBy_b28
        rw [if_neg (fun w => by have := (ni_le (by omega) (by omega)).mp w; omega)]
        simp only [e10, reduceIte, r2, b5, Bool.true_eq_false, nu_ixn (show off P id + (A ++ X).flatten.length < 2147483648 by omega), e2, X9_tb hV hPl' ht1 ht2 (show 100 ≤ fu by omega), bI, htcq, m1, m3, btt, nu_ixn (show t < 2147483648 by omega),
          X9_mult (v := Int32.toInt64 q0.1) (n := gI s 10 (gR s 9 1 4) t) (by rw [u3]; exact hs.1) (by rw [nj_up]; omega) (by rw [nj_up]; omega), nj_up, u3, lt]
        rw [← htm, htq0.2, X9_po hPt' hPW hid hfu]
        simp only [bI]
        have hm2 : (Int32.toInt64 (Int32.ofInt (al (ky (ka n S K (H id).toInt) g) (S t))) + Int32.toInt64 (gI s 10 (gR s 9 1 4) t)).toInt = al (ky (ka n S K (H id).toInt) g) (S t) + S t := by
          rw [nj_add (by rw [nj_up, nj_up, nu_of (by omega) (by omega), u3]; omega) (by rw [nj_up, nj_up, nu_of (by omega) (by omega), u3]; omega), nj_up, nj_up, nu_of (by omega) (by omega), u3]
        rw [hm2, hP, hcl, nu_nIa, hkn]
        refine hih.trans ?_
        congr 3
        omega
  have hb := sm_bd hV ht1 ht2 (i := n - 1) (by omega)
  unfold f_X9_bucketsBy
  simp only [e10, reduceIte, X9_bo hPt' hPW hTm hid hfu, bI, m5, ni_dec (show 0 < n by omega) (show n < 2147483648 by omega), X9_sb hV hPl' ht1 ht2 (show n - 1 < n by omega) (show 100 ≤ fu by omega), X9_po hPt' hPW hid hfu, nj_up, nu_of (show -2147483648 ≤ sm n S K top.toInt (n - 1) by omega) (by omega), off_s, hP, ha]
  have hBl : B.length ≤ GG.length := by rw [e, List.length_append]; omega
  have := loop fu B [] 0 (by rw [List.append_nil]; exact e) hB (by omega)
  rw [List.append_nil, Nat.zero_add] at this
  exact this
theorem X9_mvb (h : RQ s n S K R H P) {id : Nat} (hid : id < 10) {GG : List (List Pt)} (hP : P id = GG.flatten) (W : WfG n S K (H id).toInt GG) {top : Int32} (ht1 : -1000000 ≤ top.toInt) (ht2 : top.toInt ≤ 1000000) (hfu : 50000 ≤ fu) :
    ∃ s2, f_X9_movedBy fu s 1 (nI id) top = some (s2, nI (oc n S K (H id).toInt top.toInt GG)) ∧ MZ s s2 := by
  have e10 : ¬ (1 = 0) := by decide
  have hpos := h.pos hid hP
  have hl := wf_len W
  have hV := h.2.1.2
  have hn := hV.1
  have e3 : ∀ a b : Nat, nI a + nI b = nI (a + b) := fun a b => by unfold nI; rw [Int32.ofNat_add]
  have loop : ∀ (M A : List (List Pt)) (m c : Nat) (s1 : St), GG = A ++ M → MZ s s1 → M.length < m → ∃ s2, f_X9_movedBy_b16 fu m s1 1 top (nI c) (nI (off P id + GG.flatten.length)) (nI (off P id + A.flatten.length)) = some (s2, nI (c + oc n S K (H id).toInt top.toInt M)) ∧ MZ s s2 := by
    intro M
    induction M with
    | nil =>
      intro A m c s1 e hm hl
      cases m with
      | zero => omega
      | succ m =>
        refine ⟨s1, ?_, hm⟩
        rw [List.append_nil] at e
        subst e
        unfold f_X9_movedBy_b16
        rw [if_pos ((ni_le (by omega) (by omega)).mpr (Nat.le_refl _))]
        rfl
    | cons g M ih =>
      intro A m c s1 e hm hl
      cases m with
      | zero => omega
      | succ m =>
        have hg : g ∈ GG := by rw [e]; exact List.mem_append_right _ List.mem_cons_self
        have hgl := wf_gl W hg
        obtain ⟨-, -, -, bg, -⟩ := wf_g hV W hg
        have hA : A.flatten.length + g.length ≤ GG.flatten.length := by rw [e, fl_app, fl_cons]; omega
        have e2 : GG = (A ++ [g]) ++ M := by rw [e, List.append_assoc]; rfl
        rw [List.length_cons] at hl
        have hmz := hm.tr (bG_ms s1 n S K (H id).toInt g)
        obtain ⟨-, ⟨hPl, -⟩, -⟩ := h.mz hmz
        have s52 : gI (bG s1 n S K (H id).toInt g) 9 1 52 = Int32.ofInt (ky (ka n S K (H id).toInt) g) := by unfold bG; rw [bS_52]
        have s51 : gI (bG s1 n S K (H id).toInt g) 9 1 51 = tc (tq (sm n S K (H id).toInt) n (ky (ka n S K (H id).toInt) g)) := by unfold bG; rw [bS_51]
        have kg : (Int32.ofInt (ky (ka n S K (H id).toInt) g)).toInt = ky (ka n S K (H id).toInt) g := nu_of (by omega) (by omega)
        have htci : tc (tq (sm n S K top.toInt) n (ky (ka n S K (H id).toInt) g)) = tc (tq (sm n S K (H id).toInt) n (ky (ka n S K (H id).toInt) g)) ↔ tq (sm n S K top.toInt) n (ky (ka n S K (H id).toInt) g) = tq (sm n S K (H id).toInt) n (ky (ka n S K (H id).toInt) g) := tc_inj (fun j hj => tq_lt hj) (fun j hj => tq_lt hj) hn.2
        obtain ⟨s2, h2, h3⟩ := ih (A ++ [g]) m (c + if tq (sm n S K top.toInt) n (ky (ka n S K (H id).toInt) g) = tq (sm n S K (H id).toInt) n (ky (ka n S K (H id).toInt) g) then 0 else 1) (bG s1 n S K (H id).toInt g) e2 hmz (by omega)
        refine ⟨s2, ?_, h3⟩
        unfold f_X9_movedBy_b16 f_X9_movedBy_b53
        rw [if_neg (fun q => by have := (ni_le (by omega) (by omega)).mp q; omega)]
        simp only [lt, e10, reduceIte, X9_nb (h.mz hm) hid hP W e hfu, bI, s52, s51, X9_tb hV hPl ht1 ht2 (show 100 ≤ fu by omega), kg, htci]
        rw [oc_c, ← Nat.add_assoc]
        by_cases hq : tq (sm n S K top.toInt) n (ky (ka n S K (H id).toInt) g) = tq (sm n S K (H id).toInt) n (ky (ka n S K (H id).toInt) g)
        · rw [if_pos hq] at h2 ⊢
          rw [if_pos hq, show nI c + 0 = nI c from Int32.add_zero _]
          exact h2
        · rw [if_neg hq] at h2 ⊢
          rw [if_neg hq, nu_nIa]
          exact h2
  obtain ⟨hL, -, -, -, hPt, hPW, hTm⟩ := h
  obtain ⟨s2, h2, h3⟩ := loop GG [] fu 0 s rfl (MZ.rf s) (by omega)
  refine ⟨s2, ?_, h3⟩
  unfold f_X9_movedBy
  simp only [e10, reduceIte, X9_bo hPt hPW hTm hid hfu, X9_fo hPt hPW hTm hid hfu, bI, off_s, hP]
  rw [Nat.zero_add] at h2
  exact h2
end Q10
