/-! ===== moveTo, begin ===== -/
section MV3
variable {s : St} {o p n : Nat} {S K : Nat → Int} {fu : Nat} {c : Nat → Nat} {h : Int} {GG : List (List Pt)}
theorem fsF_at (s : St) (a n : Nat) (S K : Nat → Int) (h : Int) {j : Nat} (hj : j < n) : fsF s a n S K h n j = Int32.ofInt (sm n S K h j) := if_pos hj
theorem wf_up (V : VP n S K) (W : WfG n S K h GG) {h' : Int} (hh : h ≤ h') (hb : h' ≤ 1000000) {GG' : List (List Pt)} {D : List Pt} (hf : GG.flatten = D ++ GG'.flatten) (hk : ∀ q ∈ GG'.flatten, sm n S K h' (n - 1) ≤ tm q) (hG : Gd (ka n S K h') GG') : WfG n S K h' GG' := by
  obtain ⟨w1, w2, w3, w4, w5, w6⟩ := W
  rw [hf] at w2 w3 w4
  refine ⟨hG, (List.pairwise_append.mp w2).2.1, fun q hq => ?_, by rw [List.length_append] at w4; omega, by omega, hb⟩
  have := w3 q (List.mem_append_right _ hq)
  exact ⟨hk q hq, by omega, this.2.2⟩
theorem X5_move (V : VP n S K) (W : WfG n S K h GG) (C : SerC s o p n S K h GG) (hO : OwnC s o c) {z : Nat} (hc : eqC c z) (hz : z ≤ 65536) (hl : gR s 2 p 0 ≤ 38 ∧ gR s 2 p 1 ≤ 38) (c1 : c 1 = 4) (c2 : c 2 = 4) {t : Int32} (hh : h ≤ t.toInt) (ht : t.toInt ≤ 1000000) (hfu : 50000 ≤ fu) :
    ∃ s' GG', f_X5_moveTo fu s o t = some (s', nI (cl GG.flatten (sm n S K t.toInt (n - 1)))) ∧ GG'.flatten = GG.flatten.drop (cl GG.flatten (sm n S K t.toInt (n - 1))) ∧ WfG n S K t.toInt GG' ∧ SerC s' o p n S K t.toInt GG' ∧ WFr s s' o ∧ gI s' 5 o 9 = gI s 5 o 9 ∧ gI s' 5 o 10 = gI s 5 o 10 + nI (cl GG.flatten (sm n S K t.toInt (n - 1))) := by
  have hn := V.1
  have hw5 := W.2.2.2.2
  have hlen := wf_len W
  obtain ⟨⟨a1, a2, a3⟩, ⟨b1, b2, b3⟩, d1, e1, f1, g1⟩ := C
  have hp0 := a3.1
  have l2 : gL s 10 (gR s 5 o 2) = 4 := by rw [hO.2.2.2.2.1 2 jn2, c2]
  have n20 : ¬ gR s 2 p 0 = gR s 5 o 2 := fun q => by have := (hO.2.1 2 jn2).1; omega
  have n21 : ¬ gR s 2 p 1 = gR s 5 o 2 := fun q => by have := (hO.2.1 2 jn2).1; omega
  have hfs := X2_fs V a3 ⟨hO.nz jn2, l2, n20, n21⟩ (h := t) (by omega) ht (fu := fu) (by omega)
  have i0 : inb 0 4 = true := by decide
  have x0 : ix 0 = 0 := rfl
  have w2 : WFr s (wI s 10 (gR s 5 o 2) (fsF s (gR s 5 o 2) n S K t.toInt n)) o := WFr.w s o jn2 _
  have r2 : gI (wI s 10 (gR s 5 o 2) (fsF s (gR s 5 o 2) n S K t.toInt n)) 10 (gR s 5 o 2) = fsF s (gR s 5 o 2) n S K t.toInt n := by funext j; rw [gI_wI, if_pos ⟨rfl, rfl⟩]
  have ro : ∀ j, Jn j → ¬ j = 2 → ∀ m, gI (wI s 10 (gR s 5 o 2) (fsF s (gR s 5 o 2) n S K t.toInt n)) 10 (gR s 5 o j) m = gI s 10 (gR s 5 o j) m := fun j hj hne m => by rw [gI_wI, if_neg (fun q => hO.df hj jn2 hne q.2)]
  have bs0 := sm_bd V hw5.1 hw5.2 (i := 0) (by omega)
  have bt0 := sm_bd V (h := t.toInt) (by omega) ht (i := 0) (by omega)
  have hcmp : (fsF s (gR s 5 o 2) n S K t.toInt n 0 = gI s 10 (gR s 5 o 1) 0) ↔ sm n S K h 0 = sm n S K t.toInt 0 := by
    rw [fsF_at _ _ _ _ _ _ (by omega), b3 0 (by omega), nu_eq, nu_of (by omega) (by omega), nu_of (by omega) (by omega)]
    omega
  obtain ⟨A, B, e, u1, u2, u3⟩ := gone_cut (h' := t.toInt) V W
  have hd : GG.flatten = A.flatten ++ B.flatten := by rw [e, List.flatten_append]
  by_cases hq : sm n S K h 0 = sm n S K t.toInt 0
  · have hsm : sm n S K t.toInt = sm n S K h := by funext i; exact (sm_first hq i).symm
    have hc0 : cl GG.flatten (sm n S K t.toInt (n - 1)) = 0 := cl_none (fun q hq' => by rw [hsm]; exact (W.2.2.1 q hq').1)
    refine ⟨wI s 10 (gR s 5 o 2) (fsF s (gR s 5 o 2) n S K t.toInt n), GG, ?_, by rw [hc0, List.drop_zero], ?_, ?_, w2, ?_, ?_⟩
    · rw [hc0]
      unfold f_X5_moveTo
      simp only [a1, a2, hp0, reduceIte, hfs, bV, gR_wI, gL_wI, hO.nz jn2, hO.nz jn1, l2, b2, i0, Bool.true_eq_false, x0, r2, ro 1 jn1 (by decide), hcmp, hq]
      rfl
    · refine wf_up V W hh ht (D := []) rfl (fun q hq' => by rw [hsm]; exact (W.2.2.1 q hq').1) ?_
      have := W.1
      unfold ka at this ⊢
      rw [hsm]
      exact this
    · have C0 : SerC (wI s 10 (gR s 5 o 2) (fsF s (gR s 5 o 2) n S K t.toInt n)) o p n S K h GG := by
        refine ⟨⟨a1, a2, a3.sf w2.sf hO hl⟩, ⟨b1, b2, fun i hi => ?_⟩, ?_, e1, f1, fun j g hj => ?_⟩
        · show gI _ 10 (gR s 5 o 1) i = _
          rw [ro 1 jn1 (by decide)]; exact b3 i hi
        · rw [gI_wI, if_neg (by omega)]; exact d1
        · show gI _ 10 (gR s 5 o 3) j = _ ∧ gI _ 10 (gR s 5 o 4) j = _ ∧ _ ∧ gI _ 10 (gR s 5 o 6) j = _ ∧ gI _ 10 (gR s 5 o 7) j = _
          rw [ro 3 jn3 (by decide), ro 4 jn4 (by decide), ro 6 jn6 (by decide), ro 7 jn7 (by decide)]
          exact g1 j g hj
      unfold SerC ka at C0 ⊢
      rw [hsm]
      exact C0
    · rw [gI_wI, if_neg (by omega)]
    · rw [gI_wI, if_neg (by omega), hc0]
      exact (Int32.add_zero _).symm
  · have hP2 : cpb 0 (nI 4) 4 = true := by decide
    have x4 : ix (nI 4) = 4 := rfl
    have w1 : WFr s (wI (wI s 10 (gR s 5 o 2) (fsF s (gR s 5 o 2) n S K t.toInt n)) 10 (gR s 5 o 1) (va_cpy (fsF s (gR s 5 o 2) n S K t.toInt n) (gI (wI s 10 (gR s 5 o 2) (fsF s (gR s 5 o 2) n S K t.toInt n)) 10 (gR s 5 o 1)) 0 0 4)) o := w2.tr (WFr.w (wI s 10 (gR s 5 o 2) (fsF s (gR s 5 o 2) n S K t.toInt n)) o jn1 (va_cpy (fsF s (gR s 5 o 2) n S K t.toInt n) (gI (wI s 10 (gR s 5 o 2) (fsF s (gR s 5 o 2) n S K t.toInt n)) 10 (gR s 5 o 1)) 0 0 4))
    have hrow1 : ∀ i, gI (wI (wI s 10 (gR s 5 o 2) (fsF s (gR s 5 o 2) n S K t.toInt n)) 10 (gR s 5 o 1) (va_cpy (fsF s (gR s 5 o 2) n S K t.toInt n) (gI (wI s 10 (gR s 5 o 2) (fsF s (gR s 5 o 2) n S K t.toInt n)) 10 (gR s 5 o 1)) 0 0 4)) 10 (gR s 5 o 1) i = va_cpy (fsF s (gR s 5 o 2) n S K t.toInt n) (gI (wI s 10 (gR s 5 o 2) (fsF s (gR s 5 o 2) n S K t.toInt n)) 10 (gR s 5 o 1)) 0 0 4 i := fun i => by rw [gI_wI, if_pos ⟨rfl, rfl⟩]
    have hro : ∀ j, Jn j → ¬ j = 2 → ¬ j = 1 → ∀ m, gI (wI (wI s 10 (gR s 5 o 2) (fsF s (gR s 5 o 2) n S K t.toInt n)) 10 (gR s 5 o 1) (va_cpy (fsF s (gR s 5 o 2) n S K t.toInt n) (gI (wI s 10 (gR s 5 o 2) (fsF s (gR s 5 o 2) n S K t.toInt n)) 10 (gR s 5 o 1)) 0 0 4)) 10 (gR s 5 o j) m = gI s 10 (gR s 5 o j) m := fun j hj hne hn1 m => by rw [gI_wI, if_neg (fun q => hO.df hj jn1 hn1 q.2), ro j hj hne]
    have h5 : ∀ j, gI (wI (wI s 10 (gR s 5 o 2) (fsF s (gR s 5 o 2) n S K t.toInt n)) 10 (gR s 5 o 1) (va_cpy (fsF s (gR s 5 o 2) n S K t.toInt n) (gI (wI s 10 (gR s 5 o 2) (fsF s (gR s 5 o 2) n S K t.toInt n)) 10 (gR s 5 o 1)) 0 0 4)) 5 o j = gI s 5 o j := fun j => by rw [gI_wI, if_neg (by omega), gI_wI, if_neg (by omega)]
    have hstart : f_X5_moveTo fu s o t = f_X5_moveTo_b54 fu fu (wI (wI s 10 (gR s 5 o 2) (fsF s (gR s 5 o 2) n S K t.toInt n)) 10 (gR s 5 o 1) (va_cpy (fsF s (gR s 5 o 2) n S K t.toInt n) (gI (wI s 10 (gR s 5 o 2) (fsF s (gR s 5 o 2) n S K t.toInt n)) 10 (gR s 5 o 1)) 0 0 4)) o 0 0 0 := by
      unfold f_X5_moveTo
      simp only [a1, a2, hp0, reduceIte, hfs, bV, gR_wI, gL_wI, hO.nz jn2, hO.nz jn1, l2, b2, i0, Bool.true_eq_false, x0, r2, ro 1 jn1 (by decide), hcmp, hq, hP2, lt, x4]
    have hJ0 : gJ (wI (wI s 10 (gR s 5 o 2) (fsF s (gR s 5 o 2) n S K t.toInt n)) 10 (gR s 5 o 1) (va_cpy (fsF s (gR s 5 o 2) n S K t.toInt n) (gI (wI s 10 (gR s 5 o 2) (fsF s (gR s 5 o 2) n S K t.toInt n)) 10 (gR s 5 o 1)) 0 0 4)) = gJ s := rfl
    generalize wI (wI s 10 (gR s 5 o 2) (fsF s (gR s 5 o 2) n S K t.toInt n)) 10 (gR s 5 o 1) (va_cpy (fsF s (gR s 5 o 2) n S K t.toInt n) (gI (wI s 10 (gR s 5 o 2) (fsF s (gR s 5 o 2) n S K t.toInt n)) 10 (gR s 5 o 1)) 0 0 4) = s0 at w1 hrow1 hro h5 hstart hJ0
    have hO0 := w1.own hO
    have hR0 := w1.1.1
    have hP0 := a3.sf w1.sf hO hl
    have hσ : ∀ i, i < n → gI s0 10 (gR s0 5 o 1) i = Int32.ofInt (sm n S K t.toInt i) := fun i hi => by
      rw [hR0, hrow1, pk_cpy_in (Nat.zero_le _) (by omega), show 0 + (i - 0) = i by omega, fsF_at _ _ _ _ _ _ hi]
    have hzl : GG.length ≤ z := by have := f1.1; rw [hO.2.2.2.2.1 3 jn3, hc.1] at this; exact this
    obtain ⟨s2, N', y1, y2, y3, y4, y5, y6, y7, y8, y9, y10⟩ := X5_mv_loop (fu := fu) V W hh hO0 hc hz hzl hP0 (by rw [hR0]; exact a2) (by rw [hR0]; exact hl) c1 (fun i hi => by
      have hb := sm_bd V (h := t.toInt) (by omega) ht hi
      rw [hσ i hi]; exact nu_of (by omega) (by omega)) hfu GG [] [] fu s0 rfl (WFr.rf s0 o) (fun _ => rfl) (by rw [h5]; exact d1) rfl rfl rfl (Gd.nil _) (Nat.le_refl _) (fun g hg => by simp at hg) (fun j g hj => by simp at hj) (fun j g hj _ => by
        unfold Rcx
        rw [hR0, hro 3 jn3 (by decide) (by decide), hro 4 jn4 (by decide) (by decide), hro 6 jn6 (by decide) (by decide), hro 7 jn7 (by decide) (by decide)]
        rw [hJ0]
        exact g1 j g hj) (by omega)
    have fA : A.filter (kpt n S K h t.toInt) = [] := List.filter_eq_nil_iff.mpr (fun g hg q => by unfold kpt at q; rw [u1 g hg] at q; exact absurd q (by decide))
    have fB : B.filter (kpt n S K h t.toInt) = B := List.filter_eq_self.mpr (fun g hg => by obtain ⟨i, hi⟩ := u2 g hg; unfold kpt; rw [tq_some.mpr hi]; rfl)
    have fA' : A.filter (fun g => !kpt n S K h t.toInt g) = A := List.filter_eq_self.mpr (fun g hg => by unfold kpt; rw [u1 g hg]; rfl)
    have fB' : B.filter (fun g => !kpt n S K h t.toInt g) = [] := List.filter_eq_nil_iff.mpr (fun g hg q => by obtain ⟨i, hi⟩ := u2 g hg; unfold kpt at q; rw [tq_some.mpr hi] at q; exact absurd q (by simp))
    have fG : GG.filter (kpt n S K h t.toInt) = B := by rw [e, List.filter_append, fA, fB]; rfl
    have fG' : GG.filter (fun g => !kpt n S K h t.toInt g) = A := by rw [e, List.filter_append, fA', fB', List.append_nil]
    rw [fG'] at y1 y6
    rw [fG] at y7
    rw [u3]
    have hdr : GG.flatten.drop A.flatten.length = B.flatten := by rw [hd]; exact List.drop_left
    have hBge : ∀ q ∈ B.flatten, sm n S K t.toInt (n - 1) ≤ tm q := fun q hq' => by
      have := cut_ge W.2.1 (sm n S K t.toInt (n - 1)) q (by rw [u3, hdr]; exact hq')
      exact this
    refine ⟨s2, N', ?_, by rw [hdr]; exact y7, wf_up V W hh ht (D := A.flatten) (by rw [y7]; exact hd) (by rw [y7]; exact hBge) y8, ?_, w1.tr y2, by rw [y5, h5], by rw [y6, h5]⟩
    · rw [hstart]
      exact y1
    · have hR2 : gR s2 = gR s := y2.1.1.trans hR0
      have hL2 : gL s2 = gL s := y2.1.2.1.trans w1.1.2.1
      have hP2 := a3.sf (w1.tr y2).sf hO hl
      refine ⟨⟨a1, by rw [hR2]; exact a2, hP2⟩, ⟨by rw [hR2]; exact b1, by rw [hR2, hL2]; exact b2, fun i hi => ?_⟩, y4, by rw [hR2]; exact e1, ?_, y10⟩
      · have := y3 i
        rw [hR0] at this
        rw [hR2, this, ← hR0]
        exact hσ i hi
      · rw [hR2, hL2]
        obtain ⟨v1, v2, v3, v4, v5⟩ := f1
        exact ⟨by omega, by omega, by omega, by omega, by omega⟩
end MV3
