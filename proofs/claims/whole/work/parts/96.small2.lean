/-! ===== the class: explain, latenessIn, noteLate ===== -/
def exS (s : St) (y : Q4) : St := sI (sI (sI (sI s 10 11 0 y.1) 10 11 1 y.2.1) 10 11 2 y.2.2.1) 10 11 3 y.2.2.2
section SM2
variable {s s' : St} {p n mo fu : Nat} {S K : Nat → Int} {x : Ab}
/-- only scratch, or why, is written -/
theorem CI.scr (h : CI s p n S K mo x) (e : gR s' = gR s ∧ gL s' = gL s ∧ gN s' = gN s) (hI : ∀ k i j, ¬ k = 6 → ¬ (k = 10 ∧ (i = 9 ∨ i = 10 ∨ i = 11)) → gI s' k i j = gI s k i j) (hJ : ∀ k i j, ¬ k = 6 → gJ s' k i j = gJ s k i j) : CI s' p n S K mo x ∧ CF s s' := by
  obtain ⟨hB, ⟨hR, hRW⟩, hSer, hLt, ⟨k1, k2, k3, k4, k5⟩⟩ := h
  have hC : CF s s' := CF.of e (fun k i j _ k6 _ _ k10 => hI k i j k6 (fun q => k10 ⟨q.1, Or.inl (by omega)⟩)) (fun k i j k6 _ => hJ k i j k6)
  have hB' := hB.keep e hC
  have hS := hB.1.2
  refine ⟨⟨hB', ⟨hR.cong hB.1.1 hB'.1.1 (hI 4 1 2 (by decide) (by omega)) (fun j => hI 10 5 j (by decide) (by omega)) (fun j => hI 10 6 j (by decide) (by omega)), hRW⟩, fun i hi => (hSer i hi).keep hB'.2.1.2.2.1 ⟨e.1, e.2.1⟩ (hI 5 _ 8 (by decide) (by omega)) (fun j m hj => hI 10 _ m (by decide) (fun q => by have := hS.1 i j (hRW.2.1 i hi) (hSer i hi).1 hj; omega)) (fun m => hJ 11 _ m (by decide)), fun i hi => ?_, ⟨by rw [hI 2 p 4 (by decide) (by omega)]; exact k1, by rw [hI 8 1 14 (by decide) (by omega)]; exact k2, by rw [hI 8 1 16 (by decide) (by omega)]; exact k3, by rw [hI 8 1 17 (by decide) (by omega)]; exact k4, by rw [hI 8 1 18 (by decide) (by omega)]; exact k5⟩⟩, hC⟩
  rw [e.1, hI 5 _ 9 (by decide) (by omega), hI 5 _ 10 (by decide) (by omega)]
  exact hLt i hi
theorem X8_ex (hL : Lay s) (a b c d : Int32) : f_X8_explain fu s 1 a b c d = some (exS s (a, b, c, d)) := by
  have e10 : ¬ (1 = 0) := by decide
  have b0 : inb 0 4 = true := by decide
  have b1 : inb 1 4 = true := by decide
  have b2 : inb 2 4 = true := by decide
  have b3 : inb 3 4 = true := by decide
  have i0 : ix 0 = 0 := by decide
  have i1 : ix 1 = 1 := by decide
  have i2 : ix 2 = 2 := by decide
  have i3 : ix 3 = 3 := by decide
  unfold f_X8_explain exS
  simp only [e10, reduceIte, lr_8_1_11 hL, ll_10_11 hL, b0, b1, b2, b3, Bool.true_eq_false, lt, gR_sI, gL_sI, i0, i1, i2, i3, show ¬ (11 = 0) from by decide]
theorem exS_i (s : St) (y : Q4) {k i j : Nat} (h : ¬ (k = 10 ∧ i = 11)) : gI (exS s y) k i j = gI s k i j := by
  unfold exS
  rw [gI_sI, if_neg (fun q => h ⟨q.1, q.2.1⟩), gI_sI, if_neg (fun q => h ⟨q.1, q.2.1⟩), gI_sI, if_neg (fun q => h ⟨q.1, q.2.1⟩), gI_sI, if_neg (fun q => h ⟨q.1, q.2.1⟩)]
theorem exS_w (s : St) (y : Q4) : WhC (exS s y) y := fun w hw => by
  have : w = 0 ∨ w = 1 ∨ w = 2 ∨ w = 3 := by omega
  unfold exS
  rcases this with rfl | rfl | rfl | rfl
  · rw [gI_sI, if_neg (by omega), gI_sI, if_neg (by omega), gI_sI, if_neg (by omega), gI_sI, if_pos ⟨rfl, rfl, rfl⟩]; rfl
  · rw [gI_sI, if_neg (by omega), gI_sI, if_neg (by omega), gI_sI, if_pos ⟨rfl, rfl, rfl⟩]; rfl
  · rw [gI_sI, if_neg (by omega), gI_sI, if_pos ⟨rfl, rfl, rfl⟩]; rfl
  · rw [gI_sI, if_pos ⟨rfl, rfl, rfl⟩]; rfl
theorem CI.ex (h : CI s p n S K mo x) (y : Q4) : CI (exS s y) p n S K mo x ∧ CF s (exS s y) ∧ Rmc s (exS s y) := by
  obtain ⟨a, b⟩ := h.scr (s' := exS s y) ⟨rfl, rfl, rfl⟩ (fun k i j _ k10 => exS_i s y (fun q => k10 (by omega))) (fun _ _ _ _ => rfl)
  exact ⟨a, b, Rmc.eq rfl rfl rfl rfl⟩
/-- by how much a time is late -/
def lat (n : Nat) (S K : Nat → Int) (h t : Int32) : Int32 := mx 0 (Int32.ofInt (sm n S K h.toInt (n - 1)) - t)
theorem lat_z (V : VP n S K) {h t : Int32} (h1 : -1000000 ≤ h.toInt) (h2 : h.toInt ≤ 1000000) (h3 : -1000000 ≤ t.toInt) (h4 : t.toInt ≤ 1000000) : (lat n S K h t ≤ 0 ↔ sm n S K h.toInt (n - 1) ≤ t.toInt) ∧ (t.toInt < sm n S K h.toInt (n - 1) → lat n S K h t = Int32.ofInt (sm n S K h.toInt (n - 1)) - t) ∧ 0 ≤ (lat n S K h t).toInt := by
  have hn := V.1
  have hb := sm_bd V h1 h2 (i := n - 1) (by omega)
  have e1 : (Int32.ofInt (sm n S K h.toInt (n - 1))).toInt = sm n S K h.toInt (n - 1) := nu_of (by omega) (by omega)
  have e2 : (Int32.ofInt (sm n S K h.toInt (n - 1)) - t).toInt = sm n S K h.toInt (n - 1) - t.toInt := by rw [nu_sub (by omega) (by omega), e1]
  have e3 := mx_i 0 (Int32.ofInt (sm n S K h.toInt (n - 1)) - t)
  rw [e2, nu_0] at e3
  have e4 : (lat n S K h t).toInt = max 0 (sm n S K h.toInt (n - 1) - t.toInt) := e3
  refine ⟨by rw [nu_le, nu_0, e4]; omega, fun q => nu_ext (by rw [e4, e2]; omega), by omega⟩
theorem X8_lt {r : Nat} (hr : r = 1 ∨ r = 2) {R : List Nat} {H : Nat → Int32} (hB : Bas s p n S K) (hR : Ros s r R H) (hW : RW R) {id : Nat} (hin : id ∈ R) (h1 : -1000000 ≤ (H id).toInt) (h2 : (H id).toInt ≤ 1000000) (t : Int32) (hfu : 100 ≤ fu) :
    f_X8_latenessIn fu s 1 r (nI id) t = some (wI s 10 10 (fsF s 10 n S K (H id).toInt n), lat n S K (H id) t) := by
  have e10 : ¬ (1 = 0) := by decide
  have hid := hW.2.1 id hin
  have b : inb (nI id) 10 = true := nu_inbn (by omega) (by omega)
  obtain ⟨⟨hL, hS⟩, ⟨hp, hp12, hPl, hV⟩, hO⟩ := hB
  have hn := hV.1
  have hp0 : ¬ p = 0 := by omega
  have hlo := pl_lo hL hp
  have hkn := X4_kn (fu := fu) hR hW hin hfu
  obtain ⟨⟨r1, r2, r3⟩, ⟨r4, r5⟩, r6, r7, r8⟩ := hR
  have hfs := X2_fs (fu := fu) hV hPl (a := 10) ⟨by decide, ll_10_10 hL, by omega, by omega⟩ h1 h2 hfu
  have bn : inb (nI (n - 1)) 4 = true := nu_inbn (by omega) (by omega)
  have g23 : gI (wI s 10 10 (fsF s 10 n S K (H id).toInt n)) 2 p 3 = nI n := by rw [gI_wI, if_neg (by omega)]; exact hPl.2.2.2.1
  have g10 : gI (wI s 10 10 (fsF s 10 n S K (H id).toInt n)) 10 10 (n - 1) = Int32.ofInt (sm n S K (H id).toInt (n - 1)) := by
    rw [gI_wI, if_pos ⟨rfl, rfl⟩]
    unfold fsF
    rw [if_pos (by omega)]
  unfold f_X8_latenessIn
  rw [if_neg r1, hkn]
  simp only [bI, show ¬ (1 : Int32) = 0 from by decide, reduceIte, e10, r3, r5, b, Bool.true_eq_false, hp12, hp0, nu_ixn (show id < 2147483648 by omega), r8 id hin, lr_8_1_10 hL, hfs, bV, gR_wI, gL_wI, show ¬ (10 = 0) from by decide, g23, ni_dec (show 0 < n by omega) (show n < 2147483648 by omega), ll_10_10 hL, bn, nu_ixn (show n - 1 < 2147483648 by omega), g10, J_max]
  rfl
theorem X8_ltx {r : Nat} {R : List Nat} {H : Nat → Int32} (hR : Ros s r R H) (hW : RW R) {id : Nat} (hid : id < 10) (hin : ¬ id ∈ R) (t : Int32) (hfu : 100 ≤ fu) : f_X8_latenessIn fu s 1 r (nI id) t = some (s, 0) := by
  have hkx := X4_kx (fu := fu) hR hW (a := nI id) (ni_ne hW hid hin) hfu
  unfold f_X8_latenessIn
  rw [if_neg hR.1.1, hkx]
  simp only [bI, reduceIte]
theorem CI.w10 (h : CI s p n S K mo x) (f : Nat → Int32) : CI (wI s 10 10 f) p n S K mo x ∧ CF s (wI s 10 10 f) ∧ Rmc s (wI s 10 10 f) ∧ ∀ j, gI (wI s 10 10 f) 10 11 j = gI s 10 11 j := by
  obtain ⟨a, b⟩ := h.scr (s' := wI s 10 10 f) ⟨rfl, rfl, rfl⟩ (fun k i j _ k10 => by rw [gI_wI, if_neg (fun q => k10 (by omega))]) (fun _ _ _ _ => rfl)
  exact ⟨a, b, Rmc.eq rfl rfl rfl rfl, fun j => by rw [gI_wI, if_neg (by omega)]⟩
/-- one more came late -/
def ltA (x : Ab) (id : Nat) : Ab := (xR x, xH x, xP x, uph (xT x) id (xT x id + 1), xS x, ((xC x).1, (xC x).2.1, (xC x).2.2.1 + 1, (xC x).2.2.2))
theorem ltA_w {mo : Nat} (h : AbW mo x) (id : Nat) : AbW mo (ltA x id) := h
theorem X8_nl (h : CI s p n S K mo x) {id : Nat} (hin : id ∈ xR x) :
    ∃ s', f_X8_noteLate fu s 1 (nI id) = some s' ∧ CI s' p n S K mo (ltA x id) ∧ CF s s' ∧ Rmc s s' ∧ (∀ j, gI s' 10 11 j = gI s 10 11 j) := by
  have e10 : ¬ (1 = 0) := by decide
  obtain ⟨hB, ⟨hR, hRW⟩, hSer, hLt, ⟨k1, k2, k3, k4, k5⟩⟩ := h
  have hid := hRW.2.1 id hin
  have ho := (hSer id hin).1
  have hL := hB.1.1
  let s1 := sI s 8 1 17 (gI s 8 1 17 + 1)
  let s2 := sI s1 5 (gR s 14 1 id) 9 (gI s1 5 (gR s 14 1 id) 9 + 1)
  have C1 : CF s s1 := CF.f8 s (by omega) (by omega) _
  have C2 : CF s1 s2 := CF.f5 s1 _ 9 _
  have hB2 : Bas s2 p n S K := hB.keep ⟨rfl, rfl, rfl⟩ (C1.tr C2)
  have G : ∀ k i j, ¬ (k = 5 ∧ i = gR s 14 1 id ∧ j = 9) → ¬ (k = 8 ∧ i = 1 ∧ j = 17) → gI s2 k i j = gI s k i j := fun k i j h1 h2 => by
    show gI (sI (sI s 8 1 17 _) 5 _ 9 _) k i j = _
    rw [gI_sI, if_neg h1, gI_sI, if_neg h2]
  refine ⟨s2, ?_, ⟨hB2, ⟨hR.cong hL hB2.1.1 (G 4 1 2 (by omega) (by omega)) (fun j => G 10 5 j (by omega) (by omega)) (fun j => G 10 6 j (by omega) (by omega)), hRW⟩, fun i hi => (hSer i hi).keep hB2.2.1.2.2.1 ⟨rfl, rfl⟩ (G 5 _ 8 (by omega) (by omega)) (fun j m _ => G 10 _ m (by omega) (by omega)) (fun _ => rfl), fun i hi => ?_, ⟨by rw [G 2 p 4 (by omega) (by omega)]; exact k1, by rw [G 8 1 14 (by omega) (by omega)]; exact k2, by rw [G 8 1 16 (by omega) (by omega)]; exact k3, ?_, by rw [G 8 1 18 (by omega) (by omega)]; exact k5⟩⟩, C1.tr C2, Rmc.eq rfl rfl rfl rfl, fun j => G 10 11 j (by omega) (by omega)⟩
  · have hrow : f_X8_rowsOf fu s1 1 (nI id) = some (s1, gR s 14 1 id) := X8_rows (s := s1) (hL.cf C1) hid ho fu
    unfold f_X8_noteLate
    rw [if_neg e10]
    simp only [lt]
    rw [show sI s 8 1 17 (gI s 8 1 17 + 1) = s1 from rfl, hrow]
    simp only [bI, ho, reduceIte]
    rfl
  · show gI s2 5 (gR s 14 1 i) 9 = uph (xT x) id (xT x id + 1) i ∧ gI s2 5 (gR s 14 1 i) 10 = xS x i
    have hl := hLt i hi
    refine ⟨?_, by rw [G 5 _ 10 (by omega) (by omega)]; exact hl.2⟩
    by_cases c : i = id
    · rw [c, uph_at]
      show gI (sI s1 5 (gR s 14 1 id) 9 (gI s1 5 (gR s 14 1 id) 9 + 1)) 5 (gR s 14 1 id) 9 = _
      rw [gI_sI, if_pos ⟨rfl, rfl, rfl⟩]
      show gI (sI s 8 1 17 _) 5 (gR s 14 1 id) 9 + 1 = _
      rw [gI_sI, if_neg (by omega), ← c, hl.1]
    · rw [uph_ne _ _ c, G 5 _ 9 (fun q => c ((hB.2.2.2 i id (hRW.2.1 i hi) hid (hSer i hi).1 ho).1 q.2.1)) (by omega)]
      exact hl.1
  · show gI (sI (sI s 8 1 17 (gI s 8 1 17 + 1)) 5 _ 9 _) 8 1 17 = (xC x).2.2.1 + 1
    rw [gI_sI, if_neg (by omega), gI_sI, if_pos ⟨rfl, rfl, rfl⟩, k4]
end SM2
