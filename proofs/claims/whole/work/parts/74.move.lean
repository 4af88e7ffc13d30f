/-! ===== moveTo ===== -/
section MOV
variable {s : St} {o p n : Nat} {S K : Nat → Int} {fu : Nat} {c : Nat → Nat}
def caS (s : St) (o i k : Nat) (st : Int32) : St := sI (sI (sJ (sI (sI s 10 (gR s 5 o 3) k st) 10 (gR s 5 o 4) k (gI s 10 (gR s 5 o 4) i)) 11 (gR s 5 o 5) k (gJ s 11 (gR s 5 o 5) i)) 10 (gR s 5 o 6) k (gI s 10 (gR s 5 o 6) i)) 10 (gR s 5 o 7) k (gI s 10 (gR s 5 o 7) i)
def joS (s : St) (o i k : Nat) : St := sI (sI (sJ (sI s 10 (gR s 5 o 4) k (gI s 10 (gR s 5 o 4) k + gI s 10 (gR s 5 o 4) i)) 11 (gR s 5 o 5) k (gJ s 11 (gR s 5 o 5) k + gJ s 11 (gR s 5 o 5) i)) 10 (gR s 5 o 6) k (mn (gI s 10 (gR s 5 o 6) k) (gI s 10 (gR s 5 o 6) i))) 10 (gR s 5 o 7) k (mx (gI s 10 (gR s 5 o 7) k) (gI s 10 (gR s 5 o 7) i))
theorem caS_wf (s : St) (o i k : Nat) (st : Int32) : WFr s (caS s o i k st) o := ((((WFr.i s o jn3 k _).tr (WFr.i _ o jn4 k _)).tr (WFr.j _ o k _)).tr (WFr.i _ o jn6 k _)).tr (WFr.i _ o jn7 k _)
theorem joS_wf (s : St) (o i k : Nat) : WFr s (joS s o i k) o := (((WFr.i s o jn4 k _).tr (WFr.j _ o k _)).tr (WFr.i _ o jn6 k _)).tr (WFr.i _ o jn7 k _)
theorem caS_5 (s : St) (o i k : Nat) (st : Int32) (j : Nat) : gI (caS s o i k st) 5 o j = gI s 5 o j := by
  unfold caS
  rw [gI_sI, if_neg (by omega), gI_sI, if_neg (by omega), gI_sJ, gI_sI, if_neg (by omega), gI_sI, if_neg (by omega)]
theorem joS_5 (s : St) (o i k j : Nat) : gI (joS s o i k) 5 o j = gI s 5 o j := by
  unfold joS
  rw [gI_sI, if_neg (by omega), gI_sI, if_neg (by omega), gI_sJ, gI_sI, if_neg (by omega)]
theorem caS_r (hO : OwnC s o c) (i k : Nat) (st : Int32) (m : Nat) : (gI (caS s o i k st) 10 (gR s 5 o 3) m = if m = k then st else gI s 10 (gR s 5 o 3) m) ∧ (gI (caS s o i k st) 10 (gR s 5 o 4) m = if m = k then gI s 10 (gR s 5 o 4) i else gI s 10 (gR s 5 o 4) m) ∧ (gJ (caS s o i k st) 11 (gR s 5 o 5) m = if m = k then gJ s 11 (gR s 5 o 5) i else gJ s 11 (gR s 5 o 5) m) ∧ (gI (caS s o i k st) 10 (gR s 5 o 6) m = if m = k then gI s 10 (gR s 5 o 6) i else gI s 10 (gR s 5 o 6) m) ∧ (gI (caS s o i k st) 10 (gR s 5 o 7) m = if m = k then gI s 10 (gR s 5 o 7) i else gI s 10 (gR s 5 o 7) m) ∧ gI (caS s o i k st) 10 (gR s 5 o 1) m = gI s 10 (gR s 5 o 1) m := by
  unfold caS
  simp only [gI_sI, gJ_sI, gR_sI, gL_sI, gN_sI, cn_sI, sn_sI, gI_sJ, gJ_sJ, gR_sJ, gL_sJ, gN_sJ, cn_sJ, sn_sJ, gI_sR, gJ_sR, gR_sR, gL_sR, gN_sR, cn_sR, sn_sR, gI_nX, gJ_nX, gR_nX, gL_nX, gN_nX, cn_nX, sn_nX, gI_wI, gJ_wI, gR_wI, gL_wI, gN_wI, cn_wI, sn_wI, gI_wJ, gJ_wJ, gR_wJ, gL_wJ, gN_wJ, cn_wJ, sn_wJ, gI_nW, gJ_nW, gR_nW, gL_nW, gN_nW, cn_nW, sn_nW, hO.df jn3 jn4 (by decide), hO.df jn3 jn6 (by decide), hO.df jn3 jn7 (by decide), hO.df jn4 jn3 (by decide), hO.df jn4 jn6 (by decide), hO.df jn4 jn7 (by decide), hO.df jn6 jn3 (by decide), hO.df jn6 jn4 (by decide), hO.df jn6 jn7 (by decide), hO.df jn7 jn3 (by decide), hO.df jn7 jn4 (by decide), hO.df jn7 jn6 (by decide), hO.df jn1 jn3 (by decide), hO.df jn1 jn4 (by decide), hO.df jn1 jn6 (by decide), hO.df jn1 jn7 (by decide), false_and, and_false, true_and, reduceIte, and_self]
theorem joS_r (hO : OwnC s o c) (i k : Nat) (m : Nat) : gI (joS s o i k) 10 (gR s 5 o 3) m = gI s 10 (gR s 5 o 3) m ∧ (gI (joS s o i k) 10 (gR s 5 o 4) m = if m = k then gI s 10 (gR s 5 o 4) k + gI s 10 (gR s 5 o 4) i else gI s 10 (gR s 5 o 4) m) ∧ (gJ (joS s o i k) 11 (gR s 5 o 5) m = if m = k then gJ s 11 (gR s 5 o 5) k + gJ s 11 (gR s 5 o 5) i else gJ s 11 (gR s 5 o 5) m) ∧ (gI (joS s o i k) 10 (gR s 5 o 6) m = if m = k then mn (gI s 10 (gR s 5 o 6) k) (gI s 10 (gR s 5 o 6) i) else gI s 10 (gR s 5 o 6) m) ∧ (gI (joS s o i k) 10 (gR s 5 o 7) m = if m = k then mx (gI s 10 (gR s 5 o 7) k) (gI s 10 (gR s 5 o 7) i) else gI s 10 (gR s 5 o 7) m) ∧ gI (joS s o i k) 10 (gR s 5 o 1) m = gI s 10 (gR s 5 o 1) m := by
  unfold joS
  simp only [gI_sI, gJ_sI, gR_sI, gL_sI, gN_sI, cn_sI, sn_sI, gI_sJ, gJ_sJ, gR_sJ, gL_sJ, gN_sJ, cn_sJ, sn_sJ, gI_sR, gJ_sR, gR_sR, gL_sR, gN_sR, cn_sR, sn_sR, gI_nX, gJ_nX, gR_nX, gL_nX, gN_nX, cn_nX, sn_nX, gI_wI, gJ_wI, gR_wI, gL_wI, gN_wI, cn_wI, sn_wI, gI_wJ, gJ_wJ, gR_wJ, gL_wJ, gN_wJ, cn_wJ, sn_wJ, gI_nW, gJ_nW, gR_nW, gL_nW, gN_nW, cn_nW, sn_nW, hO.df jn3 jn4 (by decide), hO.df jn3 jn6 (by decide), hO.df jn3 jn7 (by decide), hO.df jn4 jn6 (by decide), hO.df jn4 jn7 (by decide), hO.df jn6 jn4 (by decide), hO.df jn6 jn7 (by decide), hO.df jn7 jn4 (by decide), hO.df jn7 jn6 (by decide), hO.df jn1 jn4 (by decide), hO.df jn1 jn6 (by decide), hO.df jn1 jn7 (by decide), false_and, and_false, true_and, reduceIte, and_self]
theorem X5_carry (hO : OwnC s o c) {z : Nat} (hc : eqC c z) {i k : Nat} (hi : i < z) (hk : k < z) (hz : z ≤ 65536) (st : Int32) : f_X5_carry fu s o (nI i) (nI k) st = some (caS s o i k st) := by
  obtain ⟨c3, c4, c5, c6, c7⟩ := hc
  have l3 := hO.2.2.2.2.1 3 jn3
  have l4 := hO.2.2.2.2.1 4 jn4
  have l6 := hO.2.2.2.2.1 6 jn6
  have l7 := hO.2.2.2.2.1 7 jn7
  have l5 := hO.2.2.2.2.2
  rw [c3] at l3
  rw [c4] at l4
  rw [c6] at l6
  rw [c7] at l7
  rw [c5] at l5
  have z5 : ¬ gR s 5 o 5 = 0 := fun q => by have := hO.2.2.1.1; omega
  have bb : inb (nI i) z = true := nu_inbn hi (by omega)
  have bk : inb (nI k) z = true := nu_inbn hk (by omega)
  unfold f_X5_carry caS
  simp only [hO.1.1, reduceIte, gI_sI, gJ_sI, gR_sI, gL_sI, gN_sI, cn_sI, sn_sI, gI_sJ, gJ_sJ, gR_sJ, gL_sJ, gN_sJ, cn_sJ, sn_sJ, gI_sR, gJ_sR, gR_sR, gL_sR, gN_sR, cn_sR, sn_sR, gI_nX, gJ_nX, gR_nX, gL_nX, gN_nX, cn_nX, sn_nX, gI_wI, gJ_wI, gR_wI, gL_wI, gN_wI, cn_wI, sn_wI, gI_wJ, gJ_wJ, gR_wJ, gL_wJ, gN_wJ, cn_wJ, sn_wJ, gI_nW, gJ_nW, gR_nW, gL_nW, gN_nW, cn_nW, sn_nW, hO.nz jn3, hO.nz jn4, hO.nz jn6, hO.nz jn7, z5, l3, l4, l5, l6, l7, bb, bk, Bool.true_eq_false, lt, nu_ixn (show i < 2147483648 by omega), nu_ixn (show k < 2147483648 by omega), hO.df jn4 jn3 (by decide), hO.df jn6 jn3 (by decide), hO.df jn7 jn3 (by decide), hO.df jn6 jn4 (by decide), hO.df jn7 jn4 (by decide), hO.df jn7 jn6 (by decide), false_and, and_false]
theorem X5_join (hO : OwnC s o c) {z : Nat} (hc : eqC c z) {i k : Nat} (hi : i < z) (hk : k < z) (hz : z ≤ 65536) : f_X5_join fu s o (nI i) (nI k) = some (joS s o i k) := by
  obtain ⟨c3, c4, c5, c6, c7⟩ := hc
  have l4 := hO.2.2.2.2.1 4 jn4
  have l6 := hO.2.2.2.2.1 6 jn6
  have l7 := hO.2.2.2.2.1 7 jn7
  have l5 := hO.2.2.2.2.2
  rw [c4] at l4
  rw [c6] at l6
  rw [c7] at l7
  rw [c5] at l5
  have z5 : ¬ gR s 5 o 5 = 0 := fun q => by have := hO.2.2.1.1; omega
  have bb : inb (nI i) z = true := nu_inbn hi (by omega)
  have bk : inb (nI k) z = true := nu_inbn hk (by omega)
  unfold f_X5_join joS
  simp only [hO.1.1, reduceIte, gI_sI, gJ_sI, gR_sI, gL_sI, gN_sI, cn_sI, sn_sI, gI_sJ, gJ_sJ, gR_sJ, gL_sJ, gN_sJ, cn_sJ, sn_sJ, gI_sR, gJ_sR, gR_sR, gL_sR, gN_sR, cn_sR, sn_sR, gI_nX, gJ_nX, gR_nX, gL_nX, gN_nX, cn_nX, sn_nX, gI_wI, gJ_wI, gR_wI, gL_wI, gN_wI, cn_wI, sn_wI, gI_wJ, gJ_wJ, gR_wJ, gL_wJ, gN_wJ, cn_wJ, sn_wJ, gI_nW, gJ_nW, gR_nW, gL_nW, gN_nW, cn_nW, sn_nW, hO.nz jn4, hO.nz jn6, hO.nz jn7, z5, l4, l5, l6, l7, bb, bk, Bool.true_eq_false, lt, nu_ixn (show i < 2147483648 by omega), nu_ixn (show k < 2147483648 by omega), J_min, J_max, bI, hO.df jn6 jn4 (by decide), hO.df jn7 jn4 (by decide), hO.df jn7 jn6 (by decide), false_and, and_false]
end MOV
