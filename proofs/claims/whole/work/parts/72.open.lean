/-! ===== openAt, the rest of add ===== -/
def WFr (s s' : St) (o : Nat) : Prop := (gR s' = gR s ∧ gL s' = gL s ∧ gN s' = gN s ∧ cn s' = cn s ∧ sn s' = sn s) ∧ (∀ k i j, ¬ (k = 5 ∧ i = o ∧ 8 ≤ j) → ¬ (k = 10 ∧ ∃ j', Jn j' ∧ i = gR s 5 o j') → gI s' k i j = gI s k i j) ∧ ∀ k i j, ¬ (k = 11 ∧ i = gR s 5 o 5) → gJ s' k i j = gJ s k i j
theorem WFr.rf (s : St) (o : Nat) : WFr s s o := ⟨⟨rfl, rfl, rfl, rfl, rfl⟩, fun _ _ _ _ _ => rfl, fun _ _ _ _ => rfl⟩
theorem WFr.tr {s t u : St} {o : Nat} (h : WFr s t o) (h' : WFr t u o) : WFr s u o := by
  obtain ⟨⟨a1, a2, a3, a4, a5⟩, a6, a7⟩ := h
  obtain ⟨⟨b1, b2, b3, b4, b5⟩, b6, b7⟩ := h'
  rw [a1] at b6 b7
  exact ⟨⟨b1.trans a1, b2.trans a2, b3.trans a3, b4.trans a4, b5.trans a5⟩, fun k i j h1 h2 => (b6 k i j h1 h2).trans (a6 k i j h1 h2), fun k i j h1 => (b7 k i j h1).trans (a7 k i j h1)⟩
theorem WFr.i (s : St) (o : Nat) {j : Nat} (hj : Jn j) (m : Nat) (v : Int32) : WFr s (sI s 10 (gR s 5 o j) m v) o := ⟨⟨rfl, rfl, rfl, rfl, rfl⟩, fun k i' j' _ h2 => by rw [gI_sI, if_neg (fun q => h2 ⟨q.1, j, hj, q.2.1⟩)], fun _ _ _ _ => rfl⟩
theorem WFr.w (s : St) (o : Nat) {j : Nat} (hj : Jn j) (f : Nat → Int32) : WFr s (wI s 10 (gR s 5 o j) f) o := ⟨⟨rfl, rfl, rfl, rfl, rfl⟩, fun k i' j' _ h2 => by rw [gI_wI, if_neg (fun q => h2 ⟨q.1, j, hj, q.2⟩)], fun _ _ _ _ => rfl⟩
theorem WFr.j (s : St) (o m : Nat) (v : Int64) : WFr s (sJ s 11 (gR s 5 o 5) m v) o := ⟨⟨rfl, rfl, rfl, rfl, rfl⟩, fun _ _ _ _ _ => rfl, fun k i' j' h => by rw [gJ_sJ, if_neg (fun q => h ⟨q.1, q.2.1⟩)]⟩
theorem WFr.v (s : St) (o : Nat) (f : Nat → Int64) : WFr s (wJ s 11 (gR s 5 o 5) f) o := ⟨⟨rfl, rfl, rfl, rfl, rfl⟩, fun _ _ _ _ _ => rfl, fun k i' j' h => by rw [gJ_wJ, if_neg (fun q => h ⟨q.1, q.2⟩)]⟩
theorem WFr.o (s : St) (o : Nat) {j : Nat} (hj : 8 ≤ j) (v : Int32) : WFr s (sI s 5 o j v) o := ⟨⟨rfl, rfl, rfl, rfl, rfl⟩, fun k i' j' h _ => by rw [gI_sI, if_neg (fun q => h ⟨q.1, q.2.1, by omega⟩)], fun _ _ _ _ => rfl⟩
theorem WFr.own {s s' : St} {o : Nat} {c : Nat → Nat} (h : WFr s s' o) (hO : OwnC s o c) : OwnC s' o c := by
  obtain ⟨⟨a1, a2, a3, -⟩, -⟩ := h
  unfold OwnC
  rw [a1, a2, a3]
  exact hO
theorem WFr.sf {s s' : St} {o : Nat} (h : WFr s s' o) : Sfr s s' o := by
  obtain ⟨⟨a1, a2, a3, -⟩, a6, a7⟩ := h
  exact ⟨fun _ _ _ _ _ => by rw [a1], fun _ _ _ => by rw [a2], fun _ => by rw [a3]; exact ⟨Nat.le_refl _, fun _ _ => rfl⟩, fun k i j _ h1 h2 => a6 k i j (fun q => h1 ⟨q.1, q.2.1⟩) h2, fun k i j _ h1 => a7 k i j h1, fun _ _ => Or.inl (by rw [a1]), Or.inl (by rw [a1])⟩
theorem wI_row (s : St) (k : Nat) {i i' : Nat} (h : ¬ i' = i) (f : Nat → Int32) : gI (wI s k i f) k i' = gI s k i' := by
  funext j
  rw [gI_wI, if_neg (fun q => h q.2)]
section OPN
variable {s : St} {o p n : Nat} {S K : Nat → Int} {fu : Nat} {c : Nat → Nat}
theorem OwnC.df (hO : OwnC s o c) {j j' : Nat} (h1 : Jn j) (h2 : Jn j') (h : ¬ j = j') : ¬ gR s 5 o j = gR s 5 o j' := fun q => h (hO.2.2.2.1 j j' h1 h2 q)
theorem OwnC.nz (hO : OwnC s o c) {j : Nat} (h1 : Jn j) : ¬ gR s 5 o j = 0 := fun q => by have := (hO.2.1 j h1).1; omega
def adS (s : St) (o i : Nat) (v : Int32) : St := sI (sI (sJ (sI s 10 (gR s 5 o 4) i (gI s 10 (gR s 5 o 4) i + 1)) 11 (gR s 5 o 5) i (gJ s 11 (gR s 5 o 5) i + Int32.toInt64 v)) 10 (gR s 5 o 6) i (mn (gI s 10 (gR s 5 o 6) i) v)) 10 (gR s 5 o 7) i (mx (gI s 10 (gR s 5 o 7) i) v)
theorem adS_wf (s : St) (o i : Nat) (v : Int32) : WFr s (adS s o i v) o := (((WFr.i s o jn4 i _).tr (WFr.j _ o i _)).tr (WFr.i _ o jn6 i _)).tr (WFr.i _ o jn7 i _)
theorem X5_b63 (hO : OwnC s o c) {k : Nat} (hc : eqC c k) {i : Nat} (hi : i < k) (hk : k ≤ 65536) (v : Int32) : f_X5_add_b63 fu s o v (nI i) = some (adS s o i v) := by
  obtain ⟨c3, c4, c5, c6, c7⟩ := hc
  have l4 := hO.2.2.2.2.1 4 jn4
  have l6 := hO.2.2.2.2.1 6 jn6
  have l7 := hO.2.2.2.2.1 7 jn7
  have l5 := hO.2.2.2.2.2
  rw [c4] at l4
  rw [c6] at l6
  rw [c7] at l7
  rw [c5] at l5
  have z5 : ¬ gR s 5 o 5 = 0 := fun q => by have := hO.2.2.1.1; omega
  have bb : inb (nI i) k = true := nu_inbn hi (by omega)
  unfold f_X5_add_b63 adS
  simp only [hO.1.1, reduceIte, gI_sI, gJ_sI, gR_sI, gL_sI, gN_sI, cn_sI, sn_sI, gI_sJ, gJ_sJ, gR_sJ, gL_sJ, gN_sJ, cn_sJ, sn_sJ, gI_sR, gJ_sR, gR_sR, gL_sR, gN_sR, cn_sR, sn_sR, gI_nX, gJ_nX, gR_nX, gL_nX, gN_nX, cn_nX, sn_nX, gI_wI, gJ_wI, gR_wI, gL_wI, gN_wI, cn_wI, sn_wI, gI_wJ, gJ_wJ, gR_wJ, gL_wJ, gN_wJ, cn_wJ, sn_wJ, gI_nW, gJ_nW, gR_nW, gL_nW, gN_nW, cn_nW, sn_nW, hO.nz jn4, hO.nz jn6, hO.nz jn7, z5, l4, l5, l6, l7, bb, Bool.true_eq_false, lt, nu_ixn (show i < 2147483648 by omega), J_min, J_max, bI, hO.df jn6 jn4 (by decide), hO.df jn7 jn4 (by decide), hO.df jn7 jn6 (by decide), false_and, and_false]
theorem adS_r (hO : OwnC s o c) (i : Nat) (v : Int32) (m : Nat) : gI (adS s o i v) 10 (gR s 5 o 3) m = gI s 10 (gR s 5 o 3) m ∧ (gI (adS s o i v) 10 (gR s 5 o 4) m = if m = i then gI s 10 (gR s 5 o 4) i + 1 else gI s 10 (gR s 5 o 4) m) ∧ (gJ (adS s o i v) 11 (gR s 5 o 5) m = if m = i then gJ s 11 (gR s 5 o 5) i + Int32.toInt64 v else gJ s 11 (gR s 5 o 5) m) ∧ (gI (adS s o i v) 10 (gR s 5 o 6) m = if m = i then mn (gI s 10 (gR s 5 o 6) i) v else gI s 10 (gR s 5 o 6) m) ∧ (gI (adS s o i v) 10 (gR s 5 o 7) m = if m = i then mx (gI s 10 (gR s 5 o 7) i) v else gI s 10 (gR s 5 o 7) m) ∧ gI (adS s o i v) 10 (gR s 5 o 1) m = gI s 10 (gR s 5 o 1) m := by
  unfold adS
  simp only [gI_sI, gJ_sI, gR_sI, gL_sI, gN_sI, cn_sI, sn_sI, gI_sJ, gJ_sJ, gR_sJ, gL_sJ, gN_sJ, cn_sJ, sn_sJ, gI_sR, gJ_sR, gR_sR, gL_sR, gN_sR, cn_sR, sn_sR, gI_nX, gJ_nX, gR_nX, gL_nX, gN_nX, cn_nX, sn_nX, gI_wI, gJ_wI, gR_wI, gL_wI, gN_wI, cn_wI, sn_wI, gI_wJ, gJ_wJ, gR_wJ, gL_wJ, gN_wJ, cn_wJ, sn_wJ, gI_nW, gJ_nW, gR_nW, gL_nW, gN_nW, cn_nW, sn_nW, hO.df jn3 jn4 (by decide), hO.df jn3 jn6 (by decide), hO.df jn3 jn7 (by decide), hO.df jn4 jn6 (by decide), hO.df jn4 jn7 (by decide), hO.df jn6 jn4 (by decide), hO.df jn6 jn7 (by decide), hO.df jn7 jn4 (by decide), hO.df jn7 jn6 (by decide), hO.df jn1 jn4 (by decide), hO.df jn1 jn6 (by decide), hO.df jn1 jn7 (by decide), false_and, and_false, true_and, reduceIte, and_self]
theorem adS_5 (s : St) (o i : Nat) (v : Int32) (j : Nat) : gI (adS s o i v) 5 o j = gI s 5 o j := by
  unfold adS
  rw [gI_sI, if_neg (by omega), gI_sI, if_neg (by omega), gI_sJ, gI_sI, if_neg (by omega)]
def shf {α : Type} (f : Nat → α) (i sz : Nat) : Nat → α := va_cpy f f i (i + 1) (sz - i)
theorem shf_lo {α : Type} (f : Nat → α) {i sz m : Nat} (h : m ≤ i) : shf f i sz m = f m := pk_cpy_out (Or.inl (by omega))
theorem shf_hi {α : Type} (f : Nat → α) {i sz m : Nat} (h : i < m) (h2 : m ≤ sz) : shf f i sz m = f (m - 1) := by
  unfold shf
  rw [pk_cpy_in (by omega) (by omega)]
  congr 1
  omega
def opS (s : St) (o i sz : Nat) (st v : Int32) : St :=
  sI (sI (sI (sJ (sI (sI (wI (wI (wJ (wI (wI s 10 (gR s 5 o 3) (shf (gI s 10 (gR s 5 o 3)) i sz)) 10 (gR s 5 o 4) (shf (gI s 10 (gR s 5 o 4)) i sz)) 11 (gR s 5 o 5) (shf (gJ s 11 (gR s 5 o 5)) i sz)) 10 (gR s 5 o 6) (shf (gI s 10 (gR s 5 o 6)) i sz)) 10 (gR s 5 o 7) (shf (gI s 10 (gR s 5 o 7)) i sz))
    10 (gR s 5 o 3) i st) 10 (gR s 5 o 4) i 0) 11 (gR s 5 o 5) i 0) 10 (gR s 5 o 6) i v) 10 (gR s 5 o 7) i v) 5 o 8 (nI (sz + 1))
theorem opS_wf (s : St) (o i sz : Nat) (st v : Int32) : WFr s (opS s o i sz st v) o :=
  ((((((((((WFr.w s o jn3 _).tr (WFr.w _ o jn4 _)).tr (WFr.v _ o _)).tr (WFr.w _ o jn6 _)).tr (WFr.w _ o jn7 _)).tr (WFr.i _ o jn3 i _)).tr (WFr.i _ o jn4 i _)).tr (WFr.j _ o i _)).tr (WFr.i _ o jn6 i _)).tr (WFr.i _ o jn7 i _)).tr (WFr.o _ o (by omega) _)
theorem opS_5 (s : St) (o i sz : Nat) (st v : Int32) {j : Nat} (hj : ¬ j = 8) : gI (opS s o i sz st v) 5 o j = gI s 5 o j := by
  unfold opS
  rw [gI_sI, if_neg (by omega), gI_sI, if_neg (by omega), gI_sI, if_neg (by omega), gI_sJ, gI_sI, if_neg (by omega), gI_sI, if_neg (by omega), gI_wI, if_neg (by omega), gI_wI, if_neg (by omega), gI_wJ, gI_wI, if_neg (by omega), gI_wI, if_neg (by omega)]
theorem X5_op (hO : OwnC s o c) {k : Nat} (hc : eqC c k) {i sz : Nat} (hsz : gI s 5 o 8 = nI sz) (hi : i ≤ sz) (hz : sz < k) (hk : k ≤ 65536) (st v : Int32) : f_X5_openAt fu s o (nI i) st v = some (opS s o i sz st v) := by
  obtain ⟨c3, c4, c5, c6, c7⟩ := hc
  have l3 := hO.2.2.2.2.1 3 jn3
  have l4 := hO.2.2.2.2.1 4 jn4
  have l6 := hO.2.2.2.2.1 6 jn6
  have l7 := hO.2.2.2.2.1 7 jn7
  have l5 := hO.2.2.2.2.2
  rw [c3] at l3
  rw [c4] at l4
  rw [c6] at l6
  rw [c7] at l7
  rw [c5] at l5
  have z5 : ¬ gR s 5 o 5 = 0 := fun q => by have := hO.2.2.1.1; omega
  have bb : inb (nI i) k = true := nu_inbn (by omega) (by omega)
  have p1 : cpb (nI i) (nI (sz - i)) k = true := cpb_nI (by omega) (by omega)
  have p2 : cpb (nI (i + 1)) (nI (sz - i)) k = true := cpb_nI (by omega) (by omega)
  have e1 : nI sz - nI i = nI (sz - i) := ni_sub hi (by omega)
  unfold f_X5_openAt opS shf
  simp only [hO.1.1, reduceIte, hsz, e1, lt, hO.nz jn3, hO.nz jn4, hO.nz jn6, hO.nz jn7, z5, l3, l4, l5, l6, l7, p1, p2, nu_nIa, Bool.true_eq_false, nu_ixn (show i < 2147483648 by omega), nu_ixn (show i + 1 < 2147483648 by omega), nu_ixn (show sz - i < 2147483648 by omega), gR_wI, gL_wI, gR_wJ, gL_wJ, gR_sI, gL_sI, gR_sJ, gL_sJ, gJ_wI, gI_wJ, bb, wI_row _ _ (hO.df jn4 jn3 (by decide)), wI_row _ _ (hO.df jn6 jn4 (by decide)), wI_row _ _ (hO.df jn6 jn3 (by decide)), wI_row _ _ (hO.df jn7 jn6 (by decide)), wI_row _ _ (hO.df jn7 jn4 (by decide)), wI_row _ _ (hO.df jn7 jn3 (by decide))]
  have h8 : gI (sI (sI (sJ (sI (sI (wI (wI (wJ (wI (wI s 10 (gR s 5 o 3) (shf (gI s 10 (gR s 5 o 3)) i sz)) 10 (gR s 5 o 4) (shf (gI s 10 (gR s 5 o 4)) i sz)) 11 (gR s 5 o 5) (shf (gJ s 11 (gR s 5 o 5)) i sz)) 10 (gR s 5 o 6) (shf (gI s 10 (gR s 5 o 6)) i sz)) 10 (gR s 5 o 7) (shf (gI s 10 (gR s 5 o 7)) i sz)) 10 (gR s 5 o 3) i st) 10 (gR s 5 o 4) i 0) 11 (gR s 5 o 5) i 0) 10 (gR s 5 o 6) i v) 10 (gR s 5 o 7) i v) 5 o 8 = nI sz := by
    rw [gI_sI, if_neg (by omega), gI_sI, if_neg (by omega), gI_sJ, gI_sI, if_neg (by omega), gI_sI, if_neg (by omega), gI_wI, if_neg (by omega), gI_wI, if_neg (by omega), gI_wJ, gI_wI, if_neg (by omega), gI_wI, if_neg (by omega)]
    exact hsz
  unfold shf at h8
  rw [h8, nu_nIa]
theorem opS_r (hO : OwnC s o c) (i sz : Nat) (st v : Int32) (m : Nat) : (gI (opS s o i sz st v) 10 (gR s 5 o 3) m = if m = i then st else shf (gI s 10 (gR s 5 o 3)) i sz m) ∧ (gI (opS s o i sz st v) 10 (gR s 5 o 4) m = if m = i then 0 else shf (gI s 10 (gR s 5 o 4)) i sz m) ∧ (gJ (opS s o i sz st v) 11 (gR s 5 o 5) m = if m = i then 0 else shf (gJ s 11 (gR s 5 o 5)) i sz m) ∧ (gI (opS s o i sz st v) 10 (gR s 5 o 6) m = if m = i then v else shf (gI s 10 (gR s 5 o 6)) i sz m) ∧ (gI (opS s o i sz st v) 10 (gR s 5 o 7) m = if m = i then v else shf (gI s 10 (gR s 5 o 7)) i sz m) ∧ gI (opS s o i sz st v) 10 (gR s 5 o 1) m = gI s 10 (gR s 5 o 1) m ∧ gI (opS s o i sz st v) 5 o 8 = nI (sz + 1) := by
  unfold opS
  simp only [gI_sI, gJ_sI, gR_sI, gL_sI, gN_sI, cn_sI, sn_sI, gI_sJ, gJ_sJ, gR_sJ, gL_sJ, gN_sJ, cn_sJ, sn_sJ, gI_sR, gJ_sR, gR_sR, gL_sR, gN_sR, cn_sR, sn_sR, gI_nX, gJ_nX, gR_nX, gL_nX, gN_nX, cn_nX, sn_nX, gI_wI, gJ_wI, gR_wI, gL_wI, gN_wI, cn_wI, sn_wI, gI_wJ, gJ_wJ, gR_wJ, gL_wJ, gN_wJ, cn_wJ, sn_wJ, gI_nW, gJ_nW, gR_nW, gL_nW, gN_nW, cn_nW, sn_nW, hO.df jn3 jn4 (by decide), hO.df jn3 jn6 (by decide), hO.df jn3 jn7 (by decide), hO.df jn4 jn3 (by decide), hO.df jn4 jn6 (by decide), hO.df jn4 jn7 (by decide), hO.df jn6 jn3 (by decide), hO.df jn6 jn4 (by decide), hO.df jn6 jn7 (by decide), hO.df jn7 jn3 (by decide), hO.df jn7 jn4 (by decide), hO.df jn7 jn6 (by decide), hO.df jn1 jn3 (by decide), hO.df jn1 jn4 (by decide), hO.df jn1 jn6 (by decide), hO.df jn1 jn7 (by decide), false_and, and_false, true_and, and_true, reduceIte, and_self, Nat.reduceEqDiff]
end OPN
