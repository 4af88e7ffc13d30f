/-! ===== what calls that only look may write; what stays ===== -/
/-- rows of the class that only looking writes -/
def scr (s : St) (a : Nat) : Prop := a = 9 ∨ a = 10 ∨ ∃ i, i < 10 ∧ ¬ gR s 14 1 i = 0 ∧ a = gR s 5 (gR s 14 1 i) 2
def CS (s s' : St) : Prop := (gR s' = gR s ∧ gL s' = gL s ∧ gN s' = gN s) ∧ (∀ k i j, ¬ k = 6 → ¬ k = 10 → gI s' k i j = gI s k i j) ∧ (∀ a j, ¬ scr s a → gI s' 10 a j = gI s 10 a j) ∧ (∀ k i j, ¬ k = 6 → gJ s' k i j = gJ s k i j) ∧ (cn s ≤ cn s' ∧ sn s ≤ sn s') ∧ cn s' ≤ cn s + 1 ∧ sn s' ≤ sn s + 6
/-- the same, and no throw -/
def CZ (s s' : St) : Prop := (gR s' = gR s ∧ gL s' = gL s ∧ gN s' = gN s) ∧ (∀ k i j, ¬ k = 6 → ¬ k = 10 → gI s' k i j = gI s k i j) ∧ (∀ a j, ¬ scr s a → gI s' 10 a j = gI s 10 a j) ∧ (∀ k i j, ¬ k = 6 → gJ s' k i j = gJ s k i j) ∧ cn s' = cn s ∧ sn s' = sn s
theorem CZ.rf (s : St) : CZ s s := ⟨⟨rfl, rfl, rfl⟩, fun _ _ _ _ _ => rfl, fun _ _ _ => rfl, fun _ _ _ _ => rfl, rfl, rfl⟩
theorem scr_eq {s s' : St} (h : gR s' = gR s) (a : Nat) : scr s' a ↔ scr s a := by unfold scr; rw [h]
theorem CZ.tr {s t u : St} (h : CZ s t) (h' : CZ t u) : CZ s u := by
  obtain ⟨⟨a1, a2, a3⟩, a4, a5, a6, a7, a8⟩ := h
  obtain ⟨⟨b1, b2, b3⟩, b4, b5, b6, b7, b8⟩ := h'
  refine ⟨⟨b1.trans a1, b2.trans a2, b3.trans a3⟩, fun k i j h1 h2 => (b4 k i j h1 h2).trans (a4 k i j h1 h2), fun a j h1 => (b5 a j (fun q => h1 ((scr_eq a1 a).mp q))).trans (a5 a j h1), fun k i j h1 => (b6 k i j h1).trans (a6 k i j h1), b7.trans a7, b8.trans a8⟩
theorem CZ.cs {s s' : St} (h : CZ s s') : CS s s' := by
  obtain ⟨h1, h2, h3, h4, h5, h6⟩ := h
  exact ⟨h1, h2, h3, h4, by omega, by omega, by omega⟩
theorem CZ.x {s s' : St} (h : CZ s s') : CS s (nX s') := by
  obtain ⟨h1, h2, h3, h4, h5, h6⟩ := h
  refine ⟨h1, h2, h3, h4, ?_, ?_, ?_⟩
  · rw [cn_nX, sn_nX]; omega
  · rw [cn_nX]; omega
  · rw [sn_nX]; omega
theorem CZ.rm {s s' : St} (h : CZ s s') (hr : rmb (nX s) = true) : rmb (nX s') = true := by
  have h1 := of_decide_eq_true (p := cn (nX s) ≤ 601024 ∧ sn (nX s) ≤ 7293034) hr
  rw [cn_nX, sn_nX] at h1
  refine decide_eq_true (p := cn (nX s') ≤ 601024 ∧ sn (nX s') ≤ 7293034) ?_
  rw [cn_nX, sn_nX, h.2.2.2.2.1, h.2.2.2.2.2]
  exact h1
theorem CZ.s6 (s : St) (i j : Nat) (v : Int32) : CZ s (sI s 6 i j v) := ⟨⟨rfl, rfl, rfl⟩, fun k i' j' h1 _ => by rw [gI_sI, if_neg (fun q => h1 q.1)], fun a j' _ => by rw [gI_sI, if_neg (fun q => by omega)], fun _ _ _ _ => rfl, rfl, rfl⟩
theorem CZ.j6 (s : St) (i j : Nat) (v : Int64) : CZ s (sJ s 6 i j v) := ⟨⟨rfl, rfl, rfl⟩, fun _ _ _ _ _ => rfl, fun _ _ _ => rfl, fun k i' j' h1 => by rw [gJ_sJ, if_neg (fun q => h1 q.1)], rfl, rfl⟩
theorem CZ.sa {s : St} {a : Nat} (ha : scr s a) (j : Nat) (v : Int32) : CZ s (sI s 10 a j v) := ⟨⟨rfl, rfl, rfl⟩, fun k i' j' _ h1 => by rw [gI_sI, if_neg (fun q => h1 q.1)], fun b j' hb => by rw [gI_sI, if_neg (fun q => hb (by rw [q.2.1]; exact ha))], fun _ _ _ _ => rfl, rfl, rfl⟩
theorem CZ.wa {s : St} {a : Nat} (ha : scr s a) (f : Nat → Int32) : CZ s (wI s 10 a f) := ⟨⟨rfl, rfl, rfl⟩, fun k i' j' _ h1 => by rw [gI_wI, if_neg (fun q => h1 q.1)], fun b j' hb => by rw [gI_wI, if_neg (fun q => hb (by rw [q.2]; exact ha))], fun _ _ _ _ => rfl, rfl, rfl⟩
/-- the rows of the series are apart, and lie behind those of the start -/
def Jn (j : Nat) : Prop := j = 1 ∨ j = 2 ∨ j = 3 ∨ j = 4 ∨ j = 6 ∨ j = 7
def Sep (s : St) : Prop := (∀ i j, i < 10 → ¬ gR s 14 1 i = 0 → Jn j → 38 < gR s 5 (gR s 14 1 i) j) ∧ (∀ i i' j j', i < 10 → i' < 10 → ¬ gR s 14 1 i = 0 → ¬ gR s 14 1 i' = 0 → Jn j → Jn j' → gR s 5 (gR s 14 1 i) j = gR s 5 (gR s 14 1 i') j' → i = i' ∧ j = j')
theorem Sep.eq {s s' : St} (h : Sep s) (e : gR s' = gR s) : Sep s' := by unfold Sep; rw [e]; exact h
theorem Sep.ns {s : St} (h : Sep s) {i j : Nat} (hi : i < 10) (ho : ¬ gR s 14 1 i = 0) (hj : Jn j) (hj2 : ¬ j = 2) : ¬ scr s (gR s 5 (gR s 14 1 i) j) := by
  have h1 := h.1 i j hi ho hj
  rintro (q | q | ⟨i', a1, a2, a3⟩)
  · omega
  · omega
  · exact hj2 (h.2 i i' j 2 hi a1 ho a2 hj (Or.inr (Or.inl rfl)) a3).2
theorem Sep.lo {s : St} (h : Sep s) {a : Nat} (ha : a ≤ 38) (h9 : ¬ a = 9) (h10 : ¬ a = 10) : ¬ scr s a := by
  rintro (q | q | ⟨i', a1, a2, a3⟩)
  · exact h9 q
  · exact h10 q
  · have := h.1 i' 2 a1 a2 (Or.inr (Or.inl rfl)); omega
theorem PlC.to {s s' : St} {p n : Nat} {S K : Nat → Int} (h : PlC s p n S K) (hR : gR s' = gR s) (hL : gL s' = gL s) (h2 : ∀ j, gI s' 2 p j = gI s 2 p j) (ha : ∀ j, gI s' 10 (gR s 2 p 0) j = gI s 10 (gR s 2 p 0) j) (hb : ∀ j, gI s' 10 (gR s 2 p 1) j = gI s 10 (gR s 2 p 1) j) : PlC s' p n S K := by
  obtain ⟨p0, p1, p2, p3, p4⟩ := h
  refine ⟨p0, by rw [hR]; exact p1, by rw [hR, hL]; exact p2, by rw [h2]; exact p3, fun i hi => ?_⟩
  rw [hR, ha, hb]
  exact p4 i hi
theorem SerC.to {s s' : St} {o p n : Nat} {S K : Nat → Int} {h : Int} {GG : List (List Pt)} (C : SerC s o p n S K h GG) (hR : gR s' = gR s) (hL : gL s' = gL s) (h2 : ∀ j, gI s' 2 p j = gI s 2 p j) (h5 : gI s' 5 o 8 = gI s 5 o 8)
    (ha : ∀ j, gI s' 10 (gR s 2 p 0) j = gI s 10 (gR s 2 p 0) j) (hb : ∀ j, gI s' 10 (gR s 2 p 1) j = gI s 10 (gR s 2 p 1) j) (h1 : ∀ j, gI s' 10 (gR s 5 o 1) j = gI s 10 (gR s 5 o 1) j) (h3 : ∀ j, gI s' 10 (gR s 5 o 3) j = gI s 10 (gR s 5 o 3) j)
    (h4 : ∀ j, gI s' 10 (gR s 5 o 4) j = gI s 10 (gR s 5 o 4) j) (hJ : ∀ j, gJ s' 11 (gR s 5 o 5) j = gJ s 11 (gR s 5 o 5) j) (h6 : ∀ j, gI s' 10 (gR s 5 o 6) j = gI s 10 (gR s 5 o 6) j) (h7 : ∀ j, gI s' 10 (gR s 5 o 7) j = gI s 10 (gR s 5 o 7) j) : SerC s' o p n S K h GG := by
  obtain ⟨⟨a1, a2, a3⟩, ⟨b1, b2, b3⟩, c1, d1, e1, f1⟩ := C
  refine ⟨⟨a1, by rw [hR]; exact a2, a3.to hR hL h2 ha hb⟩, ⟨by rw [hR]; exact b1, by rw [hR, hL]; exact b2, fun i hi => by rw [hR, h1]; exact b3 i hi⟩, by rw [h5]; exact c1, by rw [hR]; exact d1, by rw [hR, hL]; exact e1, fun j g hj => ?_⟩
  rw [hR, h3, h4, hJ, h6, h7]
  exact f1 j g hj
/-- the class, as looking calls want it -/
def CQ (s : St) (p n : Nat) (S K : Nat → Int) (R : List Nat) (H : Nat → Int32) (P : Nat → List Pt) : Prop :=
  (Lay s ∧ Sep s) ∧ ((p = 1 ∨ p = 2) ∧ gR s 8 1 12 = p ∧ PlC s p n S K ∧ VP n S K) ∧ (Ros s 1 R H ∧ RW R) ∧
  ∀ i ∈ R, ¬ gR s 14 1 i = 0 ∧ ∃ GG, P i = GG.flatten ∧ WfG n S K (H i).toInt GG ∧ SerC s (gR s 14 1 i) p n S K (H i).toInt GG
theorem pl_ns {s : St} (hL : Lay s) (hS : Sep s) {p : Nat} (hp : p = 1 ∨ p = 2) : ¬ scr s (gR s 2 p 0) ∧ ¬ scr s (gR s 2 p 1) := by
  rcases hp with rfl | rfl
  · rw [lr_2_1_0 hL, lr_2_1_1 hL]; exact ⟨hS.lo (by omega) (by omega) (by omega), hS.lo (by omega) (by omega) (by omega)⟩
  · rw [lr_2_2_0 hL, lr_2_2_1 hL]; exact ⟨hS.lo (by omega) (by omega) (by omega), hS.lo (by omega) (by omega) (by omega)⟩
theorem SerC.cs {s s' : St} (hL : Lay s) (hS : Sep s) {i p n : Nat} {S K : Nat → Int} {h : Int} {GG : List (List Pt)} (hp : p = 1 ∨ p = 2) (hi : i < 10) (ho : ¬ gR s 14 1 i = 0) (C : SerC s (gR s 14 1 i) p n S K h GG) (hc : CS s s') : SerC s' (gR s 14 1 i) p n S K h GG := by
  obtain ⟨⟨c1, c2, c3⟩, c4, c5, c6, -⟩ := hc
  obtain ⟨q1, q2⟩ := pl_ns hL hS hp
  exact C.to c1 c2 (fun j => c4 2 p j (by decide) (by decide)) (c4 5 _ 8 (by decide) (by decide)) (fun j => c5 _ j q1) (fun j => c5 _ j q2)
    (fun j => c5 _ j (hS.ns hi ho (Or.inl rfl) (by decide))) (fun j => c5 _ j (hS.ns hi ho (Or.inr (Or.inr (Or.inl rfl))) (by decide))) (fun j => c5 _ j (hS.ns hi ho (Or.inr (Or.inr (Or.inr (Or.inl rfl)))) (by decide)))
    (fun j => c6 11 _ j (by decide)) (fun j => c5 _ j (hS.ns hi ho (Or.inr (Or.inr (Or.inr (Or.inr (Or.inl rfl))))) (by decide))) (fun j => c5 _ j (hS.ns hi ho (Or.inr (Or.inr (Or.inr (Or.inr (Or.inr rfl))))) (by decide)))
theorem CQ.cs {s s' : St} {p n : Nat} {S K : Nat → Int} {R : List Nat} {H : Nat → Int32} {P : Nat → List Pt} (h : CQ s p n S K R H P) (hc : CS s s') : CQ s' p n S K R H P := by
  have hc' := hc
  obtain ⟨⟨hL, hS⟩, ⟨hp, hp12, hPl, hV⟩, ⟨⟨r1, r2, r3, r4, r5⟩, hRW⟩, hser⟩ := h
  obtain ⟨⟨c1, c2, c3⟩, c4, c5, c6, -⟩ := hc
  obtain ⟨q1, q2⟩ := pl_ns hL hS hp
  refine ⟨⟨hL.same c1 c2 c3, hS.eq c1⟩, ⟨hp, by rw [c1]; exact hp12, hPl.to c1 c2 (fun j => c4 2 p j (by decide) (by decide)) (fun j => c5 _ j q1) (fun j => c5 _ j q2), hV⟩, ⟨⟨by rw [c1]; exact r1, by rw [c1, c2]; exact r2, by rw [c4 4 1 2 (by decide) (by decide)]; exact r3, ?_, ?_⟩, hRW⟩, ?_⟩
  · intro j i hj
    rw [c1, c5 _ _ (by rw [lr_4_1_0 hL]; exact hS.lo (by omega) (by omega) (by omega))]
    exact r4 j i hj
  · intro i hi
    rw [c1, c5 _ _ (by rw [lr_4_1_1 hL]; exact hS.lo (by omega) (by omega) (by omega))]
    exact r5 i hi
  · intro i hi
    obtain ⟨ho, GG, h1, h2, h3⟩ := hser i hi
    rw [c1]
    exact ⟨ho, GG, h1, h2, h3.cs hL hS hp (hRW.2.1 i hi) ho hc'⟩
/-! the reference -/
def MS (s s' : St) : Prop := (gR s' = gR s ∧ gL s' = gL s ∧ gN s' = gN s) ∧ (∀ k i j, ¬ k = 9 → ¬ (k = 13 ∧ i = 3) → gI s' k i j = gI s k i j) ∧ (∀ j, j < 51 → ¬ j = 3 → gI s' 9 1 j = gI s 9 1 j) ∧ (∀ k i j, ¬ k = 9 → gJ s' k i j = gJ s k i j) ∧ cn s' = cn s ∧ sn s' = sn s
theorem MS.rf (s : St) : MS s s := ⟨⟨rfl, rfl, rfl⟩, fun _ _ _ _ _ => rfl, fun _ _ _ => rfl, fun _ _ _ _ => rfl, rfl, rfl⟩
theorem MS.tr {s t u : St} (h : MS s t) (h' : MS t u) : MS s u := by
  obtain ⟨⟨a1, a2, a3⟩, a4, a5, a6, a7, a8⟩ := h
  obtain ⟨⟨b1, b2, b3⟩, b4, b5, b6, b7, b8⟩ := h'
  exact ⟨⟨b1.trans a1, b2.trans a2, b3.trans a3⟩, fun k i j h1 h2 => (b4 k i j h1 h2).trans (a4 k i j h1 h2), fun j h1 h2 => (b5 j h1 h2).trans (a5 j h1 h2), fun k i j h1 => (b6 k i j h1).trans (a6 k i j h1), b7.trans a7, b8.trans a8⟩
theorem MS.s9 (s : St) {j : Nat} (hj : j = 3 ∨ 50 < j) (v : Int32) : MS s (sI s 9 1 j v) := ⟨⟨rfl, rfl, rfl⟩, fun k i' j' h1 _ => by rw [gI_sI, if_neg (fun q => h1 q.1)], fun j' h1 h2 => by rw [gI_sI, if_neg (fun q => by omega)], fun _ _ _ _ => rfl, rfl, rfl⟩
theorem MS.j9 (s : St) (j : Nat) (v : Int64) : MS s (sJ s 9 1 j v) := ⟨⟨rfl, rfl, rfl⟩, fun _ _ _ _ _ => rfl, fun _ _ _ => rfl, fun k i' j' h1 => by rw [gJ_sJ, if_neg (fun q => h1 q.1)], rfl, rfl⟩
theorem MS.h13 (s : St) (j : Nat) (v : Int32) : MS s (sI s 13 3 j v) := ⟨⟨rfl, rfl, rfl⟩, fun k i' j' _ h1 => by rw [gI_sI, if_neg (fun q => h1 ⟨q.1, q.2.1⟩)], fun j' h1 h2 => by rw [gI_sI, if_neg (fun q => by omega)], fun _ _ _ _ => rfl, rfl, rfl⟩
theorem MS.bS (s : St) (t st c : Int32) (m : Int64) (lo hi : Int32) : MS s (bS s t st c m lo hi) :=
  ((((MS.s9 s (Or.inr (by omega)) t).tr (MS.s9 _ (Or.inr (by omega)) st)).tr (MS.s9 _ (Or.inr (by omega)) c)).tr (MS.s9 _ (Or.inr (by omega)) lo)).tr ((MS.s9 _ (Or.inr (by omega)) hi).tr (MS.j9 _ 56 m))
/-- and the code stays -/
def MZ (s s' : St) : Prop := MS s s' ∧ gI s' 9 1 3 = gI s 9 1 3
theorem MZ.rf (s : St) : MZ s s := ⟨MS.rf s, rfl⟩
theorem MZ.tr {s t u : St} (h : MZ s t) (h' : MZ t u) : MZ s u := ⟨h.1.tr h'.1, h'.2.trans h.2⟩
theorem MZ.s9 (s : St) {j : Nat} (hj : 50 < j) (v : Int32) : MZ s (sI s 9 1 j v) := ⟨MS.s9 s (Or.inr hj) v, by rw [gI_sI, if_neg (fun q => by omega)]⟩
theorem MZ.j9 (s : St) (j : Nat) (v : Int64) : MZ s (sJ s 9 1 j v) := ⟨MS.j9 s j v, rfl⟩
theorem MZ.h13 (s : St) (j : Nat) (v : Int32) : MZ s (sI s 13 3 j v) := ⟨MS.h13 s j v, by rw [gI_sI, if_neg (fun q => by omega)]⟩
theorem MZ.bS (s : St) (t st c : Int32) (m : Int64) (lo hi : Int32) : MZ s (bS s t st c m lo hi) := ⟨MS.bS s t st c m lo hi, bS_f s t st c m lo hi (Or.inl (by omega))⟩
def RQ (s : St) (n : Nat) (S K : Nat → Int) (R : List Nat) (H : Nat → Int32) (P : Nat → List Pt) : Prop := Lay s ∧ (PlM s n S K ∧ VP n S K) ∧ (ThM s R ∧ RW R) ∧ HdM s H ∧ PtM s P ∧ PWf P ∧ Tms P
/-- the rows of the points aren't those of the start but their own -/
def PtD (s : St) : Prop := (26 < gR s 9 1 19 ∧ 26 < gR s 9 1 20 ∧ 26 < gR s 9 1 21)
theorem RQ.ms {s s' : St} {n : Nat} {S K : Nat → Int} {R : List Nat} {H : Nat → Int32} {P : Nat → List Pt} (h : RQ s n S K R H P) (hm : MS s s') : RQ s' n S K R H P := by
  obtain ⟨hL, ⟨⟨p1, p2, p3, p4⟩, hV⟩, ⟨hT, hRW⟩, ⟨d1, d2, d3⟩, ⟨t1, t2, t3, t4⟩, hW, hTm⟩ := h
  obtain ⟨⟨m1, m2, m3⟩, m4, m5, m6, -⟩ := hm
  have m10 : ∀ i j, gI s' 10 i j = gI s 10 i j := fun i j => m4 10 i j (by decide) (by omega)
  refine ⟨hL.same m1 m2 m3, ⟨⟨by rw [m1]; exact p1, by rw [m1, m2]; exact p2, by rw [m5 7 (by decide) (by decide)]; exact p3, fun i hi => by rw [m1, m10, m10]; exact p4 i hi⟩, hV⟩, ⟨fun i hi => by rw [m4 13 1 i (by decide) (by omega)]; exact hT i hi, hRW⟩, ⟨by rw [m1]; exact d1, by rw [m1, m2]; exact d2, fun i hi => by rw [m1, m10]; exact d3 i hi⟩,
    ⟨by rw [m1]; exact t1, by rw [m1, m2]; exact t2, by rw [m5 22 (by decide) (by decide)]; exact t3, fun i hi j p hp => by rw [m1, m10, m10, m10]; exact t4 i hi j p hp⟩, hW, hTm⟩
/-- the next bucket -/
def bG (s : St) (n : Nat) (S K : Nat → Int) (h : Int) (g : List Pt) : St := bS s (tc (tq (sm n S K h) n (ky (ka n S K h) g))) (Int32.ofInt (ky (ka n S K h) g)) (nI g.length) (s64 g) (gmn g) (gmx g)
theorem bG_ms (s : St) (n : Nat) (S K : Nat → Int) (h : Int) (g : List Pt) : MZ s (bG s n S K h g) := MZ.bS s _ _ _ _ _ _
theorem RQ.mz {s s' : St} {n : Nat} {S K : Nat → Int} {R : List Nat} {H : Nat → Int32} {P : Nat → List Pt} (h : RQ s n S K R H P) (hm : MZ s s') : RQ s' n S K R H P := h.ms hm.1
theorem X9_nb {s : St} {n : Nat} {S K : Nat → Int} {R : List Nat} {H : Nat → Int32} {P : Nat → List Pt} (h : RQ s n S K R H P) {id : Nat} (hid : id < 10) {GG : List (List Pt)} (hP : P id = GG.flatten) (W : WfG n S K (H id).toInt GG) {A B : List (List Pt)} {g : List Pt} (e : GG = A ++ g :: B) {fu : Nat} (hfu : 50000 ≤ fu) :
    f_X9_bucketFrom fu s 1 (nI (off P id + A.flatten.length)) = some (bG s n S K (H id).toInt g, nI (off P id + (A ++ [g]).flatten.length)) := by
  obtain ⟨hL, ⟨hPl, hV⟩, -, hH, hPt, hW, hTm⟩ := h
  have hg : g ∈ GG := by rw [e]; exact List.mem_append_right _ List.mem_cons_self
  obtain ⟨i, hi, h2, h3, h4⟩ := wf_g hV W hg
  have e2 : P id = A.flatten ++ (g ++ B.flatten) := by rw [hP, e, List.flatten_append, List.flatten_cons]
  have hmem : ∀ p ∈ GG.flatten, p ∈ P id := fun p hp => by rw [hP]; exact hp
  have hpg : ∀ p ∈ g, p ∈ GG.flatten := fun p hp => List.mem_flatten.mpr ⟨g, hg, hp⟩
  have := X9_bf hV hPl hPt hW hH hid W.2.2.2.2.1 W.2.2.2.2.2 e2 h4 (b := ky (ka n S K (H id).toInt) g) (i := i) h2 (fun p hp => by
    obtain ⟨b, hb, hpb⟩ := List.mem_flatten.mp hp
    have hbG : b ∈ GG := by rw [e]; exact List.mem_append_right _ (List.mem_cons_of_mem _ hb)
    obtain ⟨j, hj, b2, b3, b4⟩ := wf_g hV W hbG
    have hlt : ky (ka n S K (H id).toInt) g < ky (ka n S K (H id).toInt) b := by
      have := (Gd.app.mp (by rw [← e]; exact W.1)).2.1
      exact (Gd.cons.mp this).2.2 b hb
    obtain ⟨q, hq, -⟩ := ky_mem (κ := ka n S K (H id).toInt) h4
    rcases Int.lt_or_le (tm p) (ky (ka n S K (H id).toInt) g + S i) with w | w
    · exfalso
      have h5 := h2 q hq
      have hpj := b2 p hpb
      have h6 : ky (ka n S K (H id).toInt) g ≤ tm p := by
        have := al_le (x := tm p) (hV.sp hpj.1.1).1
        omega
      have h7 := (kp_eq hV h5.1 hpj.1).mpr ⟨by rw [h5.2]; exact h6, by rw [h5.2]; exact w⟩
      omega
    · exact w) (fun p hp => hTm id hid p (hmem p (hpg p hp))) hfu
  rw [this]
  unfold bG
  rw [tq_some.mpr hi, List.flatten_append, List.length_append, List.flatten_cons, List.flatten_nil, List.append_nil, ← Nat.add_assoc]
  rfl
theorem X9_tf {s : St} {n : Nat} {S K : Nat → Int} {R : List Nat} {H : Nat → Int32} {P : Nat → List Pt} (h : RQ s n S K R H P) {id : Nat} (hid : id < 10) (h1 : -1000000 ≤ (H id).toInt) (h2 : (H id).toInt ≤ 1000000) {t : Nat} (ht : t < n) {fu : Nat} (hfu : 50000 ≤ fu) :
    f_X9_tierFrom fu s 1 (nI id) (nI t) = some (s, nI (off P id + cl (P id) (sm n S K (H id).toInt t))) := by
  obtain ⟨hL, ⟨hPl, hV⟩, -, ⟨d1, d2, d3⟩, hPt, hW, hTm⟩ := h
  have e10 : ¬ (1 = 0) := by decide
  have b : inb (nI id) 10 = true := nu_inbn (by omega) (by omega)
  have hb := sm_bd hV h1 h2 ht
  unfold f_X9_tierFrom
  simp only [e10, d1, d2, b, reduceIte, Bool.true_eq_false, nu_ixn (show id < 2147483648 by omega), d3 id hid, X9_sb hV hPl h1 h2 ht (show 100 ≤ fu by omega), bI, X9_po hPt hW hid hfu, nj_up, nu_of (show -2147483648 ≤ sm n S K (H id).toInt t by omega) (by omega)]
theorem X9_tt {s : St} {n : Nat} {S K : Nat → Int} {R : List Nat} {H : Nat → Int32} {P : Nat → List Pt} (h : RQ s n S K R H P) {id : Nat} (hid : id < 10) (h1 : -1000000 ≤ (H id).toInt) (h2 : (H id).toInt ≤ 1000000) {t : Nat} (ht : t < n) {fu : Nat} (hfu : 50000 ≤ fu) :
    f_X9_tierTo fu s 1 (nI id) (nI t) = some (s, nI (off P id + if t = 0 then (P id).length else cl (P id) (sm n S K (H id).toInt (t - 1)))) := by
  obtain ⟨hL, ⟨hPl, hV⟩, -, ⟨d1, d2, d3⟩, hPt, hW, hTm⟩ := h
  have e10 : ¬ (1 = 0) := by decide
  have b : inb (nI id) 10 = true := nu_inbn (by omega) (by omega)
  have hn := hV.1
  unfold f_X9_tierTo f_X9_tierTo_b31
  by_cases h0 : t = 0
  · subst h0
    have z : nI 0 = 0 := rfl
    simp only [z, e10, reduceIte, X9_bo hPt hW hTm hid hfu, bI, off_s]
  · have hz : ¬ nI t = 0 := fun q => h0 ((ni_eq (b := 0) (by omega) (by omega)).mp q)
    have hb := sm_bd hV h1 h2 (i := t - 1) (by omega)
    simp only [hz, h0, e10, d1, d2, b, reduceIte, Bool.true_eq_false, nu_ixn (show id < 2147483648 by omega), d3 id hid, ni_dec (show 0 < t by omega) (show t < 2147483648 by omega), X9_sb hV hPl h1 h2 (show t - 1 < n by omega) (show 100 ≤ fu by omega), bI, X9_po hPt hW hid hfu, nj_up, nu_of (show -2147483648 ≤ sm n S K (H id).toInt (t - 1) by omega) (by omega)]
/-- the places of a tier's points -/
theorem X9_ends {s : St} {n : Nat} {S K : Nat → Int} {R : List Nat} {H : Nat → Int32} {P : Nat → List Pt} (h : RQ s n S K R H P) {id : Nat} (hid : id < 10) {GG A M C : List (List Pt)} (hP : P id = GG.flatten) (W : WfG n S K (H id).toInt GG) {t : Nat} (ht : t < n) (e : GG = A ++ (M ++ C)) (h0 : t = 0 → C = [])
    (ha : cl GG.flatten (sm n S K (H id).toInt t) = A.flatten.length) (hb : t ≠ 0 → cl GG.flatten (sm n S K (H id).toInt (t - 1)) = A.flatten.length + M.flatten.length) {fu : Nat} (hfu : 50000 ≤ fu) :
    f_X9_tierFrom fu s 1 (nI id) (nI t) = some (s, nI (off P id + A.flatten.length)) ∧ f_X9_tierTo fu s 1 (nI id) (nI t) = some (s, nI (off P id + (A ++ M).flatten.length)) := by
  refine ⟨?_, ?_⟩
  · rw [X9_tf h hid W.2.2.2.2.1 W.2.2.2.2.2 ht hfu, hP, ha]
  · rw [X9_tt h hid W.2.2.2.2.1 W.2.2.2.2.2 ht hfu, hP, List.flatten_append, List.length_append]
    by_cases hz : t = 0
    · rw [if_pos hz]
      have := h0 hz
      subst this
      rw [e, List.append_nil, List.flatten_append, List.length_append]
    · rw [if_neg hz, hb hz]
