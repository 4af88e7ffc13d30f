/-! ===== begin; the roster ===== -/
section BEG
variable {s : St} {o p n : Nat} {S K : Nat → Int} {fu : Nat} {c : Nat → Nat}
def beS (s : St) (o p n : Nat) (S K : Nat → Int) (h : Int) : St := wI (sI (sI (sI (sR s 5 o 0 p) 5 o 8 0) 5 o 9 0) 5 o 10 0) 10 (gR s 5 o 1) (fsF (sI (sI (sI (sR s 5 o 0 p) 5 o 8 0) 5 o 9 0) 5 o 10 0) (gR s 5 o 1) n S K h n)
theorem be5_sf (s : St) (o p : Nat) : Sfr s (sI (sI (sI (sR s 5 o 0 p) 5 o 8 0) 5 o 9 0) 5 o 10 0) o := by
  refine ⟨fun k i j _ hn => ?_, fun _ _ _ => rfl, fun _ => ⟨Nat.le_refl _, fun _ _ => rfl⟩, fun k i j _ hn _ => ?_, fun _ _ _ _ _ => rfl, fun j hj => Or.inl ?_, Or.inl ?_⟩
  · rw [gR_sI, gR_sI, gR_sI, gR_sR, if_neg (fun q => hn ⟨q.1, q.2.1⟩)]
  · rw [gI_sI, if_neg (fun q => hn ⟨q.1, q.2.1⟩), gI_sI, if_neg (fun q => hn ⟨q.1, q.2.1⟩), gI_sI, if_neg (fun q => hn ⟨q.1, q.2.1⟩), gI_sR]
  · rw [gR_sI, gR_sI, gR_sI, gR_sR, if_neg (fun q => by unfold Jn at hj; omega)]
  · rw [gR_sI, gR_sI, gR_sI, gR_sR, if_neg (fun q => by omega)]
theorem beS_r (s : St) (o p n : Nat) (S K : Nat → Int) (h : Int) : (∀ j, ¬ j = 0 → gR (beS s o p n S K h) 5 o j = gR s 5 o j) ∧ gR (beS s o p n S K h) 5 o 0 = p ∧ gL (beS s o p n S K h) = gL s ∧ gN (beS s o p n S K h) = gN s ∧ cn (beS s o p n S K h) = cn s ∧ sn (beS s o p n S K h) = sn s ∧ gI (beS s o p n S K h) 5 o 8 = 0 ∧ gI (beS s o p n S K h) 5 o 9 = 0 ∧ gI (beS s o p n S K h) 5 o 10 = 0 := by
  unfold beS
  refine ⟨fun j hj => ?_, ?_, rfl, rfl, rfl, rfl, ?_, ?_, ?_⟩
  · rw [gR_wI, gR_sI, gR_sI, gR_sI, gR_sR, if_neg (fun q => hj q.2.2)]
  · rw [gR_wI, gR_sI, gR_sI, gR_sI, gR_sR, if_pos ⟨rfl, rfl, rfl⟩]
  · rw [gI_wI, if_neg (by omega), gI_sI, if_neg (by omega), gI_sI, if_neg (by omega), gI_sI, if_pos ⟨rfl, rfl, rfl⟩]
  · rw [gI_wI, if_neg (by omega), gI_sI, if_neg (by omega), gI_sI, if_pos ⟨rfl, rfl, rfl⟩]
  · rw [gI_wI, if_neg (by omega), gI_sI, if_pos ⟨rfl, rfl, rfl⟩]
theorem beS_sf (s : St) (o p n : Nat) (S K : Nat → Int) (h : Int) : Sfr s (beS s o p n S K h) o := by
  refine (be5_sf s o p).tr ?_
  unfold beS
  have e : gR s 5 o 1 = gR (sI (sI (sI (sR s 5 o 0 p) 5 o 8 0) 5 o 9 0) 5 o 10 0) 5 o 1 := by rw [gR_sI, gR_sI, gR_sI, gR_sR, if_neg (fun q => by omega)]
  rw [e]
  exact (WFr.w _ o jn1 _).sf
theorem beS_own (hO : OwnC s o c) {h : Int} : OwnC (beS s o p n S K h) o c := by
  obtain ⟨r1, r2, r3, r4, -⟩ := beS_r s o p n S K h
  obtain ⟨h1, h3, h4, h5, h6, h7⟩ := hO
  have rr : ∀ j, Jn j → gR (beS s o p n S K h) 5 o j = gR s 5 o j := fun j hj => r1 j (fun q => by unfold Jn at hj; omega)
  refine ⟨by rw [r4]; exact h1, fun j hj => by rw [rr j hj, r4]; exact h3 j hj, by rw [r1 5 (by decide), r4]; exact h4, fun j j' hj hj' e => h5 j j' hj hj' (by rw [rr j hj, rr j' hj'] at e; exact e), fun j hj => by rw [rr j hj, r3]; exact h6 j hj, by rw [r1 5 (by decide), r3]; exact h7⟩
theorem X5_begin (V : VP n S K) (hP : PlC s p n S K) (hO : OwnC s o c) {z : Nat} (hc : eqC c z) (hl : gR s 2 p 0 ≤ 38 ∧ gR s 2 p 1 ≤ 38) (c1 : c 1 = 4) {t : Int32} (h1 : -1000000 ≤ t.toInt) (h2 : t.toInt ≤ 1000000) (hfu : 50000 ≤ fu) :
    f_X5_begin fu s o p t = some (beS s o p n S K t.toInt) ∧ SerC (beS s o p n S K t.toInt) o p n S K t.toInt [] ∧ WfG n S K t.toInt [] := by
  have hP5 := hP.sf (be5_sf s o p) hO hl
  have hR : ∀ j, ¬ j = 0 → gR (sI (sI (sI (sR s 5 o 0 p) 5 o 8 0) 5 o 9 0) 5 o 10 0) 5 o j = gR s 5 o j := fun j hj => by rw [gR_sI, gR_sI, gR_sI, gR_sR, if_neg (fun q => hj q.2.2)]
  have hR2 : ∀ j, gR (sI (sI (sI (sR s 5 o 0 p) 5 o 8 0) 5 o 9 0) 5 o 10 0) 2 p j = gR s 2 p j := fun j => by rw [gR_sI, gR_sI, gR_sI, gR_sR, if_neg (fun q => by omega)]
  have hR0 : gR (sI (sI (sI (sR s 5 o 0 p) 5 o 8 0) 5 o 9 0) 5 o 10 0) 5 o 0 = p := by rw [gR_sI, gR_sI, gR_sI, gR_sR, if_pos ⟨rfl, rfl, rfl⟩]
  have l1 := hO.2.2.2.2.1 1 jn1
  have a1 := (hO.2.1 1 jn1).1
  have hfs := X2_fs V hP5 (a := gR s 5 o 1) ⟨hO.nz jn1, by show gL s 10 _ = 4; rw [l1, c1], by rw [hR2]; omega, by rw [hR2]; omega⟩ (h := t) h1 h2 (fu := fu) (by omega)
  obtain ⟨r1, r2, r3, r4, r5, r6, r7, r8, r9⟩ := beS_r s o p n S K t.toInt
  refine ⟨?_, ?_, ⟨Gd.nil _, List.Pairwise.nil, fun q hq => by simp at hq, by simp, h1, h2⟩⟩
  · unfold f_X5_begin
    rw [if_neg hO.1.1]
    simp only [lt, hR0, hP.1, reduceIte, hR 1 (by decide), hfs, bV]
    rfl
  · have hO' := beS_own (p := p) (n := n) (S := S) (K := K) hO (h := t.toInt)
    refine ⟨⟨hO.1.1, r2, hP.sf (beS_sf s o p n S K t.toInt) hO hl⟩, ⟨hO'.nz jn1, by rw [hO'.2.2.2.2.1 1 jn1, c1], fun i hi => ?_⟩, r7, ⟨hO'.nz jn3, hO'.nz jn4, fun q => by have := hO'.2.2.1.1; omega, hO'.nz jn6, hO'.nz jn7⟩, ⟨Nat.zero_le _, Nat.zero_le _, Nat.zero_le _, Nat.zero_le _, Nat.zero_le _⟩, fun j g hj => by simp at hj⟩
    rw [r1 1 (by decide)]
    unfold beS
    rw [gI_wI, if_pos ⟨rfl, rfl⟩]
    exact fsF_at _ _ _ _ _ _ hi
end BEG
/-! the roster: R the order of use, H the heads -/
section RST
variable {s : St} {R : List Nat} {H : Nat → Int32} {fu r : Nat}
/-- only the roster is written -/
def RF (s s' : St) (r : Nat) : Prop := (gR s' = gR s ∧ gL s' = gL s ∧ gN s' = gN s ∧ cn s' = cn s ∧ sn s' = sn s ∧ gJ s' = gJ s) ∧ ∀ k i j, ¬ (k = 4 ∧ i = r) → ¬ (k = 10 ∧ (i = gR s 4 r 0 ∨ i = gR s 4 r 1)) → gI s' k i j = gI s k i j
theorem RF.rf (s : St) (r : Nat) : RF s s r := ⟨⟨rfl, rfl, rfl, rfl, rfl, rfl⟩, fun _ _ _ _ _ => rfl⟩
theorem RF.tr {s t u : St} {r : Nat} (h : RF s t r) (h' : RF t u r) : RF s u r := by
  obtain ⟨⟨a1, a2, a3, a4, a5, a6⟩, a7⟩ := h
  obtain ⟨⟨b1, b2, b3, b4, b5, b6⟩, b7⟩ := h'
  rw [a1] at b7
  exact ⟨⟨b1.trans a1, b2.trans a2, b3.trans a3, b4.trans a4, b5.trans a5, b6.trans a6⟩, fun k i j h1 h2 => (b7 k i j h1 h2).trans (a7 k i j h1 h2)⟩
theorem RF.a (s : St) (r m : Nat) (v : Int32) : RF s (sI s 10 (gR s 4 r 0) m v) r := ⟨⟨rfl, rfl, rfl, rfl, rfl, rfl⟩, fun k i j _ h2 => by rw [gI_sI, if_neg (fun q => h2 ⟨q.1, Or.inl q.2.1⟩)]⟩
theorem RF.h (s : St) (r m : Nat) (v : Int32) : RF s (sI s 10 (gR s 4 r 1) m v) r := ⟨⟨rfl, rfl, rfl, rfl, rfl, rfl⟩, fun k i j _ h2 => by rw [gI_sI, if_neg (fun q => h2 ⟨q.1, Or.inr q.2.1⟩)]⟩
theorem RF.z (s : St) (r : Nat) (v : Int32) : RF s (sI s 4 r 2 v) r := ⟨⟨rfl, rfl, rfl, rfl, rfl, rfl⟩, fun k i j h1 _ => by rw [gI_sI, if_neg (fun q => h1 ⟨q.1, q.2.1⟩)]⟩
end RST
