/-! ===== rows ===== -/
def inb (i : Int32) (n : Nat) : Bool := decide (0 ≤ i.toInt ∧ i.toInt < (n : Int))
abbrev ix (i : Int32) : Nat := i.toNatClampNeg
theorem inb_in {i : Int32} {n : Nat} (h : inb i n = true) : vp_in i n := vp_in_iff.mpr (of_decide_eq_true h)
theorem en_10 {G : GT} {A : AM} {s : St} {i : Nat} : en G A s 10 i = .inl (G.2.2.1 10, gL s 10 i, .inl (gI s 10 i)) := rfl
theorem en_11 {G : GT} {A : AM} {s : St} {i : Nat} : en G A s 11 i = .inl (G.2.2.1 11, gL s 11 i, .inr (.inl (gJ s 11 i))) := rfl
theorem en_12 {G : GT} {A : AM} {s : St} {i : Nat} : en G A s 12 i = .inl (G.2.2.1 12, gL s 12 i, .inl (gI s 12 i)) := rfl
theorem en_13 {G : GT} {A : AM} {s : St} {i : Nat} : en G A s 13 i = .inl (G.2.2.1 13, gL s 13 i, .inl (gI s 13 i)) := rfl
theorem en_14 {G : GT} {A : AM} {s : St} {i : Nat} : en G A s 14 i = .inl (G.2.2.1 14, gL s 14 i, .inr (.inr (.inr (.inr fun j => ro A 5 (gR s 14 i j))))) := rfl
theorem en_15 {G : GT} {A : AM} {s : St} {i : Nat} : en G A s 15 i = .inl (G.2.2.1 15, gL s 15 i, .inr (.inr (.inr (.inr fun j => ro A 16 (gR s 15 i j))))) := rfl
section VARR
variable {E : ET} {own : String} {cc : ByteArray} {nL d : Nat} {Q : State → Prop} {s : St} {pc : Nat} {lv : List (Nat × AV)} {st : List AV}
/-- one row is another one now -/
theorem Hd.row {G : GT} {A : AM} {s s' : St} {H H1 : Heap} (h : Hd G A s H) {k r n : Nat} {e' : va_E} (hk : k < 16) (h10 : 10 ≤ k) (hr : 0 < r) (hn : r ≤ gN s k) (hp : (WL G A s)[n]? = some (A k r, en G A s k r)) (hN : gN s' = gN s) (hcs : cn s' = cn s ∧ sn s' = sn s) (he : en G A s' k r = e')
    (hI : ∀ k' i' : Nat, ¬ (k' = k ∧ i' = r) → gI s' k' i' = gI s k' i') (hJ : ∀ k' i' : Nat, ¬ (k' = k ∧ i' = r) → gJ s' k' i' = gJ s k' i') (hR : ∀ k' i' : Nat, ¬ (k' = k ∧ i' = r) → gR s' k' i' = gR s k' i') (hL : gL s' = gL s)
    (hw : ∀ k i j : Nat, gR s' k i j ≤ bd s' (rt k j)) (hP : va_P G.2.1 vwCl ((WL G A s).set n (A k r, e')) H1) : Hd G A s' H1 := by
  refine Hd.set h hk hr hn hp hN hcs he (fun k' i' hk' hq => ?_) hw hP
  by_cases h9 : k' < 10
  · rw [en_obj h9, en_obj h9]
    congr 2
    refine List.map_congr_left (fun m _ => ?_)
    unfold fv
    rw [hI k' i' hq, hJ k' i' hq, hR k' i' hq]
  · rw [en_arr (by omega), en_arr (by omega), hI k' i' hq, hJ k' i' hq, hR k' i' hq, hL]
theorem V_iald (g : GX E own cc nL d) {r : Nat} {i : Int32} (hr : ¬ r = 0) (hb : inb i (gL s 10 r) = true) (hd : decode cc pc = .ok (.iaload, 1)) (kk : V E nL Q s (pc + 1) lv (vI (gI s 10 r (ix i)) :: st)) : V E nL Q s pc lv (vI i :: vR 10 r :: st) := by
  intro A H locs ls hR hl ho
  obtain ⟨n, hn⟩ := WL_mem (G := E.G) (A := A) (s := s) (k := 10) (i := r) (by decide) (by omega) (ok_bd (by decide) ho.pop.top)
  rw [en_10] at hn
  rw [List.map_cons, List.map_cons, tr_nz hr]
  exact va_iald g.1 g.2.1 g.K hR.1.P n 0 hn rfl (inb_in hb) hd (kk A H locs ls hR hl (okl.push trivial ho.pop.pop))
theorem V_lald (g : GX E own cc nL d) {r : Nat} {i : Int32} (hr : ¬ r = 0) (hb : inb i (gL s 11 r) = true) (hd : decode cc pc = .ok (.laload, 1)) (kk : V E nL Q s (pc + 1) lv (vJ (gJ s 11 r (ix i)) :: st)) : V E nL Q s pc lv (vI i :: vR 11 r :: st) := by
  intro A H locs ls hR hl ho
  obtain ⟨n, hn⟩ := WL_mem (G := E.G) (A := A) (s := s) (k := 11) (i := r) (by decide) (by omega) (ok_bd (by decide) ho.pop.top)
  rw [en_11] at hn
  rw [List.map_cons, List.map_cons, tr_nz hr]
  exact va_lald g.1 g.2.1 g.K hR.1.P n 1 hn rfl (inb_in hb) hd (kk A H locs ls hR hl (okl.push trivial ho.pop.pop))
theorem V_bald (g : GX E own cc nL d) {r : Nat} {i : Int32} (hr : ¬ r = 0) (hb : inb i (gL s 12 r) = true) (hd : decode cc pc = .ok (.baload, 1)) (kk : V E nL Q s (pc + 1) lv (vI (gI s 12 r (ix i)) :: st)) : V E nL Q s pc lv (vI i :: vR 12 r :: st) := by
  intro A H locs ls hR hl ho
  obtain ⟨n, hn⟩ := WL_mem (G := E.G) (A := A) (s := s) (k := 12) (i := r) (by decide) (by omega) (ok_bd (by decide) ho.pop.top)
  rw [en_12] at hn
  rw [List.map_cons, List.map_cons, tr_nz hr]
  exact va_bald g.1 g.2.1 g.K hR.1.P n 2 hn rfl (inb_in hb) hd (kk A H locs ls hR hl (okl.push trivial ho.pop.pop))
theorem V_zald (g : GX E own cc nL d) {r : Nat} {i : Int32} (hr : ¬ r = 0) (hb : inb i (gL s 13 r) = true) (hd : decode cc pc = .ok (.baload, 1)) (kk : V E nL Q s (pc + 1) lv (vI (gI s 13 r (ix i)) :: st)) : V E nL Q s pc lv (vI i :: vR 13 r :: st) := by
  intro A H locs ls hR hl ho
  obtain ⟨n, hn⟩ := WL_mem (G := E.G) (A := A) (s := s) (k := 13) (i := r) (by decide) (by omega) (ok_bd (by decide) ho.pop.top)
  rw [en_13] at hn
  rw [List.map_cons, List.map_cons, tr_nz hr]
  exact va_zald g.1 g.2.1 g.K hR.1.P n 3 hn rfl (inb_in hb) hd (kk A H locs ls hR hl (okl.push trivial ho.pop.pop))
theorem V_sald (g : GX E own cc nL d) {r : Nat} {i : Int32} (hr : ¬ r = 0) (hb : inb i (gL s 14 r) = true) (hd : decode cc pc = .ok (.aaload, 1)) (kk : V E nL Q s (pc + 1) lv (vR 5 (gR s 14 r (ix i)) :: st)) : V E nL Q s pc lv (vI i :: vR 14 r :: st) := by
  intro A H locs ls hR hl ho
  obtain ⟨n, hn⟩ := WL_mem (G := E.G) (A := A) (s := s) (k := 14) (i := r) (by decide) (by omega) (ok_bd (by decide) ho.pop.top)
  rw [en_14] at hn
  rw [List.map_cons, List.map_cons, tr_nz hr]
  exact va_aldq g.1 g.2.1 g.K hR.1.P n 4 hn rfl (inb_in hb) hd (kk A H locs ls hR hl (okl.push (hR.1.2.2.2.1 14 r (ix i)) ho.pop.pop))
theorem V_tald (g : GX E own cc nL d) {r : Nat} {i : Int32} (hr : ¬ r = 0) (hb : inb i (gL s 15 r) = true) (hd : decode cc pc = .ok (.aaload, 1)) (kk : V E nL Q s (pc + 1) lv (vR 16 (gR s 15 r (ix i)) :: st)) : V E nL Q s pc lv (vI i :: vR 15 r :: st) := by
  intro A H locs ls hR hl ho
  obtain ⟨n, hn⟩ := WL_mem (G := E.G) (A := A) (s := s) (k := 15) (i := r) (by decide) (by omega) (ok_bd (by decide) ho.pop.top)
  rw [en_15] at hn
  rw [List.map_cons, List.map_cons, tr_nz hr]
  exact va_aldq g.1 g.2.1 g.K hR.1.P n 5 hn rfl (inb_in hb) hd (kk A H locs ls hR hl (okl.push (hR.1.2.2.2.1 15 r (ix i)) ho.pop.pop))
theorem V_iast (g : GX E own cc nL d) {r : Nat} {i : Int32} {x : Int32} {s' : St} (hs : s' = sI s 10 r (ix i) x) (hr : ¬ r = 0) (hb : inb i (gL s 10 r) = true) (hd : decode cc pc = .ok (.iastore, 1)) (kk : V E nL Q s' (pc + 1) lv st) : V E nL Q s pc lv (vI x :: vI i :: vR 10 r :: st) := by
  subst hs
  intro A H locs ls hR hl ho
  have hbd := ok_bd (k := 10) (by decide) ho.pop.pop.top
  obtain ⟨n, hn⟩ := WL_mem (G := E.G) (A := A) (s := s) (k := 10) (i := r) (by decide) (by omega) hbd
  have hn' := hn
  rw [en_10] at hn
  rw [List.map_cons, List.map_cons, List.map_cons, tr_nz hr]
  refine va_iast g.1 g.2.1 g.K hR.1.P hR.1.D hR.2.2.2 n 0 hn rfl (inb_in hb) hd (fun H1 locs1 hP1 _ hS1 => ?_)
  have hH : Hd E.G A (sI s 10 r (ix i) x) H1 := by
    refine Hd.row hR.1 (by decide) (by decide) (by omega) hbd hn' rfl ⟨rfl, rfl⟩ ?_ (fun k' i' hq => ?_) (fun k' i' hq => ?_) (fun k' i' hq => ?_) rfl hR.1.2.2.2.1 hP1
    · have e1 : gI (sI s 10 r (ix i) x) 10 r = upd (gI s 10 r) (ix i) x := by
        funext m
        show (if 10 = 10 ∧ r = r ∧ m = ix i then _ else _) = if m = ix i then _ else _
        simp [gI, gJ]
      rw [en_10, e1]
      rfl
    · funext m
      exact if_neg (fun z => hq ⟨z.1, z.2.1⟩)
    · rfl
    · rfl
  exact kk A H1 locs1 ls ⟨hH, hR.2.1, hR.2.2.1, hS1⟩ hl ho.pop.pop.pop
theorem V_last (g : GX E own cc nL d) {r : Nat} {i : Int32} {x : Int64} {s' : St} (hs : s' = sJ s 11 r (ix i) x) (hr : ¬ r = 0) (hb : inb i (gL s 11 r) = true) (hd : decode cc pc = .ok (.lastore, 1)) (kk : V E nL Q s' (pc + 1) lv st) : V E nL Q s pc lv (vJ x :: vI i :: vR 11 r :: st) := by
  subst hs
  intro A H locs ls hR hl ho
  have hbd := ok_bd (k := 11) (by decide) ho.pop.pop.top
  obtain ⟨n, hn⟩ := WL_mem (G := E.G) (A := A) (s := s) (k := 11) (i := r) (by decide) (by omega) hbd
  have hn' := hn
  rw [en_11] at hn
  rw [List.map_cons, List.map_cons, List.map_cons, tr_nz hr]
  refine va_last g.1 g.2.1 g.K hR.1.P hR.1.D hR.2.2.2 n 1 hn rfl (inb_in hb) hd (fun H1 locs1 hP1 _ hS1 => ?_)
  have hH : Hd E.G A (sJ s 11 r (ix i) x) H1 := by
    refine Hd.row hR.1 (by decide) (by decide) (by omega) hbd hn' rfl ⟨rfl, rfl⟩ ?_ (fun k' i' hq => ?_) (fun k' i' hq => ?_) (fun k' i' hq => ?_) rfl hR.1.2.2.2.1 hP1
    · have e1 : gJ (sJ s 11 r (ix i) x) 11 r = vp_updL (gJ s 11 r) (ix i) x := by
        funext m
        show (if 11 = 11 ∧ r = r ∧ m = ix i then _ else _) = if m = ix i then _ else _
        simp [gI, gJ]
      rw [en_11, e1]
      rfl
    · rfl
    · funext m
      exact if_neg (fun z => hq ⟨z.1, z.2.1⟩)
    · rfl
  exact kk A H1 locs1 ls ⟨hH, hR.2.1, hR.2.2.1, hS1⟩ hl ho.pop.pop.pop
theorem V_bast (g : GX E own cc nL d) {r : Nat} {i : Int32} {x : Int32} {s' : St} (hs : s' = sI s 12 r (ix i) (vp_nar .byte x)) (hr : ¬ r = 0) (hb : inb i (gL s 12 r) = true) (hd : decode cc pc = .ok (.bastore, 1)) (kk : V E nL Q s' (pc + 1) lv st) : V E nL Q s pc lv (vI x :: vI i :: vR 12 r :: st) := by
  subst hs
  intro A H locs ls hR hl ho
  have hbd := ok_bd (k := 12) (by decide) ho.pop.pop.top
  obtain ⟨n, hn⟩ := WL_mem (G := E.G) (A := A) (s := s) (k := 12) (i := r) (by decide) (by omega) hbd
  have hn' := hn
  rw [en_12] at hn
  rw [List.map_cons, List.map_cons, List.map_cons, tr_nz hr]
  refine va_bast g.1 g.2.1 g.K hR.1.P hR.1.D hR.2.2.2 n 2 hn rfl (inb_in hb) hd (fun H1 locs1 hP1 _ hS1 => ?_)
  have hH : Hd E.G A (sI s 12 r (ix i) (vp_nar .byte x)) H1 := by
    refine Hd.row hR.1 (by decide) (by decide) (by omega) hbd hn' rfl ⟨rfl, rfl⟩ ?_ (fun k' i' hq => ?_) (fun k' i' hq => ?_) (fun k' i' hq => ?_) rfl hR.1.2.2.2.1 hP1
    · have e1 : gI (sI s 12 r (ix i) (vp_nar .byte x)) 12 r = upd (gI s 12 r) (ix i) (vp_nar .byte x) := by
        funext m
        show (if 12 = 12 ∧ r = r ∧ m = ix i then _ else _) = if m = ix i then _ else _
        simp [gI, gJ]
      rw [en_12, e1]
      rfl
    · funext m
      exact if_neg (fun z => hq ⟨z.1, z.2.1⟩)
    · rfl
    · rfl
  exact kk A H1 locs1 ls ⟨hH, hR.2.1, hR.2.2.1, hS1⟩ hl ho.pop.pop.pop
theorem V_zast (g : GX E own cc nL d) {r : Nat} {i : Int32} {x : Int32} {s' : St} (hs : s' = sI s 13 r (ix i) (vp_nar .boolean x)) (hr : ¬ r = 0) (hb : inb i (gL s 13 r) = true) (hd : decode cc pc = .ok (.bastore, 1)) (kk : V E nL Q s' (pc + 1) lv st) : V E nL Q s pc lv (vI x :: vI i :: vR 13 r :: st) := by
  subst hs
  intro A H locs ls hR hl ho
  have hbd := ok_bd (k := 13) (by decide) ho.pop.pop.top
  obtain ⟨n, hn⟩ := WL_mem (G := E.G) (A := A) (s := s) (k := 13) (i := r) (by decide) (by omega) hbd
  have hn' := hn
  rw [en_13] at hn
  rw [List.map_cons, List.map_cons, List.map_cons, tr_nz hr]
  refine va_zast g.1 g.2.1 g.K hR.1.P hR.1.D hR.2.2.2 n 3 hn rfl (inb_in hb) hd (fun H1 locs1 hP1 _ hS1 => ?_)
  have hH : Hd E.G A (sI s 13 r (ix i) (vp_nar .boolean x)) H1 := by
    refine Hd.row hR.1 (by decide) (by decide) (by omega) hbd hn' rfl ⟨rfl, rfl⟩ ?_ (fun k' i' hq => ?_) (fun k' i' hq => ?_) (fun k' i' hq => ?_) rfl hR.1.2.2.2.1 hP1
    · have e1 : gI (sI s 13 r (ix i) (vp_nar .boolean x)) 13 r = upd (gI s 13 r) (ix i) (vp_nar .boolean x) := by
        funext m
        show (if 13 = 13 ∧ r = r ∧ m = ix i then _ else _) = if m = ix i then _ else _
        simp [gI, gJ]
      rw [en_13, e1]
      rfl
    · funext m
      exact if_neg (fun z => hq ⟨z.1, z.2.1⟩)
    · rfl
    · rfl
  exact kk A H1 locs1 ls ⟨hH, hR.2.1, hR.2.2.1, hS1⟩ hl ho.pop.pop.pop
theorem V_alen10 (g : GX E own cc nL d) {r : Nat} (hr : ¬ r = 0) (hd : decode cc pc = .ok (.arraylength, 1)) (kk : V E nL Q s (pc + 1) lv (vI (nI (gL s 10 r)) :: st)) : V E nL Q s pc lv (vR 10 r :: st) := by
  intro A H locs ls hR hl ho
  obtain ⟨n, hn⟩ := WL_mem (G := E.G) (A := A) (s := s) (k := 10) (i := r) (by decide) (by omega) (ok_bd (by decide) ho.top)
  rw [en_10] at hn
  rw [List.map_cons, tr_nz hr]
  exact va_alen (ty := .int) g.1 g.2.1 g.K hR.1.P n 0 hn rfl rfl hd (kk A H locs ls hR hl (okl.push trivial ho.pop))
theorem V_alen11 (g : GX E own cc nL d) {r : Nat} (hr : ¬ r = 0) (hd : decode cc pc = .ok (.arraylength, 1)) (kk : V E nL Q s (pc + 1) lv (vI (nI (gL s 11 r)) :: st)) : V E nL Q s pc lv (vR 11 r :: st) := by
  intro A H locs ls hR hl ho
  obtain ⟨n, hn⟩ := WL_mem (G := E.G) (A := A) (s := s) (k := 11) (i := r) (by decide) (by omega) (ok_bd (by decide) ho.top)
  rw [en_11] at hn
  rw [List.map_cons, tr_nz hr]
  exact va_alen (ty := .long) g.1 g.2.1 g.K hR.1.P n 1 hn rfl rfl hd (kk A H locs ls hR hl (okl.push trivial ho.pop))
theorem V_alen12 (g : GX E own cc nL d) {r : Nat} (hr : ¬ r = 0) (hd : decode cc pc = .ok (.arraylength, 1)) (kk : V E nL Q s (pc + 1) lv (vI (nI (gL s 12 r)) :: st)) : V E nL Q s pc lv (vR 12 r :: st) := by
  intro A H locs ls hR hl ho
  obtain ⟨n, hn⟩ := WL_mem (G := E.G) (A := A) (s := s) (k := 12) (i := r) (by decide) (by omega) (ok_bd (by decide) ho.top)
  rw [en_12] at hn
  rw [List.map_cons, tr_nz hr]
  exact va_alen (ty := .byte) g.1 g.2.1 g.K hR.1.P n 2 hn rfl rfl hd (kk A H locs ls hR hl (okl.push trivial ho.pop))
theorem V_alen13 (g : GX E own cc nL d) {r : Nat} (hr : ¬ r = 0) (hd : decode cc pc = .ok (.arraylength, 1)) (kk : V E nL Q s (pc + 1) lv (vI (nI (gL s 13 r)) :: st)) : V E nL Q s pc lv (vR 13 r :: st) := by
  intro A H locs ls hR hl ho
  obtain ⟨n, hn⟩ := WL_mem (G := E.G) (A := A) (s := s) (k := 13) (i := r) (by decide) (by omega) (ok_bd (by decide) ho.top)
  rw [en_13] at hn
  rw [List.map_cons, tr_nz hr]
  exact va_alen (ty := .boolean) g.1 g.2.1 g.K hR.1.P n 3 hn rfl rfl hd (kk A H locs ls hR hl (okl.push trivial ho.pop))
theorem V_alen14 (g : GX E own cc nL d) {r : Nat} (hr : ¬ r = 0) (hd : decode cc pc = .ok (.arraylength, 1)) (kk : V E nL Q s (pc + 1) lv (vI (nI (gL s 14 r)) :: st)) : V E nL Q s pc lv (vR 14 r :: st) := by
  intro A H locs ls hR hl ho
  obtain ⟨n, hn⟩ := WL_mem (G := E.G) (A := A) (s := s) (k := 14) (i := r) (by decide) (by omega) (ok_bd (by decide) ho.top)
  rw [en_14] at hn
  rw [List.map_cons, tr_nz hr]
  exact va_alen (ty := .object "ThinSeries$Series") g.1 g.2.1 g.K hR.1.P n 4 hn rfl rfl hd (kk A H locs ls hR hl (okl.push trivial ho.pop))
theorem V_alen15 (g : GX E own cc nL d) {r : Nat} (hr : ¬ r = 0) (hd : decode cc pc = .ok (.arraylength, 1)) (kk : V E nL Q s (pc + 1) lv (vI (nI (gL s 15 r)) :: st)) : V E nL Q s pc lv (vR 15 r :: st) := by
  intro A H locs ls hR hl ho
  obtain ⟨n, hn⟩ := WL_mem (G := E.G) (A := A) (s := s) (k := 15) (i := r) (by decide) (by omega) (ok_bd (by decide) ho.top)
  rw [en_15] at hn
  rw [List.map_cons, tr_nz hr]
  exact va_alen (ty := .object "java/lang/String") g.1 g.2.1 g.K hR.1.P n 5 hn rfl rfl hd (kk A H locs ls hR hl (okl.push trivial ho.pop))
theorem Hd.ref {G : GT} {A : AM} {s : St} {H H1 : Heap} (h : Hd G A s H) {k r n x m : Nat} (hk : k = 14 ∨ k = 15) (hr : 0 < r) (hn : r ≤ gN s k) (hp : (WL G A s)[n]? = some (A k r, en G A s k r)) (hx : x ≤ bd s (rt k m)) (hP : va_P G.2.1 vwCl ((WL G A s).set n (A k r, .inl (G.2.2.1 k, gL s k r, .inr (.inr (.inr (.inr (va_up (fun j => ro A (rt k 0) (gR s k r j)) m (ro A (rt k 0) x)))))))) H1) : Hd G A (sR s k r m x) H1 := by
  refine Hd.row h (by omega) (by omega) hr hn hp rfl ⟨rfl, rfl⟩ ?_ (fun k' i' hq => rfl) (fun k' i' hq => rfl) (fun k' i' hq => ?_) rfl (wt_sR hx h.2.2.2.1) hP
  · rw [en_arr (by omega), if_neg (by omega), if_pos (by omega)]
    refine congrArg (fun z => (Sum.inl (G.2.2.1 k, gL s k r, .inr (.inr (.inr (.inr z)))) : va_E)) ?_
    funext j
    show ro A (rt k 0) (if k = k ∧ r = r ∧ j = m then x else gR s k r j) = if j = m then ro A (rt k 0) x else ro A (rt k 0) (gR s k r j)
    by_cases hj : j = m
    · rw [if_pos ⟨rfl, rfl, hj⟩, if_pos hj]
    · rw [if_neg (fun z => hj z.2.2), if_neg hj]
  · funext m'
    exact if_neg (fun z => hq ⟨z.1, z.2.1⟩)
theorem V_sast (g : GX E own cc nL d) {r x : Nat} {i : Int32} {s' : St} (hs : s' = sR s 14 r (ix i) x) (hr : ¬ r = 0) (hx : ¬ x = 0) (hb : inb i (gL s 14 r) = true) (hd : decode cc pc = .ok (.aastore, 1)) (kk : V E nL Q s' (pc + 1) lv st) : V E nL Q s pc lv (vR 5 x :: vI i :: vR 14 r :: st) := by
  subst hs
  intro A H locs ls hR hl ho
  have hbd := ok_bd (k := 14) (by decide) ho.pop.pop.top
  have hbx := ok_bd (k := 5) (by decide) ho.top
  obtain ⟨n, hn⟩ := WL_mem (G := E.G) (A := A) (s := s) (k := 14) (i := r) (by decide) (by omega) hbd
  obtain ⟨nx, hnx⟩ := WL_mem (G := E.G) (A := A) (s := s) (k := 5) (i := x) (by decide) (by omega) hbx
  have hn' := hn
  rw [en_14] at hn
  rw [en_obj (by decide)] at hnx
  rw [List.map_cons, List.map_cons, List.map_cons, tr_nz hr, tr_nz hx]
  refine va_astq (r := (RX5, TX5, 11)) g.1 g.2.1 g.K hR.1.P hR.1.D hR.2.2.2 n 4 nx 5 hn rfl hnx rfl (inb_in hb) hd (fun H1 locs1 hP1 _ hS1 => ?_)
  have e1 : ro A 5 x = some (A 5 x) := if_neg hx
  have hH : Hd E.G A (sR s 14 r (ix i) x) H1 := Hd.ref hR.1 (Or.inl rfl) (by omega) hbd hn' ho.top (by rw [show rt 14 0 = 5 from rfl, e1]; exact hP1)
  exact kk A H1 locs1 ls ⟨hH, hR.2.1, hR.2.2.1, hS1⟩ hl ho.pop.pop.pop
theorem V_tast (g : GX E own cc nL d) {r x : Nat} {i : Int32} {s' : St} (hs : s' = sR s 15 r (ix i) x) (hr : ¬ r = 0) (hx : ¬ x = 0) (hx8 : x ≤ 38) (hb : inb i (gL s 15 r) = true) (hd : decode cc pc = .ok (.aastore, 1)) (kk : V E nL Q s' (pc + 1) lv st) : V E nL Q s pc lv (vR 16 x :: vI i :: vR 15 r :: st) := by
  subst hs
  intro A H locs ls hR hl ho
  have hbd := ok_bd (k := 15) (by decide) ho.pop.pop.top
  obtain ⟨n, hn⟩ := WL_mem (G := E.G) (A := A) (s := s) (k := 15) (i := r) (by decide) (by omega) hbd
  have hn' := hn
  rw [en_15] at hn
  rw [List.map_cons, List.map_cons, List.map_cons, tr_nz hr, tr_nz hx]
  have hA : A 16 x = E.G.2.2.2 16 x := by rw [hR.1.2.2.2.2 16 (by decide)]
  obtain ⟨cell, h1, h2, h3, -⟩ := (g.S x (by omega) hx8).1.kept hR.2.2.2.2.1
  obtain ⟨kC, hkC, -⟩ := Vm.findClass_spec h3
  have hany : va_Any "java/lang/String" E.s H (A 16 x) := by
    rw [hA]
    exact ⟨cell, h1, h2, ⟨kC, hkC⟩, fun comp h => by cases Option.some.inj (h.symm.trans h3); exact va_asg _ _⟩
  refine va_astqM g.1 g.2.1 g.K hR.1.P hR.1.D hR.2.2.2 n 5 hn rfl hany (inb_in hb) hd (fun H1 locs1 hP1 _ hS1 => ?_)
  have e1 : ro A 16 x = some (A 16 x) := if_neg hx
  have hH : Hd E.G A (sR s 15 r (ix i) x) H1 := Hd.ref hR.1 (Or.inr rfl) (by omega) hbd hn' ho.top (by rw [show rt 15 0 = 16 from rfl, e1]; exact hP1)
  exact kk A H1 locs1 ls ⟨hH, hR.2.1, hR.2.2.1, hS1⟩ hl ho.pop.pop.pop
end VARR
