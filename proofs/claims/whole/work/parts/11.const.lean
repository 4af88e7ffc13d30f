/-! ===== constants, nulls, copies ===== -/
section VCONST
variable {E : ET} {own : String} {cc : ByteArray} {nL d : Nat} {Q : State → Prop} {s : St} {pc : Nat} {lv : List (Nat × AV)} {st : List AV}
theorem tr_k {A : AM} {H : Heap} {locs : List Loc} (hR : Rl E A s H locs) {k i : Nat} (hk : 16 ≤ k) (hi : ¬ i = 0) : tr A (vR k i) = .ref (E.G.2.2.2 k i) := by
  rw [tr_nz hi, hR.1.2.2.2.2 k hk]
theorem V_ldcS (g : GX E own cc nL d) (j : Nat) {index : Nat} {tx : String} (hj : 0 < j ∧ j ≤ 38) (hq : strT[j - 1]? = some (own, index, tx)) (hd : decode cc pc = .ok (.ldc index, 2)) (kk : V E nL Q s (pc + 2) lv (vR 16 j :: st)) : V E nL Q s pc lv st := by
  intro A H locs ls hR hl ho
  have h := kk A H locs ls hR hl (okl.push (by show j ≤ bd s 16; exact hj.2) ho)
  rw [List.map_cons, tr_k hR (by decide) (by omega)] at h
  exact va_ldcS g.1 g.2.1 g.ow ((g.S j hj.1 hj.2).2.2.2.2 _ hq) hd h
theorem V_getsI (g : GX E own cc nL d) {index : Nat} (hw : Cond.fieldLink own index "java/lang/String" "COMPACT_STRINGS" "Z" ∈ tb) (hd : decode cc pc = .ok (.getstatic index, 3)) (kk : V E nL Q s (pc + 3) lv (vI 1 :: st)) : V E nL Q s pc lv st :=
  fun A H locs ls hR hl ho => va_gets g.1 g.2.1 g.Z.1 hR.2.2.2 g.ow (g.hts _ hw) (fun _ h => h) hd (kk A H locs ls hR hl (okl.push trivial ho))
theorem V_gets1 (g : GX E own cc nL d) {index : Nat} (hw : Cond.fieldLink own index "ThinSeries$Plan" "FIRST_SPANS" "[I" ∈ tb) (hd : decode cc pc = .ok (.getstatic index, 3)) (kk : V E nL Q s (pc + 3) lv (vR 17 1 :: st)) : V E nL Q s pc lv st := by
  intro A H locs ls hR hl ho
  have h := kk A H locs ls hR hl (okl.push (by show 1 ≤ bd s 17; exact Nat.le_of_ble_eq_true rfl) ho)
  rw [List.map_cons, tr_k hR (by decide) (by omega)] at h
  exact va_gets g.1 g.2.1 g.Z.2.1 hR.2.2.2 g.ow (g.hts _ hw) (fun _ h => h) hd h
theorem V_gets2 (g : GX E own cc nL d) {index : Nat} (hw : Cond.fieldLink own index "ThinSeries$Plan" "FIRST_KEEPS" "[I" ∈ tb) (hd : decode cc pc = .ok (.getstatic index, 3)) (kk : V E nL Q s (pc + 3) lv (vR 17 2 :: st)) : V E nL Q s pc lv st := by
  intro A H locs ls hR hl ho
  have h := kk A H locs ls hR hl (okl.push (by show 2 ≤ bd s 17; exact Nat.le_of_ble_eq_true rfl) ho)
  rw [List.map_cons, tr_k hR (by decide) (by omega)] at h
  exact va_gets g.1 g.2.1 g.Z.2.2.1 hR.2.2.2 g.ow (g.hts _ hw) (fun _ h => h) hd h
theorem V_getsO (g : GX E own cc nL d) {index : Nat} (hw : Cond.fieldLink own index "jdk/internal/util/Preconditions" "SIOOBE_FORMATTER" "Ljava/util/function/BiFunction;" ∈ tb) (hd : decode cc pc = .ok (.getstatic index, 3)) (kk : ∀ v : Value, V E nL Q s (pc + 3) lv (vO v :: st)) : V E nL Q s pc lv st := by
  intro A H locs ls hR hl ho
  rcases g.Z.2.2.2.2.2.2 with h | ⟨t, h⟩
  · exact va_gets g.1 g.2.1 h hR.2.2.2 g.ow (g.hts _ hw) (fun _ h => h) hd (kk _ A H locs ls hR hl (okl.push (show Value.category _ = 1 from rfl) ho))
  · exact va_gets g.1 g.2.1 h hR.2.2.2 g.ow (g.hts _ hw) (fun _ h => h) hd (kk _ A H locs ls hR hl (okl.push (show Value.category _ = 1 from rfl) ho))
theorem V_strV (g : GX E own cc nL d) {j index : Nat} (hj : ¬ j = 0) (hw : Cond.fieldLink own index "java/lang/String" "value" "[B" ∈ tb) (hd : decode cc pc = .ok (.getfield index, 3)) (kk : V E nL Q s (pc + 3) lv (vR 18 j :: st)) : V E nL Q s pc lv (vR 16 j :: st) := by
  intro A H locs ls hR hl ho
  have hj8 : j ≤ 38 := ho.top
  have h := kk A H locs ls hR hl (okl.push (by show j ≤ bd s 18; exact hj8) ho.pop)
  rw [List.map_cons, tr_k hR (by decide) hj] at h ⊢
  exact vk_getf g.1 g.2.1 (g.S j (by omega) hj8).2.2.1 hR.2.2.2 g.ow (g.hts _ hw) (fun _ h => h) hd h
theorem V_strC (g : GX E own cc nL d) {j index : Nat} (hj : ¬ j = 0) (hw : Cond.fieldLink own index "java/lang/String" "coder" "B" ∈ tb) (hd : decode cc pc = .ok (.getfield index, 3)) (kk : V E nL Q s (pc + 3) lv (vI 0 :: st)) : V E nL Q s pc lv (vR 16 j :: st) := by
  intro A H locs ls hR hl ho
  have hj8 : j ≤ 38 := ho.top
  have h := kk A H locs ls hR hl (okl.push trivial ho.pop)
  rw [List.map_cons, tr_k hR (by decide) hj]
  exact vk_getf g.1 g.2.1 (g.S j (by omega) hj8).2.1 hR.2.2.2 g.ow (g.hts _ hw) (fun _ h => h) hd h
theorem V_bald18 (g : GX E own cc nL d) {j : Nat} {i : Int32} (hj : ¬ j = 0) (hb : inb i (sL j) = true) (hd : decode cc pc = .ok (.baload, 1)) (kk : V E nL Q s (pc + 1) lv (vI (sB j (ix i)) :: st)) : V E nL Q s pc lv (vI i :: vR 18 j :: st) := by
  intro A H locs ls hR hl ho
  have hj8 : j ≤ 38 := ho.pop.top
  rw [List.map_cons, List.map_cons, tr_k hR (by decide) hj]
  exact va_tb g.1 g.2.1 (g.S j (by omega) hj8).2.2.2.1 hR.2.2.2 (inb_in hb) rfl hd (kk A H locs ls hR hl (okl.push trivial ho.pop.pop))
theorem V_alen18 (g : GX E own cc nL d) {j : Nat} (hj : ¬ j = 0) (hd : decode cc pc = .ok (.arraylength, 1)) (kk : V E nL Q s (pc + 1) lv (vI (nI (sL j)) :: st)) : V E nL Q s pc lv (vR 18 j :: st) := by
  intro A H locs ls hR hl ho
  have hj8 : j ≤ 38 := ho.top
  rw [List.map_cons, tr_k hR (by decide) hj]
  exact va_tlen g.1 g.2.1 (g.S j (by omega) hj8).2.2.2.1 hR.2.2.2 rfl hd (kk A H locs ls hR hl (okl.push trivial ho.pop))
theorem V_iald17 (g : GX E own cc nL d) {j : Nat} {i : Int32} (hj : 0 < j ∧ j ≤ 2) (hb : inb i (kL j) = true) (hd : decode cc pc = .ok (.iaload, 1)) (kk : V E nL Q s (pc + 1) lv (vI (kI j (ix i)) :: st)) : V E nL Q s pc lv (vI i :: vR 17 j :: st) := by
  intro A H locs ls hR hl ho
  rw [List.map_cons, List.map_cons, tr_k hR (by decide) (by omega)]
  exact va_ti g.1 g.2.1 (g.Z.2.2.2.1 j hj.1 hj.2) hR.2.2.2 (inb_in hb) rfl hd (kk A H locs ls hR hl (okl.push trivial ho.pop.pop))
theorem V_alen17 (g : GX E own cc nL d) {j : Nat} (hj : 0 < j ∧ j ≤ 2) (hd : decode cc pc = .ok (.arraylength, 1)) (kk : V E nL Q s (pc + 1) lv (vI (nI (kL j)) :: st)) : V E nL Q s pc lv (vR 17 j :: st) := by
  intro A H locs ls hR hl ho
  rw [List.map_cons, tr_k hR (by decide) (by omega)]
  exact va_tlen g.1 g.2.1 (g.Z.2.2.2.1 j hj.1 hj.2) hR.2.2.2 rfl hd (kk A H locs ls hR hl (okl.push trivial ho.pop))
/-- the script -/
theorem V_sld (g : GX E own cc nL d) {L : Nat} {xs : Nat → Int32} (hX : va_X (E.G.2.2.2 19 1) L xs E.s E.s.heap) (hb0 : E.G.2.2.2 19 1 < E.G.1) {i : Int32} (hb : inb i L = true) (hd : decode cc pc = .ok (.iaload, 1)) (kk : V E nL Q s (pc + 1) lv (vI (xs (ix i)) :: st)) : V E nL Q s pc lv (vI i :: vR 19 1 :: st) := by
  intro A H locs ls hR hl ho
  rw [List.map_cons, List.map_cons, tr_k hR (by decide) (by omega)]
  exact va_sld g.1 g.2.1 hX (Nat.lt_of_lt_of_le hb0 g.2.2.2.2.2.2.2.2.1) (Nat.not_le.mpr hb0) hR.2.2.2 (inb_in hb) hd (kk A H locs ls hR hl (okl.push trivial ho.pop.pop))
theorem V_slen (g : GX E own cc nL d) {L : Nat} {xs : Nat → Int32} (hX : va_X (E.G.2.2.2 19 1) L xs E.s E.s.heap) (hb0 : E.G.2.2.2 19 1 < E.G.1) (hd : decode cc pc = .ok (.arraylength, 1)) (kk : V E nL Q s (pc + 1) lv (vI (nI L) :: st)) : V E nL Q s pc lv (vR 19 1 :: st) := by
  intro A H locs ls hR hl ho
  rw [List.map_cons, tr_k hR (by decide) (by omega)]
  exact va_slen g.1 g.2.1 hX (Nat.lt_of_lt_of_le hb0 g.2.2.2.2.2.2.2.2.1) (Nat.not_le.mpr hb0) hR.2.2.2 hd (kk A H locs ls hR hl (okl.push trivial ho.pop))
theorem V_ifnonnull (g : GX E own cc nL d) {k i : Nat} {off : Int} (tgt : Nat) (hd : decode cc pc = .ok (.ifnonnull off, 3)) (ht : (pc : Int) + off = (tgt : Int)) (kt : ¬ i = 0 → V E nL Q s tgt lv st) (kf : i = 0 → V E nL Q s (pc + 3) lv st) : V E nL Q s pc lv (vR k i :: st) := by
  intro A H locs ls hR hl ho
  by_cases hi : i = 0
  · subst hi
    exact lv_ifnonnullN g.1 g.2.1 hd (kf rfl A H locs ls hR hl ho.pop)
  · rw [List.map_cons, tr_nz hi]
    exact lv_ifnonnull g.1 g.2.1 hd ht (kt hi A H locs ls hR hl ho.pop)
/-! copies -/
def cpb (p n : Int32) (z : Nat) : Bool := decide (0 ≤ p.toInt ∧ 0 ≤ n.toInt ∧ p.toInt + n.toInt ≤ (z : Int))
theorem cpb_n {p n : Int32} {z : Nat} (h : cpb p n z = true) : ¬ p < 0 ∧ ¬ n < 0 ∧ ix p + ix n ≤ z := by
  have h1 := of_decide_eq_true h
  have q1 : ix p = p.toInt.toNat := rfl
  have q2 : ix n = n.toInt.toNat := rfl
  refine ⟨fun z => ?_, fun z => ?_, by omega⟩
  · have := Int32.lt_iff_toInt_lt.mp z
    simp at this
    omega
  · have := Int32.lt_iff_toInt_lt.mp z
    simp at this
    omega
theorem cats {A : AM} : ∀ st : List AV, (∀ v ∈ st, okv s v) → ((st.map (tr A)).map fun v => v.category).sum = (st.map cat).sum := by
  intro st
  induction st with
  | nil => intro _; rfl
  | cons v st ih =>
    intro h
    rw [List.map_cons, List.map_cons, List.map_cons, List.sum_cons, List.sum_cons, ih (fun w hw => h w (List.mem_cons_of_mem _ hw)), tr_cat (h v List.mem_cons_self)]
theorem V_copy10 (g : GX E own cc nL d) {a b index : Nat} {sp dp n : Int32} {s' : St} (hs : s' = wI s 10 b (va_cpy (gI s 10 a) (gI s 10 b) (ix sp) (ix dp) (ix n))) (hd1 : 0 < d) (ha : ¬ a = 0) (hb : ¬ b = 0) (h1 : cpb sp n (gL s 10 a) = true) (h2 : cpb dp n (gL s 10 b) = true) (hw1 : Cond.methodLink own index arraycopyName ∈ tb) (hw2 : Cond.native arraycopyName ∈ tb) (hw3 : Cond.static arraycopyName ∈ tb) (hw4 : Cond.initialized "java/lang/System" ∈ tb) (hct : (st.map cat).sum ≤ 8) (hd : decode cc pc = .ok (.invokestatic index, 3)) (kk : V E nL Q s' (pc + 3) lv st) : V E nL Q s pc lv (vI n :: vI dp :: vR 10 b :: vI sp :: vR 10 a :: st) := by
  subst hs
  intro A H locs ls hR hl ho
  have hbb := ok_bd (k := 10) (by decide) ho.pop.pop.top
  have hba := ok_bd (k := 10) (by decide) ho.pop.pop.pop.pop.top
  obtain ⟨n0, hn0⟩ := WL_mem (G := E.G) (A := A) (s := s) (k := 10) (i := a) (by decide) (by omega) hba
  obtain ⟨n1, hn1⟩ := WL_mem (G := E.G) (A := A) (s := s) (k := 10) (i := b) (by decide) (by omega) hbb
  have hn' := hn1
  rw [en_10] at hn0 hn1
  obtain ⟨p1, p2, p3⟩ := cpb_n h1
  obtain ⟨p4, -, p5⟩ := cpb_n h2
  have hfr := g.frs
  have hlo := g.los
  have hcs := cats (A := A) st ho.pop.pop.pop.pop.pop.2
  have hnw : nativeFrameWords "java/lang/System" "arraycopy" 5 + 11 ≤ 32 := by decide
  rw [List.map_cons, List.map_cons, List.map_cons, List.map_cons, List.map_cons, tr_nz ha, tr_nz hb]
  refine va_copyi (ty := .int) g.1 g.2.1 (g.2.2.1.trans hl.1.symm) g.ow (g.hts _ hw1) (g.hts _ hw2) (g.hts _ hw3) (g.hts _ hw4) g.K hR.1.P hR.1.D hR.2.2.2 n0 n1 0 0 hn0 hn1 rfl rfl rfl p1 p4 p2 p3 p5 (fun _ _ => rfl) (by omega) (by omega) hd (fun H1 locs1 hP1 _ hS1 => ?_)
  have hH : Hd E.G A (wI s 10 b (va_cpy (gI s 10 a) (gI s 10 b) (ix sp) (ix dp) (ix n))) H1 := by
    refine Hd.row hR.1 (by decide) (by decide) (by omega) hbb hn' rfl ⟨rfl, rfl⟩ ?_ (fun k' i' hq => if_neg hq) (fun k' i' hq => rfl) (fun k' i' hq => rfl) rfl hR.1.2.2.2.1 hP1
    rw [en_10, show gI (wI s 10 b (va_cpy (gI s 10 a) (gI s 10 b) (ix sp) (ix dp) (ix n))) 10 b = va_cpy (gI s 10 a) (gI s 10 b) (ix sp) (ix dp) (ix n) from if_pos ⟨rfl, rfl⟩]
    rfl
  exact kk A H1 locs1 ls ⟨hH, hR.2.1, hR.2.2.1, hS1⟩ hl ho.pop.pop.pop.pop.pop
theorem V_copy11 (g : GX E own cc nL d) {a b index : Nat} {sp dp n : Int32} {s' : St} (hs : s' = wJ s 11 b (va_cpy (gJ s 11 a) (gJ s 11 b) (ix sp) (ix dp) (ix n))) (hd1 : 0 < d) (ha : ¬ a = 0) (hb : ¬ b = 0) (h1 : cpb sp n (gL s 11 a) = true) (h2 : cpb dp n (gL s 11 b) = true) (hw1 : Cond.methodLink own index arraycopyName ∈ tb) (hw2 : Cond.native arraycopyName ∈ tb) (hw3 : Cond.static arraycopyName ∈ tb) (hw4 : Cond.initialized "java/lang/System" ∈ tb) (hct : (st.map cat).sum ≤ 8) (hd : decode cc pc = .ok (.invokestatic index, 3)) (kk : V E nL Q s' (pc + 3) lv st) : V E nL Q s pc lv (vI n :: vI dp :: vR 11 b :: vI sp :: vR 11 a :: st) := by
  subst hs
  intro A H locs ls hR hl ho
  have hbb := ok_bd (k := 11) (by decide) ho.pop.pop.top
  have hba := ok_bd (k := 11) (by decide) ho.pop.pop.pop.pop.top
  obtain ⟨n0, hn0⟩ := WL_mem (G := E.G) (A := A) (s := s) (k := 11) (i := a) (by decide) (by omega) hba
  obtain ⟨n1, hn1⟩ := WL_mem (G := E.G) (A := A) (s := s) (k := 11) (i := b) (by decide) (by omega) hbb
  have hn' := hn1
  rw [en_11] at hn0 hn1
  obtain ⟨p1, p2, p3⟩ := cpb_n h1
  obtain ⟨p4, -, p5⟩ := cpb_n h2
  have hfr := g.frs
  have hlo := g.los
  have hcs := cats (A := A) st ho.pop.pop.pop.pop.pop.2
  have hnw : nativeFrameWords "java/lang/System" "arraycopy" 5 + 11 ≤ 32 := by decide
  rw [List.map_cons, List.map_cons, List.map_cons, List.map_cons, List.map_cons, tr_nz ha, tr_nz hb]
  refine va_copyl (ty := .long) g.1 g.2.1 (g.2.2.1.trans hl.1.symm) g.ow (g.hts _ hw1) (g.hts _ hw2) (g.hts _ hw3) (g.hts _ hw4) g.K hR.1.P hR.1.D hR.2.2.2 n0 n1 1 1 hn0 hn1 rfl rfl rfl p1 p4 p2 p3 p5 (fun _ _ => rfl) (by omega) (by omega) hd (fun H1 locs1 hP1 _ hS1 => ?_)
  have hH : Hd E.G A (wJ s 11 b (va_cpy (gJ s 11 a) (gJ s 11 b) (ix sp) (ix dp) (ix n))) H1 := by
    refine Hd.row hR.1 (by decide) (by decide) (by omega) hbb hn' rfl ⟨rfl, rfl⟩ ?_ (fun k' i' hq => rfl) (fun k' i' hq => if_neg hq) (fun k' i' hq => rfl) rfl hR.1.2.2.2.1 hP1
    rw [en_11, show gJ (wJ s 11 b (va_cpy (gJ s 11 a) (gJ s 11 b) (ix sp) (ix dp) (ix n))) 11 b = va_cpy (gJ s 11 a) (gJ s 11 b) (ix sp) (ix dp) (ix n) from if_pos ⟨rfl, rfl⟩]
    rfl
  exact kk A H1 locs1 ls ⟨hH, hR.2.1, hR.2.2.1, hS1⟩ hl ho.pop.pop.pop.pop.pop
end VCONST
