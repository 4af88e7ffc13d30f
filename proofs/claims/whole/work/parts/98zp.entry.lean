/-! ===== the entry of the law: what the Statement gives, in the picture's words ===== -/
theorem zs_nw {w : Cond} (h : ng w = true) {A : Array Value} {s : State} (hw : w.before A s = true) : va_Nw w s := by
  match w, h, hw with
  | .castable _ _, _, hZ => exact hZ
  | .declares _, _, hZ => exact hZ
  | .methodLinkNest _ _ _ _, _, hZ => exact hZ
  | .arrayOver (.object _), _, hZ => exact hZ
theorem zs_prim {ty : FieldType} {A : Array Value} {s : State} (h : (Cond.arrayClass ty).before A s = true) : ∃ cA : ClassId, ArrOfT s cA ty ∧ s.vm.findClass ("[" ++ ty.toString) = some cA := by
  obtain ⟨cA, kA, comp, h1, h2, h3⟩ := Cond.arrayClass_spec h
  exact ⟨cA, fun n z => ⟨fun k h => (by cases h), kA, h2, comp, h3⟩, h1⟩
theorem zs_obj {C : String} {A : Array Value} {s : State} (h : (Cond.arrayOver (.object C)).before A s = true) : ∃ cA : ClassId, ArrOfT s cA (.object C) ∧ va_RA s cA (.object C) := by
  obtain ⟨comp, cA, kA, h1, -, h3, h4, h5⟩ := Cond.arrayOver_spec h
  exact ⟨cA, fun n z => ⟨fun k h => (by cases h), kA, h3, comp, h4⟩, kA, comp, h3, h4, h1, h5⟩
theorem zs_inst : vwCl.all (fun q => decide (Cond.instantiable q.1 q.2.2 ∈ lw_tbl)) = true := by decide +kernel
theorem zs_cls {A : Array Value} {s : State} (hts : ∀ w ∈ lw_tbl, w.before A s = true) : ∃ (dC : Nat → ClassId) (dI : Nat → Nat → Nat), ∀ (k : Nat) (q : vw_C), vwCl[k]? = some q → u_Kn s q.1 q.2.1 q.2.2 (dC k) (dI k) := by
  have h0 : ∀ k : Nat, ∃ d : ClassId × (Nat → Nat), ∀ q : vw_C, vwCl[k]? = some q → u_Kn s q.1 q.2.1 q.2.2 d.1 d.2 := by
    intro k
    cases hr : vwCl[k]? with
    | none =>
      obtain ⟨cA, -, -⟩ := zs_prim (hts (.arrayClass .int) (List.mem_of_getElem? (i := 207) (by decide +kernel)))
      exact ⟨(cA, fun _ => 0), fun q h => by cases h⟩
    | some r =>
      have h1 : Cond.instantiable r.1 r.2.2 ∈ lw_tbl := of_decide_eq_true (List.all_eq_true.mp zs_inst r (List.mem_of_getElem? hr))
      obtain ⟨c, iS, hK⟩ := u_known (C := r.1) (T := r.2.1) (N := r.2.2) (n := r.2.2) hts (fun w hw => (List.mem_filter.mp ((cl_all hr).2.2.1 w hw)).1) (hts _ h1)
      exact ⟨(c, iS), fun q h => by cases h; exact hK⟩
  obtain ⟨d, hd⟩ := Classical.axiomOfChoice h0
  exact ⟨fun k => (d k).1, fun k => (d k).2, fun k q h => hd k q h⟩
/-! the strings -/
def zs_F : List Cond := flatC (Jvm.Cond.and given_1 narrow_1)
def zs_ix : List Nat := [45, 79, 90, 98, 106, 115, 122, 131, 138, 147, 159, 167, 174, 180, 187, 195, 203, 219, 235, 253, 271, 282, 305, 320, 335, 345, 358, 366, 376, 385, 394, 403, 413, 421, 430, 439, 447, 455]
def zs_q (i : Nat) : String × Nat × String := strT.getD i ("", 0, "")
def zs_tm (i : Nat) : Term := .string (zs_q i).1 (zs_q i).2.1
def zs_tv (i : Nat) : Term := .field (zs_tm i) "java/lang/String" "value" "[B"
def zs_ok (i : Nat) : Bool := decide (zs_F[zs_ix.getD i 0]? = some (.exactly (zs_tm i) "java/lang/String")) && (decide (zs_F[zs_ix.getD i 0 + 1]? = some (.eq (.field (zs_tm i) "java/lang/String" "coder" "B") (.int 0))) && (decide (zs_F[zs_ix.getD i 0 + 2]? = some (.arrayOf (zs_tv i) .byte)) && (decide (zs_F[zs_ix.getD i 0 + 3]? = some (.eq (.length (zs_tv i)) (.int (Int32.ofNat (sL (i + 1)))))) && (List.range (sL (i + 1))).all fun j => decide (zs_F[zs_ix.getD i 0 + 4 + j]? = some (.eq (.elem (zs_tv i) (.int (Int32.ofNat j))) (.int (sB (i + 1) j)))))))
theorem zs_all : (List.range 38).all zs_ok = true := by decide +kernel
theorem zs_rows : strT.all (fun q => decide (Cond.stringRef q.1 q.2.1 q.2.2 ∈ lw_tbl)) = true := by decide +kernel
theorem zs_short : ∀ i : Nat, i < 38 → sL (i + 1) < 100 := by decide +kernel
theorem zs_str {args : Array Value} {s : State} {A : Nat → Prop} (hg : ∀ w ∈ zs_F, w.before args s = true) (hA : ∀ a : Nat, a < s.heap.size → ¬ A a) {i : Nat} (hi : i < 38) : ∃ q : Nat × Nat, (zs_tm i).eval args s none [] s = some (.ref q.1) ∧ va_O "java/lang/String" q.1 A s s.heap ∧ va_OF "java/lang/String" "coder" "B" (.int 0) q.1 A s s.heap ∧ va_OF "java/lang/String" "value" "[B" (.ref q.2) q.1 A s s.heap ∧ va_T .byte q.2 (sL (i + 1)) (fun k => .int (sB (i + 1) k)) A s s.heap := by
  have h := List.all_eq_true.mp zs_all i (List.mem_range.mpr hi)
  unfold zs_ok at h
  simp only [Bool.and_eq_true, decide_eq_true_eq, List.all_eq_true, List.mem_range] at h
  obtain ⟨h1, h2, h3, h4, h5⟩ := h
  have m : ∀ {k : Nat} {w : Cond}, zs_F[k]? = some w → w.before args s = true := fun e => hg _ (List.mem_of_getElem? e)
  obtain ⟨adK, adV, hS, ht⟩ := vk_Sof (args := args) (s := s) (N := 1) (tm := fun _ => zs_tm i) (len := [sL (i + 1)]) (byt := [strB.getD i []]) (A := A) (fun j hj => by
      obtain rfl : j = 0 := by omega
      exact Nat.lt_trans (zs_short i hi) (by decide)) (fun _ _ => m h1) (fun _ _ => m h2) (fun _ _ => m h3) (fun j hj => by
      obtain rfl : j = 0 := by omega
      exact m h4) (fun j hj n hn => by
      obtain rfl : j = 0 := by omega
      exact m (h5 n hn)) (fun j n hj hn hjn => absurd (show j = n by omega) hjn) hA
  obtain ⟨a1, a2, a3, a4⟩ := hS.1 0 (by omega)
  exact ⟨(adK 0, adV 0), ht 0 (by omega), a1, a2, a3, a4⟩
/-! the rows that the class holds as constants -/
theorem zs_row {args : Array Value} {s : State} {A : Nat → Prop} (hg : ∀ w ∈ zs_F, w.before args s = true) (hA : ∀ a : Nat, a < s.heap.size → ¬ A a) {i b : Nat} {n : String} (hk : kL i = 3) (h1 : zs_F[b]? = some (.arrayOf (.static "ThinSeries$Plan" n "[I") .int)) (h2 : zs_F[b + 1]? = some (.eq (.length (.static "ThinSeries$Plan" n "[I")) (.int 3))) (h3 : ∀ j : Nat, j < 3 → zs_F[b + 2 + j]? = some (.eq (.elem (.static "ThinSeries$Plan" n "[I") (.int (Int32.ofNat j))) (.int (kI i j)))) : ∃ t : Nat, (Term.static "ThinSeries$Plan" n "[I").eval args s none [] s = some (.ref t) ∧ va_T .int t (kL i) (fun k => .int (kI i k)) A s s.heap := by
  have m : ∀ {k : Nat} {w : Cond}, zs_F[k]? = some w → w.before args s = true := fun e => hg _ (List.mem_of_getElem? e)
  rw [hk]
  exact va_Tof (by decide) (m h1) (va_eqt (m h2)) (fun j hj => va_eqt (m (h3 j hj))) hA
theorem zs_r1 : ∀ j : Nat, j < 3 → zs_F[5 + 2 + j]? = some (.eq (.elem (.static "ThinSeries$Plan" "FIRST_SPANS" "[I") (.int (Int32.ofNat j))) (.int (kI 1 j))) := by decide +kernel
theorem zs_r2 : ∀ j : Nat, j < 3 → zs_F[11 + 2 + j]? = some (.eq (.elem (.static "ThinSeries$Plan" "FIRST_KEEPS" "[I") (.int (Int32.ofNat j))) (.int (kI 2 j))) := by decide +kernel
/-- all that is known at the entry -/
theorem zs_WK {args : Array Value} {s : State} {b : Nat} (hts : ∀ w ∈ lw_tbl, w.before args s = true) (hgv : (Jvm.Cond.and given_1 narrow_1).before args s = true) : ∃ G : GT, G.1 = s.heap.size ∧ G.2.2.2 19 1 = b ∧ WK G s := by
  have hg : ∀ w ∈ zs_F, w.before args s = true := flat_of_before _ hgv
  have hA : ∀ a : Nat, a < s.heap.size → ¬ (fun q : Nat => s.heap.size ≤ q) a := fun a h h' => absurd h (Nat.not_lt.mpr h')
  obtain ⟨dC, dI, hKc⟩ := zs_cls hts
  obtain ⟨c10, u10, v10⟩ := zs_prim (hts (.arrayClass .int) (List.mem_of_getElem? (i := 207) (by decide +kernel)))
  obtain ⟨c11, u11, v11⟩ := zs_prim (hts (.arrayClass .long) (List.mem_of_getElem? (i := 485) (by decide +kernel)))
  obtain ⟨c12, u12, v12⟩ := zs_prim (hts (.arrayClass .byte) (List.mem_of_getElem? (i := 166) (by decide +kernel)))
  obtain ⟨c13, u13, v13⟩ := zs_prim (hts (.arrayClass .boolean) (List.mem_of_getElem? (i := 1441) (by decide +kernel)))
  obtain ⟨c14, u14, v14⟩ := zs_obj (hts (.arrayOver (.object "ThinSeries$Series")) (List.mem_of_getElem? (i := 228) (by decide +kernel)))
  obtain ⟨c15, u15, v15⟩ := zs_obj (hts (.arrayOver (.object "java/lang/String")) (List.mem_of_getElem? (i := 1218) (by decide +kernel)))
  obtain ⟨ad, had⟩ := Classical.axiomOfChoice (show ∀ i : Nat, ∃ q : Nat × Nat, i < 38 → _ from fun i => by
    by_cases hi : i < 38
    · obtain ⟨q, hq⟩ := zs_str hg hA hi
      exact ⟨q, fun _ => hq⟩
    · exact ⟨(0, 0), fun h => absurd h hi⟩)
  obtain ⟨t1, e1, w1⟩ := zs_row (i := 1) (b := 5) (n := "FIRST_SPANS") hg hA (by decide +kernel) (by decide +kernel) (by decide +kernel) zs_r1
  obtain ⟨t2, e2, w2⟩ := zs_row (i := 2) (b := 11) (n := "FIRST_KEEPS") hg hA (by decide +kernel) (by decide +kernel) (by decide +kernel) zs_r2
  refine ⟨(s.heap.size, (dC, dI), (fun k => if k = 10 then c10 else if k = 11 then c11 else if k = 12 then c12 else if k = 13 then c13 else if k = 14 then c14 else c15), fun k i => if k = 16 then (ad (i - 1)).1 else if k = 18 then (ad (i - 1)).2 else if k = 17 then (if i = 1 then t1 else t2) else b), rfl, rfl, ⟨hKc, fun k q h => ?_⟩, fun j h0 hj => ?_, ⟨?_, ?_, ?_, fun i h0 hi => ?_, ?_, ?_, ?_⟩, fun w hw => ?_, va_Nc.of (hg _ (List.mem_of_getElem? (i := 43) (by decide +kernel)))⟩
  · match k, h with
    | 0, h => cases h; exact ⟨u10, v10⟩
    | 1, h => cases h; exact ⟨u11, v11⟩
    | 2, h => cases h; exact ⟨u12, v12⟩
    | 3, h => cases h; exact ⟨u13, v13⟩
    | 4, h => cases h; exact ⟨u14, v14⟩
    | 5, h => cases h; exact ⟨u15, v15⟩
    | k + 6, h => simp [tysL] at h
  · obtain ⟨a0, a1, a2, a3, a4⟩ := had (j - 1) (by omega)
    rw [show j - 1 + 1 = j by omega] at a4
    refine ⟨a1, a2, a3, a4, fun q hq => vk_R.of (hts _ (of_decide_eq_true (List.all_eq_true.mp zs_rows q (List.mem_of_getElem? hq)))) ?_⟩
    have e : zs_q (j - 1) = q := by
      unfold zs_q
      rw [List.getD_eq_getElem?_getD, hq]
      rfl
    unfold zs_tm at a0
    rw [e] at a0
    exact a0
  · exact va_Zof (hts _ (List.mem_of_getElem? (i := 727) (by decide +kernel))) (hts _ (List.mem_of_getElem? (i := 108) (by decide +kernel))) (va_eqi (hg _ (List.mem_of_getElem? (i := 18) (by decide +kernel)))) hA
  · exact va_Zof (hts _ (List.mem_of_getElem? (i := 283) (by decide +kernel))) (hts _ (List.mem_of_getElem? (i := 100) (by decide +kernel))) e1 hA
  · exact va_Zof (hts _ (List.mem_of_getElem? (i := 285) (by decide +kernel))) (hts _ (List.mem_of_getElem? (i := 100) (by decide +kernel))) e2 hA
  · rcases (show i = 1 ∨ i = 2 by omega) with rfl | rfl
    · exact w1
    · exact w2
  · exact vx_Zqof (hts _ (List.mem_of_getElem? (i := 643) (by decide +kernel))) (hts _ (List.mem_of_getElem? (i := 103) (by decide +kernel))) (hg _ (List.mem_of_getElem? (i := 16) (by decide +kernel))) hA
  · exact vx_Zqof (hts _ (List.mem_of_getElem? (i := 645) (by decide +kernel))) (hts _ (List.mem_of_getElem? (i := 103) (by decide +kernel))) (hg _ (List.mem_of_getElem? (i := 17) (by decide +kernel))) hA
  · exact va_Zqof (hts _ (List.mem_of_getElem? (i := 766) (by decide +kernel))) (hts _ (List.mem_of_getElem? (i := 111) (by decide +kernel))) (hg _ (List.mem_of_getElem? (i := 19) (by decide +kernel))) hA
  · exact zs_nw (List.mem_filter.mp hw).2 (hts _ (List.mem_filter.mp hw).1)
