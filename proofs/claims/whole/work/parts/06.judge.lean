/-! ===== the judgement: the machine at pc, with locals and stack by the picture ===== -/
def tb : List Cond := lw_tbl.filter goodWord
theorem tb_at {w : Cond} (i : Nat) (h : lw_tbl[i]? = some w ∧ goodWord w = true) : w ∈ tb := List.mem_filter.mpr ⟨List.mem_of_getElem? h.1, h.2⟩
theorem tb_good : GoodIn tb tb := fun w h => ⟨h, good_of_word (List.mem_filter.mp h).2⟩
/-! ===== the constants ===== -/
def strT : List (String × Nat × String) := [("ThinSeries", 106, "the tape has not so many bytes"), ("ThinSeries$Tokens", 58, ";-()<=>"), ("ThinSeries$PlanReader", 44, "tier"), ("ThinSeries$PlanReader", 53, "most"), ("ThinSeries$PlanReader", 67, "alarm"), ("ThinSeries$PlanReader", 111, "not"), ("ThinSeries$PlanReader", 131, "count"), ("ThinSeries$PlanReader", 135, "sum"), ("ThinSeries$PlanReader", 137, "least"), ("ThinSeries$PlanReader", 139, "greatest"), ("ThinSeries$PlanReader", 141, "mean"), ("ThinSeries$PlanReader", 104, "and"), ("ThinSeries$PlanReader", 109, "or"), ("ThinSeries$BatchReader", 70, "put"), ("ThinSeries$BatchReader", 76, "tick"), ("ThinSeries$BatchReader", 78, "drop"), ("ThinSeries", 210, "no such what"), ("ThinSeries", 343, "no such tier"), ("ThinSeries", 222, "no such series"), ("ThinSeries", 259, "no such bucket"), ("ThinSeries", 265, "no time"), ("ThinSeries", 277, "no stretch of times"), ("ThinSeries", 296, "no such gap"), ("ThinSeries", 301, "no such bar"), ("ThinSeriesModel", 9, "least"), ("ThinSeriesModel", 11, "greatest"), ("ThinSeriesModel", 13, "sum"), ("ThinSeriesModel", 15, "count"), ("ThinSeriesModel", 17, "mean"), ("ThinSeriesModel", 19, "tier"), ("ThinSeriesModel", 27, "most"), ("ThinSeriesModel", 29, "alarm"), ("ThinSeriesModel", 34, "put"), ("ThinSeriesModel", 36, "tick"), ("ThinSeriesModel", 38, "drop"), ("ThinSeriesModel", 221, "not"), ("ThinSeriesModel", 243, "and"), ("ThinSeriesModel", 248, "or")]
def strB : List (List Int32) := [[116, 104, 101, 32, 116, 97, 112, 101, 32, 104, 97, 115, 32, 110, 111, 116, 32, 115, 111, 32, 109, 97, 110, 121, 32, 98, 121, 116, 101, 115], [59, 45, 40, 41, 60, 61, 62], [116, 105, 101, 114], [109, 111, 115, 116], [97, 108, 97, 114, 109], [110, 111, 116], [99, 111, 117, 110, 116], [115, 117, 109], [108, 101, 97, 115, 116], [103, 114, 101, 97, 116, 101, 115, 116], [109, 101, 97, 110], [97, 110, 100], [111, 114], [112, 117, 116], [116, 105, 99, 107], [100, 114, 111, 112], [110, 111, 32, 115, 117, 99, 104, 32, 119, 104, 97, 116], [110, 111, 32, 115, 117, 99, 104, 32, 116, 105, 101, 114], [110, 111, 32, 115, 117, 99, 104, 32, 115, 101, 114, 105, 101, 115], [110, 111, 32, 115, 117, 99, 104, 32, 98, 117, 99, 107, 101, 116], [110, 111, 32, 116, 105, 109, 101], [110, 111, 32, 115, 116, 114, 101, 116, 99, 104, 32, 111, 102, 32, 116, 105, 109, 101, 115], [110, 111, 32, 115, 117, 99, 104, 32, 103, 97, 112], [110, 111, 32, 115, 117, 99, 104, 32, 98, 97, 114], [108, 101, 97, 115, 116], [103, 114, 101, 97, 116, 101, 115, 116], [115, 117, 109], [99, 111, 117, 110, 116], [109, 101, 97, 110], [116, 105, 101, 114], [109, 111, 115, 116], [97, 108, 97, 114, 109], [112, 117, 116], [116, 105, 99, 107], [100, 114, 111, 112], [110, 111, 116], [97, 110, 100], [111, 114]]
def sL (j : Nat) : Nat := (strB.getD (j - 1) []).length
def sB (j k : Nat) : Int32 := (strB.getD (j - 1) []).getD k 0
def kcL : List (List Int32) := [[10, 60, 300], [6, 5, 4]]
def kL (i : Nat) : Nat := (kcL.getD (i - 1) []).length
def kI (i k : Nat) : Int32 := (kcL.getD (i - 1) []).getD k 0
abbrev fr (G : GT) : Nat → Prop := fun q => G.1 ≤ q
def SF (G : GT) (U : State) : Prop := ∀ j : Nat, 0 < j → j ≤ 38 → va_O "java/lang/String" (G.2.2.2 16 j) (fr G) U U.heap ∧ va_OF "java/lang/String" "coder" "B" (.int 0) (G.2.2.2 16 j) (fr G) U U.heap ∧ va_OF "java/lang/String" "value" "[B" (.ref (G.2.2.2 18 j)) (G.2.2.2 16 j) (fr G) U U.heap ∧
  va_T .byte (G.2.2.2 18 j) (sL j) (fun k => .int (sB j k)) (fr G) U U.heap ∧ ∀ q, strT[j - 1]? = some q → vk_R q.1 q.2.1 q.2.2 (G.2.2.2 16 j) U
def ZF (G : GT) (U : State) : Prop := va_Z "java/lang/String" "COMPACT_STRINGS" "Z" (.int 1) (fr G) U U.heap ∧ va_Z "ThinSeries$Plan" "FIRST_SPANS" "[I" (.ref (G.2.2.2 17 1)) (fr G) U U.heap ∧ va_Z "ThinSeries$Plan" "FIRST_KEEPS" "[I" (.ref (G.2.2.2 17 2)) (fr G) U U.heap ∧
  (∀ i : Nat, 0 < i → i ≤ 2 → va_T .int (G.2.2.2 17 i) (kL i) (fun k => .int (kI i k)) (fr G) U U.heap) ∧ vx_Zq Bundle.tN "UNASSIGNED_STACK" Bundle.steD (fr G) U U.heap ∧ vx_Zq Bundle.tN "SUPPRESSED_SENTINEL" Bundle.listD (fr G) U U.heap ∧
  va_Zq "jdk/internal/util/Preconditions" "SIOOBE_FORMATTER" "Ljava/util/function/BiFunction;" (fr G) U U.heap
/-- what is known of the tables and of the constants, at a method's start -/
def ng (w : Cond) : Bool := match w with
  | .castable _ _ => true
  | .declares _ => true
  | .methodLinkNest _ _ _ _ => true
  | .arrayOver (.object _) => true
  | _ => false
def nwL : List Cond := lw_tbl.filter ng
theorem nw_at {w : Cond} (i : Nat) (h : lw_tbl[i]? = some w ∧ ng w = true) : w ∈ nwL := List.mem_filter.mpr ⟨List.mem_of_getElem? h.1, h.2⟩
def WK (G : GT) (U : State) : Prop := va_K G.2.1 vwCl (tysL G) U ∧ SF G U ∧ ZF G U ∧ (∀ w ∈ nwL, va_Nw w U) ∧ va_Nc "java/lang/IllegalArgumentException" "java/util/NoSuchElementException" U
theorem nw_warm {w : Cond} (h : ng w = true) {s U : State} (hW : s.WarmedH U.vm) (hZ : va_Nw w s) : va_Nw w U := by
  match w, h, hZ with
  | .castable _ _, _, hZ => exact va_Nw.warmC hW hZ
  | .declares _, _, hZ => exact va_Nw.warmD hW hZ
  | .methodLinkNest _ _ _ _, _, hZ => exact va_Nw.warmM hW hZ
  | .arrayOver (.object _), _, hZ => exact va_AO.moved hW.alike hZ
abbrev ET.p (E : ET) : Program := E.1
abbrev ET.l (E : ET) : Launch := E.2.1
abbrev ET.e (E : ET) : Env := E.2.2.1
abbrev ET.R (E : ET) : Room := E.2.2.2.1
abbrev ET.s (E : ET) : State := E.2.2.2.2.1
abbrev ET.m (E : ET) : MethodId := E.2.2.2.2.2.1
abbrev ET.args (E : ET) : Array Value := E.2.2.2.2.2.2.1
abbrev ET.below (E : ET) : List Frame := E.2.2.2.2.2.2.2.1
abbrev ET.meth (E : ET) : Method := E.2.2.2.2.2.2.2.2.1
abbrev ET.c (E : ET) : Code := E.2.2.2.2.2.2.2.2.2.1
abbrev ET.G (E : ET) : GT := E.2.2.2.2.2.2.2.2.2.2.1
abbrev ET.s0 (E : ET) : St := E.2.2.2.2.2.2.2.2.2.2.2.1
abbrev ET.A0 (E : ET) : AM := E.2.2.2.2.2.2.2.2.2.2.2.2
def Rl (E : ET) (A : AM) (s : St) (H : Heap) (locs : List Loc) : Prop := Hd E.G A s H ∧ Ex E.s0 E.A0 A ∧ ls2 E.s0 s ∧ va_S (fr E.G) E.s.heap H locs
def Vw (E : ET) (Q : State → Prop) (A : AM) (s : St) (H : Heap) (locs : List Loc) (g : JFrame) : Prop := W E.p E.l E.e E.R E.s E.m E.args E.below E.meth E.c H locs (cn s - cn E.s0) (sn s - sn E.s0) Q g
def V (E : ET) (nL : Nat) (Q : State → Prop) (s : St) (pc : Nat) (lv : List (Nat × AV)) (st : List AV) : Prop :=
  ∀ (A : AM) (H : Heap) (locs : List Loc) (ls : Array Slot), Rl E A s H locs → lv_has ls nL (lv.map fun q => (q.1, tr A q.2)) → okl s lv st →
    W E.p E.l E.e E.R E.s E.m E.args E.below E.meth E.c H locs (cn s - cn E.s0) (sn s - sn E.s0) Q (F0 E.m pc ls (st.map (tr A)))
def GX (E : ET) (own : String) (cc : ByteArray) (nL d : Nat) : Prop :=
  E.p.tables.exec = Jvm.exec ∧ E.c.code = cc ∧ E.c.maxLocals = nL ∧ E.s.vm.findClass own = some E.m.cls ∧ (∀ w ∈ tb, w.before E.args E.s = true) ∧ E.meth.locks = false ∧ E.l.stackTraces = false ∧ WK E.G E.s ∧ E.G.1 ≤ E.s.heap.size ∧ d ≤ E.R.frames ∧ 40 * d ≤ E.R.locals ∧ E.R.cells = 601024 - cn E.s0 ∧ E.R.slots = 7293034 - sn E.s0
section VSIMPLE
variable {E : ET} {own : String} {cc : ByteArray} {nL d : Nat} {Q : State → Prop} {s : St} {pc : Nat} {lv : List (Nat × AV)} {st : List AV}
theorem GX.exec (g : GX E own cc nL d) : E.p.tables.exec = Jvm.exec := g.1
theorem GX.bytes (g : GX E own cc nL d) : E.c.code = cc := g.2.1
theorem GX.ow (g : GX E own cc nL d) : E.s.vm.findClass own = some E.m.cls := g.2.2.2.1
theorem GX.K (g : GX E own cc nL d) : va_K E.G.2.1 vwCl (tysL E.G) E.s := g.2.2.2.2.2.2.2.1.1
theorem GX.S (g : GX E own cc nL d) : SF E.G E.s := g.2.2.2.2.2.2.2.1.2.1
theorem GX.Z (g : GX E own cc nL d) : ZF E.G E.s := g.2.2.2.2.2.2.2.1.2.2.1
theorem GX.N (g : GX E own cc nL d) : ∀ w ∈ nwL, va_Nw w E.s := g.2.2.2.2.2.2.2.1.2.2.2.1
theorem GX.frs (g : GX E own cc nL d) : d ≤ E.R.frames := g.2.2.2.2.2.2.2.2.2.1
theorem GX.los (g : GX E own cc nL d) : 40 * d ≤ E.R.locals := g.2.2.2.2.2.2.2.2.2.2.1
theorem GX.cls (g : GX E own cc nL d) : E.R.cells = 601024 - cn E.s0 := g.2.2.2.2.2.2.2.2.2.2.2.1
theorem GX.sls (g : GX E own cc nL d) : E.R.slots = 7293034 - sn E.s0 := g.2.2.2.2.2.2.2.2.2.2.2.2
theorem GX.hts (g : GX E own cc nL d) : ∀ w ∈ tb, w.before E.args E.s = true := g.2.2.2.2.1
theorem lv_get {A : AM} {ls : Array Slot} (hl : lv_has ls nL (lv.map fun q => (q.1, tr A q.2))) {n i : Nat} {v : AV} (hp : lv[n]? = some (i, v)) : ls[i]? = some (.val (tr A v)) :=
  hl.2.2 (i, tr A v) (List.mem_map.mpr ⟨_, List.mem_of_getElem? hp, rfl⟩)
/-- a weaker list of locals, or another order -/
theorem V_sub (lv' : List (Nat × AV)) (ps : List Nat) (h : ps.filterMap (fun i => lv[i]?) = lv') (k : V E nL Q s pc lv' st) : V E nL Q s pc lv st := by
  intro A H locs ls hR hl ho
  have hm : ∀ q ∈ lv', q ∈ lv := by
    intro q hq
    rw [← h] at hq
    obtain ⟨i, -, hi⟩ := List.mem_filterMap.mp hq
    exact List.mem_of_getElem? hi
  refine k A H locs ls hR ⟨hl.1, hl.2.1, fun q hq => ?_⟩ ⟨fun q hq => ho.1 q (hm q hq), ho.2⟩
  obtain ⟨q0, h0, rfl⟩ := List.mem_map.mp hq
  exact hl.2.2 _ (List.mem_map.mpr ⟨q0, hm q0 h0, rfl⟩)
theorem V_iconst (g : GX E own cc nL d) {n : Int} {v : Int32} (hd : decode cc pc = .ok (.iconst n, 1)) (hv : Int32.ofInt n = v) (k : V E nL Q s (pc + 1) lv (vI v :: st)) : V E nL Q s pc lv st :=
  fun A H locs ls hR hl ho => lv_iconst g.1 g.2.1 hd hv (k A H locs ls hR hl (okl.push trivial ho))
theorem V_bipush (g : GX E own cc nL d) {n : Int} {v : Int32} (hd : decode cc pc = .ok (.bipush n, 2)) (hv : (Int8.ofInt n).toInt32 = v) (k : V E nL Q s (pc + 2) lv (vI v :: st)) : V E nL Q s pc lv st :=
  fun A H locs ls hR hl ho => lv_bipush g.1 g.2.1 hd hv (k A H locs ls hR hl (okl.push trivial ho))
theorem V_lconst (g : GX E own cc nL d) {n : Fin 2} {v : Int64} (hd : decode cc pc = .ok (.lconst n, 1)) (hv : Int64.ofNat (n : Nat) = v) (k : V E nL Q s (pc + 1) lv (vJ v :: st)) : V E nL Q s pc lv st :=
  fun A H locs ls hR hl ho => lv_lconst g.1 g.2.1 hd hv (k A H locs ls hR hl (okl.push trivial ho))
theorem V_iload_n (g : GX E own cc nL d) {k : Fin 4} {x : Int32} (n : Nat) (hd : decode cc pc = .ok (.iload_n k, 1)) (hp : lv[n]? = some ((k : Nat), vI x)) (kk : V E nL Q s (pc + 1) lv (vI x :: st)) : V E nL Q s pc lv st :=
  fun A H locs ls hR hl ho => lv_iload_n g.1 g.2.1 hd rfl (lv_get hl hp) (kk A H locs ls hR hl (okl.push trivial ho))
theorem V_iload (g : GX E own cc nL d) {i : Nat} {x : Int32} (n : Nat) (hd : decode cc pc = .ok (.iload i, 2)) (hp : lv[n]? = some (i, vI x)) (kk : V E nL Q s (pc + 2) lv (vI x :: st)) : V E nL Q s pc lv st :=
  fun A H locs ls hR hl ho => lv_iload g.1 g.2.1 hd (lv_get hl hp) (kk A H locs ls hR hl (okl.push trivial ho))
theorem V_lload_n (g : GX E own cc nL d) {k : Fin 4} {x : Int64} (n : Nat) (hd : decode cc pc = .ok (.lload_n k, 1)) (hp : lv[n]? = some ((k : Nat), vJ x)) (kk : V E nL Q s (pc + 1) lv (vJ x :: st)) : V E nL Q s pc lv st :=
  fun A H locs ls hR hl ho => lv_lload_n g.1 g.2.1 hd rfl (lv_get hl hp) (kk A H locs ls hR hl (okl.push trivial ho))
theorem V_lload (g : GX E own cc nL d) {i : Nat} {x : Int64} (n : Nat) (hd : decode cc pc = .ok (.lload i, 2)) (hp : lv[n]? = some (i, vJ x)) (kk : V E nL Q s (pc + 2) lv (vJ x :: st)) : V E nL Q s pc lv st :=
  fun A H locs ls hR hl ho => lv_lload g.1 g.2.1 hd (lv_get hl hp) (kk A H locs ls hR hl (okl.push trivial ho))
theorem tr_ref {A : AM} {k i : Nat} : (i = 0 ∧ tr A (vR k i) = .null) ∨ tr A (vR k i) = .ref (A k i) := by
  show (i = 0 ∧ va_rf (ro A k i) = .null) ∨ va_rf (ro A k i) = .ref (A k i)
  unfold ro
  split
  · rename_i h; exact Or.inl ⟨h, rfl⟩
  · exact Or.inr rfl
theorem tr_nz {A : AM} {k i : Nat} (h : ¬ i = 0) : tr A (vR k i) = .ref (A k i) := by
  show va_rf (ro A k i) = .ref (A k i)
  unfold ro
  rw [if_neg h]
  rfl
theorem V_aload_n (g : GX E own cc nL d) {k : Fin 4} {a b : Nat} (n : Nat) (hd : decode cc pc = .ok (.aload_n k, 1)) (hp : lv[n]? = some ((k : Nat), vR a b)) (kk : V E nL Q s (pc + 1) lv (vR a b :: st)) : V E nL Q s pc lv st := by
  intro A H locs ls hR hl ho
  have h1 := lv_get hl hp
  have h2 := kk A H locs ls hR hl (okl.push (ho.loc hp) ho)
  rw [List.map_cons] at h2
  rcases tr_ref (A := A) (k := a) (i := b) with ⟨-, h⟩ | h
  · rw [h] at h1 h2; exact lv_aload_nN g.1 g.2.1 hd rfl h1 h2
  · rw [h] at h1 h2; exact lv_aload_n g.1 g.2.1 hd rfl h1 h2
theorem V_aload (g : GX E own cc nL d) {i : Nat} {a b : Nat} (n : Nat) (hd : decode cc pc = .ok (.aload i, 2)) (hp : lv[n]? = some (i, vR a b)) (kk : V E nL Q s (pc + 2) lv (vR a b :: st)) : V E nL Q s pc lv st := by
  intro A H locs ls hR hl ho
  have h1 := lv_get hl hp
  have h2 := kk A H locs ls hR hl (okl.push (ho.loc hp) ho)
  rw [List.map_cons] at h2
  rcases tr_ref (A := A) (k := a) (i := b) with ⟨-, h⟩ | h
  · rw [h] at h1 h2; exact lv_aloadN g.1 g.2.1 hd h1 h2
  · rw [h] at h1 h2; exact lv_aload g.1 g.2.1 hd h1 h2
/-! stores: the new list of locals -/
def cat (v : AV) : Nat := match v with
  | .inr (.inl _) => 2
  | _ => 1
theorem tr_cat {A : AM} {v : AV} (h : okv s v) : (tr A v).category = cat v := by
  match v, h with
  | .inl _, _ => rfl
  | .inr (.inl _), _ => rfl
  | .inr (.inr (.inl q)), _ =>
    show (va_rf (ro A q.1 q.2)).category = 1
    cases ro A q.1 q.2 <;> rfl
  | .inr (.inr (.inr v)), h => exact h
def st1 (i : Nat) (v : AV) (lv : List (Nat × AV)) : List (Nat × AV) := (i, v) :: lv.filter (fun q => !(q.1 == i) && !(q.1 + 1 == i && cat q.2 == 2))
def st2 (i : Nat) (v : AV) (lv : List (Nat × AV)) : List (Nat × AV) := (i, v) :: lv.filter (fun q => !(q.1 == i) && (!(q.1 == i + 1) && !(q.1 + 1 == i && cat q.2 == 2)))
theorem map_filter1 {A : AM} (i : Nat) : ∀ lv : List (Nat × AV), (∀ q ∈ lv, okv s q.2) → (lv.map fun q => (q.1, tr A q.2)).filter (fun q => !(q.1 == i) && !(q.1 + 1 == i && q.2.category == 2)) = (lv.filter (fun q => !(q.1 == i) && !(q.1 + 1 == i && cat q.2 == 2))).map fun q => (q.1, tr A q.2) := by
  intro lv
  induction lv with
  | nil => intro _; rfl
  | cons q lv ih =>
    intro h
    have h1 := ih (fun q hq => h q (List.mem_cons_of_mem _ hq))
    have h2 := tr_cat (A := A) (h q List.mem_cons_self)
    simp only [List.map_cons, List.filter_cons, h2, h1]
    split <;> rfl
theorem map_filter2 {A : AM} (i : Nat) : ∀ lv : List (Nat × AV), (∀ q ∈ lv, okv s q.2) → (lv.map fun q => (q.1, tr A q.2)).filter (fun q => !(q.1 == i) && (!(q.1 == i + 1) && !(q.1 + 1 == i && q.2.category == 2))) = (lv.filter (fun q => !(q.1 == i) && (!(q.1 == i + 1) && !(q.1 + 1 == i && cat q.2 == 2)))).map fun q => (q.1, tr A q.2) := by
  intro lv
  induction lv with
  | nil => intro _; rfl
  | cons q lv ih =>
    intro h
    have h1 := ih (fun q hq => h q (List.mem_cons_of_mem _ hq))
    have h2 := tr_cat (A := A) (h q List.mem_cons_self)
    simp only [List.map_cons, List.filter_cons, h2, h1]
    split <;> rfl
theorem okl_st1 {i : Nat} {v : AV} (hv : okv s v) (ho : okl s lv st) : okl s (st1 i v lv) st := ⟨fun q hq => by
  rcases List.mem_cons.mp hq with rfl | hq
  · exact hv
  · exact ho.1 q (List.mem_filter.mp hq).1, ho.2⟩
theorem okl_st2 {i : Nat} {v : AV} (hv : okv s v) (ho : okl s lv st) : okl s (st2 i v lv) st := ⟨fun q hq => by
  rcases List.mem_cons.mp hq with rfl | hq
  · exact hv
  · exact ho.1 q (List.mem_filter.mp hq).1, ho.2⟩
theorem V_istore_n (g : GX E own cc nL d) {k : Fin 4} {x y : Int32} (lv' : List (Nat × AV)) (hd : decode cc pc = .ok (.istore_n k, 1)) (hx : y = x) (hn : (k : Nat) < nL) (hl' : st1 k (vI y) lv = lv') (kk : V E nL Q s (pc + 1) lv' st) : V E nL Q s pc lv (vI x :: st) := by
  subst hx; subst hl'
  intro A H locs ls hR hl ho
  exact lv_istore_n g.1 g.2.1 hd rfl hl hn rfl (fun ls h => kk A H locs ls hR (by rw [map_filter1 (s := s) _ _ ho.1] at h; exact h) (okl_st1 trivial ho.pop))
theorem V_istore (g : GX E own cc nL d) {i : Nat} {x y : Int32} (lv' : List (Nat × AV)) (hd : decode cc pc = .ok (.istore i, 2)) (hx : y = x) (hn : i < nL) (hl' : st1 i (vI y) lv = lv') (kk : V E nL Q s (pc + 2) lv' st) : V E nL Q s pc lv (vI x :: st) := by
  subst hx; subst hl'
  intro A H locs ls hR hl ho
  exact lv_istore g.1 g.2.1 hd hl hn rfl (fun ls h => kk A H locs ls hR (by rw [map_filter1 (s := s) _ _ ho.1] at h; exact h) (okl_st1 trivial ho.pop))
theorem V_lstore_n (g : GX E own cc nL d) {k : Fin 4} {x y : Int64} (lv' : List (Nat × AV)) (hd : decode cc pc = .ok (.lstore_n k, 1)) (hx : y = x) (hn : (k : Nat) + 1 < nL) (hl' : st2 k (vJ y) lv = lv') (kk : V E nL Q s (pc + 1) lv' st) : V E nL Q s pc lv (vJ x :: st) := by
  subst hx; subst hl'
  intro A H locs ls hR hl ho
  exact lv_lstore_n g.1 g.2.1 hd rfl hl hn rfl (fun ls h => kk A H locs ls hR (by rw [map_filter2 (s := s) _ _ ho.1] at h; exact h) (okl_st2 trivial ho.pop))
theorem V_lstore (g : GX E own cc nL d) {i : Nat} {x y : Int64} (lv' : List (Nat × AV)) (hd : decode cc pc = .ok (.lstore i, 2)) (hx : y = x) (hn : i + 1 < nL) (hl' : st2 i (vJ y) lv = lv') (kk : V E nL Q s (pc + 2) lv' st) : V E nL Q s pc lv (vJ x :: st) := by
  subst hx; subst hl'
  intro A H locs ls hR hl ho
  exact lv_lstore g.1 g.2.1 hd hl hn rfl (fun ls h => kk A H locs ls hR (by rw [map_filter2 (s := s) _ _ ho.1] at h; exact h) (okl_st2 trivial ho.pop))
theorem V_astore_n (g : GX E own cc nL d) {k : Fin 4} {a b b' : Nat} (lv' : List (Nat × AV)) (hd : decode cc pc = .ok (.astore_n k, 1)) (hx : b' = b) (hn : (k : Nat) < nL) (hl' : st1 k (vR a b') lv = lv') (kk : V E nL Q s (pc + 1) lv' st) : V E nL Q s pc lv (vR a b :: st) := by
  subst hx; subst hl'
  intro A H locs ls hR hl ho
  rw [List.map_cons]
  have key : ∀ ls : Array Slot, lv_has ls nL ((((k : Nat), tr A (vR a b')) :: (lv.map fun q => (q.1, tr A q.2)).filter (fun q => !(q.1 == (k : Nat)) && !(q.1 + 1 == (k : Nat) && q.2.category == 2)))) → _ := fun ls h => kk A H locs ls hR (by rw [map_filter1 (s := s) _ _ ho.1] at h; exact h) (okl_st1 ho.top ho.pop)
  rcases tr_ref (A := A) (k := a) (i := b') with ⟨-, h⟩ | h
  · rw [h] at key ⊢; exact lv_astore_nN g.1 g.2.1 hd rfl hl hn rfl key
  · rw [h] at key ⊢; exact lv_astore_n g.1 g.2.1 hd rfl hl hn rfl key
theorem V_astore (g : GX E own cc nL d) {i : Nat} {a b b' : Nat} (lv' : List (Nat × AV)) (hd : decode cc pc = .ok (.astore i, 2)) (hx : b' = b) (hn : i < nL) (hl' : st1 i (vR a b') lv = lv') (kk : V E nL Q s (pc + 2) lv' st) : V E nL Q s pc lv (vR a b :: st) := by
  subst hx; subst hl'
  intro A H locs ls hR hl ho
  rw [List.map_cons]
  have key : ∀ ls : Array Slot, lv_has ls nL (((i, tr A (vR a b')) :: (lv.map fun q => (q.1, tr A q.2)).filter (fun q => !(q.1 == i) && !(q.1 + 1 == i && q.2.category == 2)))) → _ := fun ls h => kk A H locs ls hR (by rw [map_filter1 (s := s) _ _ ho.1] at h; exact h) (okl_st1 ho.top ho.pop)
  rcases tr_ref (A := A) (k := a) (i := b') with ⟨-, h⟩ | h
  · rw [h] at key ⊢; exact lv_astoreN g.1 g.2.1 hd hl hn rfl key
  · rw [h] at key ⊢; exact lv_astore g.1 g.2.1 hd hl hn rfl key
theorem V_iinc (g : GX E own cc nL d) {i : Nat} {n : Int} {x y : Int32} (p : Nat) (lv' : List (Nat × AV)) (hd : decode cc pc = .ok (.iinc i n, 3)) (hp : lv[p]? = some (i, vI x)) (hx : y = x + Int32.ofInt n) (hn : i < nL) (hl' : st1 i (vI y) lv = lv') (kk : V E nL Q s (pc + 3) lv' st) : V E nL Q s pc lv st := by
  subst hl'
  intro A H locs ls hR hl ho
  exact lv_iinc (k := p) g.1 g.2.1 hd hl (by rw [List.getElem?_map, hp]; rfl) hx.symm hn rfl (fun ls h => kk A H locs ls hR (by rw [map_filter1 (s := s) _ _ ho.1] at h; exact h) (okl_st1 trivial ho))
end VSIMPLE
