/-! ===== methods: contracts, calls, ends ===== -/
abbrev RT : Type := St × (Option AV ⊕ String)
def PcE (G : GT) (A : AM) (s : St) (as : List AV) : Array Value → State → Prop := fun v U => v = (as.map (tr A)).toArray ∧ Hd G A s U.heap ∧ (∀ v ∈ as, okv s v) ∧ WK G U ∧ G.1 ≤ U.heap.size
def QcE (G : GT) (A : AM) (s : St) (res : RT) : Array Value → State → Outcome → State → Prop := fun _ st o t => (∃ (A' : AM) (r : Option AV), ls2 s res.1 ∧ Ex s A A' ∧ Hd G A' res.1 t.heap ∧ res.2 = .inl r ∧ (∀ v ∈ r.toList, okv res.1 v) ∧ o = .returned (r.map (tr A'))) ∧ va_F (fr G) st t
def XcE (G : GT) (A : AM) (s : St) (res : RT) : String → State → State → Prop := fun X st t => (∃ A' : AM, ls2 s res.1 ∧ Ex s A A' ∧ Hd G A' res.1 t.heap ∧ res.2 = .inr X) ∧ va_F (fr G) st t
def rmE (d : Nat) (s : St) : Room := { frames := d, cells := 601024 - cn s, slots := 7293034 - sn s, locals := 40 * d }
/-- a method's contract: from the picture s and the arguments to res; hw is the word that says its code -/
def MetG (G : GT) (l : Launch) (y : MethodName) (hw : Cond) (d : Nat) (s : St) (as : List AV) (res : RT) : Prop :=
  ∀ A : AM, vx_Met l y (hw :: tb) (rmE d s) (PcE G A s as) (QcE G A s res) (XcE G A s res) (cn res.1 - cn s) (sn res.1 - sn s) (fr G)
/-! the constants move along -/
theorem SF.go {G : GT} {s U : State} (h : SF G s) (hk : ∀ a : Nat, a < s.heap.size → ¬ fr G a → U.heap[a]? = s.heap[a]?) (hW : s.WarmedH U.vm) : SF G U := fun j h1 h2 => by
  obtain ⟨q1, q2, q3, q4, q5⟩ := h j h1 h2
  exact ⟨(q1.kept hk).moved hW.alike, (q2.kept hk).moved hW.alike, (q3.kept hk).moved hW.alike, (q4.kept hk).moved hW.alike, fun q hq => vk_R.warm hW (q5 q hq)⟩
theorem va_Zq_kept {C n d : String} {A : Nat → Prop} {U : State} {H H1 : Heap} (h : va_Zq C n d A U H) (hq : ∀ a : Nat, a < H.size → ¬ A a → H1[a]? = H[a]?) : va_Zq C n d A U H1 := by
  rcases h with h | ⟨t, h⟩
  · exact Or.inl (h.kept hq)
  · exact Or.inr ⟨t, h.kept hq⟩
theorem ZF.go {G : GT} {s U : State} (h : ZF G s) (hk : ∀ a : Nat, a < s.heap.size → ¬ fr G a → U.heap[a]? = s.heap[a]?) (hW : s.WarmedH U.vm) : ZF G U := by
  obtain ⟨q1, q2, q3, q4, q5, q6, q7⟩ := h
  exact ⟨(q1.kept hk).moved hW.alike, (q2.kept hk).moved hW.alike, (q3.kept hk).moved hW.alike, fun i h1 h2 => ((q4 i h1 h2).kept hk).moved hW.alike, vx_Zq.moved hW.alike (q5.kept hk), vx_Zq.moved hW.alike (q6.kept hk), va_Zq.moved hW.alike (va_Zq_kept q7 hk)⟩
theorem WK.go {G : GT} {s U : State} (h : WK G s) (hk : ∀ a : Nat, a < s.heap.size → ¬ fr G a → U.heap[a]? = s.heap[a]?) (hW : s.WarmedH U.vm) : WK G U :=
  ⟨va_K.moved hW.alike h.1, h.2.1.go hk hW, h.2.2.1.go hk hW, fun w hw => nw_warm (List.mem_filter.mp hw).2 hW (h.2.2.2.1 w hw), va_Nc.moved hW.alike h.2.2.2.2⟩
/-- frames don't matter -/
theorem WK.blind {G : GT} {s : State} (h : WK G s) (g : JFrame) (mk : MethodId) (a : Array Value) : WK G (s.calling g mk a) := h.go (fun _ _ _ => rfl) (State.WarmedH.refl s)
theorem PcE.blind {G : GT} {A : AM} {s : St} {as : List AV} : FrameBlind (PcE G A s as) := fun _ _ g mk h => ⟨h.1, h.2.1, h.2.2.1, h.2.2.2.1.blind g mk _, h.2.2.2.2⟩
def VX (E : ET) (nL : Nat) (Q : State → Prop) (s : St) (pc : Nat) (lv : List (Nat × AV)) (X : String) : Prop :=
  ∀ (A : AM) (H : Heap) (locs : List Loc) (ls : Array Slot) (rest : List Value) (q : Addr) (ce : Cell), Rl E A s H locs → lv_has ls nL (lv.map fun q => (q.1, tr A q.2)) → okl s lv [] → H[q]? = some ce → ce.vm = .none → E.s.vm.findClass X = some ce.cls →
    vx_W E.p E.l E.e E.R E.s E.m E.args E.below E.meth E.c H locs (cn s - cn E.s0) (sn s - sn E.s0) Q (F0 E.m pc ls rest) q
def QE (E : ET) (res : RT) : State → Prop := vx_MQ E.below (QcE E.G E.A0 E.s0 res) (XcE E.G E.A0 E.s0 res) E.args E.s (cn res.1 - cn E.s0) (sn res.1 - sn E.s0) (fr E.G)
section VCALL
variable {E : ET} {own : String} {cc : ByteArray} {nL d : Nat} {Q : State → Prop} {s : St} {pc : Nat} {lv : List (Nat × AV)} {st : List AV}
theorem W_run {A : AM} {H : Heap} {locs : List Loc} {ls : Array Slot} {st0 : List Value} {res : RT} {a : Array Value} (hR : Rl E A s H locs) (hl : lv_has ls nL (lv.map fun q => (q.1, tr A q.2))) (ho : okl s lv st)
    (hr : vx_Run E.p E.l E.e E.R E.s E.m E.args E.below E.meth E.c H locs (cn s - cn E.s0) (sn s - sn E.s0) (cn res.1 - cn s) (sn res.1 - sn s) (F0 E.m pc ls st0) (st.map (tr A)) (QcE E.G A s res a) (XcE E.G A s res) (fr E.G))
    (kk : ∀ r, res.2 = .inl r → V E nL Q res.1 (pc + 3) lv (r.toList ++ st)) (kx : ∀ X, res.2 = .inr X → VX E nL Q res.1 pc lv X) :
    W E.p E.l E.e E.R E.s E.m E.args E.below E.meth E.c H locs (cn s - cn E.s0) (sn s - sn E.s0) Q (F0 E.m pc ls st0) := by
  intro T hT X
  have h1 := hR.2.2.1.1
  have h2 := hR.2.2.1.2.1
  have ec : ls2 s res.1 → cn s - cn E.s0 + (cn res.1 - cn s) = cn res.1 - cn E.s0 := fun h => by have := h.1; omega
  have es : ls2 s res.1 → sn s - sn E.s0 + (sn res.1 - sn s) = sn res.1 - sn E.s0 := fun h => by have := h.2.1; omega
  rcases hr T hT X with ⟨v, st₀, t, T', L, h0, X', hL, e1, e2, ⟨⟨A', r, hls, hx, hH, hres, hok, hv⟩, hF⟩, stp⟩ | ⟨q, st₀, t, T', L, Ec, ce, h0, X', hL, e1, e2, ⟨⟨A', hls, hx, hH, hres⟩, hF⟩, hce, hcv, hcl, stp⟩
  · obtain ⟨k1, k2, k3⟩ := vx_keep h0 e1 hR.2.2.2 (fun _ _ h => h) (fun _ h => h) hL hF
    cases hv
    rw [ec hls, es hls] at X'
    have hR' : Rl E A' res.1 T'.heap (locs ++ L) := ⟨by rw [e1]; exact hH, hR.2.1.tr hR.2.2.1 hx, hR.2.2.1.tr hls, k3⟩
    have hok2 : okl res.1 lv (r.toList ++ st) := ⟨fun q hq => (ho.1 q hq).up hls, fun w hw => by
      rcases List.mem_append.mp hw with h | h
      · exact hok w h
      · exact (ho.2 w h).up hls⟩
    obtain ⟨t2, a1, b1⟩ := kk r hres A' T'.heap (locs ++ L) ls hR' (by rw [ml_ex hx ho.1]; exact hl) hok2 T' rfl X'
    have em : (r.toList ++ st).map (tr A') = (r.map (tr A')).toList ++ st.map (tr A) := by
      rw [List.map_append, mp_ex hx st ho.2]
      cases r <;> rfl
    rw [em] at a1
    exact ⟨t2, stp t2 a1, b1⟩
  · obtain ⟨k1, k2, k3⟩ := vx_keep h0 e1 hR.2.2.2 (fun _ _ h => h) (fun _ h => h) hL hF
    rw [ec hls, es hls] at X'
    have hR' : Rl E A' res.1 T'.heap (locs ++ L) := ⟨by rw [e1]; exact hH, hR.2.1.tr hR.2.2.1 hx, hR.2.2.1.tr hls, k3⟩
    obtain ⟨t2, a1, b1⟩ := kx Ec hres A' T'.heap (locs ++ L) ls (st.map (tr A)) q ce hR' (by rw [ml_ex hx ho.1]; exact hl) ⟨fun q hq => (ho.1 q hq).up hls, fun _ h => nomatch h⟩ (by rw [e1]; exact hce) hcv hcl T' rfl X'
    exact ⟨t2, stp.trans a1, b1⟩
theorem good_sub {L : List Cond} (h : ∀ w ∈ L, w ∈ tb) : GoodIn tb L := fun w hw => tb_good w (h w hw)
theorem PcE_at {A : AM} {H : Heap} {locs : List Loc} (g : GX E own cc nL d) (hR : Rl E A s H locs) {as : List AV} (ho : ∀ v ∈ as, okv s v) : ∀ U : State, U.heap = H → E.s.WarmedH U.vm → PcE E.G A s as (as.map (tr A)).toArray U := by
  intro U hU hW
  have hk : ∀ a : Nat, a < E.s.heap.size → ¬ fr E.G a → U.heap[a]? = E.s.heap[a]? := fun a h1 h2 => by rw [hU]; exact hR.2.2.2.2.1 a h1 h2
  exact ⟨rfl, by rw [hU]; exact hR.1, ho, g.2.2.2.2.2.2.2.1.go hk hW, by rw [hU]; exact Nat.le_trans g.2.2.2.2.2.2.2.2.1 hR.2.2.2.1⟩
/-- the receiver: an object of that class -/
def RC (E : ET) (s : St) (k b : Nat) (C : String) : Prop := ∀ (A : AM) (H : Heap) (locs : List Loc), Rl E A s H locs → okv s (vR k b) → ∃ cell : Cell, H[A k b]? = some cell ∧ cell.vm.isStatics = false ∧ E.s.vm.findClass C = some cell.cls
theorem RC_own (g : GX E own cc nL d) {k b : Nat} {C : String} {T : u_T} {N : Nat} (hc : vwCl[k]? = some (C, T, N)) (hb : ¬ b = 0) : RC E s k b C := by
  intro A H locs hR hk
  have h10 := (cl_all hc).1
  obtain ⟨n, hn⟩ := WL_mem (G := E.G) (A := A) (s := s) (k := k) (i := b) (by omega) (by omega) (ok_bd (by omega) hk)
  rw [en_obj h10] at hn
  exact va_recv g.K hR.1.P hc hn
theorem RC_str (g : GX E own cc nL d) {b : Nat} (hb : ¬ b = 0) : RC E s 16 b "java/lang/String" := by
  intro A H locs hR hk
  have hb8 : b ≤ 38 := hk
  obtain ⟨cell, h1, h2, h3, -⟩ := (g.S b (by omega) hb8).1.kept hR.2.2.2.2.1
  exact ⟨cell, by rw [hR.1.2.2.2.2 16 (by decide)]; exact h1, h2, h3⟩
theorem rm_call {A : AM} {H : Heap} {locs : List Loc} (g : GX E own cc nL d) (hR : Rl E A s H locs) : (cn s - cn E.s0) + (rmE d s).cells ≤ E.R.cells ∧ (sn s - sn E.s0) + (rmE d s).slots ≤ E.R.slots := by
  have h1 := hR.2.2.1.1
  have h2 := hR.2.2.1.2.1
  have h5 := hR.1.2.2.1.2.1
  have h6 := hR.1.2.2.1.2.2
  have h7 := g.cls
  have h8 := g.sls
  have e1 : (rmE d s).cells = 601024 - cn s := rfl
  have e2 : (rmE d s).slots = 7293034 - sn s := rfl
  omega
/-- what a caller needs of a callee: its words hold, there is room -/
theorem bk {y : MethodName} {bytes : ByteArray} {maxL d' : Nat} {ret : Option FieldType} {as : List AV} {res : RT} {A : AM} (g : GX E own cc nL d) (hM : MetG E.G E.l y (.code y bytes maxL ret) d' s as res) (hdd : d' + 1 ≤ d) (hmx : maxL ≤ 20) (w4 : Cond.initialized y.cls ∈ tb) (w5 : Cond.code y bytes maxL ret ∈ tb) :
    vx_Back E.l E.R E.p E.e E.below E.s E.args y 3 8 (PreR E.R (rmE d' s) (PcE E.G A s as)) (PostOf (QcE E.G A s res) (cn res.1 - cn s) (sn res.1 - sn s) (fr E.G)) (vx_Post (XcE E.G A s res) (cn res.1 - cn s) (sn res.1 - sn s) (fr E.G)) := by
  have hfr := g.frs
  have hlo := g.los
  have hpay := pay_in g.hts tb_good
  refine my_back (bytes := bytes) (maxL := maxL) (ret := ret) (hM A) PcE.blind (by show d' + 1 ≤ E.R.frames; omega) (by show 8 + (maxL + 11) + 40 * d' ≤ E.R.locals; omega) (fun w hw => ?_) List.mem_cons_self (hpay _ w4)
  rcases List.mem_cons.mp hw with rfl | hw
  · exact hpay _ w5
  · exact hpay _ hw
theorem bkW {y : MethodName} {bytes : ByteArray} {maxL d' : Nat} {ret : Option FieldType} {hh : List (Nat × Nat × Nat × Nat)} {as : List AV} {res : RT} {A : AM} (g : GX E own cc nL d) (hM : MetG E.G E.l y (.codeWith y bytes maxL ret hh) d' s as res) (hdd : d' + 1 ≤ d) (hmx : maxL ≤ 20) (w4 : Cond.initialized y.cls ∈ tb) (w5 : Cond.codeWith y bytes maxL ret hh ∈ tb) :
    vx_Back E.l E.R E.p E.e E.below E.s E.args y 3 8 (PreR E.R (rmE d' s) (PcE E.G A s as)) (PostOf (QcE E.G A s res) (cn res.1 - cn s) (sn res.1 - sn s) (fr E.G)) (vx_Post (XcE E.G A s res) (cn res.1 - cn s) (sn res.1 - sn s) (fr E.G)) := by
  have hfr := g.frs
  have hlo := g.los
  have hpay := pay_in g.hts tb_good
  refine my_backW (hh := hh) (bytes := bytes) (maxL := maxL) (ret := ret) (hM A) PcE.blind (by show d' + 1 ≤ E.R.frames; omega) (by show 8 + (maxL + 11) + 40 * d' ≤ E.R.locals; omega) (fun w hw => ?_) List.mem_cons_self (hpay _ w4)
  rcases List.mem_cons.mp hw with rfl | hw
  · exact hpay _ w5
  · exact hpay _ hw
theorem bk0 {y : MethodName} {s' : St} {r : Option AV} {A : AM} {Pre : Pt → Array Value → Prop} {Post : Pt → Array Value → Option Value → Pt → Prop} {mc ms : Nat} {free : Addr → Prop} (h : vx_Back E.l E.R E.p E.e E.below E.s E.args y 3 8 Pre Post (vx_Post (XcE E.G A s (s', .inl r)) mc ms free)) : Back E.l E.R E.p E.e E.below E.s E.args y 3 8 Pre Post := by
  intro m meth c P g ig mk a X hg hsize hdg hW hn hp
  rcases h m meth c P g ig mk a X hg hsize hdg hW hn hp with h | ⟨q, B, -, ⟨_, _, _, _, _, _, -, -, ⟨⟨_, -, -, -, hx⟩, -⟩, -⟩, -⟩
  · exact h
  · cases hx
theorem hlen_of {y : MethodName} {n m : Nat} (hn : (parseMethodDescriptor y.desc).map (fun d => d.parameters.length) = some n) (hm : m = n) : ∀ sig, parseMethodDescriptor y.desc = some sig → m = sig.parameters.length := fun sig h => by
  rw [h] at hn
  exact hm.trans (Option.some.inj hn).symm
theorem V_callV (g : GX E own cc nL d) {y : MethodName} {bytes : ByteArray} {maxL d' index k b : Nat} {ret : Option FieldType} {as : List AV} {res : RT} (hM : MetG E.G E.l y (.code y bytes maxL ret) d' s (vR k b :: as) res) (hrc : RC E s k b y.cls) (hb : ¬ b = 0) (hdd : d' + 1 ≤ d) (hmx : maxL ≤ 20) (hn : (parseMethodDescriptor y.desc).map (fun d => d.parameters.length) = some as.length) (hy : y.cls ≠ "java/lang/invoke/MethodHandle" ∧ y.cls ≠ "java/lang/invoke/VarHandle")
    (w1 : Cond.methodLink own index y ∈ tb) (w2 : Cond.instanceMethod y ∈ tb) (w3 : Cond.selects y.cls y y ∈ tb) (w4 : Cond.initialized y.cls ∈ tb) (w5 : Cond.code y bytes maxL ret ∈ tb) (hct : (st.map cat).sum ≤ 8) (hd : decode cc pc = .ok (.invokevirtual index, 3))
    (kk : ∀ r, res.2 = .inl r → V E nL Q res.1 (pc + 3) lv (r.toList ++ st)) (kx : ∀ X, res.2 = .inr X → VX E nL Q res.1 pc lv X) {sx : List AV} (hsx : sx = as.reverse ++ vR k b :: st) : V E nL Q s pc lv sx := by
  subst hsx
  intro A H locs ls hR hl ho
  have hos : okl s lv st := ⟨ho.1, fun v hv => ho.2 v (List.mem_append_right _ (List.mem_cons_of_mem _ hv))⟩
  have hoa : ∀ v ∈ vR k b :: as, okv s v := fun v hv => ho.2 v (by
    rcases List.mem_cons.mp hv with rfl | hv
    · exact List.mem_append_right _ List.mem_cons_self
    · exact List.mem_append_left _ (List.mem_reverse.mpr hv))
  have hcs := cats (A := A) st hos.2
  have e0 : ((vR k b :: as).map (tr A)) = Value.ref (A k b) :: as.map (tr A) := by rw [List.map_cons, tr_nz hb]
  obtain ⟨cellB, hcB, hoB, hclB⟩ := hrc A H locs hR (hoa _ List.mem_cons_self)
  have hrm := rm_call (d := d) g hR
  have hst : (as.reverse ++ vR k b :: st).map (tr A) = (as.map (tr A)).reverse ++ Value.ref (A k b) :: st.map (tr A) := by
    rw [List.map_append, List.map_reverse, List.map_cons, tr_nz hb]
  refine W_run (a := (Value.ref (A k b) :: as.map (tr A)).toArray) hR hl hos ?_ kk kx
  intro T hT X
  rcases vx_callV X g.1 (C := y.cls) (bytes := bytes) (maxL := maxL) (ret := ret) g.ow (g.hts _ w1) (g.hts _ w2) (g.hts _ w3) (g.hts _ w5) hy (bk (A := A) g hM hdd hmx w4 w5) (by rw [hT]; exact hcB) hoB hclB (g := F0 E.m pc ls ((as.reverse ++ vR k b :: st).map (tr A))) rfl (hl.1.trans g.2.2.1.symm) (argsL := as.map (tr A)) (rest := st.map (tr A)) (hlen_of hn (by rw [List.length_map])) hst (by show 2 * 0 + _ ≤ 8; omega) (by rw [g.2.1]; exact hd)
    (fun vm₁ hW₁ => ⟨hrm.1, hrm.2, by have := PcE_at g hR hoa (T.setVm vm₁) hT hW₁; rw [e0] at this; exact this⟩) with ⟨v, vm₁, ⟨U', l2, c2, s2⟩, hW₁, X', ⟨g', mk, t, L, e1, e2, hq, h1, hL, h2, h3⟩, st⟩ | ⟨q, vm₁, ⟨U', l2, c2, s2⟩, hW₁, X', ⟨g', mk, t, L, Ec, ce, e1, e2, hq, hce, hcv, hcl, h1, hL, h2, h3⟩, st⟩
  · dsimp only [Pt.U, Pt.locs, Pt.cells, Pt.slots] at X' e1 e2 h1 h2 h3 st
    subst h1; subst h2; subst h3
    exact Or.inl ⟨v, (T.setVm vm₁).calling g' mk (Value.ref (A k b) :: as.map (tr A)).toArray, t, U', L, hT, X', hL, e1, e2, hq, st⟩
  · dsimp only [Pt.U, Pt.locs, Pt.cells, Pt.slots] at X' e1 e2 h1 h2 h3 st hcl
    subst h1; subst h2; subst h3
    exact Or.inr ⟨q, (T.setVm vm₁).calling g' mk (Value.ref (A k b) :: as.map (tr A)).toArray, t, U', L, Ec, ce, hT, X', hL, e1, e2, hq, hce, hcv, vx_cls hW₁ hcl, st⟩
theorem V_callS (g : GX E own cc nL d) {y : MethodName} {bytes : ByteArray} {maxL d' index : Nat} {ret : Option FieldType} {as : List AV} {res : RT} (hM : MetG E.G E.l y (.code y bytes maxL ret) d' s as res) (hdd : d' + 1 ≤ d) (hmx : maxL ≤ 20) (hn : (parseMethodDescriptor y.desc).map (fun d => d.parameters.length) = some as.length) (hy : y.cls ≠ "java/lang/invoke/MethodHandle" ∧ y.cls ≠ "java/lang/invoke/VarHandle")
    (w1 : Cond.methodLink own index y ∈ tb) (w2 : Cond.static y ∈ tb) (w4 : Cond.initialized y.cls ∈ tb) (w5 : Cond.code y bytes maxL ret ∈ tb) (hct : (st.map cat).sum ≤ 8) (hd : decode cc pc = .ok (.invokestatic index, 3))
    (kk : ∀ r, res.2 = .inl r → V E nL Q res.1 (pc + 3) lv (r.toList ++ st)) (kx : ∀ X, res.2 = .inr X → VX E nL Q res.1 pc lv X) {sx : List AV} (hsx : sx = as.reverse ++ st) : V E nL Q s pc lv sx := by
  subst hsx
  intro A H locs ls hR hl ho
  have hos : okl s lv st := ⟨ho.1, fun v hv => ho.2 v (List.mem_append_right _ hv)⟩
  have hoa : ∀ v ∈ as, okv s v := fun v hv => ho.2 v (List.mem_append_left _ (List.mem_reverse.mpr hv))
  have hcs := cats (A := A) st hos.2
  have hrm := rm_call (d := d) g hR
  have hst : (as.reverse ++ st).map (tr A) = (as.map (tr A)).reverse ++ st.map (tr A) := by rw [List.map_append, List.map_reverse]
  refine W_run (a := (as.map (tr A)).toArray) hR hl hos ?_ kk kx
  intro T hT X
  rcases vx_callS X g.1 (bytes := bytes) (maxL := maxL) (ret := ret) g.ow (g.hts _ w1) (g.hts _ w2) (g.hts _ w4) (g.hts _ w5) hy (bk (A := A) g hM hdd hmx w4 w5) (g := F0 E.m pc ls ((as.reverse ++ st).map (tr A))) rfl (hl.1.trans g.2.2.1.symm) (argsL := as.map (tr A)) (rest := st.map (tr A)) (hlen_of hn (by rw [List.length_map])) hst (by show 2 * 0 + _ ≤ 8; omega) (by rw [g.2.1]; exact hd)
    (fun vm₁ hW₁ => ⟨hrm.1, hrm.2, PcE_at g hR hoa (T.setVm vm₁) hT hW₁⟩) with ⟨v, vm₁, ⟨U', l2, c2, s2⟩, hW₁, X', ⟨g', mk, t, L, e1, e2, hq, h1, hL, h2, h3⟩, st⟩ | ⟨q, vm₁, ⟨U', l2, c2, s2⟩, hW₁, X', ⟨g', mk, t, L, Ec, ce, e1, e2, hq, hce, hcv, hcl, h1, hL, h2, h3⟩, st⟩
  · dsimp only [Pt.U, Pt.locs, Pt.cells, Pt.slots] at X' e1 e2 h1 h2 h3 st
    subst h1; subst h2; subst h3
    exact Or.inl ⟨v, (T.setVm vm₁).calling g' mk (as.map (tr A)).toArray, t, U', L, hT, X', hL, e1, e2, hq, st⟩
  · dsimp only [Pt.U, Pt.locs, Pt.cells, Pt.slots] at X' e1 e2 h1 h2 h3 st hcl
    subst h1; subst h2; subst h3
    exact Or.inr ⟨q, (T.setVm vm₁).calling g' mk (as.map (tr A)).toArray, t, U', L, Ec, ce, hT, X', hL, e1, e2, hq, hce, hcv, vx_cls hW₁ hcl, st⟩
theorem run_or {H : Heap} {locs : List Loc} {cells slots mc ms : Nat} {g : JFrame} {rest : List Value} {Qa : State → Outcome → State → Prop} {XC : String → State → State → Prop} {free : Addr → Prop} (h : va_Run E.p E.l E.e E.R E.s E.m E.args E.below E.meth E.c H locs cells slots mc ms g rest Qa free) : vx_Run E.p E.l E.e E.R E.s E.m E.args E.below E.meth E.c H locs cells slots mc ms g rest Qa XC free := fun T hT X => Or.inl (h T hT X)
end VCALL
