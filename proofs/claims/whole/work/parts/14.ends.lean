/-! ===== a method's body ===== -/
/-- slots of the arguments -/
def la : Nat → List AV → List (Nat × AV)
  | _, [] => []
  | i, v :: vs => (i, v) :: la (if cat v = 2 then i + 2 else i + 1) vs
theorem la_map {A : AM} {s : St} : ∀ (vs : List AV) (i : Nat), (∀ v ∈ vs, okv s v) → ((la i vs).map fun q => (q.1, tr A q.2)) = lv_args i (vs.map (tr A)) := by
  intro vs
  induction vs with
  | nil => intro i _; rfl
  | cons v vs ih =>
    intro i h
    show (i, tr A v) :: ((la (if cat v = 2 then i + 2 else i + 1) vs).map fun q => (q.1, tr A q.2)) = (i, tr A v) :: lv_args (if (tr A v).category = 2 then i + 2 else i + 1) (vs.map (tr A))
    rw [ih _ (fun w hw => h w (List.mem_cons_of_mem _ hw)), tr_cat (h v List.mem_cons_self)]
theorem sl_len {A : AM} {s : St} : ∀ (vs : List AV), (∀ v ∈ vs, okv s v) → (lg_sl (vs.map (tr A))).length = (vs.map cat).sum := by
  intro vs
  induction vs with
  | nil => intro _; rfl
  | cons v vs ih =>
    intro h
    have h1 := ih (fun w hw => h w (List.mem_cons_of_mem _ hw))
    have h2 := tr_cat (A := A) (h v List.mem_cons_self)
    have h3 : cat v = 1 ∨ cat v = 2 := by
      match v with
      | .inl _ => exact Or.inl rfl
      | .inr (.inl _) => exact Or.inr rfl
      | .inr (.inr (.inl _)) => exact Or.inl rfl
      | .inr (.inr (.inr _)) => exact Or.inl rfl
    unfold lg_sl at h1 ⊢
    rw [List.map_cons, List.flatMap_cons, List.length_append, h1, List.map_cons, List.sum_cons, h2]
    rcases h3 with h3 | h3 <;> rw [h3] <;> rfl
theorem la_mem : ∀ (vs : List AV) (i : Nat) (q : Nat × AV), q ∈ la i vs → q.2 ∈ vs := by
  intro vs
  induction vs with
  | nil => intro i q h; exact nomatch h
  | cons v vs ih =>
    intro i q h
    rcases List.mem_cons.mp h with rfl | h
    · exact List.mem_cons_self
    · exact List.mem_cons_of_mem _ (ih _ q h)
def FX (E : ET) (nm : String) (ret : Option FieldType) (tbl : List ExceptionTableEntry) : Prop :=
  E.meth.name = nm ∧ E.meth.sig.returnType = ret ∧ E.c.exceptionTable.toList = tbl
theorem MetG_of {G : GT} {l : Launch} {y : MethodName} {cc : ByteArray} {nL d : Nat} {ret : Option FieldType} {s : St} {as : List AV} {res : RT} (hl0 : l.stackTraces = false) (hy : plainFor y = true) (hn : (as.map cat).sum ≤ nL)
    (body : ∀ E : ET, GX E y.cls cc nL d → FX E y.name ret [] → E.G = G → E.l = l → V E nL (QE E res) s 0 (la 0 as) []) : MetG G l y (.code y cc nL ret) d s as res := by
  refine fun A => my_ofW hy rfl ?_
  intro p e s9 m args below meth c s₁ B hml htab hv
  obtain ⟨rfl, hH, hok, hWK, hb0⟩ := hv
  have hts := atoms_spec (ws := Cond.code y cc nL ret :: tb) B.pre
  have g : GX (p, l, e, (headSpec (Cond.code y cc nL ret :: tb) (rmE d s)).room, s9, m, (as.map (tr A)).toArray, below, meth, c, G, s, A) y.cls cc nL d :=
    ⟨B.exec, B.bytes, hml, findClass_of_methodNamed B.named, fun w hw => hts w (List.mem_cons_of_mem _ hw), B.notSynchronized, hl0, hWK, hb0, Nat.le_refl _, Nat.le_refl _, rfl, rfl⟩
  have f : FX (p, l, e, (headSpec (Cond.code y cc nL ret :: tb) (rmE d s)).room, s9, m, (as.map (tr A)).toArray, below, meth, c, G, s, A) y.name ret [] :=
    ⟨(name_of_methodNamed B.named B.method).1, B.returns, List.eq_nil_iff_forall_not_mem.mpr (fun x hx => htab x hx)⟩
  have h := body _ g f rfl rfl
  have hl := lv_entry (as.map (tr A)) (n := nL) (by rw [sl_len as hok]; exact hn)
  rw [lg_entry_eq]
  generalize (lg_sl (as.map (tr A)) ++ List.replicate (nL - (lg_sl (as.map (tr A))).length) Slot.unset).toArray = ls at hl ⊢
  have h2 := h A s9.heap [] ls ⟨hH, Ex.rf, ls2.rf, va_S.rf⟩ (by rw [la_map as 0 hok]; exact hl) ⟨fun q hq => hok _ (la_mem _ _ _ hq), fun _ hq => nomatch hq⟩
  have h3 : W p l e _ s9 m _ below meth c s9.heap [] (cn s - cn s) (sn s - sn s) _ (F0 m 0 ls []) := h2
  rw [Nat.sub_self, Nat.sub_self] at h3
  exact h3
theorem MetG_ofW {G : GT} {l : Launch} {y : MethodName} {cc : ByteArray} {nL d : Nat} {ret : Option FieldType} {hh : List (Nat × Nat × Nat × Nat)} {s : St} {as : List AV} {res : RT} (hl0 : l.stackTraces = false) (hy : plainName y.cls = true) (hn : (as.map cat).sum ≤ nL)
    (body : ∀ E : ET, GX E y.cls cc nL d → FX E y.name ret (tableOf hh) → E.G = G → E.l = l → V E nL (QE E res) s 0 (la 0 as) []) : MetG G l y (.codeWith y cc nL ret hh) d s as res := by
  refine fun A => vx_ofWH hy rfl ?_
  intro p e s9 m args below meth c s₁ B hml hv
  obtain ⟨rfl, hH, hok, hWK, hb0⟩ := hv
  have hts := atoms_spec (ws := Cond.codeWith y cc nL ret hh :: tb) B.pre
  have g : GX (p, l, e, (headSpec (Cond.codeWith y cc nL ret hh :: tb) (rmE d s)).room, s9, m, (as.map (tr A)).toArray, below, meth, c, G, s, A) y.cls cc nL d :=
    ⟨B.exec, B.bytes, hml, findClass_of_methodNamed B.named, fun w hw => hts w (List.mem_cons_of_mem _ hw), B.notSynchronized, hl0, hWK, hb0, Nat.le_refl _, Nat.le_refl _, rfl, rfl⟩
  have f : FX (p, l, e, (headSpec (Cond.codeWith y cc nL ret hh :: tb) (rmE d s)).room, s9, m, (as.map (tr A)).toArray, below, meth, c, G, s, A) y.name ret (tableOf hh) :=
    ⟨(name_of_methodNamed B.named B.method).1, B.returns, vx_table (x := y) B (hts _ List.mem_cons_self)⟩
  have h := body _ g f rfl rfl
  have hl := lv_entry (as.map (tr A)) (n := nL) (by rw [sl_len as hok]; exact hn)
  rw [lg_entry_eq]
  generalize (lg_sl (as.map (tr A)) ++ List.replicate (nL - (lg_sl (as.map (tr A))).length) Slot.unset).toArray = ls at hl ⊢
  have h2 := h A s9.heap [] ls ⟨hH, Ex.rf, ls2.rf, va_S.rf⟩ (by rw [la_map as 0 hok]; exact hl) ⟨fun q hq => hok _ (la_mem _ _ _ hq), fun _ hq => nomatch hq⟩
  have h3 : W p l e _ s9 m _ below meth c s9.heap [] (cn s - cn s) (sn s - sn s) _ (F0 m 0 ls []) := h2
  rw [Nat.sub_self, Nat.sub_self] at h3
  exact h3
section VENDS
variable {E : ET} {own : String} {cc : ByteArray} {nL d : Nat} {Q : State → Prop} {s s0 : St} {pc : Nat} {lv : List (Nat × AV)} {st : List AV} {nm : String} {ret : Option FieldType} {tbl : List ExceptionTableEntry}
theorem QcE_at {A : AM} {H : Heap} {locs : List Loc} (hR : Rl E A s H locs) {r : Option AV} (hok : ∀ v ∈ r.toList, okv s v) : ∀ t : State, t.heap = H → E.s.WarmedH t.vm → QcE E.G E.A0 E.s0 (s, .inl r) E.args E.s (.returned (r.map (tr A))) t :=
  fun t ht _ => ⟨⟨A, r, hR.2.2.1, hR.2.1, by rw [ht]; exact hR.1, rfl, hok, rfl⟩, hR.2.2.2.F ht⟩
/-- the ends -/
theorem V_ireturn (g : GX E own cc nL d) {x : Int32} (f : FX E nm (some .int) tbl) (hd : decode cc pc = .ok (.ireturn, 1)) : V E nL (QE E (s, .inl (some (vI x)))) s pc lv [vI x] := by
  intro A H locs ls hR hl ho
  refine vx_ret ?_
  exact W.iret g.1 g.2.1 f.2.1 (QcE_at (r := some (vI x)) hR (fun v hv => ho.2 v hv)) hR.2.2.2.2.2 hd g.2.2.2.2.2.1
theorem V_zreturn (g : GX E own cc nL d) {ty : FieldType} {x : Int32} (f : FX E nm (some ty) tbl) (hz : narrow ty (.int x) = .int x) (hd : decode cc pc = .ok (.ireturn, 1)) : V E nL (QE E (s, .inl (some (vI x)))) s pc lv [vI x] := by
  intro A H locs ls hR hl ho
  refine vx_ret ?_
  exact W.zret g.1 g.2.1 f.2.1 hz (QcE_at (r := some (vI x)) hR (fun v hv => ho.2 v hv)) hR.2.2.2.2.2 hd g.2.2.2.2.2.1
theorem V_lreturn (g : GX E own cc nL d) {x : Int64} (f : FX E nm (some .long) tbl) (hd : decode cc pc = .ok (.lreturn, 1)) : V E nL (QE E (s, .inl (some (vJ x)))) s pc lv [vJ x] := by
  intro A H locs ls hR hl ho
  refine vx_ret ?_
  exact W.lret g.1 g.2.1 f.2.1 (QcE_at (r := some (vJ x)) hR (fun v hv => ho.2 v hv)) hR.2.2.2.2.2 hd g.2.2.2.2.2.1
theorem V_areturn (g : GX E own cc nL d) {rt : FieldType} {k i : Nat} (f : FX E nm (some rt) tbl) (hrt : (∃ n, rt = .object n) ∨ ∃ t, rt = .array t) (hd : decode cc pc = .ok (.areturn, 1)) : V E nL (QE E (s, .inl (some (vR k i)))) s pc lv [vR k i] := by
  intro A H locs ls hR hl ho
  refine vx_ret ?_
  exact W.aret g.1 g.2.1 f.2.1 hrt (by rcases tr_ref (A := A) (k := k) (i := i) with ⟨-, h⟩ | h; exact Or.inl h; exact Or.inr ⟨_, h⟩) (QcE_at (r := some (vR k i)) hR (fun v hv => ho.2 v hv)) hR.2.2.2.2.2 hd g.2.2.2.2.2.1
theorem V_return (g : GX E own cc nL d) (f : FX E nm none tbl) (hd : decode cc pc = .ok (.return_, 1)) : V E nL (QE E (s, .inl none)) s pc lv [] := by
  intro A H locs ls hR hl ho
  refine vx_ret ?_
  exact W.vret g.1 g.2.1 f.2.1 (QcE_at (r := none) hR (fun v hv => nomatch hv)) hR.2.2.2.2.2 hd g.2.2.2.2.2.1
/-- what is thrown goes on -/
theorem VX_out (g : GX E own cc nL d) {X : String} (f : FX E nm ret []) : VX E nL (QE E (s, .inr X)) s pc lv X := by
  intro A H locs ls rest q ce hR hl ho hce hcv hcl
  exact vx_out (fun x hx => by rw [f.2.2] at hx; exact nomatch hx) g.2.2.2.2.2.1 hce hcv hcl (fun t ht _ => ⟨⟨A, hR.2.2.1, hR.2.1, by rw [ht]; exact hR.1, rfl⟩, hR.2.2.2.F ht⟩) hR.2.2.2.2.2 (Nat.le_refl _) (Nat.le_refl _)
/-- .. or is caught: the first row of the table -/
theorem VX_catch (g : GX E own cc nL d) {X : String} {x : ExceptionTableEntry} {suf : List ExceptionTableEntry} (f : FX E nm ret (x :: suf)) (hx : covers x pc = true) (h0 : x.catchType ≠ 0) (w1 : Cond.classLink own x.catchType X ∈ tb) (w2 : Cond.castable X X ∈ nwL) (kk : ∀ q : Nat, V E nL Q s x.handlerPc lv [vO (.ref q)]) : VX E nL Q s pc lv X := by
  intro A H locs ls rest q ce hR hl ho hce hcv hcl
  refine vx_catch (name := X) g.ow [] x suf f.2.2 (fun z hz => nomatch hz) hx h0 (g.hts _ w1) (va_Nw.use rfl (g.N _ w2)) hce hcv hcl ?_
  exact kk q A H locs ls hR hl (okl.push (show Value.category (.ref q) = 1 from rfl) ho)
/-- the second row: the first names another class -/
theorem VX_catch2 (g : GX E own cc nL d) {X Y : String} {z x : ExceptionTableEntry} {suf : List ExceptionTableEntry} (f : FX E nm ret (z :: x :: suf)) (hz0 : z.catchType ≠ 0) (wz : Cond.classLink own z.catchType Y ∈ tb) (hnc : va_Nc X Y E.s) (hx : covers x pc = true) (h0 : x.catchType ≠ 0) (w1 : Cond.classLink own x.catchType X ∈ tb) (w2 : Cond.castable X X ∈ nwL) (kk : ∀ q : Nat, V E nL Q s x.handlerPc lv [vO (.ref q)]) : VX E nL Q s pc lv X := by
  intro A H locs ls rest q ce hR hl ho hce hcv hcl
  refine vx_catch (name := X) g.ow [z] x suf f.2.2 (fun z' hz' => ?_) hx h0 (g.hts _ w1) (va_Nw.use rfl (g.N _ w2)) hce hcv hcl ?_
  · rw [List.mem_singleton] at hz'
    subst hz'
    exact Or.inr ⟨hz0, Y, g.hts _ wz, hnc⟩
  · exact kk q A H locs ls hR hl (okl.push (show Value.category (.ref q) = 1 from rfl) ho)
theorem V_astoreO_n (g : GX E own cc nL d) {k : Fin 4} {q : Nat} (lv' : List (Nat × AV)) (hd : decode cc pc = .ok (.astore_n k, 1)) (hn : (k : Nat) < nL) (hl' : st1 k (vO (.ref q)) lv = lv') (kk : V E nL Q s (pc + 1) lv' st) : V E nL Q s pc lv (vO (.ref q) :: st) := by
  subst hl'
  intro A H locs ls hR hl ho
  exact lv_astore_n g.1 g.2.1 hd rfl hl hn rfl (fun ls h => kk A H locs ls hR (by rw [map_filter1 (s := s) _ _ ho.1] at h; exact h) (okl_st1 ho.top ho.pop))
theorem V_astoreO (g : GX E own cc nL d) {i : Nat} {q : Nat} (lv' : List (Nat × AV)) (hd : decode cc pc = .ok (.astore i, 2)) (hn : i < nL) (hl' : st1 i (vO (.ref q)) lv = lv') (kk : V E nL Q s (pc + 2) lv' st) : V E nL Q s pc lv (vO (.ref q) :: st) := by
  subst hl'
  intro A H locs ls hR hl ho
  exact lv_astore g.1 g.2.1 hd hl hn rfl (fun ls h => kk A H locs ls hR (by rw [map_filter1 (s := s) _ _ ho.1] at h; exact h) (okl_st1 ho.top ho.pop))
/-- Object's own constructor -/
theorem V_objInit (g : GX E own cc nL d) {k b idx : Nat} (hd1 : 0 < d) (hb : ¬ b = 0) (w1 : Cond.methodLink own idx Lib.objectInit ∈ tb) (w2 : Cond.instanceMethod Lib.objectInit ∈ tb) (w3 : Cond.code Lib.objectInit ⟨#[0xb1]⟩ 1 none ∈ tb) (hct : (st.map cat).sum ≤ 8) (hd : decode cc pc = .ok (.invokespecial idx, 3)) (kk : V E nL Q s (pc + 3) lv st) : V E nL Q s pc lv (vR k b :: st) := by
  intro A H locs ls hR hl ho
  have hfr := g.frs
  have hlo := g.los
  have hcs := cats (A := A) st ho.pop.2
  rw [List.map_cons, tr_nz hb]
  exact W.objInit g.1 g.2.1 g.ow (g.hts _ w1) (g.hts _ w2) (g.hts _ w3) rfl (by rw [g.2.2.1]; exact hl.1) rfl hd (by omega) (by show 2 * 0 + _ + 12 ≤ _; omega) (kk A H locs ls hR hl ho.pop)
theorem V_callI (g : GX E own cc nL d) {y : MethodName} {bytes : ByteArray} {maxL d' index k b : Nat} {as : List AV} {s' : St} (hM : MetG E.G E.l y (.code y bytes maxL none) d' s (vR k b :: as) (s', .inl none)) (hy1 : y.name = "<init>") (hb : ¬ b = 0) (hdd : d' + 1 ≤ d) (hmx : maxL ≤ 20) (hn : (parseMethodDescriptor y.desc).map (fun d => d.parameters.length) = some as.length) (hy : y.cls ≠ "java/lang/invoke/MethodHandle" ∧ y.cls ≠ "java/lang/invoke/VarHandle")
    (w1 : Cond.methodLink own index y ∈ tb) (w2 : Cond.instanceMethod y ∈ tb) (w4 : Cond.initialized y.cls ∈ tb) (w5 : Cond.code y bytes maxL none ∈ tb) (hct : (st.map cat).sum ≤ 8) (hd : decode cc pc = .ok (.invokespecial index, 3))
    (kk : V E nL Q s' (pc + 3) lv st) {sx : List AV} (hsx : sx = as.reverse ++ vR k b :: st) : V E nL Q s pc lv sx := by
  subst hsx
  intro A H locs ls hR hl ho
  have hos : okl s lv st := ⟨ho.1, fun v hv => ho.2 v (List.mem_append_right _ (List.mem_cons_of_mem _ hv))⟩
  have hoa : ∀ v ∈ vR k b :: as, okv s v := fun v hv => ho.2 v (by
    rcases List.mem_cons.mp hv with rfl | hv
    · exact List.mem_append_right _ List.mem_cons_self
    · exact List.mem_append_left _ (List.mem_reverse.mpr hv))
  have hcs := cats (A := A) st hos.2
  have e0 : ((vR k b :: as).map (tr A)) = Value.ref (A k b) :: as.map (tr A) := by rw [List.map_cons, tr_nz hb]
  have hrm := rm_call (d := d) g hR
  have hst : (as.reverse ++ vR k b :: st).map (tr A) = (as.map (tr A)).reverse ++ Value.ref (A k b) :: st.map (tr A) := by
    rw [List.map_append, List.map_reverse, List.map_cons, tr_nz hb]
  refine W_run (a := (Value.ref (A k b) :: as.map (tr A)).toArray) (res := (s', .inl none)) hR hl hos ?_ (fun r hr => by cases hr; exact kk) (fun X hX => by cases hX)
  intro T hT X
  obtain ⟨v, vm₁, ⟨U', l2, c2, s2⟩, hW₁, X', ⟨g', mk, t, L, e1, e2, hq, h1, hL, h2, h3⟩, st⟩ := callI X g.1 (bytes := bytes) (maxL := maxL) g.ow hy1 (g.hts _ w1) (g.hts _ w2) (g.hts _ w5) hy (bk0 (bk (A := A) g hM hdd hmx w4 w5)) (g := F0 E.m pc ls ((as.reverse ++ vR k b :: st).map (tr A))) rfl (hl.1.trans g.2.2.1.symm) (a := A k b) (argsL := as.map (tr A)) (rest := st.map (tr A)) (hlen_of hn (by rw [List.length_map])) hst (by show 2 * 0 + _ ≤ 8; omega) (by rw [g.2.1]; exact hd)
    (fun vm₁ hW₁ => ⟨hrm.1, hrm.2, by have := PcE_at g hR hoa (T.setVm vm₁) hT hW₁; rw [e0] at this; exact this⟩)
  dsimp only [Pt.U, Pt.locs, Pt.cells, Pt.slots] at X' e1 e2 h1 h2 h3 st
  subst h1; subst h2; subst h3
  exact Or.inl ⟨v, (T.setVm vm₁).calling g' mk (Value.ref (A k b) :: as.map (tr A)).toArray, t, U', L, hT, X', hL, e1, e2, hq, st⟩
theorem V_callIN (g : GX E own cc nL d) {host : String} {y : MethodName} {bytes : ByteArray} {maxL d' index k b : Nat} {as : List AV} {s' : St} (hM : MetG E.G E.l y (.code y bytes maxL none) d' s (vR k b :: as) (s', .inl none)) (hy1 : y.name = "<init>") (hb : ¬ b = 0) (hdd : d' + 1 ≤ d) (hmx : maxL ≤ 20) (hn : (parseMethodDescriptor y.desc).map (fun d => d.parameters.length) = some as.length) (hy : y.cls ≠ "java/lang/invoke/MethodHandle" ∧ y.cls ≠ "java/lang/invoke/VarHandle")
    (w1 : Cond.methodLinkNest own index y host ∈ nwL) (w2 : Cond.instanceMethod y ∈ tb) (w4 : Cond.initialized y.cls ∈ tb) (w5 : Cond.code y bytes maxL none ∈ tb) (hct : (st.map cat).sum ≤ 8) (hd : decode cc pc = .ok (.invokespecial index, 3))
    (kk : V E nL Q s' (pc + 3) lv st) {sx : List AV} (hsx : sx = as.reverse ++ vR k b :: st) : V E nL Q s pc lv sx := by
  subst hsx
  intro A H locs ls hR hl ho
  have hos : okl s lv st := ⟨ho.1, fun v hv => ho.2 v (List.mem_append_right _ (List.mem_cons_of_mem _ hv))⟩
  have hoa : ∀ v ∈ vR k b :: as, okv s v := fun v hv => ho.2 v (by
    rcases List.mem_cons.mp hv with rfl | hv
    · exact List.mem_append_right _ List.mem_cons_self
    · exact List.mem_append_left _ (List.mem_reverse.mpr hv))
  have hcs := cats (A := A) st hos.2
  have e0 : ((vR k b :: as).map (tr A)) = Value.ref (A k b) :: as.map (tr A) := by rw [List.map_cons, tr_nz hb]
  have hrm := rm_call (d := d) g hR
  have hst : (as.reverse ++ vR k b :: st).map (tr A) = (as.map (tr A)).reverse ++ Value.ref (A k b) :: st.map (tr A) := by
    rw [List.map_append, List.map_reverse, List.map_cons, tr_nz hb]
  refine W_run (a := (Value.ref (A k b) :: as.map (tr A)).toArray) (res := (s', .inl none)) hR hl hos ?_ (fun r hr => by cases hr; exact kk) (fun X hX => by cases hX)
  intro T hT X
  obtain ⟨v, vm₁, ⟨U', l2, c2, s2⟩, hW₁, X', ⟨g', mk, t, L, e1, e2, hq, h1, hL, h2, h3⟩, st⟩ := va_callIN X g.1 (bytes := bytes) (maxL := maxL) g.ow hy1 (va_Nw.use rfl (g.N _ w1)) (g.hts _ w2) (g.hts _ w5) hy (bk0 (bk (A := A) g hM hdd hmx w4 w5)) (g := F0 E.m pc ls ((as.reverse ++ vR k b :: st).map (tr A))) rfl (hl.1.trans g.2.2.1.symm) (a := A k b) (argsL := as.map (tr A)) (rest := st.map (tr A)) (hlen_of hn (by rw [List.length_map])) hst (by show 2 * 0 + _ ≤ 8; omega) (by rw [g.2.1]; exact hd)
    (fun vm₁ hW₁ => ⟨hrm.1, hrm.2, by have := PcE_at g hR hoa (T.setVm vm₁) hT hW₁; rw [e0] at this; exact this⟩)
  dsimp only [Pt.U, Pt.locs, Pt.cells, Pt.slots] at X' e1 e2 h1 h2 h3 st
  subst h1; subst h2; subst h3
  exact Or.inl ⟨v, (T.setVm vm₁).calling g' mk (Value.ref (A k b) :: as.map (tr A)).toArray, t, U', L, hT, X', hL, e1, e2, hq, st⟩
theorem V_callSN (g : GX E own cc nL d) {y : MethodName} {bytes : ByteArray} {maxL d' index : Nat} {host : String} {ret : Option FieldType} {as : List AV} {s' : St} {r : Option AV} (hM : MetG E.G E.l y (.code y bytes maxL ret) d' s as (s', .inl r)) (hdd : d' + 1 ≤ d) (hmx : maxL ≤ 20) (hn : (parseMethodDescriptor y.desc).map (fun d => d.parameters.length) = some as.length) (hy : y.cls ≠ "java/lang/invoke/MethodHandle" ∧ y.cls ≠ "java/lang/invoke/VarHandle")
    (w1 : Cond.methodLinkNest own index y host ∈ nwL) (w2 : Cond.static y ∈ tb) (w4 : Cond.initialized y.cls ∈ tb) (w5 : Cond.code y bytes maxL ret ∈ tb) (hct : (st.map cat).sum ≤ 8) (hd : decode cc pc = .ok (.invokestatic index, 3))
    (kk : V E nL Q s' (pc + 3) lv (r.toList ++ st)) {sx : List AV} (hsx : sx = as.reverse ++ st) : V E nL Q s pc lv sx := by
  subst hsx
  intro A H locs ls hR hl ho
  have hos : okl s lv st := ⟨ho.1, fun v hv => ho.2 v (List.mem_append_right _ hv)⟩
  have hoa : ∀ v ∈ as, okv s v := fun v hv => ho.2 v (List.mem_append_left _ (List.mem_reverse.mpr hv))
  have hcs := cats (A := A) st hos.2
  have hrm := rm_call (d := d) g hR
  have hst : (as.reverse ++ st).map (tr A) = (as.map (tr A)).reverse ++ st.map (tr A) := by rw [List.map_append, List.map_reverse]
  refine W_run (a := (as.map (tr A)).toArray) (res := (s', .inl r)) hR hl hos ?_ (fun r' hr => by cases hr; exact kk) (fun X hX => by cases hX)
  intro T hT X
  obtain ⟨v, vm₁, ⟨U', l2, c2, s2⟩, hW₁, X', ⟨g', mk, t, L, e1, e2, hq, h1, hL, h2, h3⟩, st⟩ := va_callSN X g.1 (bytes := bytes) (maxL := maxL) (ret := ret) g.ow (va_Nw.use rfl (g.N _ w1)) (g.hts _ w2) (g.hts _ w4) (g.hts _ w5) hy (bk0 (bk (A := A) g hM hdd hmx w4 w5)) (g := F0 E.m pc ls ((as.reverse ++ st).map (tr A))) rfl (hl.1.trans g.2.2.1.symm) (argsL := as.map (tr A)) (rest := st.map (tr A)) (hlen_of hn (by rw [List.length_map])) hst (by show 2 * 0 + _ ≤ 8; omega) (by rw [g.2.1]; exact hd)
    (fun vm₁ hW₁ => ⟨hrm.1, hrm.2, PcE_at g hR hoa (T.setVm vm₁) hT hW₁⟩)
  dsimp only [Pt.U, Pt.locs, Pt.cells, Pt.slots] at X' e1 e2 h1 h2 h3 st
  subst h1; subst h2; subst h3
  exact Or.inl ⟨v, (T.setVm vm₁).calling g' mk (as.map (tr A)).toArray, t, U', L, hT, X', hL, e1, e2, hq, st⟩
/-- a static method with a table of its own -/
theorem V_callSW (g : GX E own cc nL d) {y : MethodName} {bytes : ByteArray} {maxL d' index : Nat} {ret : Option FieldType} {hh : List (Nat × Nat × Nat × Nat)} {as : List AV} {res : RT} (hM : MetG E.G E.l y (.codeWith y bytes maxL ret hh) d' s as res) (hdd : d' + 1 ≤ d) (hmx : maxL ≤ 20) (hn : (parseMethodDescriptor y.desc).map (fun d => d.parameters.length) = some as.length) (hy : y.cls ≠ "java/lang/invoke/MethodHandle" ∧ y.cls ≠ "java/lang/invoke/VarHandle")
    (w1 : Cond.methodLink own index y ∈ tb) (w2 : Cond.static y ∈ tb) (w4 : Cond.initialized y.cls ∈ tb) (w5 : Cond.codeWith y bytes maxL ret hh ∈ tb) (hct : (st.map cat).sum ≤ 8) (hd : decode cc pc = .ok (.invokestatic index, 3))
    (kk : ∀ r, res.2 = .inl r → V E nL Q res.1 (pc + 3) lv (r.toList ++ st)) (kx : ∀ X, res.2 = .inr X → VX E nL Q res.1 pc lv X) {sx : List AV} (hsx : sx = as.reverse ++ st) : V E nL Q s pc lv sx := by
  subst hsx
  intro A H locs ls hR hl ho
  have hos : okl s lv st := ⟨ho.1, fun v hv => ho.2 v (List.mem_append_right _ hv)⟩
  have hoa : ∀ v ∈ as, okv s v := fun v hv => ho.2 v (List.mem_append_left _ (List.mem_reverse.mpr hv))
  have hcs := cats (A := A) st hos.2
  have hrm := rm_call (d := d) g hR
  have hst : (as.reverse ++ st).map (tr A) = (as.map (tr A)).reverse ++ st.map (tr A) := by rw [List.map_append, List.map_reverse]
  refine W_run (a := (as.map (tr A)).toArray) hR hl hos ?_ kk kx
  intro T hT X
  rcases vx_callSX X g.1 (bytes := bytes) (maxL := maxL) (ret := ret) (hh := hh) g.ow (g.hts _ w1) (g.hts _ w2) (g.hts _ w4) (g.hts _ w5) hy (bkW (A := A) g hM hdd hmx w4 w5) (g := F0 E.m pc ls ((as.reverse ++ st).map (tr A))) rfl (hl.1.trans g.2.2.1.symm) (argsL := as.map (tr A)) (rest := st.map (tr A)) (hlen_of hn (by rw [List.length_map])) hst (by show 2 * 0 + _ ≤ 8; omega) (by rw [g.2.1]; exact hd)
    (fun vm₁ hW₁ => ⟨hrm.1, hrm.2, PcE_at g hR hoa (T.setVm vm₁) hT hW₁⟩) with ⟨v, vm₁, ⟨U', l2, c2, s2⟩, hW₁, X', ⟨g', mk, t, L, e1, e2, hq, h1, hL, h2, h3⟩, st⟩ | ⟨q, vm₁, ⟨U', l2, c2, s2⟩, hW₁, X', ⟨g', mk, t, L, Ec, ce, e1, e2, hq, hce, hcv, hcl, h1, hL, h2, h3⟩, st⟩
  · dsimp only [Pt.U, Pt.locs, Pt.cells, Pt.slots] at X' e1 e2 h1 h2 h3 st
    subst h1; subst h2; subst h3
    exact Or.inl ⟨v, (T.setVm vm₁).calling g' mk (as.map (tr A)).toArray, t, U', L, hT, X', hL, e1, e2, hq, st⟩
  · dsimp only [Pt.U, Pt.locs, Pt.cells, Pt.slots] at X' e1 e2 h1 h2 h3 st hcl
    subst h1; subst h2; subst h3
    exact Or.inr ⟨q, (T.setVm vm₁).calling g' mk (as.map (tr A)).toArray, t, U', L, Ec, ce, hT, X', hL, e1, e2, hq, hce, hcv, vx_cls hW₁ hcl, st⟩
end VENDS
