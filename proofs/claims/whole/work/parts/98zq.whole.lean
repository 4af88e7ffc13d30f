/-! THE CLAIM OUT OF ONE WALK OF THE LAW'S BODY. Your part is whole_start (and what it stands on); all else here is the same for every law, but numbers. -/
def R_law : String := "ThinSeriesLaw"
def lw_P (b : Addr) (xs : List Int32) (args : Array Value) (s : State) : Prop := args = #[.ref b] ∧ s.IntsAt b xs ∧ xs.length ≤ 3584 ∧ (Jvm.Cond.and given_1 narrow_1).before args s = true
def lw_Q (_ : Array Value) (s : State) (o : Outcome) (t : State) : Prop := o = .returned (some (.int 1)) ∧ Framed s o t [] 601024 7293034
def lw_Z (below : List Frame) (a : Array Value) (s : State) : State → Prop := fun t => ∃ o, t.status = .running ∧ Ended t below o ∧ lw_Q a s o t
/-- the law's own end, with 1 on the stack, nothing written that was there before, its room as the claim has it -/
theorem lw_ret {p : Program} {l : Launch} {e : Env} {s : State} {m : MethodId} {below : List Frame} {meth : Method} {c : Code} {b : Nat} (hx : p.tables.exec = Jvm.exec) (hb : c.code = code) (hr : meth.sig.returnType = ret) (hlocks : meth.locks = false) {pc : Nat} {H : Heap} {ls : Array Slot} (hdg : decode code pc = .ok (.ireturn, 1)) : W p l e room_1 s m #[Value.ref b] below meth c H [] 601024 7293034 (lw_Z below #[Value.ref b] s) (F0 m pc ls [.int 1]) := by
  intro T hT X
  obtain ⟨fs, hret, hrun, hended, hW, hframe⟩ := X.leave (v := some (.int 1)) (hlocks := hlocks) (fun h => by rw [hr] at h; cases h)
  have hmeth' : T.vm.method? m = some meth := X.method'
  refine ⟨T.setFrames fs, ?_, .returned (some (.int 1)), hrun, hended, rfl, ⟨_, rfl⟩, hW, hframe⟩
  jvm_step X.here [X.here.top, hx, hb, hdg, hmeth', hr, ret, narrow_b1]
  (try refine ⟨rfl, ?_⟩); (try refine ⟨rfl, ?_⟩)
  first | (intro acts; rw [hret _ acts rfl rfl rfl]) | rw [hret _ _ rfl rfl rfl]
  exact Steps.refl _
/-- what holds at the law's entry: the machine, the code, the tables' words (any of lw_tbl by 'hts w (by decide +kernel)'), the script of L ints xs at the cell b, what the Statement gives of the start (any of its parts by flat_of_before) -/
def lw_At (p : Program) (s : State) (m : MethodId) (meth : Method) (c : Code) (b L : Nat) (xs : Nat → Int32) : Prop :=
  p.tables.exec = Jvm.exec ∧ c.code = code ∧ meth.sig.returnType = ret ∧ c.maxLocals = 8 ∧ s.vm.findClass R_law = some m.cls ∧ (∀ w ∈ lw_tbl, w.before #[Value.ref b] s = true) ∧ va_X b L xs s s.heap ∧ b < s.heap.size ∧ meth.locks = false ∧ (Jvm.Cond.and given_1 narrow_1).before #[Value.ref b] s = true
set_option maxHeartbeats 4000000 in
set_option maxRecDepth 100000 in
/-- THE LAW, from its entry -/
theorem whole_start {p : Program} {e : Env} {s : State} {m : MethodId} {below : List Frame} {meth : Method} {c : Code} (l : Launch) (hflags : l.flags = flags0) {b L : Nat} {xs : Nat → Int32} (hL : L ≤ 3584) (C0 : lw_At p s m meth c b L xs) : W p l e room_1 s m #[Value.ref b] below meth c s.heap [] 0 0 (lw_Z below #[Value.ref b] s) (entryFrame m ([Value.ref b] : List Value).toArray 8) := by
  obtain ⟨hx, hb, hr, hml, hown, hts, hX, hbl, hlocks, hgv⟩ := id C0
  obtain ⟨G, hG1, hG2, hW⟩ := zs_WK (b := b) hts hgv
  obtain ⟨s', hf⟩ := law_one xs hL
  have htr : l.stackTraces = false := by
    unfold Launch.stackTraces
    rw [hflags]
    decide +kernel
  have g : GX (p, l, e, room_1, s, m, #[Value.ref b], below, meth, c, G, st0, G.2.2.2) "ThinSeriesLaw" cL_law 8 51 :=
    ⟨hx, hb, hml, hown, fun w hw => hts w (List.mem_filter.mp hw).1, hlocks, htr, hW, Nat.le_of_eq hG1, Nat.le_of_ble_eq_true rfl, Nat.le_of_ble_eq_true rfl, rfl, rfl⟩
  have hlr : law_end (p, l, e, room_1, s, m, #[Value.ref b], below, meth, c, G, st0, G.2.2.2) (lw_Z below #[Value.ref b] s) s' := by
    intro A H locs ls pc hR hd
    have hb2 : bdOK s' := hR.1.2.2.1.2
    refine va_forget (fun q hq => ?_) (W.widen (k := 601024) (n := 7293034) ?_ ?_ (lw_ret hx hb hr hlocks hd))
    · have h1 : G.1 ≤ q.base := hR.2.2.2.2.2 q hq
      rw [hG1] at h1
      exact h1
    · exact Nat.le_trans (Nat.sub_le _ _) hb2.1
    · exact Nat.le_trans (Nat.sub_le _ _) hb2.2
  have hX1 : va_X (G.2.2.2 19 1) L xs s s.heap := by rw [hG2]; exact hX
  have hb1 : G.2.2.2 19 1 < G.1 := by rw [hG1, hG2]; exact hbl
  have hv := t_L_law (fu := 3000000) (Q := lw_Z below #[Value.ref b] s) (xs := xs) (L := L) (s' := s') (s := st0) g hX1 hb1 hlr hf
  have hR : Rl (p, l, e, room_1, s, m, #[Value.ref b], below, meth, c, G, st0, G.2.2.2) G.2.2.2 st0 s.heap [] :=
    ⟨⟨fun k i _ h1 h2 => absurd (show i ≤ 0 from h2) (by omega), fun k i _ _ _ h1 h2 => absurd (show i ≤ 0 from h2) (by omega), ⟨fun k i _ h1 h2 => absurd (show i ≤ 0 from h2) (by omega), Nat.zero_le _, Nat.zero_le _⟩, fun k i j => Nat.zero_le _, fun k _ => rfl⟩, Ex.rf, ls2.rf, va_S.rf⟩
  have hl := lv_entry ([.ref b]) (n := 8) (Nat.le_of_ble_eq_true rfl)
  rw [lg_entry_eq]
  generalize (lg_sl ([.ref b]) ++ List.replicate (8 - (lg_sl ([.ref b])).length) Slot.unset).toArray = ls at hl ⊢
  have hl1 : lv_has ls 8 [(0, .ref b)] := hl
  have hl2 : lv_has ls 8 [(0, tr G.2.2.2 (vR 19 1))] := by
    rw [tr_nz (by decide), hG2]
    exact hl1
  have hok : okl st0 [(0, vR 19 1)] [] := by
    refine ⟨fun q hq => ?_, fun v hv => ?_⟩
    · rcases List.mem_cons.mp hq with rfl | hq
      · exact (show 1 ≤ 38 by decide)
      · cases hq
    · cases hv
  exact hv G.2.2.2 s.heap [] ls hR hl2 hok
