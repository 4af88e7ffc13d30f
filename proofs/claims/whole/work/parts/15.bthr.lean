section VTHR
variable {E : ET} {own : String} {cc : ByteArray} {nL d : Nat} {Q : State → Prop} {s s0 : St} {pc : Nat} {lv : List (Nat × AV)} {st : List AV} {nm : String} {ret : Option FieldType}
theorem hat_of (g : GX E own cc nL d) {L : List Cond} (h : L.all (fun w => decide (w ∈ lw_tbl) && (goodWord w || ng w)) = true) : ∀ w ∈ L, w.before E.args E.s = true := by
  intro w hw
  have h1 := List.all_eq_true.mp h w hw
  simp only [Bool.and_eq_true, decide_eq_true_eq, Bool.or_eq_true] at h1
  rcases h1.2 with h2 | h2
  · exact g.hts w (List.mem_filter.mpr ⟨h1.1, h2⟩)
  · have h3 := g.N w (List.mem_filter.mpr ⟨h1.1, h2⟩)
    match w, h2, h3 with
    | .castable _ _, _, h3 => exact va_Nw.use rfl h3
    | .declares _, _, h3 => exact va_Nw.use rfl h3
    | .methodLinkNest _ _ _ _, _, h3 => exact va_Nw.use rfl h3
    | .arrayOver (.object _), _, h3 => exact va_AO.use h3
theorem Hd.more {G : GT} {A : AM} {s : St} {H H1 : Heap} (h : Hd G A s H) (hk : ∀ q : Nat, q < H.size → H1[q]? = H[q]?) : Hd G A s H1 :=
  ⟨fun k i hk' hi hn => (h.1 k i hk' hi hn).kept (hk _ (h.1 k i hk' hi hn).lt), h.2⟩
theorem V_throw (g : GX E own cc nL d) {X tx : String} {ik is ic ix9 j : Nat} {rx : ByteArray} {names : List String} (f : FX E nm ret []) (hm : bdOK (nX s)) (x0 : decode rx 0 = .ok (.aload_n 0, 1)) (x1 : decode rx 1 = .ok (.aload_n 1, 1)) (x2 : decode rx 2 = .ok (.invokespecial ix9, 3)) (x5 : decode rx 5 = .ok (.return_, 1)) (hX : Bundle.fit X = true) (hnames : ∀ n ∈ names, Bundle.fit n = true) (hnl : names.length = 2)
    (w1 : Cond.classLink own ik X ∈ tb) (w2 : Cond.initialized X ∈ tb) (hj : 0 < j ∧ j ≤ 38) (hq : strT[j - 1]? = some (own, is, tx)) (hat : (nx_atf own ic X ix9 rx names).all (fun w => decide (w ∈ lw_tbl) && (goodWord w || ng w)) = true) (hot : (Cond.classLink own ik X :: Cond.initialized X :: nx_atf own ic X ix9 rx names).all vx_ot = true) (hd6 : 6 ≤ d) (hct : (st.map cat).sum ≤ 8)
    (hd : (decode cc pc = .ok (.new ik, 3) ∧ decode cc (pc + 3) = .ok (.dup, 1)) ∧ ((decode cc (pc + 4) = .ok (.ldc is, 2) ∧ decode cc (pc + 6) = .ok (.invokespecial ic, 3) ∧ decode cc (pc + 9) = .ok (.athrow, 1)) ∨ (decode cc (pc + 4) = .ok (.ldc_w is, 3) ∧ decode cc (pc + 7) = .ok (.invokespecial ic, 3) ∧ decode cc (pc + 10) = .ok (.athrow, 1)))) : V E nL (QE E (nX s, .inr X)) s pc lv st := by
  intro A H locs ls hR hl ho
  have hfr := g.frs
  have hlo := g.los
  have hcs := cats (A := A) st ho.2
  have l1 := hR.2.2.1.1
  have l2 := hR.2.2.1.2.1
  have e1 : cn (nX s) = cn s + 1 := rfl
  have e2 : sn (nX s) = sn s + 6 := rfl
  have r1' := g.cls
  have r2' := g.sls
  have m1 : cn s + 1 ≤ 601024 := hm.1
  have m2 : sn s + 6 ≤ 7293034 := hm.2
  have hx : ∀ t : State, E.s.vm.Alike t.vm → H.size ≤ t.heap.size → (∀ q : Nat, q < H.size → t.heap[q]? = H[q]?) → XcE E.G E.A0 E.s0 (nX s, .inr X) X E.s t := by
    intro t _ h1 h2
    have hH : Hd E.G A (nX s) t.heap := by
      have h9 := Hd.more (s := s) hR.1 h2
      exact ⟨h9.1, h9.2.1, ⟨h9.2.2.1.1, hm⟩, h9.2.2.2⟩
    refine ⟨⟨A, ⟨by show cn E.s0 ≤ cn s + 1; omega, by show sn E.s0 ≤ sn s + 6; omega, hR.2.2.1.2.2⟩, hR.2.1, hH, rfl⟩, Nat.le_trans hR.2.2.2.1 h1, fun q h3 h4 => ?_⟩
    rw [h2 q (Nat.lt_of_lt_of_le h3 hR.2.2.2.1)]
    exact hR.2.2.2.2.1 q h3 h4
  have hout : ∀ (z : Nat), ∀ x ∈ E.c.exceptionTable.toList, covers x z = false := fun z x hx => by rw [f.2.2] at hx; exact nomatch hx
  obtain ⟨⟨d0, d3⟩, ⟨d4, d6, d9⟩ | ⟨d4, d6, d9⟩⟩ := hd
  · exact nx_throw (A := fr E.G) g.1 g.2.1 g.2.2.2.2.2.2.1 x0 x1 x2 x5 g.ow hX hnames (g.hts _ w1) (g.hts _ w2) ((g.S j hj.1 hj.2).2.2.2.2 _ hq) (hat_of g hat) (fun w hw => List.all_eq_true.mp hot w hw) g.Z.2.2.2.2.1 g.Z.2.2.2.2.2.1 hR.2.2.2 (hl.1.trans g.2.2.1.symm) d0 d3 d4 d6 d9 (hout _) (by rw [hnl]; omega) (by rw [hnl]; omega) (by omega) (by omega) g.2.2.2.2.2.1 hx hR.2.2.2.2.2 (by show _ ≤ cn s + 1 - cn E.s0; omega) (by show _ ≤ sn s + 6 - sn E.s0; omega)
  · exact nx_throwW (A := fr E.G) g.1 g.2.1 g.2.2.2.2.2.2.1 x0 x1 x2 x5 g.ow hX hnames (g.hts _ w1) (g.hts _ w2) ((g.S j hj.1 hj.2).2.2.2.2 _ hq) (hat_of g hat) (fun w hw => List.all_eq_true.mp hot w hw) g.Z.2.2.2.2.1 g.Z.2.2.2.2.2.1 hR.2.2.2 (hl.1.trans g.2.2.1.symm) d0 d3 d4 d6 d9 (hout _) (by rw [hnl]; omega) (by rw [hnl]; omega) (by omega) (by omega) g.2.2.2.2.2.1 hx hR.2.2.2.2.2 (by show _ ≤ cn s + 1 - cn E.s0; omega) (by show _ ≤ sn s + 6 - sn E.s0; omega)
end VTHR
