/-! ===== what is new ===== -/
theorem ls2_nW {s : St} {k n z : Nat} : ls2 s (nW s k n z) := by
  refine ⟨Nat.le_succ _, Nat.le_add_right _ _, fun k' => ?_⟩
  show gN s k' ≤ if k' = k then gN s k + 1 else gN s k'
  split
  · rename_i h; subst h; omega
  · exact Nat.le_refl _
theorem Ex_new {s : St} {A : AM} {k q : Nat} (hk : k < 16) : Ex s A (u2 A k (gN s k + 1) q) := by
  refine ⟨fun k' i hk' hi hn => if_neg (fun z => ?_), fun k' hk' => funext fun i => if_neg (fun z => ?_)⟩
  · obtain ⟨rfl, rfl⟩ := z; omega
  · omega
theorem Hd.push {G : GT} {A : AM} {s : St} {H H1 : Heap} (h : Hd G A s H) {k n z q : Nat} {e : va_E} (hk : k < 16) (hP : va_P G.2.1 vwCl (WL G A s ++ [(q, e)]) H1) (hD : va_D (fr G) (WL G A s ++ [(q, e)])) (hbd : bdOK (nW s k n z))
    (he : en G (u2 A k (gN s k + 1) q) (nW s k n z) k (gN s k + 1) = e) : Hd G (u2 A k (gN s k + 1) q) (nW s k n z) H1 := by
  have hx : Ex s A (u2 A k (gN s k + 1) q) := Ex_new hk
  have hlast : (WL G A s ++ [(q, e)])[(WL G A s).length]? = some (q, e) := by rw [List.getElem?_append_right (Nat.le_refl _), Nat.sub_self]; rfl
  have hnew : u2 A k (gN s k + 1) q k (gN s k + 1) = q := if_pos ⟨rfl, rfl⟩
  have hN : ∀ k', gN (nW s k n z) k' = if k' = k then gN s k + 1 else gN s k' := fun _ => rfl
  have old : ∀ k' i' : Nat, 0 < i' → i' ≤ gN (nW s k n z) k' → (k' = k ∧ i' = gN s k + 1) ∨ (i' ≤ gN s k' ∧ ¬ (k' = k ∧ i' = gN s k + 1)) := by
    intro k' i' h1 h2
    rw [hN] at h2
    split at h2
    · rename_i hh
      subst hh
      by_cases hq : i' = gN s k' + 1
      · exact Or.inl ⟨rfl, hq⟩
      · exact Or.inr ⟨by omega, fun z => hq z.2⟩
    · rename_i hh
      exact Or.inr ⟨h2, fun z => hh z.1⟩
  have hen : ∀ k' i' : Nat, k' < 16 → ¬ (k' = k ∧ i' = gN s k + 1) → en G (u2 A k (gN s k + 1) q) (nW s k n z) k' i' = en G A s k' i' := by
    intro k' i' hk' hq
    have e1 : gI (nW s k n z) k' i' = gI s k' i' := if_neg hq
    have e2 : gJ (nW s k n z) k' i' = gJ s k' i' := if_neg hq
    have e3 : gR (nW s k n z) k' i' = gR s k' i' := if_neg hq
    have e4 : gL (nW s k n z) k' i' = gL s k' i' := if_neg hq
    have e5 : ∀ t r, r ≤ bd s t → ro (u2 A k (gN s k + 1) q) t r = ro A t r := by
      intro t r hr
      have e6 : tr (u2 A k (gN s k + 1) q) (vR t r) = tr A (vR t r) := tr_ex hx (v := vR t r) hr
      have e7 : va_rf (ro (u2 A k (gN s k + 1) q) t r) = va_rf (ro A t r) := e6
      cases h1 : ro (u2 A k (gN s k + 1) q) t r <;> cases h2 : ro A t r <;> rw [h1, h2] at e7 <;> first | rfl | (cases e7; rfl) | cases e7
    by_cases h9 : k' < 10
    · rw [en_obj h9, en_obj h9]
      congr 2
      refine List.map_congr_left (fun m _ => ?_)
      unfold fv
      rw [e1, e2, e3]
      have e8 : tr (u2 A k (gN s k + 1) q) (vR (rt k' m) (gR s k' i' m)) = tr A (vR (rt k' m) (gR s k' i' m)) := tr_ex hx (v := vR (rt k' m) (gR s k' i' m)) (h.2.2.2.1 k' i' m)
      rw [e8]
    · rw [en_arr (by omega), en_arr (by omega), e1, e2, e3, e4]
      by_cases h14 : k' = 14 ∨ k' = 15
      · have e9 : (fun j => ro (u2 A k (gN s k + 1) q) (rt k' 0) (gR s k' i' j)) = fun j => ro A (rt k' 0) (gR s k' i' j) := funext fun j => e5 _ _ (by
          have h1 := h.2.2.2.1 k' i' j
          rcases h14 with rfl | rfl <;> exact h1)
        rw [e9]
      · rw [if_neg h14, if_neg h14]
  refine ⟨fun k' i' hk' hi' hn' => ?_, fun k1 i1 k2 i2 hk1 hi1 hn1 hk2 hi2 hn2 ea => ?_, ⟨fun k' i' hk' hi' hn' => ?_, hbd⟩, fun k' i' j => ?_, fun k' hk' => ?_⟩
  · rcases old k' i' hi' hn' with ⟨rfl, rfl⟩ | ⟨h1, h2⟩
    · rw [he, hnew]
      exact hP _ _ hlast
    · rw [hen k' i' hk' h2, hx.1 k' i' hk' hi' h1]
      obtain ⟨n', hp'⟩ := WL_mem (G := G) (A := A) (s := s) hk' hi' h1
      exact hP n' _ ((List.getElem?_append_left (List.getElem?_eq_some_iff.mp hp').1).trans hp')
  · have apart : ∀ k' i' : Nat, k' < 16 → 0 < i' → i' ≤ gN s k' → ¬ A k' i' = q := by
      intro k' i' hk' hi' hn' e1
      obtain ⟨n', hp'⟩ := WL_mem (G := G) (A := A) (s := s) hk' hi' hn'
      have hl := (List.getElem?_eq_some_iff.mp hp').1
      have := hD.1 n' (WL G A s).length _ _ ((List.getElem?_append_left hl).trans hp') hlast e1
      omega
    rcases old k1 i1 hi1 hn1 with ⟨rfl, rfl⟩ | ⟨h1, h2⟩ <;> rcases old k2 i2 hi2 hn2 with ⟨rfl, rfl⟩ | ⟨h3, h4⟩
    · exact ⟨rfl, rfl⟩
    · rw [hnew, hx.1 k2 i2 hk2 hi2 h3] at ea
      exact absurd ea.symm (apart k2 i2 hk2 hi2 h3)
    · rw [hnew, hx.1 k1 i1 hk1 hi1 h1] at ea
      exact absurd ea (apart k1 i1 hk1 hi1 h1)
    · rw [hx.1 k1 i1 hk1 hi1 h1, hx.1 k2 i2 hk2 hi2 h3] at ea
      exact h.2.1 k1 i1 k2 i2 hk1 hi1 h1 hk2 hi2 h3 ea
  · rcases old k' i' hi' hn' with ⟨rfl, rfl⟩ | ⟨h1, h2⟩
    · rw [hnew]
      exact hD.2 _ _ hlast
    · rw [hx.1 k' i' hk' hi' h1]
      exact h.2.2.1.1 k' i' hk' hi' h1
  · show (if k' = k ∧ i' = gN s k + 1 then (fun _ => 0) else gR s k' i') j ≤ _
    split
    · exact Nat.zero_le _
    · exact Nat.le_trans (h.2.2.2.1 k' i' j) (bd_le ls2_nW _)
  · rw [hx.2 k' hk']
    exact h.2.2.2.2 k' hk'
section VNEW
variable {E : ET} {own : String} {cc : ByteArray} {nL d : Nat} {Q : State → Prop} {s : St} {pc : Nat} {lv : List (Nat × AV)} {st : List AV}
theorem mp_ex {A A' : AM} (h : Ex s A A') : ∀ st : List AV, (∀ v ∈ st, okv s v) → st.map (tr A') = st.map (tr A) := fun st ho => List.map_congr_left (fun v hv => tr_ex h (ho v hv))
theorem ml_ex {A A' : AM} (h : Ex s A A') (ho : ∀ q ∈ lv, okv s q.2) : (lv.map fun q => (q.1, tr A' q.2)) = lv.map fun q => (q.1, tr A q.2) := List.map_congr_left (fun q hq => by rw [tr_ex h (ho q hq)])
theorem V_new (g : GX E own cc nL d) (k : Nat) {index : Nat} {C : String} {T : u_T} {N : Nat} {s' : St} (hs : s' = nW s k 0 N) (hc : vwCl[k]? = some (C, T, N)) (h1 : Cond.classLink own index C ∈ tb) (h2 : Cond.instantiable C N ∈ tb) (h3 : Cond.initialized C ∈ tb) (hm : bdOK s') (hd : decode cc pc = .ok (.new index, 3)) (kk : V E nL Q s' (pc + 3) lv (vR k (gN s k + 1) :: st)) : V E nL Q s pc lv st := by
  subst hs
  intro A H locs ls hR hl ho
  obtain ⟨h10, hnf, hin, ⟨ty0, hty, hdf⟩, hnm⟩ := cl_all hc
  have hl2 := hR.2.2.1
  have m1 : cn s + 1 ≤ 601024 := hm.1
  have m3 := g.cls
  have m4 := g.sls
  have m2 : sn s + N ≤ 7293034 := hm.2
  have l1 := hl2.1
  have l2 := hl2.2.1
  refine va_new (fs := (List.range (nf k)).map (fun j => if ft k j = 0 then Value.int 0 else if ft k j = 1 then Value.long 0 else Value.null)) g.1 g.2.1 g.hts hin ty0 hty g.ow (g.hts _ h1) (g.hts _ h2) (g.hts _ h3) g.K hR.1.P hR.1.D hR.2.2.2 (fun q hq => Nat.le_trans g.2.2.2.2.2.2.2.2.1 hq) hc (fun j hj => ?_) (by omega) (by omega) hd (fun q H1 hP1 hD1 hS1 => ?_)
  · rw [hdf j hj]
    unfold vp_V
    rw [List.getD_eq_getElem?_getD, List.getElem?_map, List.getElem?_range (by omega)]
    rfl
  · have hx : Ex s A (u2 A k (gN s k + 1) q) := Ex_new (by omega)
    have hH : Hd E.G (u2 A k (gN s k + 1) q) (nW s k 0 N) H1 := by
      refine Hd.push hR.1 (by omega) hP1 hD1 hm ?_
      rw [en_obj h10]
      refine congrArg (fun z => (Sum.inr (k, z) : va_E)) (List.map_congr_left (fun j _ => ?_))
      unfold fv
      have e1 : gI (nW s k 0 N) k (gN s k + 1) = fun _ => 0 := if_pos ⟨rfl, rfl⟩
      have e2 : gJ (nW s k 0 N) k (gN s k + 1) = fun _ => 0 := if_pos ⟨rfl, rfl⟩
      have e3 : gR (nW s k 0 N) k (gN s k + 1) = fun _ => 0 := if_pos ⟨rfl, rfl⟩
      rw [e1, e2, e3]
      rfl
    have h := kk (u2 A k (gN s k + 1) q) H1 locs ls ⟨hH, hR.2.1.tr hl2 hx, hl2.tr ls2_nW, hS1⟩ (by rw [ml_ex hx ho.1]; exact hl) (okl.push (by show gN s k + 1 ≤ bd _ k; unfold bd; rw [if_pos (by omega)]; exact Nat.le_of_eq (if_pos rfl).symm) (ho.up ls2_nW))
    rw [List.map_cons, tr_nz (by omega), mp_ex hx st ho.2, show u2 A k (gN s k + 1) q k (gN s k + 1) = q from if_pos ⟨rfl, rfl⟩, show cn (nW s k 0 N) - cn E.s0 = cn s - cn E.s0 + 1 from Nat.sub_add_comm l1, show sn (nW s k 0 N) - sn E.s0 = sn s - sn E.s0 + N from Nat.sub_add_comm l2] at h
    exact h
def szb (n : Int32) : Bool := decide (0 ≤ n.toInt ∧ n.toInt ≤ 16777216)
theorem szb_n {n : Int32} (h : szb n = true) : ¬ n < 0 ∧ ix n ≤ 16777216 := by
  have h1 := of_decide_eq_true h
  refine ⟨fun z => ?_, ?_⟩
  · have := Int32.lt_iff_toInt_lt.mp z
    simp at this
    omega
  · show n.toInt.toNat ≤ 16777216
    omega
theorem V_newaC (g : GX E own cc nL d) (k : Nat) {atype : ArrayType} {ty : FieldType} {n : Int32} {s' : St} {a0 : (Nat → Int32) ⊕ (Nat → Int64) ⊕ (Nat → UInt32) ⊕ (Nat → UInt64) ⊕ (Nat → Option Nat)} (hs : s' = nW s k (ix n) (ix n)) (hk : 10 ≤ k ∧ k < 16) (hty : newarray.typeOf atype = ty) (hw : Cond.arrayClass (newarray.typeOf atype) ∈ tb) (ht : (tysL E.G)[k - 10]? = some (E.G.2.2.1 k, ty)) (hno : ∀ (U : State) (cA : ClassId), va_RA U cA ty → U.vm.findClass ("[" ++ ty.toString) = some cA) (hcb : componentBytes ty ≤ 8)
    (ha : ∀ cA : ClassId, vp_cell cA (ix n, a0) = arrV cA (ix n) (fun _ => defaultValue ty)) (he : ∀ A : AM, en E.G A (nW s k (ix n) (ix n)) k (gN s k + 1) = .inl (E.G.2.2.1 k, ix n, a0)) (hn : szb n = true) (hm : bdOK s') (hd : decode cc pc = .ok (.newarray atype, 2)) (kk : V E nL Q s' (pc + 2) lv (vR k (gN s k + 1) :: st)) : V E nL Q s pc lv (vI n :: st) := by
  subst hs
  intro A H locs ls hR hl ho
  obtain ⟨hn1, hn2⟩ := szb_n hn
  have hl2 := hR.2.2.1
  have m1 : cn s + 1 ≤ 601024 := hm.1
  have m3 := g.cls
  have m4 := g.sls
  have m2 : sn s + ix n ≤ 7293034 := hm.2
  have l1 := hl2.1
  have l2 := hl2.2.1
  refine va_newa (atype := atype) (a0 := (ix n, a0)) g.1 g.2.1 (g.hts _ hw) hty g.K hR.1.P hR.1.D hR.2.2.2 (fun q hq => Nat.le_trans g.2.2.2.2.2.2.2.2.1 hq) ha hn1 rfl (Nat.le_trans (Nat.mul_le_mul hn2 hcb) (Nat.le_of_ble_eq_true rfl)) (by omega) (by omega) hd (fun q cA H1 hK1 hP1 hD1 hS1 => ?_)
  have hcA : cA = E.G.2.2.1 k := by
    have r1 := (hK1.2 (tysL E.G).length (cA, ty) (by rw [List.getElem?_append_right (Nat.le_refl _), Nat.sub_self]; rfl)).2
    have r2 := (g.K.2 (k - 10) _ ht).2
    exact Option.some.inj ((hno _ _ r1).symm.trans (hno _ _ r2))
  subst hcA
  have hx : Ex s A (u2 A k (gN s k + 1) q) := Ex_new (by omega)
  have hH : Hd E.G (u2 A k (gN s k + 1) q) (nW s k (ix n) (ix n)) H1 := Hd.push hR.1 (by omega) hP1 hD1 hm (he _)
  have h := kk (u2 A k (gN s k + 1) q) H1 locs ls ⟨hH, hR.2.1.tr hl2 hx, hl2.tr ls2_nW, hS1⟩ (by rw [ml_ex hx ho.1]; exact hl) (okl.push (by show gN s k + 1 ≤ bd _ k; unfold bd; rw [if_pos (by omega)]; exact Nat.le_of_eq (if_pos rfl).symm) (ho.pop.up ls2_nW))
  rw [List.map_cons, tr_nz (by omega), mp_ex hx st ho.pop.2, show u2 A k (gN s k + 1) q k (gN s k + 1) = q from if_pos ⟨rfl, rfl⟩, show cn (nW s k (ix n) (ix n)) - cn E.s0 = cn s - cn E.s0 + 1 from Nat.sub_add_comm l1, show sn (nW s k (ix n) (ix n)) - sn E.s0 = sn s - sn E.s0 + ix n from Nat.sub_add_comm l2] at h
  exact h
theorem nW_I {k n z : Nat} : gI (nW s k n z) k (gN s k + 1) = fun _ => 0 := if_pos ⟨rfl, rfl⟩
theorem nW_J {k n z : Nat} : gJ (nW s k n z) k (gN s k + 1) = fun _ => 0 := if_pos ⟨rfl, rfl⟩
theorem nW_R {k n z : Nat} : gR (nW s k n z) k (gN s k + 1) = fun _ => 0 := if_pos ⟨rfl, rfl⟩
theorem nW_L {k n z : Nat} : gL (nW s k n z) k (gN s k + 1) = n := if_pos ⟨rfl, rfl⟩
theorem V_new10 (g : GX E own cc nL d) {n : Int32} {s' : St} (hs : s' = nW s 10 (ix n) (ix n)) (hw : Cond.arrayClass .int ∈ tb) (hn : szb n = true) (hm : bdOK s') (hd : decode cc pc = .ok (.newarray .int, 2)) (kk : V E nL Q s' (pc + 2) lv (vR 10 (gN s 10 + 1) :: st)) : V E nL Q s pc lv (vI n :: st) :=
  V_newaC (atype := .int) (ty := .int) (a0 := .inl (fun _ => 0)) g 10 hs (by decide) rfl hw rfl (fun _ _ h => h) (by decide) (fun _ => rfl) (fun A => by rw [en_10, nW_I, nW_L]) hn hm hd kk
theorem V_new11 (g : GX E own cc nL d) {n : Int32} {s' : St} (hs : s' = nW s 11 (ix n) (ix n)) (hw : Cond.arrayClass .long ∈ tb) (hn : szb n = true) (hm : bdOK s') (hd : decode cc pc = .ok (.newarray .long, 2)) (kk : V E nL Q s' (pc + 2) lv (vR 11 (gN s 11 + 1) :: st)) : V E nL Q s pc lv (vI n :: st) :=
  V_newaC (atype := .long) (ty := .long) (a0 := .inr (.inl (fun _ => 0))) g 11 hs (by decide) rfl hw rfl (fun _ _ h => h) (by decide) (fun _ => rfl) (fun A => by rw [en_11, nW_J, nW_L]) hn hm hd kk
theorem V_new12 (g : GX E own cc nL d) {n : Int32} {s' : St} (hs : s' = nW s 12 (ix n) (ix n)) (hw : Cond.arrayClass .byte ∈ tb) (hn : szb n = true) (hm : bdOK s') (hd : decode cc pc = .ok (.newarray .byte, 2)) (kk : V E nL Q s' (pc + 2) lv (vR 12 (gN s 12 + 1) :: st)) : V E nL Q s pc lv (vI n :: st) :=
  V_newaC (atype := .byte) (ty := .byte) (a0 := .inl (fun _ => 0)) g 12 hs (by decide) rfl hw rfl (fun _ _ h => h) (by decide) (fun _ => rfl) (fun A => by rw [en_12, nW_I, nW_L]) hn hm hd kk
theorem V_new13 (g : GX E own cc nL d) {n : Int32} {s' : St} (hs : s' = nW s 13 (ix n) (ix n)) (hw : Cond.arrayClass .boolean ∈ tb) (hn : szb n = true) (hm : bdOK s') (hd : decode cc pc = .ok (.newarray .boolean, 2)) (kk : V E nL Q s' (pc + 2) lv (vR 13 (gN s 13 + 1) :: st)) : V E nL Q s pc lv (vI n :: st) :=
  V_newaC (atype := .boolean) (ty := .boolean) (a0 := .inl (fun _ => 0)) g 13 hs (by decide) rfl hw rfl (fun _ _ h => h) (by decide) (fun _ => rfl) (fun A => by rw [en_13, nW_I, nW_L]) hn hm hd kk
theorem w_any {w : Cond} (g : GX E own cc nL d) (h : w ∈ tb) : w.before #[] E.s = true := word_at (State.WarmedH.refl E.s) (good_of_word (List.mem_filter.mp h).2) (g.hts _ h)
theorem V_newqC (g : GX E own cc nL d) (k : Nat) {index : Nat} {C : String} {n : Int32} {s' : St} (hs : s' = nW s k (ix n) (ix n)) (hk : k = 14 ∨ k = 15) (h1 : Cond.classLink own index C ∈ tb) (h2 : Cond.arrayOver (.object C) ∈ nwL) (ht : (tysL E.G)[k - 10]? = some (E.G.2.2.1 k, .object C)) (hn : szb n = true) (hm : bdOK s') (hd : decode cc pc = .ok (.anewarray index, 3)) (kk : V E nL Q s' (pc + 3) lv (vR k (gN s k + 1) :: st)) : V E nL Q s pc lv (vI n :: st) := by
  subst hs
  intro A H locs ls hR hl ho
  obtain ⟨hn1, hn2⟩ := szb_n hn
  have hl2 := hR.2.2.1
  have m1 : cn s + 1 ≤ 601024 := hm.1
  have m3 := g.cls
  have m4 := g.sls
  have m2 : sn s + ix n ≤ 7293034 := hm.2
  have l1 := hl2.1
  have l2 := hl2.2.1
  refine va_newq (N' := ix n) g.1 g.2.1 g.ow (g.hts _ h1) (g.N _ h2) g.K hR.1.P hR.1.D hR.2.2.2 (fun q hq => Nat.le_trans g.2.2.2.2.2.2.2.2.1 hq) hn1 rfl (Nat.le_trans (Nat.mul_le_mul hn2 (Nat.le_refl 4)) (Nat.le_of_ble_eq_true rfl)) (by omega) (by omega) hd (fun q cA H1 hK1 hP1 hD1 hS1 => ?_)
  have hcA : cA = E.G.2.2.1 k := by
    have r1 := (hK1.2 (tysL E.G).length (cA, .object C) (by rw [List.getElem?_append_right (Nat.le_refl _), Nat.sub_self]; rfl)).2
    have r2 := (g.K.2 (k - 10) _ ht).2
    obtain ⟨_, _, -, -, -, r3⟩ := r1
    obtain ⟨_, _, -, -, -, r4⟩ := r2
    exact Option.some.inj (r3.symm.trans r4)
  subst hcA
  have hx : Ex s A (u2 A k (gN s k + 1) q) := Ex_new (by omega)
  have hH : Hd E.G (u2 A k (gN s k + 1) q) (nW s k (ix n) (ix n)) H1 := by
    refine Hd.push hR.1 (by omega) hP1 hD1 hm ?_
    rw [en_arr (by omega), if_neg (by omega), if_pos hk, nW_R, nW_L]
    rfl
  have h := kk (u2 A k (gN s k + 1) q) H1 locs ls ⟨hH, hR.2.1.tr hl2 hx, hl2.tr ls2_nW, hS1⟩ (by rw [ml_ex hx ho.1]; exact hl) (okl.push (by show gN s k + 1 ≤ bd _ k; unfold bd; rw [if_pos (by omega)]; exact Nat.le_of_eq (if_pos rfl).symm) (ho.pop.up ls2_nW))
  rw [List.map_cons, tr_nz (by omega), mp_ex hx st ho.pop.2, show u2 A k (gN s k + 1) q k (gN s k + 1) = q from if_pos ⟨rfl, rfl⟩, show cn (nW s k (ix n) (ix n)) - cn E.s0 = cn s - cn E.s0 + 1 from Nat.sub_add_comm l1, show sn (nW s k (ix n) (ix n)) - sn E.s0 = sn s - sn E.s0 + ix n from Nat.sub_add_comm l2] at h
  exact h
end VNEW
