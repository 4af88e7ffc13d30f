theorem en_obj {G : GT} {A : AM} {s : St} {k i : Nat} (h : k < 10) : en G A s k i = .inr (k, (List.range (nf k)).map (fv A s k i)) := by unfold en; rw [if_pos h]
theorem ok_bd {s : St} {k i : Nat} (hk : k < 16) (h : okv s (vR k i)) : i ≤ gN s k := by
  have : i ≤ bd s k := h
  unfold bd at this
  rw [if_pos hk] at this
  exact this
theorem en_arr {G : GT} {A : AM} {s : St} {k i : Nat} (h : 10 ≤ k) : en G A s k i = .inl (G.2.2.1 k, gL s k i, if k = 11 then .inr (.inl (gJ s k i)) else if k = 14 ∨ k = 15 then .inr (.inr (.inr (.inr fun j => ro A (rt k 0) (gR s k i j)))) else .inl (gI s k i)) := by unfold en; rw [if_neg (by omega)]
section VHEAP
variable {E : ET} {own : String} {cc : ByteArray} {nL d : Nat} {Q : State → Prop} {s : St} {pc : Nat} {lv : List (Nat × AV)} {st : List AV}
theorem V_getC (g : GX E own cc nL d) {k i j index : Nat} {C : String} {T : u_T} {N : Nat} {v : AV} (hc : vwCl[k]? = some (C, T, N)) (hj : j < N) (hw : Cond.fieldLink own index (T j).1 (T j).2.1 (T j).2.2.1 ∈ tb) (hi : ¬ i = 0) (hv : ∀ A, fv A s k i j = tr A v) (hok : (∀ k i j : Nat, gR s k i j ≤ bd s (rt k j)) → okv s v) (hd : decode cc pc = .ok (.getfield index, 3)) (kk : V E nL Q s (pc + 3) lv (v :: st)) : V E nL Q s pc lv (vR k i :: st) := by
  intro A H locs ls hR hl ho
  obtain ⟨h10, hnf, hin, -, -⟩ := cl_all hc
  have hb := ok_bd (by omega) ho.top
  obtain ⟨n, hn⟩ := WL_mem (G := E.G) (A := A) (s := s) (k := k) (i := i) (by omega) (by omega) hb
  rw [en_obj h10] at hn
  have hk := kk A H locs ls hR hl (okl.push (hok hR.1.2.2.2.1) ho.pop)
  rw [List.map_cons, tr_nz hi]
  refine va_get (v := tr A v) g.1 g.2.1 g.hts hin g.ow g.K hR.1.P n hn hc j hj (g.hts _ hw) (fun _ h => h) ?_ hd hk
  rw [List.getElem?_map, List.getElem?_range (by omega)]
  exact congrArg some (hv A)
theorem V_getI (g : GX E own cc nL d) (k i j : Nat) {index : Nat} {C : String} {T : u_T} {N : Nat} (hc : vwCl[k]? = some (C, T, N)) (hj : j < N) (hf : ft k j = 0) (hw : Cond.fieldLink own index (T j).1 (T j).2.1 (T j).2.2.1 ∈ tb) (hi : ¬ i = 0) (hd : decode cc pc = .ok (.getfield index, 3)) (kk : V E nL Q s (pc + 3) lv (vI (gI s k i j) :: st)) : V E nL Q s pc lv (vR k i :: st) :=
  V_getC (v := vI (gI s k i j)) g hc hj hw hi (fun A => by unfold fv; rw [if_pos hf]; rfl) (fun _ => trivial) hd kk
theorem V_getJ (g : GX E own cc nL d) (k i j : Nat) {index : Nat} {C : String} {T : u_T} {N : Nat} (hc : vwCl[k]? = some (C, T, N)) (hj : j < N) (hf : ft k j = 1) (hw : Cond.fieldLink own index (T j).1 (T j).2.1 (T j).2.2.1 ∈ tb) (hi : ¬ i = 0) (hd : decode cc pc = .ok (.getfield index, 3)) (kk : V E nL Q s (pc + 3) lv (vJ (gJ s k i j) :: st)) : V E nL Q s pc lv (vR k i :: st) :=
  V_getC (v := vJ (gJ s k i j)) g hc hj hw hi (fun A => by unfold fv; rw [if_neg (by omega), if_pos hf]; rfl) (fun _ => trivial) hd kk
theorem V_getR (g : GX E own cc nL d) (k i j t : Nat) {index : Nat} {C : String} {T : u_T} {N : Nat} (hc : vwCl[k]? = some (C, T, N)) (hj : j < N) (hf : ft k j = 2) (ht : rt k j = t) (hw : Cond.fieldLink own index (T j).1 (T j).2.1 (T j).2.2.1 ∈ tb) (hi : ¬ i = 0) (hd : decode cc pc = .ok (.getfield index, 3)) (kk : V E nL Q s (pc + 3) lv (vR t (gR s k i j) :: st)) : V E nL Q s pc lv (vR k i :: st) :=
  V_getC g hc hj hw hi (fun A => by unfold fv; rw [if_neg (by omega), if_neg (by omega), ht]) (fun h => by subst ht; exact h k i j) hd kk
theorem map_range_set {α : Type} (f h : Nat → α) (n j : Nat) (v : α) (hv : h j = v) (ho : ∀ m, m < n → m ≠ j → h m = f m) : ((List.range n).map f).set j v = (List.range n).map h := by
  apply List.ext_getElem?
  intro m
  by_cases hm : m < n
  · by_cases hj : j = m
    · subst hj
      rw [List.getElem?_set_self (by simpa using hm), List.getElem?_map, List.getElem?_range hm]
      exact congrArg some hv.symm
    · rw [List.getElem?_set_ne hj, List.getElem?_map, List.getElem?_map, List.getElem?_range hm]
      exact congrArg some (ho m hm (Ne.symm hj)).symm
  · rw [List.getElem?_eq_none (by simpa using hm), List.getElem?_eq_none (by simpa using hm)]
theorem V_putC (g : GX E own cc nL d) {k i j index : Nat} {C : String} {T : u_T} {N : Nat} {v : AV} {ty : FieldType} (s' : St) (hc : vwCl[k]? = some (C, T, N)) (hj : j < N) (hw : Cond.fieldLink own index (T j).1 (T j).2.1 (T j).2.2.1 ∈ tb) (hi : ¬ i = 0)
    (hfin : (T j).2.2.2 = false ∨ ((T j).2.2.2 = true ∧ E.meth.name = "<init>" ∧ (T j).1 = own)) (hp : parseFieldDescriptor (T j).2.2.1 = some ty) (hn1 : ∀ A, narrow ty (tr A v) = tr A v) (hn2 : ∀ A, fits ty (tr A v) = true)
    (hN : gN s' = gN s) (hcn : cn s' = cn s) (hsn : sn s' = sn s) (hv : ∀ A, fv A s' k i j = tr A v) (hfo : ∀ A k' i' j', ¬ (k' = k ∧ i' = i ∧ j' = j) → fv A s' k' i' j' = fv A s k' i' j') (harr : ∀ G A k' i', 10 ≤ k' → k' < 16 → en G A s' k' i' = en G A s k' i')
    (hwt : (∀ k i j : Nat, gR s k i j ≤ bd s (rt k j)) → okv s v → ∀ k i j : Nat, gR s' k i j ≤ bd s' (rt k j)) (hd : decode cc pc = .ok (.putfield index, 3)) (kk : V E nL Q s' (pc + 3) lv st) : V E nL Q s pc lv (v :: vR k i :: st) := by
  intro A H locs ls hR hl ho
  obtain ⟨h10, hnf, hin, ⟨ty0, hty, -⟩, hnm⟩ := cl_all hc
  have hb := ok_bd (by omega) ho.pop.top
  obtain ⟨n, hn⟩ := WL_mem (G := E.G) (A := A) (s := s) (k := k) (i := i) (by omega) (by omega) hb
  have hn' := hn
  rw [en_obj h10] at hn
  have hls : ls2 s s' := ⟨Nat.le_of_eq hcn.symm, Nat.le_of_eq hsn.symm, fun k => by rw [hN]; exact Nat.le_refl _⟩
  have key : ∀ (H1 : Heap) (locs1 : List Loc), va_P E.G.2.1 vwCl ((WL E.G A s).set n (A k i, .inr (k, ((List.range (nf k)).map (fv A s k i)).set j (tr A v)))) H1 → va_D (fr E.G) ((WL E.G A s).set n (A k i, .inr (k, ((List.range (nf k)).map (fv A s k i)).set j (tr A v)))) → va_S (fr E.G) E.s.heap H1 locs1 → W E.p E.l E.e E.R E.s E.m E.args E.below E.meth E.c H1 locs1 (cn s - cn E.s0) (sn s - sn E.s0) Q (F0 E.m (pc + 3) ls (st.map (tr A))) := by
    intro H1 locs1 hP1 _ hS1
    have hH : Hd E.G A s' H1 := by
      refine Hd.set hR.1 (by omega) (by omega) hb hn' hN ⟨hcn, hsn⟩ ?_ (fun k' i' hk' hq => ?_) (hwt hR.1.2.2.2.1 ho.top) hP1
      · rw [en_obj h10, map_range_set _ (fv A s' k i) _ _ _ (hv A) (fun m _ hm => hfo A k i m (fun z => hm z.2.2))]
      · by_cases h9 : k' < 10
        · rw [en_obj h9, en_obj h9]
          congr 2
          exact List.map_congr_left (fun m _ => hfo A k' i' m (fun z => hq ⟨z.1, z.2.1⟩))
        · exact harr _ A k' i' (by omega) hk'
    have h := kk A H1 locs1 ls ⟨hH, hR.2.1, hR.2.2.1.tr hls, hS1⟩ hl (ho.pop.pop.up hls)
    rw [hcn, hsn] at h
    exact h
  rw [List.map_cons, List.map_cons, tr_nz hi]
  rcases hfin with hf | ⟨hf, hin2, hdecl⟩
  · exact va_put g.1 g.2.1 g.hts hin ty0 hty hnm g.ow g.K hR.1.P hR.1.D hR.2.2.2 n hn hc j hj (g.hts _ hw) (fun _ h => h) hf hp (hn1 A) (hn2 A) (by simp; omega) hd key
  · exact va_putF g.1 g.2.1 g.hts hin ty0 hty hnm g.ow g.K hR.1.P hR.1.D hR.2.2.2 n hn hc j hj (g.hts _ hw) (fun _ h => h) hf hin2 hdecl hp (hn1 A) (hn2 A) (by simp; omega) hd key
theorem fv_sI {A : AM} {k i j : Nat} {x : Int32} {k' i' j' : Nat} (h : ¬ (k' = k ∧ i' = i ∧ j' = j)) : fv A (sI s k i j x) k' i' j' = fv A s k' i' j' := by
  unfold fv
  rw [show gI (sI s k i j x) k' i' j' = gI s k' i' j' from if_neg h]
  rfl
theorem fv_sJ {A : AM} {k i j : Nat} {x : Int64} {k' i' j' : Nat} (h : ¬ (k' = k ∧ i' = i ∧ j' = j)) : fv A (sJ s k i j x) k' i' j' = fv A s k' i' j' := by
  unfold fv
  rw [show gJ (sJ s k i j x) k' i' j' = gJ s k' i' j' from if_neg h]
  rfl
theorem fv_sR {A : AM} {k i j : Nat} {x : Nat} {k' i' j' : Nat} (h : ¬ (k' = k ∧ i' = i ∧ j' = j)) : fv A (sR s k i j x) k' i' j' = fv A s k' i' j' := by
  unfold fv
  rw [show gR (sR s k i j x) k' i' j' = gR s k' i' j' from if_neg h]
  rfl
theorem V_putI (g : GX E own cc nL d) (k i j : Nat) {x : Int32} {s' : St} (hs : s' = sI s k i j x) {index : Nat} {C : String} {T : u_T} {N : Nat} (hc : vwCl[k]? = some (C, T, N)) (hj : j < N) (hf : ft k j = 0) (hw : Cond.fieldLink own index (T j).1 (T j).2.1 (T j).2.2.1 ∈ tb) (hi : ¬ i = 0)
    (hfin : (T j).2.2.2 = false ∨ ((T j).2.2.2 = true ∧ E.meth.name = "<init>" ∧ (T j).1 = own)) (hp : parseFieldDescriptor (T j).2.2.1 = some .int) (hd : decode cc pc = .ok (.putfield index, 3)) (kk : V E nL Q s' (pc + 3) lv st) : V E nL Q s pc lv (vI x :: vR k i :: st) := by
  subst hs
  have h10 := (cl_all hc).1
  refine V_putC g (sI s k i j x) hc hj hw hi hfin hp (fun _ => rfl) (fun _ => rfl) rfl rfl rfl (fun A => ?_) (fun A k' i' j' h => fv_sI h) (fun G A k' i' h1 h2 => ?_) (fun h _ => h) hd kk
  · unfold fv
    rw [if_pos hf]
    exact congrArg Value.int (if_pos ⟨rfl, rfl, rfl⟩)
  · rw [en_arr h1, en_arr h1]
    have e1 : gI (sI s k i j x) k' i' = gI s k' i' := funext fun m => if_neg (fun z => by omega)
    rw [e1]
    rfl
theorem V_putJ (g : GX E own cc nL d) (k i j : Nat) {x : Int64} {s' : St} (hs : s' = sJ s k i j x) {index : Nat} {C : String} {T : u_T} {N : Nat} (hc : vwCl[k]? = some (C, T, N)) (hj : j < N) (hf : ft k j = 1) (hw : Cond.fieldLink own index (T j).1 (T j).2.1 (T j).2.2.1 ∈ tb) (hi : ¬ i = 0)
    (hfin : (T j).2.2.2 = false ∨ ((T j).2.2.2 = true ∧ E.meth.name = "<init>" ∧ (T j).1 = own)) (hp : parseFieldDescriptor (T j).2.2.1 = some .long) (hd : decode cc pc = .ok (.putfield index, 3)) (kk : V E nL Q s' (pc + 3) lv st) : V E nL Q s pc lv (vJ x :: vR k i :: st) := by
  subst hs
  have h10 := (cl_all hc).1
  refine V_putC g (sJ s k i j x) hc hj hw hi hfin hp (fun _ => rfl) (fun _ => rfl) rfl rfl rfl (fun A => ?_) (fun A k' i' j' h => fv_sJ h) (fun G A k' i' h1 h2 => ?_) (fun h _ => h) hd kk
  · unfold fv
    rw [if_neg (by omega), if_pos hf]
    exact congrArg Value.long (if_pos ⟨rfl, rfl, rfl⟩)
  · rw [en_arr h1, en_arr h1]
    have e1 : gJ (sJ s k i j x) k' i' = gJ s k' i' := funext fun m => if_neg (fun z => by omega)
    rw [e1]
    rfl
theorem wt_sR {k i j x : Nat} (hx : x ≤ bd s (rt k j)) (h : ∀ k i j : Nat, gR s k i j ≤ bd s (rt k j)) : ∀ k' i' j' : Nat, gR (sR s k i j x) k' i' j' ≤ bd (sR s k i j x) (rt k' j') := by
  intro k' i' j'
  show (if k' = k ∧ i' = i ∧ j' = j then x else gR s k' i' j') ≤ bd s (rt k' j')
  split
  · rename_i h1
    obtain ⟨rfl, rfl, rfl⟩ := h1
    exact hx
  · exact h k' i' j'
theorem V_putR (g : GX E own cc nL d) (k i j t : Nat) {x : Nat} {s' : St} {ty : FieldType} (hs : s' = sR s k i j x) {index : Nat} {C : String} {T : u_T} {N : Nat} (hc : vwCl[k]? = some (C, T, N)) (hj : j < N) (hf : ft k j = 2) (ht : rt k j = t) (hw : Cond.fieldLink own index (T j).1 (T j).2.1 (T j).2.2.1 ∈ tb) (hi : ¬ i = 0)
    (hfin : (T j).2.2.2 = false ∨ ((T j).2.2.2 = true ∧ E.meth.name = "<init>" ∧ (T j).1 = own)) (hp : parseFieldDescriptor (T j).2.2.1 = some ty) (hq : ∀ r : Option Nat, narrow ty (va_rf r) = va_rf r ∧ fits ty (va_rf r) = true) (hd : decode cc pc = .ok (.putfield index, 3)) (kk : V E nL Q s' (pc + 3) lv st) : V E nL Q s pc lv (vR t x :: vR k i :: st) := by
  subst hs
  have h10 := (cl_all hc).1
  refine V_putC g (sR s k i j x) hc hj hw hi hfin hp (fun A => (hq _).1) (fun A => (hq _).2) rfl rfl rfl (fun A => ?_) (fun A k' i' j' h => fv_sR h) (fun G A k' i' h1 h2 => ?_) (fun h ho => wt_sR (by rw [ht]; exact ho) h) hd kk
  · unfold fv
    rw [if_neg (by omega), if_neg (by omega), ht]
    exact congrArg (fun z => tr A (vR t z)) (if_pos ⟨rfl, rfl, rfl⟩)
  · rw [en_arr h1, en_arr h1]
    have e1 : ∀ m, gR (sR s k i j x) k' i' m = gR s k' i' m := fun m => if_neg (fun z => by omega)
    simp only [e1]
    rfl
theorem q_obj {C : String} (r : Option Nat) : narrow (.object C) (va_rf r) = va_rf r ∧ fits (.object C) (va_rf r) = true := by cases r <;> exact ⟨rfl, rfl⟩
theorem q_arr {t : FieldType} (r : Option Nat) : narrow (.array t) (va_rf r) = va_rf r ∧ fits (.array t) (va_rf r) = true := by cases r <;> exact ⟨rfl, rfl⟩
end VHEAP
