/-! ===== a typed picture of the heap: by kind, number and slot; the addresses stay hidden ===== -/
abbrev AV : Type := Int32 ⊕ Int64 ⊕ (Nat × Nat) ⊕ Value
abbrev vI (x : Int32) : AV := .inl x
abbrev vJ (x : Int64) : AV := .inr (.inl x)
abbrev vR (k i : Nat) : AV := .inr (.inr (.inl (k, i)))
abbrev vO (v : Value) : AV := .inr (.inr (.inr v))
abbrev AM : Type := Nat → Nat → Nat
def ro (A : AM) (k i : Nat) : Option Nat := if i = 0 then none else some (A k i)
def tr (A : AM) (v : AV) : Value := match v with
  | .inl x => .int x
  | .inr (.inl x) => .long x
  | .inr (.inr (.inl q)) => va_rf (ro A q.1 q.2)
  | .inr (.inr (.inr v)) => v
/-- ints, longs, references, lengths, how many of a kind, cells, slots -/
abbrev St : Type := (Nat → Nat → Nat → Int32) × (Nat → Nat → Nat → Int64) × (Nat → Nat → Nat → Nat) × (Nat → Nat → Nat) × (Nat → Nat) × Nat × Nat
def gI (s : St) (k i j : Nat) : Int32 := s.1 k i j
def gJ (s : St) (k i j : Nat) : Int64 := s.2.1 k i j
def gR (s : St) (k i j : Nat) : Nat := s.2.2.1 k i j
def gL (s : St) (k i : Nat) : Nat := s.2.2.2.1 k i
def gN (s : St) (k : Nat) : Nat := s.2.2.2.2.1 k
def cn (s : St) : Nat := s.2.2.2.2.2.1
def sn (s : St) : Nat := s.2.2.2.2.2.2
def u3 {α : Type} (f : Nat → Nat → Nat → α) (k i j : Nat) (v : α) : Nat → Nat → Nat → α := fun k' i' j' => if k' = k ∧ i' = i ∧ j' = j then v else f k' i' j'
def u2 {α : Type} (f : Nat → Nat → α) (k i : Nat) (v : α) : Nat → Nat → α := fun k' i' => if k' = k ∧ i' = i then v else f k' i'
def u1 {α : Type} (f : Nat → α) (k : Nat) (v : α) : Nat → α := fun k' => if k' = k then v else f k'
def sI (s : St) (k i j : Nat) (v : Int32) : St := (u3 s.1 k i j v, s.2)
def sJ (s : St) (k i j : Nat) (v : Int64) : St := (s.1, u3 s.2.1 k i j v, s.2.2)
def sR (s : St) (k i j : Nat) (v : Nat) : St := (s.1, s.2.1, u3 s.2.2.1 k i j v, s.2.2.2)
/-- a new object, or row of n, of kind k; z slots are paid -/
def nW (s : St) (k n z : Nat) : St := (u2 s.1 k (gN s k + 1) (fun _ => 0), u2 s.2.1 k (gN s k + 1) (fun _ => 0), u2 s.2.2.1 k (gN s k + 1) (fun _ => 0), u2 s.2.2.2.1 k (gN s k + 1) n, u1 s.2.2.2.2.1 k (gN s k + 1), cn s + 1, sn s + z)
/-- a throw: a cell of six slots that nobody looks at -/
def nX (s : St) : St := (s.1, s.2.1, s.2.2.1, s.2.2.2.1, s.2.2.2.2.1, cn s + 1, sn s + 6)
/-- a whole row of ints, of longs -/
def wI (s : St) (k i : Nat) (f : Nat → Int32) : St := (u2 s.1 k i f, s.2)
def wJ (s : St) (k i : Nat) (f : Nat → Int64) : St := (s.1, u2 s.2.1 k i f, s.2.2)
/-! the tables of the classes: how many fields; 0 an int, 1 a long, 2 a reference; of a reference the kind -/
def nfL : List Nat := [3, 6, 5, 1, 3, 11, 5, 9, 19, 69]
def ftL : List (List Nat) := [[2, 2, 0], [2, 2, 2, 2, 2, 0], [2, 2, 2, 0, 0], [2], [2, 2, 0], [2, 2, 2, 2, 2, 2, 2, 2, 0, 0, 0], [0, 0, 1, 0, 0], [2, 0, 0, 0, 0, 0, 0, 0, 0], [2, 2, 2, 2, 2, 2, 2, 2, 2, 2, 2, 2, 2, 2, 0, 0, 0, 0, 0], [2, 2, 2, 0, 2, 2, 2, 0, 0, 0, 2, 2, 2, 2, 2, 0, 0, 0, 0, 2, 2, 2, 0, 2, 0, 0, 0, 0, 0, 0, 0, 0, 0, 0, 2, 2, 2, 0, 0, 0, 0, 0, 0, 0, 2, 0, 2, 2, 2, 2, 2, 0, 0, 0, 0, 0, 1, 1, 0, 0, 0, 0, 0, 0, 2, 0, 0, 0, 0]]
def rtL : List (List Nat) := [[10, 10, 0], [7, 10, 10, 10, 10, 0], [10, 10, 0, 0, 0], [7], [10, 10, 0], [2, 10, 10, 10, 10, 11, 10, 10, 0, 0, 0], [0, 0, 0, 0, 0], [12, 0, 0, 0, 0, 0, 0, 0, 0], [12, 7, 3, 1, 4, 4, 14, 6, 6, 10, 10, 10, 2, 2, 0, 0, 0, 0, 0], [15, 15, 15, 0, 10, 10, 10, 0, 0, 0, 13, 10, 10, 10, 10, 0, 0, 0, 0, 10, 10, 10, 0, 10, 0, 0, 0, 0, 0, 0, 0, 0, 0, 0, 10, 10, 10, 0, 0, 0, 0, 0, 0, 0, 10, 0, 10, 10, 10, 13, 10, 0, 0, 0, 0, 0, 0, 0, 0, 0, 0, 0, 0, 0, 13, 0, 0, 0, 0]]
def nf (k : Nat) : Nat := nfL.getD k 0
def ft (k j : Nat) : Nat := (ftL.getD k []).getD j 0
def rt (k j : Nat) : Nat := if k < 10 then (rtL.getD k []).getD j 0 else if k = 14 then 5 else 16
/-- how many there are: of the constants always as many -/
def bd (s : St) (k : Nat) : Nat := if k < 16 then gN s k else 38
abbrev GT : Type := Nat × va_G × (Nat → ClassId) × AM
def fv (A : AM) (s : St) (k i j : Nat) : Value := if ft k j = 0 then .int (gI s k i j) else if ft k j = 1 then .long (gJ s k i j) else tr A (vR (rt k j) (gR s k i j))
def en (G : GT) (A : AM) (s : St) (k i : Nat) : va_E :=
  if k < 10 then .inr (k, (List.range (nf k)).map (fv A s k i))
  else .inl (G.2.2.1 k, gL s k i, if k = 11 then .inr (.inl (gJ s k i)) else if k = 14 ∨ k = 15 then .inr (.inr (.inr (.inr fun j => ro A (rt k 0) (gR s k i j)))) else .inl (gI s k i))
def WL (G : GT) (A : AM) (s : St) : va_W := (List.range 16).flatMap fun k => (List.range (gN s k)).map fun i => (A k (i + 1), en G A s k (i + 1))
def tysL (G : GT) : List (ClassId × FieldType) := [(G.2.2.1 10, .int), (G.2.2.1 11, .long), (G.2.2.1 12, .byte), (G.2.2.1 13, .boolean), (G.2.2.1 14, .object "ThinSeries$Series"), (G.2.2.1 15, .object "java/lang/String")]
def okv (s : St) (v : AV) : Prop := match v with
  | .inl _ => True
  | .inr (.inl _) => True
  | .inr (.inr (.inl q)) => q.2 ≤ bd s q.1
  | .inr (.inr (.inr v)) => v.category = 1
def okl (s : St) (lv : List (Nat × AV)) (st : List AV) : Prop := (∀ q ∈ lv, okv s q.2) ∧ ∀ v ∈ st, okv s v
/-- the room of the whole -/
def bdOK (s : St) : Prop := cn s ≤ 601024 ∧ sn s ≤ 7293034
/-- the heap H holds the picture s by the addresses A -/
def Hd (G : GT) (A : AM) (s : St) (H : Heap) : Prop :=
  (∀ k i : Nat, k < 16 → 0 < i → i ≤ gN s k → va_at G.2.1 vwCl (A k i, en G A s k i) H) ∧
  (∀ k i k' i' : Nat, k < 16 → 0 < i → i ≤ gN s k → k' < 16 → 0 < i' → i' ≤ gN s k' → A k i = A k' i' → k = k' ∧ i = i') ∧
  ((∀ k i : Nat, k < 16 → 0 < i → i ≤ gN s k → G.1 ≤ A k i) ∧ bdOK s) ∧
  (∀ k i j : Nat, gR s k i j ≤ bd s (rt k j)) ∧ (∀ k : Nat, 16 ≤ k → A k = G.2.2.2 k)
/-- the old ones lie where they lay -/
def Ex (s : St) (A A' : AM) : Prop := (∀ k i : Nat, k < 16 → 0 < i → i ≤ gN s k → A' k i = A k i) ∧ (∀ k : Nat, 16 ≤ k → A' k = A k)
def ls2 (s s' : St) : Prop := cn s ≤ cn s' ∧ sn s ≤ sn s' ∧ ∀ k, gN s k ≤ gN s' k
abbrev ET : Type := Program × Launch × Env × Room × State × MethodId × Array Value × List Frame × Method × Code × GT × St × AM
theorem ls2.rf {s : St} : ls2 s s := ⟨Nat.le_refl _, Nat.le_refl _, fun _ => Nat.le_refl _⟩
theorem ls2.tr {a b c : St} (h : ls2 a b) (h' : ls2 b c) : ls2 a c := ⟨Nat.le_trans h.1 h'.1, Nat.le_trans h.2.1 h'.2.1, fun k => Nat.le_trans (h.2.2 k) (h'.2.2 k)⟩
theorem bd_le {s s' : St} (h : ls2 s s') (k : Nat) : bd s k ≤ bd s' k := by
  unfold bd
  split
  · exact h.2.2 k
  · exact Nat.le_refl _
theorem okv.up {s s' : St} (h : ls2 s s') {v : AV} (hv : okv s v) : okv s' v := by
  match v, hv with
  | .inl _, _ => exact trivial
  | .inr (.inl _), _ => exact trivial
  | .inr (.inr (.inl q)), hv => exact Nat.le_trans hv (bd_le h q.1)
  | .inr (.inr (.inr v)), hv => exact hv
theorem okl.up {s s' : St} (h : ls2 s s') {lv : List (Nat × AV)} {st : List AV} (ho : okl s lv st) : okl s' lv st := ⟨fun q hq => (ho.1 q hq).up h, fun v hv => (ho.2 v hv).up h⟩
theorem okl.pop {s : St} {lv : List (Nat × AV)} {v : AV} {st : List AV} (h : okl s lv (v :: st)) : okl s lv st := ⟨h.1, fun w hw => h.2 w (List.mem_cons_of_mem _ hw)⟩
theorem okl.top {s : St} {lv : List (Nat × AV)} {v : AV} {st : List AV} (h : okl s lv (v :: st)) : okv s v := h.2 v List.mem_cons_self
theorem okl.push {s : St} {lv : List (Nat × AV)} {v : AV} {st : List AV} (hv : okv s v) (h : okl s lv st) : okl s lv (v :: st) := ⟨h.1, fun w hw => by rcases List.mem_cons.mp hw with rfl | hw; exact hv; exact h.2 w hw⟩
theorem okl.loc {s : St} {lv : List (Nat × AV)} {st : List AV} (h : okl s lv st) {n i : Nat} {v : AV} (hp : lv[n]? = some (i, v)) : okv s v := h.1 _ (List.mem_of_getElem? hp)
theorem tr_ex {s : St} {A A' : AM} (h : Ex s A A') {v : AV} (hv : okv s v) : tr A' v = tr A v := by
  match v, hv with
  | .inl _, _ => rfl
  | .inr (.inl _), _ => rfl
  | .inr (.inr (.inr v)), _ => rfl
  | .inr (.inr (.inl (k, i))), hv =>
    show va_rf (ro A' k i) = va_rf (ro A k i)
    unfold ro
    split
    · rfl
    · by_cases hk : k < 16
      · have hb : i ≤ gN s k := by
          have : i ≤ bd s k := hv
          unfold bd at this
          rw [if_pos hk] at this
          exact this
        rw [h.1 k i hk (by omega) hb]
      · rw [h.2 k (by omega)]
theorem Ex.rf {s : St} {A : AM} : Ex s A A := ⟨fun _ _ _ _ _ => rfl, fun _ _ => rfl⟩
theorem Ex.tr {s s' : St} {A A' A'' : AM} (hl : ls2 s s') (h : Ex s A A') (h' : Ex s' A' A'') : Ex s A A'' :=
  ⟨fun k i hk hi hn => (h'.1 k i hk hi (Nat.le_trans hn (hl.2.2 k))).trans (h.1 k i hk hi hn), fun k hk => (h'.2 k hk).trans (h.2 k hk)⟩
/-! the list of all cells, for the kit's rows -/
theorem WL_mem {G : GT} {A : AM} {s : St} {k i : Nat} (hk : k < 16) (hi : 0 < i) (hn : i ≤ gN s k) : ∃ n : Nat, (WL G A s)[n]? = some (A k i, en G A s k i) := by
  have h : (A k i, en G A s k i) ∈ WL G A s := by
    unfold WL
    refine List.mem_flatMap.mpr ⟨k, List.mem_range.mpr hk, List.mem_map.mpr ⟨i - 1, List.mem_range.mpr (by omega), ?_⟩⟩
    rw [show i - 1 + 1 = i by omega]
  exact List.getElem?_of_mem h
theorem WL_inv {G : GT} {A : AM} {s : St} {n : Nat} {q : Nat × va_E} (h : (WL G A s)[n]? = some q) : ∃ k i : Nat, k < 16 ∧ 0 < i ∧ i ≤ gN s k ∧ q = (A k i, en G A s k i) := by
  have h1 := List.mem_of_getElem? h
  unfold WL at h1
  obtain ⟨k, hk, h2⟩ := List.mem_flatMap.mp h1
  obtain ⟨i, hi, h3⟩ := List.mem_map.mp h2
  have hk' := List.mem_range.mp hk
  have hi' := List.mem_range.mp hi
  exact ⟨k, i + 1, hk', by omega, by omega, h3.symm⟩
theorem Hd.P {G : GT} {A : AM} {s : St} {H : Heap} (h : Hd G A s H) : va_P G.2.1 vwCl (WL G A s) H := by
  intro n q hq
  obtain ⟨k, i, h1, h2, h3, rfl⟩ := WL_inv hq
  exact h.1 k i h1 h2 h3
theorem nd_inj : ∀ (l : List Nat) (i j a : Nat), l.Nodup → l[i]? = some a → l[j]? = some a → i = j := by
  intro l
  induction l with
  | nil => intro i j a _ h; simp at h
  | cons b l ih =>
    intro i j a hn hi hj
    obtain ⟨h1, h2⟩ := List.nodup_cons.mp hn
    cases i with
    | zero =>
      cases j with
      | zero => rfl
      | succ j =>
        simp at hi hj
        subst hi
        exact absurd (List.mem_of_getElem? hj) h1
    | succ i =>
      cases j with
      | zero =>
        simp at hi hj
        subst hj
        exact absurd (List.mem_of_getElem? hi) h1
      | succ j =>
        simp at hi hj
        rw [ih i j a h2 hi hj]
theorem nd_map {α : Type} (f : α → Nat) : ∀ (l : List α), l.Nodup → (∀ x ∈ l, ∀ y ∈ l, f x = f y → x = y) → (l.map f).Nodup := by
  intro l
  induction l with
  | nil => intro _ _; exact List.nodup_nil
  | cons b l ih =>
    intro hn hf
    obtain ⟨h1, h2⟩ := List.nodup_cons.mp hn
    refine List.nodup_cons.mpr ⟨fun hm => ?_, ih h2 (fun x hx y hy => hf x (List.mem_cons_of_mem _ hx) y (List.mem_cons_of_mem _ hy))⟩
    obtain ⟨x, hx, he⟩ := List.mem_map.mp hm
    have := hf x (List.mem_cons_of_mem _ hx) b List.mem_cons_self he
    subst this
    exact h1 hx
theorem nd_flat (A : AM) (N : Nat → Nat) (h : ∀ k i k' i' : Nat, k < 16 → 0 < i → i ≤ N k → k' < 16 → 0 < i' → i' ≤ N k' → A k i = A k' i' → k = k' ∧ i = i') :
    ∀ (ks : List Nat), (∀ k ∈ ks, k < 16) → ks.Nodup → (ks.flatMap fun k => (List.range (N k)).map fun i => A k (i + 1)).Nodup := by
  intro ks
  induction ks with
  | nil => intro _ _; exact List.nodup_nil
  | cons b l ih =>
    intro hlt hn
    obtain ⟨h1, h2⟩ := List.nodup_cons.mp hn
    rw [List.flatMap_cons]
    refine List.nodup_append.mpr ⟨nd_map _ _ List.nodup_range (fun x hx y hy e => ?_), ih (fun k hk => hlt k (List.mem_cons_of_mem _ hk)) h2, fun x hx y hy e => ?_⟩
    · have hx' := List.mem_range.mp hx
      have hy' := List.mem_range.mp hy
      have := (h b (x + 1) b (y + 1) (hlt b List.mem_cons_self) (by omega) (by omega) (hlt b List.mem_cons_self) (by omega) (by omega) e).2
      omega
    · obtain ⟨i, hi, rfl⟩ := List.mem_map.mp hx
      obtain ⟨k', hk', hy2⟩ := List.mem_flatMap.mp hy
      obtain ⟨i', hi', rfl⟩ := List.mem_map.mp hy2
      have hx' := List.mem_range.mp hi
      have hy' := List.mem_range.mp hi'
      have := (h b (i + 1) k' (i' + 1) (hlt b List.mem_cons_self) (by omega) (by omega) (hlt k' (List.mem_cons_of_mem _ hk')) (by omega) (by omega) e).1
      subst this
      exact h1 hk'
theorem WL_fst (G : GT) (A : AM) (s : St) : (WL G A s).map Prod.fst = (List.range 16).flatMap fun k => (List.range (gN s k)).map fun i => A k (i + 1) := by
  unfold WL
  rw [List.map_flatMap]
  simp [Function.comp_def]
theorem Hd.D {G : GT} {A : AM} {s : St} {H : Heap} (h : Hd G A s H) : va_D (fun q => G.1 ≤ q) (WL G A s) := by
  refine ⟨fun i j p q hi hj e => ?_, fun n q hq => ?_⟩
  · have hn : ((WL G A s).map Prod.fst).Nodup := by
      rw [WL_fst]
      exact nd_flat A (gN s) h.2.1 _ (fun k hk => List.mem_range.mp hk) List.nodup_range
    refine nd_inj _ i j p.1 hn ?_ ?_
    · rw [List.getElem?_map, hi]; rfl
    · rw [List.getElem?_map, hj, e]; rfl
  · obtain ⟨k, i, h1, h2, h3, rfl⟩ := WL_inv hq
    exact h.2.2.1.1 k i h1 h2 h3
/-- one cell is another one now -/
theorem Hd.set {G : GT} {A : AM} {s s' : St} {H H1 : Heap} (h : Hd G A s H) {k i n : Nat} {e' : va_E} (hk : k < 16) (hi : 0 < i) (hn : i ≤ gN s k) (hp : (WL G A s)[n]? = some (A k i, en G A s k i))
    (hN : gN s' = gN s) (hcs : cn s' = cn s ∧ sn s' = sn s) (he : en G A s' k i = e') (ho : ∀ k' i' : Nat, k' < 16 → ¬ (k' = k ∧ i' = i) → en G A s' k' i' = en G A s k' i') (hw : ∀ k i j : Nat, gR s' k i j ≤ bd s' (rt k j))
    (hP : va_P G.2.1 vwCl ((WL G A s).set n (A k i, e')) H1) : Hd G A s' H1 := by
  have hl := (List.getElem?_eq_some_iff.mp hp).1
  refine ⟨fun k' i' hk' hi' hn' => ?_, ?_, ?_, hw, h.2.2.2.2⟩
  · by_cases hq : k' = k ∧ i' = i
    · obtain ⟨rfl, rfl⟩ := hq
      rw [he]
      exact hP n (A k' i', e') (List.getElem?_set_self hl)
    · rw [ho k' i' hk' hq]
      rw [hN] at hn'
      obtain ⟨n', hp'⟩ := WL_mem (G := G) (A := A) (s := s) hk' hi' hn'
      have hne : n ≠ n' := fun z => by
        subst z
        have e1 := Option.some.inj (hp.symm.trans hp')
        have e2 : A k i = A k' i' := congrArg Prod.fst e1
        obtain ⟨r1, r2⟩ := h.2.1 k i k' i' hk hi hn hk' hi' hn' e2
        exact hq ⟨r1.symm, r2.symm⟩
      exact hP n' _ ((List.getElem?_set_ne hne).trans hp')
  · rw [hN]; exact h.2.1
  · rw [hN]; exact ⟨h.2.2.1.1, by unfold bdOK; rw [hcs.1, hcs.2]; exact h.2.2.1.2⟩
