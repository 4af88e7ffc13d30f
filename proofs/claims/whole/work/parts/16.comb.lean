/-! ===== the words of the printed functions ===== -/
def lt {α β : Type} (e : α) (k : α → β) : β := k e
def bI {α β : Type} (o : Option (St × α)) (k : St → α → Option β) : Option β := match o with
  | none => none
  | some q => k q.1 q.2
def bV {β : Type} (o : Option St) (k : St → Option β) : Option β := match o with
  | none => none
  | some q => k q
def bX {α β : Type} (o : Option (St × (Nat ⊕ α))) (kx : St → Nat → Option β) (k : St → α → Option β) : Option β := match o with
  | none => none
  | some (s, .inl e) => kx s e
  | some (s, .inr x) => k s x
def rmb (s : St) : Bool := decide (cn s ≤ 601024 ∧ sn s ≤ 7293034)
def exN (k : Nat) : String := if k = 1 then "java/util/NoSuchElementException" else "java/lang/IllegalArgumentException"
def rI (w : Nat ⊕ Int32) : Option AV ⊕ String := match w with
  | .inl e => .inr (exN e)
  | .inr x => .inl (some (vI x))
def rJ (w : Nat ⊕ Int64) : Option AV ⊕ String := match w with
  | .inl e => .inr (exN e)
  | .inr x => .inl (some (vJ x))
def rR (k : Nat) (w : Nat ⊕ Nat) : Option AV ⊕ String := match w with
  | .inl e => .inr (exN e)
  | .inr x => .inl (some (vR k x))
def rV (w : Nat ⊕ Unit) : Option AV ⊕ String := match w with
  | .inl e => .inr (exN e)
  | .inr _ => .inl none
theorem lt_some {α β : Type} {e : α} {k : α → Option β} {r : β} (h : lt e k = some r) : ∃ x, x = e ∧ k x = some r := ⟨e, rfl, h⟩
theorem bI_some {α β : Type} {o : Option (St × α)} {k : St → α → Option β} {r : β} (h : bI o k = some r) : ∃ s x, o = some (s, x) ∧ k s x = some r := by
  match o, h with
  | some (s, x), h => exact ⟨s, x, rfl, h⟩
theorem bV_some {β : Type} {o : Option St} {k : St → Option β} {r : β} (h : bV o k = some r) : ∃ s, o = some s ∧ k s = some r := by
  match o, h with
  | some s, h => exact ⟨s, rfl, h⟩
theorem bX_some {α β : Type} {o : Option (St × (Nat ⊕ α))} {kx : St → Nat → Option β} {k : St → α → Option β} {r : β} (h : bX o kx k = some r) : (∃ s e, o = some (s, .inl e) ∧ kx s e = some r) ∨ ∃ s x, o = some (s, .inr x) ∧ k s x = some r := by
  match o, h with
  | some (s, .inl e), h => exact Or.inl ⟨s, e, rfl, h⟩
  | some (s, .inr x), h => exact Or.inr ⟨s, x, rfl, h⟩
theorem it_t {c : Prop} [Decidable c] {α : Type} {a b : Option α} {r : α} (h : (if c then a else b) = some r) (hc : c) : a = some r := by rw [if_pos hc] at h; exact h
theorem it_f {c : Prop} [Decidable c] {α : Type} {a b : Option α} {r : α} (h : (if c then a else b) = some r) (hc : ¬ c) : b = some r := by rw [if_neg hc] at h; exact h
theorem nz_some {i : Nat} {α : Type} {b : Option α} {r : α} (h : (if i = 0 then none else b) = some r) : ¬ i = 0 ∧ b = some r := by
  by_cases hc : i = 0
  · rw [if_pos hc] at h; cases h
  · rw [if_neg hc] at h; exact ⟨hc, h⟩
theorem ck_some {c : Bool} {α : Type} {b : Option α} {r : α} (h : (if c = true then b else none) = some r) : c = true ∧ b = some r := by
  by_cases hc : c = true
  · rw [if_pos hc] at h; exact ⟨hc, h⟩
  · rw [if_neg hc] at h; cases h
theorem d0_some {c : Prop} [Decidable c] {α : Type} {b : Option α} {r : α} (h : (if c then none else b) = some r) : ¬ c ∧ b = some r := by
  by_cases hc : c
  · rw [if_pos hc] at h; cases h
  · rw [if_neg hc] at h; exact ⟨hc, h⟩
theorem rm_of {s : St} (h : rmb s = true) : bdOK s := of_decide_eq_true (p := cn s ≤ 601024 ∧ sn s ≤ 7293034) h
def zb (x : Int32) : Bool := decide (x = 0 ∨ x = 1)
theorem zb_n {x : Int32} (h : zb x = true) : narrow .boolean (.int x) = .int x := by
  rcases of_decide_eq_true h with rfl | rfl <;> decide
def chb (x : Int32) : Bool := decide (narrow .char (.int x) = .int x)
def byb (x : Int32) : Bool := decide (narrow .byte (.int x) = .int x)
theorem sw_out {x : Int32} {lo hi : Int} (h : ∀ v : Int, lo ≤ v → v ≤ hi → ¬ x = Int32.ofInt v) : x.toInt < lo ∨ hi < x.toInt := by
  rcases Int.lt_or_le x.toInt lo with h1 | h1
  · exact Or.inl h1
  · rcases Int.lt_or_le hi x.toInt with h2 | h2
    · exact Or.inr h2
    · exact absurd (Int32.ofInt_toInt x).symm (h x.toInt h1 h2)
/-! calls, short -/
def CFV (y : MethodName) (bytes : ByteArray) (maxL n : Nat) (ret : Option FieldType) : Prop := maxL ≤ 20 ∧ (parseMethodDescriptor y.desc).map (fun d => d.parameters.length) = some n ∧ (y.cls ≠ "java/lang/invoke/MethodHandle" ∧ y.cls ≠ "java/lang/invoke/VarHandle") ∧ Cond.instanceMethod y ∈ tb ∧ Cond.selects y.cls y y ∈ tb ∧ Cond.initialized y.cls ∈ tb ∧ Cond.code y bytes maxL ret ∈ tb
def CFS (y : MethodName) (bytes : ByteArray) (maxL n : Nat) (ret : Option FieldType) : Prop := maxL ≤ 20 ∧ (parseMethodDescriptor y.desc).map (fun d => d.parameters.length) = some n ∧ (y.cls ≠ "java/lang/invoke/MethodHandle" ∧ y.cls ≠ "java/lang/invoke/VarHandle") ∧ Cond.static y ∈ tb ∧ Cond.initialized y.cls ∈ tb ∧ Cond.code y bytes maxL ret ∈ tb
def CFI (y : MethodName) (bytes : ByteArray) (maxL n : Nat) : Prop := maxL ≤ 20 ∧ (parseMethodDescriptor y.desc).map (fun d => d.parameters.length) = some n ∧ (y.cls ≠ "java/lang/invoke/MethodHandle" ∧ y.cls ≠ "java/lang/invoke/VarHandle") ∧ y.name = "<init>" ∧ Cond.instanceMethod y ∈ tb ∧ Cond.initialized y.cls ∈ tb ∧ Cond.code y bytes maxL none ∈ tb
def CFW (y : MethodName) (bytes : ByteArray) (maxL n : Nat) (ret : Option FieldType) (hh : List (Nat × Nat × Nat × Nat)) : Prop := maxL ≤ 20 ∧ (parseMethodDescriptor y.desc).map (fun d => d.parameters.length) = some n ∧ (y.cls ≠ "java/lang/invoke/MethodHandle" ∧ y.cls ≠ "java/lang/invoke/VarHandle") ∧ Cond.static y ∈ tb ∧ Cond.initialized y.cls ∈ tb ∧ Cond.codeWith y bytes maxL ret hh ∈ tb
section CSHORT
variable {E : ET} {own : String} {cc : ByteArray} {nL d : Nat} {Q : State → Prop} {s : St} {pc : Nat} {lv : List (Nat × AV)}
variable {y : MethodName} {bytes : ByteArray} {maxL d' index k b : Nat} {ret : Option FieldType}
theorem cV1 (g : GX E own cc nL d) (as : List AV) (st : List AV) (s' : St) (v : AV) (cf : CFV y bytes maxL as.length ret) (hM : MetG E.G E.l y (.code y bytes maxL ret) d' s (vR k b :: as) (s', .inl (some v))) (hrc : RC E s k b y.cls) (hb : ¬ b = 0) (hdd : d' + 1 ≤ d) (w1 : Cond.methodLink own index y ∈ tb) (hct : (st.map cat).sum ≤ 8) (hd : decode cc pc = .ok (.invokevirtual index, 3)) (kk : V E nL Q s' (pc + 3) lv (v :: st)) {sx : List AV} (hsx : sx = as.reverse ++ vR k b :: st) : V E nL Q s pc lv sx :=
  V_callV g hM hrc hb hdd cf.1 cf.2.1 cf.2.2.1 w1 cf.2.2.2.1 cf.2.2.2.2.1 cf.2.2.2.2.2.1 cf.2.2.2.2.2.2 hct hd (fun r hr => by cases hr; exact kk) (fun X hX => by cases hX) hsx
theorem cV0 (g : GX E own cc nL d) (as : List AV) (st : List AV) (s' : St) (cf : CFV y bytes maxL as.length ret) (hM : MetG E.G E.l y (.code y bytes maxL ret) d' s (vR k b :: as) (s', .inl none)) (hrc : RC E s k b y.cls) (hb : ¬ b = 0) (hdd : d' + 1 ≤ d) (w1 : Cond.methodLink own index y ∈ tb) (hct : (st.map cat).sum ≤ 8) (hd : decode cc pc = .ok (.invokevirtual index, 3)) (kk : V E nL Q s' (pc + 3) lv st) {sx : List AV} (hsx : sx = as.reverse ++ vR k b :: st) : V E nL Q s pc lv sx :=
  V_callV g hM hrc hb hdd cf.1 cf.2.1 cf.2.2.1 w1 cf.2.2.2.1 cf.2.2.2.2.1 cf.2.2.2.2.2.1 cf.2.2.2.2.2.2 hct hd (fun r hr => by cases hr; exact kk) (fun X hX => by cases hX) hsx
theorem cVX (g : GX E own cc nL d) (as : List AV) (st : List AV) (s' : St) (X : String) (cf : CFV y bytes maxL as.length ret) (hM : MetG E.G E.l y (.code y bytes maxL ret) d' s (vR k b :: as) (s', .inr X)) (hrc : RC E s k b y.cls) (hb : ¬ b = 0) (hdd : d' + 1 ≤ d) (w1 : Cond.methodLink own index y ∈ tb) (hct : (st.map cat).sum ≤ 8) (hd : decode cc pc = .ok (.invokevirtual index, 3)) (kx : VX E nL Q s' pc lv X) {sx : List AV} (hsx : sx = as.reverse ++ vR k b :: st) : V E nL Q s pc lv sx :=
  V_callV g hM hrc hb hdd cf.1 cf.2.1 cf.2.2.1 w1 cf.2.2.2.1 cf.2.2.2.2.1 cf.2.2.2.2.2.1 cf.2.2.2.2.2.2 hct hd (fun r hr => by cases hr) (fun X' hX => by cases hX; exact kx) hsx
theorem cS1 (g : GX E own cc nL d) (as : List AV) (st : List AV) (s' : St) (v : AV) (cf : CFS y bytes maxL as.length ret) (hM : MetG E.G E.l y (.code y bytes maxL ret) d' s as (s', .inl (some v))) (hdd : d' + 1 ≤ d) (w1 : Cond.methodLink own index y ∈ tb) (hct : (st.map cat).sum ≤ 8) (hd : decode cc pc = .ok (.invokestatic index, 3)) (kk : V E nL Q s' (pc + 3) lv (v :: st)) {sx : List AV} (hsx : sx = as.reverse ++ st) : V E nL Q s pc lv sx :=
  V_callS g hM hdd cf.1 cf.2.1 cf.2.2.1 w1 cf.2.2.2.1 cf.2.2.2.2.1 cf.2.2.2.2.2 hct hd (fun r hr => by cases hr; exact kk) (fun X hX => by cases hX) hsx
theorem cS0 (g : GX E own cc nL d) (as : List AV) (st : List AV) (s' : St) (cf : CFS y bytes maxL as.length ret) (hM : MetG E.G E.l y (.code y bytes maxL ret) d' s as (s', .inl none)) (hdd : d' + 1 ≤ d) (w1 : Cond.methodLink own index y ∈ tb) (hct : (st.map cat).sum ≤ 8) (hd : decode cc pc = .ok (.invokestatic index, 3)) (kk : V E nL Q s' (pc + 3) lv st) {sx : List AV} (hsx : sx = as.reverse ++ st) : V E nL Q s pc lv sx :=
  V_callS g hM hdd cf.1 cf.2.1 cf.2.2.1 w1 cf.2.2.2.1 cf.2.2.2.2.1 cf.2.2.2.2.2 hct hd (fun r hr => by cases hr; exact kk) (fun X hX => by cases hX) hsx
theorem cSX (g : GX E own cc nL d) (as : List AV) (st : List AV) (s' : St) (X : String) (cf : CFS y bytes maxL as.length ret) (hM : MetG E.G E.l y (.code y bytes maxL ret) d' s as (s', .inr X)) (hdd : d' + 1 ≤ d) (w1 : Cond.methodLink own index y ∈ tb) (hct : (st.map cat).sum ≤ 8) (hd : decode cc pc = .ok (.invokestatic index, 3)) (kx : VX E nL Q s' pc lv X) {sx : List AV} (hsx : sx = as.reverse ++ st) : V E nL Q s pc lv sx :=
  V_callS g hM hdd cf.1 cf.2.1 cf.2.2.1 w1 cf.2.2.2.1 cf.2.2.2.2.1 cf.2.2.2.2.2 hct hd (fun r hr => by cases hr) (fun X' hX => by cases hX; exact kx) hsx
theorem cN1 (g : GX E own cc nL d) (as : List AV) (st : List AV) (s' : St) (v : AV) {host : String} (cf : CFS y bytes maxL as.length ret) (hM : MetG E.G E.l y (.code y bytes maxL ret) d' s as (s', .inl (some v))) (hdd : d' + 1 ≤ d) (w1 : Cond.methodLinkNest own index y host ∈ nwL) (hct : (st.map cat).sum ≤ 8) (hd : decode cc pc = .ok (.invokestatic index, 3)) (kk : V E nL Q s' (pc + 3) lv (v :: st)) {sx : List AV} (hsx : sx = as.reverse ++ st) : V E nL Q s pc lv sx :=
  V_callSN (r := some v) g hM hdd cf.1 cf.2.1 cf.2.2.1 w1 cf.2.2.2.1 cf.2.2.2.2.1 cf.2.2.2.2.2 hct hd kk hsx
theorem cI0 (g : GX E own cc nL d) (as : List AV) (st : List AV) (s' : St) (cf : CFI y bytes maxL as.length) (hM : MetG E.G E.l y (.code y bytes maxL none) d' s (vR k b :: as) (s', .inl none)) (hb : ¬ b = 0) (hdd : d' + 1 ≤ d) (w1 : Cond.methodLink own index y ∈ tb) (hct : (st.map cat).sum ≤ 8) (hd : decode cc pc = .ok (.invokespecial index, 3)) (kk : V E nL Q s' (pc + 3) lv st) {sx : List AV} (hsx : sx = as.reverse ++ vR k b :: st) : V E nL Q s pc lv sx :=
  V_callI g hM cf.2.2.2.1 hb hdd cf.1 cf.2.1 cf.2.2.1 w1 cf.2.2.2.2.1 cf.2.2.2.2.2.1 cf.2.2.2.2.2.2 hct hd kk hsx
theorem cIN0 (g : GX E own cc nL d) (as : List AV) (st : List AV) (s' : St) {host : String} (cf : CFI y bytes maxL as.length) (hM : MetG E.G E.l y (.code y bytes maxL none) d' s (vR k b :: as) (s', .inl none)) (hb : ¬ b = 0) (hdd : d' + 1 ≤ d) (w1 : Cond.methodLinkNest own index y host ∈ nwL) (hct : (st.map cat).sum ≤ 8) (hd : decode cc pc = .ok (.invokespecial index, 3)) (kk : V E nL Q s' (pc + 3) lv st) {sx : List AV} (hsx : sx = as.reverse ++ vR k b :: st) : V E nL Q s pc lv sx :=
  V_callIN g hM cf.2.2.2.1 hb hdd cf.1 cf.2.1 cf.2.2.1 w1 cf.2.2.2.2.1 cf.2.2.2.2.2.1 cf.2.2.2.2.2.2 hct hd kk hsx
theorem cW1 (g : GX E own cc nL d) (as : List AV) (st : List AV) (s' : St) (v : AV) {hh : List (Nat × Nat × Nat × Nat)} (cf : CFW y bytes maxL as.length ret hh) (hM : MetG E.G E.l y (.codeWith y bytes maxL ret hh) d' s as (s', .inl (some v))) (hdd : d' + 1 ≤ d) (w1 : Cond.methodLink own index y ∈ tb) (hct : (st.map cat).sum ≤ 8) (hd : decode cc pc = .ok (.invokestatic index, 3)) (kk : V E nL Q s' (pc + 3) lv (v :: st)) {sx : List AV} (hsx : sx = as.reverse ++ st) : V E nL Q s pc lv sx :=
  V_callSW g hM hdd cf.1 cf.2.1 cf.2.2.1 w1 cf.2.2.2.1 cf.2.2.2.2.1 cf.2.2.2.2.2 hct hd (fun r hr => by cases hr; exact kk) (fun X hX => by cases hX) hsx
/-- the throws of this class -/
theorem thN {nm : String} {s : St} {st : List AV} {tx : String} {j is : Nat} (g : GX E "ThinSeries" cc nL d) (f : FX E nm ret []) (hm : bdOK (nX s)) (w1 : Cond.classLink "ThinSeries" 208 "java/util/NoSuchElementException" ∈ tb) (w2 : Cond.initialized "java/util/NoSuchElementException" ∈ tb) (hj : 0 < j ∧ j ≤ 38) (hq : strT[j - 1]? = some ("ThinSeries", is, tx)) (hd6 : 6 ≤ d) (hct : (st.map cat).sum ≤ 8)
    (hd : (decode cc pc = .ok (.new 208, 3) ∧ decode cc (pc + 3) = .ok (.dup, 1)) ∧ ((decode cc (pc + 4) = .ok (.ldc is, 2) ∧ decode cc (pc + 6) = .ok (.invokespecial 212, 3) ∧ decode cc (pc + 9) = .ok (.athrow, 1)) ∨ (decode cc (pc + 4) = .ok (.ldc_w is, 3) ∧ decode cc (pc + 7) = .ok (.invokespecial 212, 3) ∧ decode cc (pc + 10) = .ok (.athrow, 1)))) : V E nL (QE E (nX s, .inr "java/util/NoSuchElementException")) s pc lv st :=
  V_throw g f hm (ix9 := 13) (rx := prog_29_method_4_code) (names := ["java/lang/RuntimeException", "java/lang/Exception"]) (by decide +kernel) (by decide +kernel) (by decide +kernel) (by decide +kernel) (by decide +kernel) (by decide +kernel) rfl w1 w2 hj hq hat_N ot_N hd6 hct hd
theorem thI {nm : String} {s : St} {st : List AV} {tx : String} {j is : Nat} (g : GX E "ThinSeries" cc nL d) (f : FX E nm ret []) (hm : bdOK (nX s)) (w1 : Cond.classLink "ThinSeries" 104 "java/lang/IllegalArgumentException" ∈ tb) (w2 : Cond.initialized "java/lang/IllegalArgumentException" ∈ tb) (hj : 0 < j ∧ j ≤ 38) (hq : strT[j - 1]? = some ("ThinSeries", is, tx)) (hd6 : 6 ≤ d) (hct : (st.map cat).sum ≤ 8)
    (hd : (decode cc pc = .ok (.new 104, 3) ∧ decode cc (pc + 3) = .ok (.dup, 1)) ∧ ((decode cc (pc + 4) = .ok (.ldc is, 2) ∧ decode cc (pc + 6) = .ok (.invokespecial 108, 3) ∧ decode cc (pc + 9) = .ok (.athrow, 1)) ∨ (decode cc (pc + 4) = .ok (.ldc_w is, 3) ∧ decode cc (pc + 7) = .ok (.invokespecial 108, 3) ∧ decode cc (pc + 10) = .ok (.athrow, 1)))) : V E nL (QE E (nX s, .inr "java/lang/IllegalArgumentException")) s pc lv st :=
  V_throw g f hm (ix9 := 7) (rx := prog_18_method_2_code) (names := ["java/lang/RuntimeException", "java/lang/Exception"]) (by decide +kernel) (by decide +kernel) (by decide +kernel) (by decide +kernel) (by decide +kernel) (by decide +kernel) rfl w1 w2 hj hq hat_I ot_I hd6 hct hd
end CSHORT
theorem ckf {c : Bool} {α : Type} {b : Option α} {r : α} (h : (if c = false then none else b) = some r) : c = true ∧ b = some r := by
  cases c
  · cases h
  · exact ⟨rfl, h⟩
theorem V_eqI {E : ET} {nL : Nat} {Q : State → Prop} {s : St} {pc : Nat} {lv : List (Nat × AV)} {st : List AV} {x e : Int32} (h : x = e) (k : V E nL Q s pc lv (vI x :: st)) : V E nL Q s pc lv (vI e :: st) := h ▸ k
theorem V_eqJ {E : ET} {nL : Nat} {Q : State → Prop} {s : St} {pc : Nat} {lv : List (Nat × AV)} {st : List AV} {x e : Int64} (h : x = e) (k : V E nL Q s pc lv (vJ x :: st)) : V E nL Q s pc lv (vJ e :: st) := h ▸ k
theorem lk_out {ps : List (Int × Int)} {dflt : Int} {x : Int32} (hs : (ps.all fun q => decide (Int32.ofInt q.1 = Int32.ofInt q.1)) = true) (h : ∀ q ∈ ps, x = Int32.ofInt q.1 → False) : Op.lookupswitch.offset ps dflt x.toInt = dflt := by
  have hx : ∀ q ∈ ps, ¬ q.1 = x.toInt := fun q hq e => h q hq (by rw [e]; exact (Int32.ofInt_toInt x).symm)
  induction ps with
  | nil => rfl
  | cons q ps ih =>
    have h1 := hx q List.mem_cons_self
    have h2 := ih (by simp) (fun q hq => h q (List.mem_cons_of_mem _ hq)) (fun q hq => hx q (List.mem_cons_of_mem _ hq))
    simp only [Op.lookupswitch.offset, List.find?] at h2 ⊢
    simp [h1, h2]
