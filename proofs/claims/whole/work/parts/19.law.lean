/-! ===== the law's own end ===== -/
def law_end (E : ET) (Q : State → Prop) (s' : St) : Prop := ∀ (A : AM) (H : Heap) (locs : List Loc) (ls : Array Slot) (pc : Nat), Rl E A s' H locs → decode cL_law pc = .ok (.ireturn, 1) → W E.p E.l E.e E.R E.s E.m E.args E.below E.meth E.c H locs (cn s' - cn E.s0) (sn s' - sn E.s0) Q (F0 E.m pc ls [.int 1])
theorem law_ret {E : ET} {own : String} {nL d : Nat} {Q : State → Prop} {s s' : St} {pc : Nat} {lv : List (Nat × AV)} (g : GX E own cL_law nL d) (hlr : law_end E Q s') {x : Int32} (hf : some (s, x) = some (s', 1)) (hd : decode cL_law pc = .ok (.ireturn, 1)) : V E nL Q s pc lv [vI x] := by
  cases hf
  intro A H locs ls hR hl ho
  exact hlr A H locs ls pc hR hd
