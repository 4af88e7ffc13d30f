abbrev AV : Type := Int32 ⊕ Int64 ⊕ (Nat × Nat) ⊕ Value
abbrev vI (x : Int32) : AV := .inl x
abbrev vJ (x : Int64) : AV := .inr (.inl x)
abbrev vR (k i : Nat) : AV := .inr (.inr (.inl (k, i)))
abbrev vO (v : Value) : AV := .inr (.inr (.inr v))
abbrev St : Type := (Nat → Nat → Nat → Int32) × (Nat → Nat → Nat → Int64) × (Nat → Nat → Nat → Nat) × (Nat → Nat → Nat) × (Nat → Nat) × Nat × Nat
def gI (s : St) (k i j : Nat) : Int32 := s.1 k i j
def gJ (s : St) (k i j : Nat) : Int64 := s.2.1 k i j
def gR (s : St) (k i j : Nat) : Nat := s.2.2.1 k i j
def gL (s : St) (k i : Nat) : Nat := s.2.2.2.1 k i
def gN (s : St) (k : Nat) : Nat := s.2.2.2.2.1 k
def cn (s : St) : Nat := s.2.2.2.2.2.1
def sn (s : St) : Nat := s.2.2.2.2.2.2
def u3 {α : Type} (f : Nat → Nat → Nat → α) (k i j : Nat) (v : α) : Nat → Nat → Nat → α := fun k' i' j' => if k' = k ∧ i' = i ∧ j' = j then v else f k' i' j'
def u2 {α : Type} (f : Nat → Nat → α) (k i : Nat) (v : α) : Nat → Nat → α := fun k' i' => if k' = k ∧ i' = i then v else f k' i'
def u1 {α : Type} (f : Nat → α) (k : Nat) (v : α) : Nat → α := fun k' => if k' = k then v else f k'
def sI (s : St) (k i j : Nat) (v : Int32) : St := (u3 s.1 k i j v, s.2)
def sJ (s : St) (k i j : Nat) (v : Int64) : St := (s.1, u3 s.2.1 k i j v, s.2.2)
def sR (s : St) (k i j : Nat) (v : Nat) : St := (s.1, s.2.1, u3 s.2.2.1 k i j v, s.2.2.2)
def nW (s : St) (k n z : Nat) : St := (u2 s.1 k (gN s k + 1) (fun _ => 0), u2 s.2.1 k (gN s k + 1) (fun _ => 0), u2 s.2.2.1 k (gN s k + 1) (fun _ => 0), u2 s.2.2.2.1 k (gN s k + 1) n, u1 s.2.2.2.2.1 k (gN s k + 1), cn s + 1, sn s + z)
def nX (s : St) : St := (s.1, s.2.1, s.2.2.1, s.2.2.2.1, s.2.2.2.2.1, cn s + 1, sn s + 6)
def wI (s : St) (k i : Nat) (f : Nat → Int32) : St := (u2 s.1 k i f, s.2)
def wJ (s : St) (k i : Nat) (f : Nat → Int64) : St := (s.1, u2 s.2.1 k i f, s.2.2)
def strB : List (List Int32) := [[116, 104, 101, 32, 116, 97, 112, 101, 32, 104, 97, 115, 32, 110, 111, 116, 32, 115, 111, 32, 109, 97, 110, 121, 32, 98, 121, 116, 101, 115], [59, 45, 40, 41, 60, 61, 62], [116, 105, 101, 114], [109, 111, 115, 116], [97, 108, 97, 114, 109], [110, 111, 116], [99, 111, 117, 110, 116], [115, 117, 109], [108, 101, 97, 115, 116], [103, 114, 101, 97, 116, 101, 115, 116], [109, 101, 97, 110], [97, 110, 100], [111, 114], [112, 117, 116], [116, 105, 99, 107], [100, 114, 111, 112], [110, 111, 32, 115, 117, 99, 104, 32, 119, 104, 97, 116], [110, 111, 32, 115, 117, 99, 104, 32, 116, 105, 101, 114], [110, 111, 32, 115, 117, 99, 104, 32, 115, 101, 114, 105, 101, 115], [110, 111, 32, 115, 117, 99, 104, 32, 98, 117, 99, 107, 101, 116], [110, 111, 32, 116, 105, 109, 101], [110, 111, 32, 115, 116, 114, 101, 116, 99, 104, 32, 111, 102, 32, 116, 105, 109, 101, 115], [110, 111, 32, 115, 117, 99, 104, 32, 103, 97, 112], [110, 111, 32, 115, 117, 99, 104, 32, 98, 97, 114], [108, 101, 97, 115, 116], [103, 114, 101, 97, 116, 101, 115, 116], [115, 117, 109], [99, 111, 117, 110, 116], [109, 101, 97, 110], [116, 105, 101, 114], [109, 111, 115, 116], [97, 108, 97, 114, 109], [112, 117, 116], [116, 105, 99, 107], [100, 114, 111, 112], [110, 111, 116], [97, 110, 100], [111, 114]]
def sL (j : Nat) : Nat := (strB.getD (j - 1) []).length
def sB (j k : Nat) : Int32 := (strB.getD (j - 1) []).getD k 0
def kcL : List (List Int32) := [[10, 60, 300], [6, 5, 4]]
def kL (i : Nat) : Nat := (kcL.getD (i - 1) []).length
def kI (i k : Nat) : Int32 := (kcL.getD (i - 1) []).getD k 0
def inb (i : Int32) (n : Nat) : Bool := decide (0 ≤ i.toInt ∧ i.toInt < (n : Int))
abbrev ix (i : Int32) : Nat := i.toNatClampNeg
def szb (n : Int32) : Bool := decide (0 ≤ n.toInt ∧ n.toInt ≤ 16777216)
def cpb (p n : Int32) (z : Nat) : Bool := decide (0 ≤ p.toInt ∧ 0 ≤ n.toInt ∧ p.toInt + n.toInt ≤ (z : Int))
def lt {α β : Type} (e : α) (k : α → β) : β := k e
def bI {α β : Type} (o : Option (St × α)) (k : St → α → Option β) : Option β := match o with
  | none => none
  | some q => k q.1 q.2
def bV {β : Type} (o : Option St) (k : St → Option β) : Option β := match o with
  | none => none
  | some q => k q
def bX {α β : Type} (o : Option (St × (Nat ⊕ α))) (kx : St → Nat → Option β) (k : St → α → Option β) : Option β := match o with
  | none => none
  | some (s, .inl e) => kx s e
  | some (s, .inr x) => k s x
def rmb (s : St) : Bool := decide (cn s ≤ 601024 ∧ sn s ≤ 7293034)
def zb (x : Int32) : Bool := decide (x = 0 ∨ x = 1)
def chb (x : Int32) : Bool := decide (narrow .char (.int x) = .int x)
def byb (x : Int32) : Bool := decide (narrow .byte (.int x) = .int x)
