def f_X1_init (fu : Nat) (s : St) (a0 : Nat) (a1 : Nat) : Option (St) :=
  if a0 = 0 then none else
  if szb 100 = false then none else
  lt (nW s 10 (ix 100) (ix 100) : St) fun s3 =>
  if rmb s3 = false then none else
  lt (sR s3 1 a0 1 (gN s 10 + 1) : St) fun s5 =>
  if szb 100 = false then none else
  lt (nW s5 10 (ix 100) (ix 100) : St) fun s7 =>
  if rmb s7 = false then none else
  lt (sR s7 1 a0 2 (gN s5 10 + 1) : St) fun s9 =>
  if szb 100 = false then none else
  lt (nW s9 10 (ix 100) (ix 100) : St) fun s11 =>
  if rmb s11 = false then none else
  lt (sR s11 1 a0 3 (gN s9 10 + 1) : St) fun s13 =>
  if szb 100 = false then none else
  lt (nW s13 10 (ix 100) (ix 100) : St) fun s15 =>
  if rmb s15 = false then none else
  lt (sR s15 1 a0 4 (gN s13 10 + 1) : St) fun s17 =>
  lt (sI s17 1 a0 5 0 : St) fun s18 =>
  lt (sR s18 1 a0 0 a1 : St) fun s19 =>
  some s19
def f_X0_init (fu : Nat) (s : St) (a0 : Nat) : Option (St) :=
  if a0 = 0 then none else
  if szb 160 = false then none else
  lt (nW s 10 (ix 160) (ix 160) : St) fun s3 =>
  if rmb s3 = false then none else
  lt (sR s3 0 a0 0 (gN s 10 + 1) : St) fun s5 =>
  if szb 160 = false then none else
  lt (nW s5 10 (ix 160) (ix 160) : St) fun s7 =>
  if rmb s7 = false then none else
  lt (sR s7 0 a0 1 (gN s5 10 + 1) : St) fun s9 =>
  lt (sI s9 0 a0 2 0 : St) fun s10 =>
  some s10
def f_X2_takeFirstTiers_b10 (fu : Nat) : Nat → St → Nat → Int32 → Option (St)
  | 0, _, _, _ => none
  | n + 1, s, l0, l1 =>
    if l0 = 0 then none else
    if (gI s 2 l0 3) ≤ l1 then
      some s
    else
      if inb l1 (kL 1) = false then none else
      if gR s 2 l0 0 = 0 then none else
      if inb l1 (gL s 10 (gR s 2 l0 0)) = false then none else
      lt (sI s 10 (gR s 2 l0 0) (ix l1) (kI 1 (ix l1)) : St) fun s8 =>
      if inb l1 (kL 2) = false then none else
      if gR s8 2 l0 1 = 0 then none else
      if inb l1 (gL s8 10 (gR s8 2 l0 1)) = false then none else
      lt (sI s8 10 (gR s8 2 l0 1) (ix l1) (kI 2 (ix l1)) : St) fun s12 =>
      lt (l1 + 1 : Int32) fun x13 =>
      f_X2_takeFirstTiers_b10 fu n s12 l0 x13
def f_X2_takeFirstTiers (fu : Nat) (s : St) (a0 : Nat) : Option (St) :=
  if a0 = 0 then none else
  lt (sI s 2 a0 3 (nI (kL 1)) : St) fun s2 =>
  f_X2_takeFirstTiers_b10 fu fu s2 a0 0
def f_X2_init (fu : Nat) (s : St) (a0 : Nat) : Option (St) :=
  if a0 = 0 then none else
  if szb 4 = false then none else
  lt (nW s 10 (ix 4) (ix 4) : St) fun s3 =>
  if rmb s3 = false then none else
  lt (sR s3 2 a0 0 (gN s 10 + 1) : St) fun s5 =>
  if szb 4 = false then none else
  lt (nW s5 10 (ix 4) (ix 4) : St) fun s7 =>
  if rmb s7 = false then none else
  lt (sR s7 2 a0 1 (gN s5 10 + 1) : St) fun s9 =>
  lt (nW s9 0 0 3 : St) fun s10 =>
  if rmb s10 = false then none else
  bV (f_X0_init fu s10 (gN s9 0 + 1)) fun s12 =>
  lt (sR s12 2 a0 2 (gN s9 0 + 1) : St) fun s13 =>
  lt (sI s13 2 a0 4 4 : St) fun s14 =>
  bV (f_X2_takeFirstTiers fu s14 a0) fun s15 =>
  some s15
def f_X3_init (fu : Nat) (s : St) (a0 : Nat) (a1 : Nat) : Option (St) :=
  if a0 = 0 then none else
  lt (sR s 3 a0 0 a1 : St) fun s2 =>
  some s2
def f_X4_init (fu : Nat) (s : St) (a0 : Nat) : Option (St) :=
  if a0 = 0 then none else
  if szb 10 = false then none else
  lt (nW s 10 (ix 10) (ix 10) : St) fun s3 =>
  if rmb s3 = false then none else
  lt (sR s3 4 a0 0 (gN s 10 + 1) : St) fun s5 =>
  if szb 10 = false then none else
  lt (nW s5 10 (ix 10) (ix 10) : St) fun s7 =>
  if rmb s7 = false then none else
  lt (sR s7 4 a0 1 (gN s5 10 + 1) : St) fun s9 =>
  lt (sI s9 4 a0 2 0 : St) fun s10 =>
  some s10
def f_X6_init (fu : Nat) (s : St) (a0 : Nat) : Option (St) :=
  if a0 = 0 then none else
  lt (sI s 6 a0 0 0 : St) fun s2 =>
  lt (sI s2 6 a0 1 0 : St) fun s3 =>
  lt (sJ s3 6 a0 2 0 : St) fun s4 =>
  lt (sI s4 6 a0 3 ((-20000)) : St) fun s5 =>
  lt (sI s5 6 a0 4 ((-20000)) : St) fun s6 =>
  some s6
def f_X7_init (fu : Nat) (s : St) (a0 : Nat) (a1 : Nat) : Option (St) :=
  if a0 = 0 then none else
  lt (sI s 7 a0 1 0 : St) fun s2 =>
  lt (sI s2 7 a0 2 0 : St) fun s3 =>
  lt (sI s3 7 a0 3 0 : St) fun s4 =>
  lt (sI s4 7 a0 4 0 : St) fun s5 =>
  lt (sI s5 7 a0 5 0 : St) fun s6 =>
  lt (sI s6 7 a0 6 0 : St) fun s7 =>
  lt (sI s7 7 a0 7 0 : St) fun s8 =>
  lt (sI s8 7 a0 8 ((-1)) : St) fun s9 =>
  lt (sR s9 7 a0 0 a1 : St) fun s10 =>
  some s10
def f_X8_init (fu : Nat) (s : St) (a0 : Nat) : Option (St) :=
  if a0 = 0 then none else
  if szb 600 = false then none else
  lt (nW s 12 (ix 600) (ix 600) : St) fun s3 =>
  if rmb s3 = false then none else
  lt (sR s3 8 a0 0 (gN s 12 + 1) : St) fun s5 =>
  lt (nW s5 7 0 9 : St) fun s6 =>
  if rmb s6 = false then none else
  bV (f_X7_init fu s6 (gN s5 7 + 1) (gR s6 8 a0 0)) fun s8 =>
  lt (sR s8 8 a0 1 (gN s5 7 + 1) : St) fun s9 =>
  lt (nW s9 3 0 1 : St) fun s10 =>
  if rmb s10 = false then none else
  bV (f_X3_init fu s10 (gN s9 3 + 1) (gR s10 8 a0 1)) fun s12 =>
  lt (sR s12 8 a0 2 (gN s9 3 + 1) : St) fun s13 =>
  lt (nW s13 1 0 6 : St) fun s14 =>
  if rmb s14 = false then none else
  bV (f_X1_init fu s14 (gN s13 1 + 1) (gR s14 8 a0 1)) fun s16 =>
  lt (sR s16 8 a0 3 (gN s13 1 + 1) : St) fun s17 =>
  lt (nW s17 4 0 3 : St) fun s18 =>
  if rmb s18 = false then none else
  bV (f_X4_init fu s18 (gN s17 4 + 1)) fun s20 =>
  lt (sR s20 8 a0 4 (gN s17 4 + 1) : St) fun s21 =>
  lt (nW s21 4 0 3 : St) fun s22 =>
  if rmb s22 = false then none else
  bV (f_X4_init fu s22 (gN s21 4 + 1)) fun s24 =>
  lt (sR s24 8 a0 5 (gN s21 4 + 1) : St) fun s25 =>
  if szb 10 = false then none else
  lt (nW s25 14 (ix 10) (ix 10) : St) fun s27 =>
  if rmb s27 = false then none else
  lt (sR s27 8 a0 6 (gN s25 14 + 1) : St) fun s29 =>
  lt (nW s29 6 0 5 : St) fun s30 =>
  if rmb s30 = false then none else
  bV (f_X6_init fu s30 (gN s29 6 + 1)) fun s32 =>
  lt (sR s32 8 a0 7 (gN s29 6 + 1) : St) fun s33 =>
  lt (nW s33 6 0 5 : St) fun s34 =>
  if rmb s34 = false then none else
  bV (f_X6_init fu s34 (gN s33 6 + 1)) fun s36 =>
  lt (sR s36 8 a0 8 (gN s33 6 + 1) : St) fun s37 =>
  if szb 4 = false then none else
  lt (nW s37 10 (ix 4) (ix 4) : St) fun s39 =>
  if rmb s39 = false then none else
  lt (sR s39 8 a0 9 (gN s37 10 + 1) : St) fun s41 =>
  if szb 4 = false then none else
  lt (nW s41 10 (ix 4) (ix 4) : St) fun s43 =>
  if rmb s43 = false then none else
  lt (sR s43 8 a0 10 (gN s41 10 + 1) : St) fun s45 =>
  if szb 4 = false then none else
  lt (nW s45 10 (ix 4) (ix 4) : St) fun s47 =>
  if rmb s47 = false then none else
  if inb 0 (gL s47 10 (gN s45 10 + 1)) = false then none else
  lt (sI s47 10 (gN s45 10 + 1) (ix 0) 0 : St) fun s50 =>
  if inb 1 (gL s50 10 (gN s45 10 + 1)) = false then none else
  lt (sI s50 10 (gN s45 10 + 1) (ix 1) 0 : St) fun s52 =>
  if inb 2 (gL s52 10 (gN s45 10 + 1)) = false then none else
  lt (sI s52 10 (gN s45 10 + 1) (ix 2) ((-1)) : St) fun s54 =>
  if inb 3 (gL s54 10 (gN s45 10 + 1)) = false then none else
  lt (sI s54 10 (gN s45 10 + 1) (ix 3) ((-1)) : St) fun s56 =>
  lt (sR s56 8 a0 11 (gN s45 10 + 1) : St) fun s57 =>
  lt (nW s57 2 0 5 : St) fun s58 =>
  if rmb s58 = false then none else
  bV (f_X2_init fu s58 (gN s57 2 + 1)) fun s60 =>
  lt (sR s60 8 a0 12 (gN s57 2 + 1) : St) fun s61 =>
  lt (nW s61 2 0 5 : St) fun s62 =>
  if rmb s62 = false then none else
  bV (f_X2_init fu s62 (gN s61 2 + 1)) fun s64 =>
  lt (sR s64 8 a0 13 (gN s61 2 + 1) : St) fun s65 =>
  lt (sI s65 8 a0 14 0 : St) fun s66 =>
  lt (sI s66 8 a0 15 ((-1)) : St) fun s67 =>
  lt (sI s67 8 a0 16 0 : St) fun s68 =>
  lt (sI s68 8 a0 17 0 : St) fun s69 =>
  lt (sI s69 8 a0 18 0 : St) fun s70 =>
  some s70
def f_X8_explain (fu : Nat) (s : St) (a0 : Nat) (a1 : Int32) (a2 : Int32) (a3 : Int32) (a4 : Int32) : Option (St) :=
  if a0 = 0 then none else
  if gR s 8 a0 11 = 0 then none else
  if inb 0 (gL s 10 (gR s 8 a0 11)) = false then none else
  lt (sI s 10 (gR s 8 a0 11) (ix 0) a1 : St) fun s4 =>
  if gR s4 8 a0 11 = 0 then none else
  if inb 1 (gL s4 10 (gR s4 8 a0 11)) = false then none else
  lt (sI s4 10 (gR s4 8 a0 11) (ix 1) a2 : St) fun s7 =>
  if gR s7 8 a0 11 = 0 then none else
  if inb 2 (gL s7 10 (gR s7 8 a0 11)) = false then none else
  lt (sI s7 10 (gR s7 8 a0 11) (ix 2) a3 : St) fun s10 =>
  if gR s10 8 a0 11 = 0 then none else
  if inb 3 (gL s10 10 (gR s10 8 a0 11)) = false then none else
  lt (sI s10 10 (gR s10 8 a0 11) (ix 3) a4 : St) fun s13 =>
  some s13
def f_X8_isId_b15 (fu : Nat) (s : St) (t0 : Int32) : Option (St × Int32) :=
  if zb t0 = false then none else
  some (s, t0)
def f_X8_isId_b14 (fu : Nat) (s : St) : Option (St × Int32) :=
  f_X8_isId_b15 fu s 0
def f_X8_isId (fu : Nat) (s : St) (a0 : Int32) : Option (St × Int32) :=
  if a0 < 0 then
    f_X8_isId_b14 fu s
  else
    if (10 : Int32) ≤ a0 then
      f_X8_isId_b14 fu s
    else
      f_X8_isId_b15 fu s 1
def f_X5_init (fu : Nat) (s : St) (a0 : Nat) (a1 : Nat) : Option (St) :=
  if a0 = 0 then none else
  if szb 4 = false then none else
  lt (nW s 10 (ix 4) (ix 4) : St) fun s3 =>
  if rmb s3 = false then none else
  lt (sR s3 5 a0 1 (gN s 10 + 1) : St) fun s5 =>
  if szb 4 = false then none else
  lt (nW s5 10 (ix 4) (ix 4) : St) fun s7 =>
  if rmb s7 = false then none else
  lt (sR s7 5 a0 2 (gN s5 10 + 1) : St) fun s9 =>
  if szb 16 = false then none else
  lt (nW s9 10 (ix 16) (ix 16) : St) fun s11 =>
  if rmb s11 = false then none else
  lt (sR s11 5 a0 3 (gN s9 10 + 1) : St) fun s13 =>
  if szb 16 = false then none else
  lt (nW s13 10 (ix 16) (ix 16) : St) fun s15 =>
  if rmb s15 = false then none else
  lt (sR s15 5 a0 4 (gN s13 10 + 1) : St) fun s17 =>
  if szb 16 = false then none else
  lt (nW s17 11 (ix 16) (ix 16) : St) fun s19 =>
  if rmb s19 = false then none else
  lt (sR s19 5 a0 5 (gN s17 11 + 1) : St) fun s21 =>
  if szb 16 = false then none else
  lt (nW s21 10 (ix 16) (ix 16) : St) fun s23 =>
  if rmb s23 = false then none else
  lt (sR s23 5 a0 6 (gN s21 10 + 1) : St) fun s25 =>
  if szb 16 = false then none else
  lt (nW s25 10 (ix 16) (ix 16) : St) fun s27 =>
  if rmb s27 = false then none else
  lt (sR s27 5 a0 7 (gN s25 10 + 1) : St) fun s29 =>
  lt (sI s29 5 a0 8 0 : St) fun s30 =>
  lt (sI s30 5 a0 9 0 : St) fun s31 =>
  lt (sI s31 5 a0 10 0 : St) fun s32 =>
  lt (sR s32 5 a0 0 a1 : St) fun s33 =>
  some s33
def f_X8_rowsOf_b26 (fu : Nat) (s : St) (l0 : Nat) (l1 : Int32) : Option (St × Nat) :=
  if l0 = 0 then none else
  if gR s 8 l0 6 = 0 then none else
  if inb l1 (gL s 14 (gR s 8 l0 6)) = false then none else
  some (s, (gR s 14 (gR s 8 l0 6) (ix l1)))
def f_X8_rowsOf (fu : Nat) (s : St) (a0 : Nat) (a1 : Int32) : Option (St × Nat) :=
  if a0 = 0 then none else
  if gR s 8 a0 6 = 0 then none else
  if inb a1 (gL s 14 (gR s 8 a0 6)) = false then none else
  if gR s 14 (gR s 8 a0 6) (ix a1) = 0 then
    lt (nW s 5 0 11 : St) fun s5 =>
    if rmb s5 = false then none else
    bV (f_X5_init fu s5 (gN s 5 + 1) (gR s5 8 a0 12)) fun s7 =>
    if inb a1 (gL s7 14 (gR s 8 a0 6)) = false then none else
    lt (sR s7 14 (gR s 8 a0 6) (ix a1) (gN s 5 + 1) : St) fun s9 =>
    f_X8_rowsOf_b26 fu s9 a0 a1
  else
    f_X8_rowsOf_b26 fu s a0 a1
def f_X6_add_b30 (fu : Nat) (s : St) (l0 : Nat) (l1 : Nat) (l2 : Int32) (t0 : Int32) (t1 : Nat) : Option (St) :=
  if t1 = 0 then none else
  lt (sI s 6 t1 3 t0 : St) fun s12 =>
  if l0 = 0 then none else
  if l1 = 0 then none else
  if gR s12 5 l1 7 = 0 then none else
  if inb l2 (gL s12 10 (gR s12 5 l1 7)) = false then none else
  bI (f_J9_max_7cf53 fu s12 (gI s12 6 l0 4) (gI s12 10 (gR s12 5 l1 7) (ix l2))) fun s17 x18 =>
  lt (sI s17 6 l0 4 x18 : St) fun s19 =>
  if gR s19 5 l1 5 = 0 then none else
  if inb l2 (gL s19 11 (gR s19 5 l1 5)) = false then none else
  lt (sJ s19 6 l0 2 ((gJ s19 6 l0 2) + (gJ s19 11 (gR s19 5 l1 5) (ix l2))) : St) fun s22 =>
  if gR s22 5 l1 4 = 0 then none else
  if inb l2 (gL s22 10 (gR s22 5 l1 4)) = false then none else
  lt (sI s22 6 l0 1 ((gI s22 6 l0 1) + (gI s22 10 (gR s22 5 l1 4) (ix l2))) : St) fun s25 =>
  lt (sI s25 6 l0 0 ((gI s25 6 l0 0) + 1) : St) fun s26 =>
  some s26
def f_X6_add (fu : Nat) (s : St) (a0 : Nat) (a1 : Nat) (a2 : Int32) : Option (St) :=
  if a0 = 0 then none else
  if (gI s 6 a0 0) = 0 then
    if a1 = 0 then none else
    if gR s 5 a1 6 = 0 then none else
    if inb a2 (gL s 10 (gR s 5 a1 6)) = false then none else
    f_X6_add_b30 fu s a0 a1 a2 (gI s 10 (gR s 5 a1 6) (ix a2)) a0
  else
    if a1 = 0 then none else
    if gR s 5 a1 6 = 0 then none else
    if inb a2 (gL s 10 (gR s 5 a1 6)) = false then none else
    bI (f_J9_min_7cf53 fu s (gI s 6 a0 3) (gI s 10 (gR s 5 a1 6) (ix a2))) fun s6 x7 =>
    f_X6_add_b30 fu s6 a0 a1 a2 x7 a0
def f_X6_clear (fu : Nat) (s : St) (a0 : Nat) : Option (St) :=
  if a0 = 0 then none else
  lt (sI s 6 a0 0 0 : St) fun s2 =>
  lt (sI s2 6 a0 1 0 : St) fun s3 =>
  lt (sJ s3 6 a0 2 0 : St) fun s4 =>
  lt (sI s4 6 a0 3 ((-20000)) : St) fun s5 =>
  lt (sI s5 6 a0 4 ((-20000)) : St) fun s6 =>
  some s6
def f_X8_tallyAll_b9 (fu : Nat) : Nat → St → Nat → Nat → Int32 → Option (St)
  | 0, _, _, _, _ => none
  | n + 1, s, l0, l1, l2 =>
    if l1 = 0 then none else
    if (gI s 5 l1 8) ≤ l2 then
      some s
    else
      if l0 = 0 then none else
      if gR s 8 l0 7 = 0 then none else
      bV (f_X6_add fu s (gR s 8 l0 7) l1 l2) fun s8 =>
      lt (l2 + 1 : Int32) fun x9 =>
      f_X8_tallyAll_b9 fu n s8 l0 l1 x9
def f_X8_tallyAll (fu : Nat) (s : St) (a0 : Nat) (a1 : Nat) : Option (St) :=
  if a0 = 0 then none else
  if gR s 8 a0 7 = 0 then none else
  bV (f_X6_clear fu s (gR s 8 a0 7)) fun s3 =>
  f_X8_tallyAll_b9 fu fu s3 a0 a1 0
def f_X4_placeOf_b2 (fu : Nat) : Nat → St → Nat → Int32 → Int32 → Option (St × Int32)
  | 0, _, _, _, _ => none
  | n + 1, s, l0, l1, l2 =>
    if l0 = 0 then none else
    if (gI s 4 l0 2) ≤ l2 then
      some (s, ((-1)))
    else
      if gR s 4 l0 0 = 0 then none else
      if inb l2 (gL s 10 (gR s 4 l0 0)) = false then none else
      if (gI s 10 (gR s 4 l0 0) (ix l2)) = l1 then
        some (s, l2)
      else
        lt (l2 + 1 : Int32) fun x6 =>
        f_X4_placeOf_b2 fu n s l0 l1 x6
def f_X4_placeOf (fu : Nat) (s : St) (a0 : Nat) (a1 : Int32) : Option (St × Int32) :=
  f_X4_placeOf_b2 fu fu s a0 a1 0
def f_X4_knows_b14 (fu : Nat) (s : St) (t0 : Int32) : Option (St × Int32) :=
  if zb t0 = false then none else
  some (s, t0)
def f_X4_knows (fu : Nat) (s : St) (a0 : Nat) (a1 : Int32) : Option (St × Int32) :=
  if a0 = 0 then none else
  bI (f_X4_placeOf fu s a0 a1) fun s2 x3 =>
  if x3 = ((-1) : Int32) then
    f_X4_knows_b14 fu s2 0
  else
    f_X4_knows_b14 fu s2 1
def f_X4_remove_b24 (fu : Nat) : Nat → St → Nat → Int32 → Option (St)
  | 0, _, _, _ => none
  | n + 1, s, l0, l3 =>
    if l0 = 0 then none else
    if (gI s 4 l0 2) ≤ l3 then
      some s
    else
      if gR s 4 l0 0 = 0 then none else
      if inb (l3 + 1) (gL s 10 (gR s 4 l0 0)) = false then none else
      if inb l3 (gL s 10 (gR s 4 l0 0)) = false then none else
      lt (sI s 10 (gR s 4 l0 0) (ix l3) (gI s 10 (gR s 4 l0 0) (ix (l3 + 1))) : St) fun s11 =>
      lt (l3 + 1 : Int32) fun x12 =>
      f_X4_remove_b24 fu n s11 l0 x12
def f_X4_remove (fu : Nat) (s : St) (a0 : Nat) (a1 : Int32) : Option (St) :=
  if a0 = 0 then none else
  bI (f_X4_placeOf fu s a0 a1) fun s2 x3 =>
  if x3 = ((-1) : Int32) then
    some s2
  else
    lt (sI s2 4 a0 2 ((gI s2 4 a0 2) - 1) : St) fun s5 =>
    f_X4_remove_b24 fu fu s5 a0 x3
def f_X8_drop (fu : Nat) (s : St) (a0 : Nat) (a1 : Int32) : Option (St × Int32) :=
  bI (f_X8_isId fu s a1) fun s1 x2 =>
  if x2 = 0 then
    if a0 = 0 then none else
    bV (f_X8_explain fu s1 a0 1 0 ((-1)) ((-1))) fun s18 =>
    some (s18, ((-1)))
  else
    if a0 = 0 then none else
    if gR s1 8 a0 4 = 0 then none else
    bI (f_X4_knows fu s1 (gR s1 8 a0 4) a1) fun s6 x7 =>
    if x7 = 0 then
      bV (f_X8_explain fu s6 a0 3 0 ((-1)) ((-1))) fun s16 =>
      some (s16, ((-1)))
    else
      bI (f_X8_rowsOf fu s6 a0 a1) fun s9 x10 =>
      bV (f_X8_tallyAll fu s9 a0 x10) fun s11 =>
      if gR s11 8 a0 4 = 0 then none else
      bV (f_X4_remove fu s11 (gR s11 8 a0 4) a1) fun s13 =>
      bV (f_X8_explain fu s13 a0 0 0 ((-1)) ((-1))) fun s14 =>
      if gR s14 8 a0 7 = 0 then none else
      some (s14, (gI s14 6 (gR s14 8 a0 7) 1))
def f_X8_fault (fu : Nat) (s : St) (a0 : Nat) : Option (St × Int32) :=
  if a0 = 0 then none else
  some (s, (gI s 8 a0 15))
def f_X8_appendToTape_b46 (fu : Nat) (s : St) : Option (St) :=
  some s
def f_X8_appendToTape_b3 (fu : Nat) : Nat → St → Nat → Int32 → Int32 → Option (St)
  | 0, _, _, _, _ => none
  | n + 1, s, l0, l1, l2 =>
    if l2 < 0 then
      f_X8_appendToTape_b46 fu s
    else
      if l0 = 0 then none else
      if (600 : Int32) ≤ (gI s 8 l0 14) then
        f_X8_appendToTape_b46 fu s
      else
        if gR s 8 l0 0 = 0 then none else
        if inb (gI s 8 l0 14) (gL s 12 (gR s 8 l0 0)) = false then none else
        lt (sI s 12 (gR s 8 l0 0) (ix (gI s 8 l0 14)) (vp_nar .byte ((Int32.toInt8 ((l1.toUInt32 >>> (Int32.toUInt32 l2 &&& Int32.toUInt32 31)).toInt32)).toInt32)) : St) fun s6 =>
        lt (sI s6 8 l0 14 ((gI s6 8 l0 14) + 1) : St) fun s7 =>
        lt (l2 + (-8) : Int32) fun x8 =>
        f_X8_appendToTape_b3 fu n s7 l0 l1 x8
def f_X8_appendToTape (fu : Nat) (s : St) (a0 : Nat) (a1 : Int32) : Option (St) :=
  f_X8_appendToTape_b3 fu fu s a0 a1 24
def f_X8_feed (fu : Nat) (s : St) (a0 : Nat) (a1 : Int32) (a2 : Int32) (a3 : Int32) (a4 : Int32) (a5 : Int32) : Option (St × Int32) :=
  if a0 = 0 then none else
  if (gI s 8 a0 14) ≤ (580 : Int32) then
    bV (f_X8_appendToTape fu s a0 a1) fun s3 =>
    bV (f_X8_appendToTape fu s3 a0 a2) fun s4 =>
    bV (f_X8_appendToTape fu s4 a0 a3) fun s5 =>
    bV (f_X8_appendToTape fu s5 a0 a4) fun s6 =>
    bV (f_X8_appendToTape fu s6 a0 a5) fun s7 =>
    some (s7, (gI s7 8 a0 14))
  else
    some (s, ((-1)))
def f_X8_isTime_b21 (fu : Nat) (s : St) (t0 : Int32) : Option (St × Int32) :=
  if zb t0 = false then none else
  some (s, t0)
def f_X8_isTime_b20 (fu : Nat) (s : St) : Option (St × Int32) :=
  f_X8_isTime_b21 fu s 0
def f_X8_isTime (fu : Nat) (s : St) (a0 : Int64) : Option (St × Int32) :=
  if (lg_cmp a0 ((-1000000))) < 0 then
    f_X8_isTime_b20 fu s
  else
    if 0 < (lg_cmp a0 1000000) then
      f_X8_isTime_b20 fu s
    else
      f_X8_isTime_b21 fu s 1
def f_X8_isValue_b21 (fu : Nat) (s : St) (t0 : Int32) : Option (St × Int32) :=
  if zb t0 = false then none else
  some (s, t0)
def f_X8_isValue_b20 (fu : Nat) (s : St) : Option (St × Int32) :=
  f_X8_isValue_b21 fu s 0
def f_X8_isValue (fu : Nat) (s : St) (a0 : Int64) : Option (St × Int32) :=
  if (lg_cmp a0 ((-10000))) < 0 then
    f_X8_isValue_b20 fu s
  else
    if 0 < (lg_cmp a0 10000) then
      f_X8_isValue_b20 fu s
    else
      f_X8_isValue_b21 fu s 1
def f_X8_multipleUpTo_b16 (fu : Nat) (s : St) (t0 : Int32) : Option (St × Int32) :=
  some (s, t0)
def f_X8_multipleUpTo (fu : Nat) (s : St) (a0 : Int32) (a1 : Int32) : Option (St × Int32) :=
  if (1 : Int32) ≤ a1 then
    bI (f_J9_floorMod_7cf53 fu s a0 a1) fun s2 x3 =>
    f_X8_multipleUpTo_b16 fu s2 (a0 - x3)
  else
    f_X8_multipleUpTo_b16 fu s a0
def f_X2_findSeams_b73 (fu : Nat) (k21 : St → Nat → Nat → Int32 → Int32 → Option (St)) (s : St) (l0 : Nat) (l2 : Nat) (l3 : Int32) (l4 : Int32) : Option (St) :=
  if l2 = 0 then none else
  if inb l4 (gL s 10 l2) = false then none else
  lt (sI s 10 l2 (ix l4) l3 : St) fun s22 =>
  lt (l4 + 1 : Int32) fun x23 =>
  k21 s22 l0 l2 l3 x23
def f_X2_findSeams_b21 (fu : Nat) : Nat → St → Nat → Nat → Int32 → Int32 → Option (St)
  | 0, _, _, _, _, _ => none
  | n + 1, s, l0, l2, l3, l4 =>
    if l0 = 0 then none else
    if (gI s 2 l0 3) ≤ l4 then
      some s
    else
      if gR s 2 l0 1 = 0 then none else
      if inb l4 (gL s 10 (gR s 2 l0 1)) = false then none else
      if gR s 2 l0 0 = 0 then none else
      if inb l4 (gL s 10 (gR s 2 l0 0)) = false then none else
      lt (l3 - ((gI s 10 (gR s 2 l0 1) (ix l4)) * (gI s 10 (gR s 2 l0 0) (ix l4))) : Int32) fun x15 =>
      if (gI s 2 l0 3) ≤ (l4 + 1) then
        f_X2_findSeams_b73 fu (f_X2_findSeams_b21 fu n) s l0 l2 x15 l4
      else
        if inb (l4 + 1) (gL s 10 (gR s 2 l0 0)) = false then none else
        bI (f_X8_multipleUpTo fu s x15 (gI s 10 (gR s 2 l0 0) (ix (l4 + 1)))) fun s18 x19 =>
        f_X2_findSeams_b73 fu (f_X2_findSeams_b21 fu n) s18 l0 l2 x19 l4
def f_X2_findSeams (fu : Nat) (s : St) (a0 : Nat) (a1 : Int32) (a2 : Nat) : Option (St) :=
  if a0 = 0 then none else
  if gR s 2 a0 0 = 0 then none else
  if inb 0 (gL s 10 (gR s 2 a0 0)) = false then none else
  bI (f_X8_multipleUpTo fu s a1 (gI s 10 (gR s 2 a0 0) (ix 0))) fun s4 x5 =>
  if gR s4 2 a0 0 = 0 then none else
  if inb 0 (gL s4 10 (gR s4 2 a0 0)) = false then none else
  lt (x5 + (gI s4 10 (gR s4 2 a0 0) (ix 0)) : Int32) fun x8 =>
  f_X2_findSeams_b21 fu fu s4 a0 a2 x8 0
def f_X8_latenessIn (fu : Nat) (s : St) (a0 : Nat) (a1 : Nat) (a2 : Int32) (a3 : Int32) : Option (St × Int32) :=
  if a1 = 0 then none else
  bI (f_X4_knows fu s a1 a2) fun s2 x3 =>
  if x3 = 0 then
    some (s2, 0)
  else
    if a0 = 0 then none else
    if gR s2 4 a1 1 = 0 then none else
    if inb a2 (gL s2 10 (gR s2 4 a1 1)) = false then none else
    if gR s2 8 a0 12 = 0 then none else
    bV (f_X2_findSeams fu s2 (gR s2 8 a0 12) (gI s2 10 (gR s2 4 a1 1) (ix a2)) (gR s2 8 a0 10)) fun s9 =>
    if gR s9 8 a0 12 = 0 then none else
    if gR s9 8 a0 10 = 0 then none else
    if inb ((gI s9 2 (gR s9 8 a0 12) 3) - 1) (gL s9 10 (gR s9 8 a0 10)) = false then none else
    bI (f_J9_max_7cf53 fu s9 0 ((gI s9 10 (gR s9 8 a0 10) (ix ((gI s9 2 (gR s9 8 a0 12) 3) - 1))) - a3)) fun s13 x14 =>
    some (s13, x14)
def f_X8_noteLate (fu : Nat) (s : St) (a0 : Nat) (a1 : Int32) : Option (St) :=
  if a0 = 0 then none else
  lt (sI s 8 a0 17 ((gI s 8 a0 17) + 1) : St) fun s2 =>
  bI (f_X8_rowsOf fu s2 a0 a1) fun s3 x4 =>
  if x4 = 0 then none else
  lt (sI s3 5 x4 9 ((gI s3 5 x4 9) + 1) : St) fun s6 =>
  some s6
def f_X4_use_b79 (fu : Nat) : Nat → St → Nat → Int32 → Int32 → Int32 → Int32 → Option (St × Int32)
  | 0, _, _, _, _, _, _ => none
  | n + 1, s, l0, l1, l2, l4, l6 =>
    if l6 ≤ 0 then
      if l0 = 0 then none else
      if gR s 4 l0 0 = 0 then none else
      if inb 0 (gL s 10 (gR s 4 l0 0)) = false then none else
      lt (sI s 10 (gR s 4 l0 0) (ix 0) l1 : St) fun s21 =>
      if gR s21 4 l0 1 = 0 then none else
      if inb l1 (gL s21 10 (gR s21 4 l0 1)) = false then none else
      bI (f_J9_max_7cf53 fu s21 (gI s21 10 (gR s21 4 l0 1) (ix l1)) l2) fun s24 x25 =>
      if inb l1 (gL s24 10 (gR s21 4 l0 1)) = false then none else
      lt (sI s24 10 (gR s21 4 l0 1) (ix l1) x25 : St) fun s27 =>
      some (s27, l4)
    else
      if l0 = 0 then none else
      if gR s 4 l0 0 = 0 then none else
      if inb (l6 - 1) (gL s 10 (gR s 4 l0 0)) = false then none else
      if inb l6 (gL s 10 (gR s 4 l0 0)) = false then none else
      lt (sI s 10 (gR s 4 l0 0) (ix l6) (gI s 10 (gR s 4 l0 0) (ix (l6 - 1))) : St) fun s32 =>
      lt (l6 + (-1) : Int32) fun x33 =>
      f_X4_use_b79 fu n s32 l0 l1 l2 l4 x33
def f_X4_use_b75 (fu : Nat) (s : St) (l0 : Nat) (l1 : Int32) (l2 : Int32) (l4 : Int32) (l5 : Int32) : Option (St × Int32) :=
  f_X4_use_b79 fu fu s l0 l1 l2 l4 l5
def f_X4_use_b52 (fu : Nat) (s : St) (l0 : Nat) (l1 : Int32) (l2 : Int32) (l4 : Int32) : Option (St × Int32) :=
  if l0 = 0 then none else
  lt (gI s 4 l0 2 : Int32) fun x12 =>
  lt (sI s 4 l0 2 ((gI s 4 l0 2) + 1) : St) fun s13 =>
  if gR s13 4 l0 1 = 0 then none else
  if inb l1 (gL s13 10 (gR s13 4 l0 1)) = false then none else
  lt (sI s13 10 (gR s13 4 l0 1) (ix l1) l2 : St) fun s16 =>
  f_X4_use_b75 fu s16 l0 l1 l2 l4 x12
def f_X4_use (fu : Nat) (s : St) (a0 : Nat) (a1 : Int32) (a2 : Int32) (a3 : Int32) : Option (St × Int32) :=
  if a0 = 0 then none else
  bI (f_X4_placeOf fu s a0 a1) fun s2 x3 =>
  if x3 = ((-1) : Int32) then
    if (gI s2 4 a0 2) ≤ 0 then
      f_X4_use_b52 fu s2 a0 a1 a2 ((-1))
    else
      if (gI s2 4 a0 2) < a3 then
        f_X4_use_b52 fu s2 a0 a1 a2 ((-1))
      else
        lt (sI s2 4 a0 2 ((gI s2 4 a0 2) - 1) : St) fun s7 =>
        if gR s7 4 a0 0 = 0 then none else
        if inb (gI s7 4 a0 2) (gL s7 10 (gR s7 4 a0 0)) = false then none else
        lt (gI s7 10 (gR s7 4 a0 0) (ix (gI s7 4 a0 2)) : Int32) fun x10 =>
        f_X4_use_b52 fu s7 a0 a1 a2 x10
  else
    f_X4_use_b75 fu s2 a0 a1 a2 ((-1)) x3
def f_X5_begin (fu : Nat) (s : St) (a0 : Nat) (a1 : Nat) (a2 : Int32) : Option (St) :=
  if a0 = 0 then none else
  lt (sR s 5 a0 0 a1 : St) fun s2 =>
  lt (sI s2 5 a0 8 0 : St) fun s3 =>
  lt (sI s3 5 a0 9 0 : St) fun s4 =>
  lt (sI s4 5 a0 10 0 : St) fun s5 =>
  if gR s5 5 a0 0 = 0 then none else
  bV (f_X2_findSeams fu s5 (gR s5 5 a0 0) a2 (gR s5 5 a0 1)) fun s7 =>
  some s7
def f_X5_carry (fu : Nat) (s : St) (a0 : Nat) (a1 : Int32) (a2 : Int32) (a3 : Int32) : Option (St) :=
  if a0 = 0 then none else
  if gR s 5 a0 3 = 0 then none else
  if inb a2 (gL s 10 (gR s 5 a0 3)) = false then none else
  lt (sI s 10 (gR s 5 a0 3) (ix a2) a3 : St) fun s4 =>
  if gR s4 5 a0 4 = 0 then none else
  if inb a1 (gL s4 10 (gR s4 5 a0 4)) = false then none else
  if inb a2 (gL s4 10 (gR s4 5 a0 4)) = false then none else
  lt (sI s4 10 (gR s4 5 a0 4) (ix a2) (gI s4 10 (gR s4 5 a0 4) (ix a1)) : St) fun s8 =>
  if gR s8 5 a0 5 = 0 then none else
  if inb a1 (gL s8 11 (gR s8 5 a0 5)) = false then none else
  if inb a2 (gL s8 11 (gR s8 5 a0 5)) = false then none else
  lt (sJ s8 11 (gR s8 5 a0 5) (ix a2) (gJ s8 11 (gR s8 5 a0 5) (ix a1)) : St) fun s12 =>
  if gR s12 5 a0 6 = 0 then none else
  if inb a1 (gL s12 10 (gR s12 5 a0 6)) = false then none else
  if inb a2 (gL s12 10 (gR s12 5 a0 6)) = false then none else
  lt (sI s12 10 (gR s12 5 a0 6) (ix a2) (gI s12 10 (gR s12 5 a0 6) (ix a1)) : St) fun s16 =>
  if gR s16 5 a0 7 = 0 then none else
  if inb a1 (gL s16 10 (gR s16 5 a0 7)) = false then none else
  if inb a2 (gL s16 10 (gR s16 5 a0 7)) = false then none else
  lt (sI s16 10 (gR s16 5 a0 7) (ix a2) (gI s16 10 (gR s16 5 a0 7) (ix a1)) : St) fun s20 =>
  some s20
def f_X5_join (fu : Nat) (s : St) (a0 : Nat) (a1 : Int32) (a2 : Int32) : Option (St) :=
  if a0 = 0 then none else
  if gR s 5 a0 4 = 0 then none else
  if inb a2 (gL s 10 (gR s 5 a0 4)) = false then none else
  if inb a1 (gL s 10 (gR s 5 a0 4)) = false then none else
  if inb a2 (gL s 10 (gR s 5 a0 4)) = false then none else
  lt (sI s 10 (gR s 5 a0 4) (ix a2) ((gI s 10 (gR s 5 a0 4) (ix a2)) + (gI s 10 (gR s 5 a0 4) (ix a1))) : St) fun s6 =>
  if gR s6 5 a0 5 = 0 then none else
  if inb a2 (gL s6 11 (gR s6 5 a0 5)) = false then none else
  if inb a1 (gL s6 11 (gR s6 5 a0 5)) = false then none else
  if inb a2 (gL s6 11 (gR s6 5 a0 5)) = false then none else
  lt (sJ s6 11 (gR s6 5 a0 5) (ix a2) ((gJ s6 11 (gR s6 5 a0 5) (ix a2)) + (gJ s6 11 (gR s6 5 a0 5) (ix a1))) : St) fun s11 =>
  if gR s11 5 a0 6 = 0 then none else
  if inb a2 (gL s11 10 (gR s11 5 a0 6)) = false then none else
  if inb a1 (gL s11 10 (gR s11 5 a0 6)) = false then none else
  bI (f_J9_min_7cf53 fu s11 (gI s11 10 (gR s11 5 a0 6) (ix a2)) (gI s11 10 (gR s11 5 a0 6) (ix a1))) fun s15 x16 =>
  if inb a2 (gL s15 10 (gR s11 5 a0 6)) = false then none else
  lt (sI s15 10 (gR s11 5 a0 6) (ix a2) x16 : St) fun s18 =>
  if gR s18 5 a0 7 = 0 then none else
  if inb a2 (gL s18 10 (gR s18 5 a0 7)) = false then none else
  if inb a1 (gL s18 10 (gR s18 5 a0 7)) = false then none else
  bI (f_J9_max_7cf53 fu s18 (gI s18 10 (gR s18 5 a0 7) (ix a2)) (gI s18 10 (gR s18 5 a0 7) (ix a1))) fun s22 x23 =>
  if inb a2 (gL s22 10 (gR s18 5 a0 7)) = false then none else
  lt (sI s22 10 (gR s18 5 a0 7) (ix a2) x23 : St) fun s25 =>
  some s25
def f_X2_tierUnder_b2 (fu : Nat) : Nat → St → Nat → Nat → Int32 → Int32 → Option (St × Int32)
  | 0, _, _, _, _, _ => none
  | n + 1, s, l0, l1, l2, l3 =>
    if l0 = 0 then none else
    if (gI s 2 l0 3) ≤ l3 then
      some (s, ((-1)))
    else
      if l1 = 0 then none else
      if inb l3 (gL s 10 l1) = false then none else
      if l2 < (gI s 10 l1 (ix l3)) then
        lt (l3 + 1 : Int32) fun x6 =>
        f_X2_tierUnder_b2 fu n s l0 l1 l2 x6
      else
        some (s, l3)
def f_X2_tierUnder (fu : Nat) (s : St) (a0 : Nat) (a1 : Nat) (a2 : Int32) : Option (St × Int32) :=
  f_X2_tierUnder_b2 fu fu s a0 a1 a2 0
def f_X5_tierOf (fu : Nat) (s : St) (a0 : Nat) (a1 : Int32) : Option (St × Int32) :=
  if a0 = 0 then none else
  if gR s 5 a0 0 = 0 then none else
  bI (f_X2_tierUnder fu s (gR s 5 a0 0) (gR s 5 a0 1) a1) fun s3 x4 =>
  some (s3, x4)
def f_X5_moveTo_b158 (fu : Nat) (k54 : St → Nat → Int32 → Int32 → Int32 → Option (St × Int32)) (s : St) (l0 : Nat) (l2 : Int32) (l3 : Int32) (l4 : Int32) : Option (St × Int32) :=
  lt (l4 + 1 : Int32) fun x39 =>
  k54 s l0 l2 l3 x39
def f_X5_moveTo_b146 (fu : Nat) (k54 : St → Nat → Int32 → Int32 → Int32 → Option (St × Int32)) (s : St) (l0 : Nat) (l2 : Int32) (l3 : Int32) (l4 : Int32) (l6 : Int32) : Option (St × Int32) :=
  if l0 = 0 then none else
  bV (f_X5_carry fu s l0 l4 l2 l6) fun s37 =>
  lt (l2 + 1 : Int32) fun x38 =>
  f_X5_moveTo_b158 fu k54 s37 l0 x38 l3 l4
def f_X5_moveTo_b54 (fu : Nat) : Nat → St → Nat → Int32 → Int32 → Int32 → Option (St × Int32)
  | 0, _, _, _, _, _ => none
  | n + 1, s, l0, l2, l3, l4 =>
    if l0 = 0 then none else
    if (gI s 5 l0 8) ≤ l4 then
      lt (sI s 5 l0 8 l2 : St) fun s14 =>
      lt (sI s14 5 l0 10 ((gI s14 5 l0 10) + l3) : St) fun s15 =>
      some (s15, l3)
    else
      if gR s 5 l0 3 = 0 then none else
      if inb l4 (gL s 10 (gR s 5 l0 3)) = false then none else
      bI (f_X5_tierOf fu s l0 (gI s 10 (gR s 5 l0 3) (ix l4))) fun s18 x19 =>
      if x19 = ((-1) : Int32) then
        if gR s18 5 l0 4 = 0 then none else
        if inb l4 (gL s18 10 (gR s18 5 l0 4)) = false then none else
        lt (l3 + (gI s18 10 (gR s18 5 l0 4) (ix l4)) : Int32) fun x35 =>
        f_X5_moveTo_b158 fu (f_X5_moveTo_b54 fu n) s18 l0 l2 x35 l4
      else
        if gR s18 5 l0 3 = 0 then none else
        if inb l4 (gL s18 10 (gR s18 5 l0 3)) = false then none else
        if gR s18 5 l0 0 = 0 then none else
        if gR s18 2 (gR s18 5 l0 0) 0 = 0 then none else
        if inb x19 (gL s18 10 (gR s18 2 (gR s18 5 l0 0) 0)) = false then none else
        bI (f_X8_multipleUpTo fu s18 (gI s18 10 (gR s18 5 l0 3) (ix l4)) (gI s18 10 (gR s18 2 (gR s18 5 l0 0) 0) (ix x19))) fun s26 x27 =>
        if l2 ≤ 0 then
          f_X5_moveTo_b146 fu (f_X5_moveTo_b54 fu n) s26 l0 l2 l3 l4 x27
        else
          if gR s26 5 l0 3 = 0 then none else
          if inb (l2 - 1) (gL s26 10 (gR s26 5 l0 3)) = false then none else
          if (gI s26 10 (gR s26 5 l0 3) (ix (l2 - 1))) = x27 then
            bV (f_X5_join fu s26 l0 l4 (l2 - 1)) fun s32 =>
            f_X5_moveTo_b158 fu (f_X5_moveTo_b54 fu n) s32 l0 l2 l3 l4
          else
            f_X5_moveTo_b146 fu (f_X5_moveTo_b54 fu n) s26 l0 l2 l3 l4 x27
def f_X5_moveTo (fu : Nat) (s : St) (a0 : Nat) (a1 : Int32) : Option (St × Int32) :=
  if a0 = 0 then none else
  if gR s 5 a0 0 = 0 then none else
  bV (f_X2_findSeams fu s (gR s 5 a0 0) a1 (gR s 5 a0 2)) fun s3 =>
  if gR s3 5 a0 2 = 0 then none else
  if inb 0 (gL s3 10 (gR s3 5 a0 2)) = false then none else
  if gR s3 5 a0 1 = 0 then none else
  if inb 0 (gL s3 10 (gR s3 5 a0 1)) = false then none else
  if (gI s3 10 (gR s3 5 a0 2) (ix 0)) = (gI s3 10 (gR s3 5 a0 1) (ix 0)) then
    some (s3, 0)
  else
    if cpb 0 (nI (gL s3 10 (gR s3 5 a0 1))) (gL s3 10 (gR s3 5 a0 2)) = false then none else
    if cpb 0 (nI (gL s3 10 (gR s3 5 a0 1))) (gL s3 10 (gR s3 5 a0 1)) = false then none else
    lt (wI s3 10 (gR s3 5 a0 1) (va_cpy (gI s3 10 (gR s3 5 a0 2)) (gI s3 10 (gR s3 5 a0 1)) (ix 0) (ix 0) (ix (nI (gL s3 10 (gR s3 5 a0 1))))) : St) fun s11 =>
    f_X5_moveTo_b54 fu fu s11 a0 0 0 0
def f_X8_bring_b94 (fu : Nat) (s : St) (l4 : Nat) : Option (St × Nat) :=
  some (s, l4)
def f_X8_bring_b47 (fu : Nat) (s : St) (l0 : Nat) (l1 : Int32) (l2 : Int32) (l3 : Int32) : Option (St × Nat) :=
  if l0 = 0 then none else
  bI (f_X8_rowsOf fu s l0 l1) fun s14 x15 =>
  if l3 = 0 then
    if gR s14 8 l0 4 = 0 then none else
    if gR s14 4 (gR s14 8 l0 4) 1 = 0 then none else
    if inb l1 (gL s14 10 (gR s14 4 (gR s14 8 l0 4) 1)) = false then none else
    if x15 = 0 then none else
    bI (f_X5_moveTo fu s14 x15 (gI s14 10 (gR s14 4 (gR s14 8 l0 4) 1) (ix l1))) fun s21 x22 =>
    lt (sI s21 8 l0 18 ((gI s14 8 l0 18) + x22) : St) fun s23 =>
    f_X8_bring_b94 fu s23 x15
  else
    if x15 = 0 then none else
    bV (f_X5_begin fu s14 x15 (gR s14 8 l0 12) l2) fun s25 =>
    f_X8_bring_b94 fu s25 x15
def f_X8_bring_b16 (fu : Nat) (s : St) (l0 : Nat) (l1 : Int32) (l2 : Int32) (t0 : Int32) : Option (St × Nat) :=
  if l0 = 0 then none else
  if gR s 8 l0 12 = 0 then none else
  if gR s 8 l0 4 = 0 then none else
  bI (f_X4_use fu s (gR s 8 l0 4) l1 l2 (gI s 2 (gR s 8 l0 12) 4)) fun s9 x10 =>
  if x10 = ((-1) : Int32) then
    f_X8_bring_b47 fu s9 l0 l1 l2 t0
  else
    lt (sI s9 8 l0 16 ((gI s9 8 l0 16) + 1) : St) fun s12 =>
    f_X8_bring_b47 fu s12 l0 l1 l2 t0
def f_X8_bring (fu : Nat) (s : St) (a0 : Nat) (a1 : Int32) (a2 : Int32) : Option (St × Nat) :=
  if a0 = 0 then none else
  if gR s 8 a0 4 = 0 then none else
  bI (f_X4_knows fu s (gR s 8 a0 4) a1) fun s3 x4 =>
  if x4 = 0 then
    f_X8_bring_b16 fu s3 a0 a1 a2 1
  else
    f_X8_bring_b16 fu s3 a0 a1 a2 0
def f_X5_firstFrom_b41 (fu : Nat) (k7 : St → Nat → Int32 → Int32 → Int32 → Option (St × Int32)) (s : St) (l0 : Nat) (l1 : Int32) (l2 : Int32) (l3 : Int32) : Option (St × Int32) :=
  k7 s l0 l1 l2 l3
def f_X5_firstFrom_b7 (fu : Nat) : Nat → St → Nat → Int32 → Int32 → Int32 → Option (St × Int32)
  | 0, _, _, _, _, _ => none
  | n + 1, s, l0, l1, l2, l3 =>
    if l3 ≤ l2 then
      some (s, l2)
    else
      lt (((l2 + l3).toUInt32 >>> (Int32.toUInt32 1 &&& Int32.toUInt32 31)).toInt32 : Int32) fun x4 =>
      if l0 = 0 then none else
      if gR s 5 l0 3 = 0 then none else
      if inb x4 (gL s 10 (gR s 5 l0 3)) = false then none else
      if l1 ≤ (gI s 10 (gR s 5 l0 3) (ix x4)) then
        f_X5_firstFrom_b41 fu (f_X5_firstFrom_b7 fu n) s l0 l1 l2 x4
      else
        lt (x4 + 1 : Int32) fun x9 =>
        f_X5_firstFrom_b41 fu (f_X5_firstFrom_b7 fu n) s l0 l1 x9 l3
def f_X5_firstFrom (fu : Nat) (s : St) (a0 : Nat) (a1 : Int32) : Option (St × Int32) :=
  if a0 = 0 then none else
  lt (gI s 5 a0 8 : Int32) fun x2 =>
  f_X5_firstFrom_b7 fu fu s a0 a1 0 x2
def f_X5_hasStart_b23 (fu : Nat) (s : St) (t0 : Int32) : Option (St × Int32) :=
  if zb t0 = false then none else
  some (s, t0)
def f_X5_hasStart_b22 (fu : Nat) (s : St) : Option (St × Int32) :=
  f_X5_hasStart_b23 fu s 0
def f_X5_hasStart (fu : Nat) (s : St) (a0 : Nat) (a1 : Int32) (a2 : Int32) : Option (St × Int32) :=
  if a0 = 0 then none else
  if (gI s 5 a0 8) ≤ a1 then
    f_X5_hasStart_b22 fu s
  else
    if gR s 5 a0 3 = 0 then none else
    if inb a1 (gL s 10 (gR s 5 a0 3)) = false then none else
    if (gI s 10 (gR s 5 a0 3) (ix a1)) = a2 then
      f_X5_hasStart_b23 fu s 1
    else
      f_X5_hasStart_b22 fu s
def f_X5_makeRoom (fu : Nat) (s : St) (a0 : Nat) : Option (St × Int32) :=
  if a0 = 0 then none else
  if gR s 5 a0 3 = 0 then none else
  if (nI (gL s 10 (gR s 5 a0 3))) ≤ (gI s 5 a0 8) then
    if (nI (gL s 10 (gR s 5 a0 3))) < (32768 : Int32) then
      lt ((nI (gL s 10 (gR s 5 a0 3))) * 2 : Int32) fun x5 =>
      bI (f_J7_copyOf_59c91 fu s (gR s 5 a0 3) x5) fun s6 x7 =>
      lt (sR s6 5 a0 3 x7 : St) fun s8 =>
      bI (f_J7_copyOf_59c91 fu s8 (gR s8 5 a0 4) x5) fun s9 x10 =>
      lt (sR s9 5 a0 4 x10 : St) fun s11 =>
      bI (f_J7_copyOf_c38d5 fu s11 (gR s11 5 a0 5) x5) fun s12 x13 =>
      lt (sR s12 5 a0 5 x13 : St) fun s14 =>
      bI (f_J7_copyOf_59c91 fu s14 (gR s14 5 a0 6) x5) fun s15 x16 =>
      lt (sR s15 5 a0 6 x16 : St) fun s17 =>
      bI (f_J7_copyOf_59c91 fu s17 (gR s17 5 a0 7) x5) fun s18 x19 =>
      lt (sR s18 5 a0 7 x19 : St) fun s20 =>
      if zb 1 = false then none else
      some (s20, 1)
    else
      if zb 0 = false then none else
      some (s, 0)
  else
    if zb 1 = false then none else
    some (s, 1)
def f_X5_openAt (fu : Nat) (s : St) (a0 : Nat) (a1 : Int32) (a2 : Int32) (a3 : Int32) : Option (St) :=
  if a0 = 0 then none else
  lt ((gI s 5 a0 8) - a1 : Int32) fun x2 =>
  if gR s 5 a0 3 = 0 then none else
  if cpb a1 x2 (gL s 10 (gR s 5 a0 3)) = false then none else
  if cpb (a1 + 1) x2 (gL s 10 (gR s 5 a0 3)) = false then none else
  lt (wI s 10 (gR s 5 a0 3) (va_cpy (gI s 10 (gR s 5 a0 3)) (gI s 10 (gR s 5 a0 3)) (ix a1) (ix (a1 + 1)) (ix x2)) : St) fun s6 =>
  if gR s6 5 a0 4 = 0 then none else
  if cpb a1 x2 (gL s6 10 (gR s6 5 a0 4)) = false then none else
  if cpb (a1 + 1) x2 (gL s6 10 (gR s6 5 a0 4)) = false then none else
  lt (wI s6 10 (gR s6 5 a0 4) (va_cpy (gI s6 10 (gR s6 5 a0 4)) (gI s6 10 (gR s6 5 a0 4)) (ix a1) (ix (a1 + 1)) (ix x2)) : St) fun s10 =>
  if gR s10 5 a0 5 = 0 then none else
  if cpb a1 x2 (gL s10 11 (gR s10 5 a0 5)) = false then none else
  if cpb (a1 + 1) x2 (gL s10 11 (gR s10 5 a0 5)) = false then none else
  lt (wJ s10 11 (gR s10 5 a0 5) (va_cpy (gJ s10 11 (gR s10 5 a0 5)) (gJ s10 11 (gR s10 5 a0 5)) (ix a1) (ix (a1 + 1)) (ix x2)) : St) fun s14 =>
  if gR s14 5 a0 6 = 0 then none else
  if cpb a1 x2 (gL s14 10 (gR s14 5 a0 6)) = false then none else
  if cpb (a1 + 1) x2 (gL s14 10 (gR s14 5 a0 6)) = false then none else
  lt (wI s14 10 (gR s14 5 a0 6) (va_cpy (gI s14 10 (gR s14 5 a0 6)) (gI s14 10 (gR s14 5 a0 6)) (ix a1) (ix (a1 + 1)) (ix x2)) : St) fun s18 =>
  if gR s18 5 a0 7 = 0 then none else
  if cpb a1 x2 (gL s18 10 (gR s18 5 a0 7)) = false then none else
  if cpb (a1 + 1) x2 (gL s18 10 (gR s18 5 a0 7)) = false then none else
  lt (wI s18 10 (gR s18 5 a0 7) (va_cpy (gI s18 10 (gR s18 5 a0 7)) (gI s18 10 (gR s18 5 a0 7)) (ix a1) (ix (a1 + 1)) (ix x2)) : St) fun s22 =>
  if gR s22 5 a0 3 = 0 then none else
  if inb a1 (gL s22 10 (gR s22 5 a0 3)) = false then none else
  lt (sI s22 10 (gR s22 5 a0 3) (ix a1) a2 : St) fun s25 =>
  if gR s25 5 a0 4 = 0 then none else
  if inb a1 (gL s25 10 (gR s25 5 a0 4)) = false then none else
  lt (sI s25 10 (gR s25 5 a0 4) (ix a1) 0 : St) fun s28 =>
  if gR s28 5 a0 5 = 0 then none else
  if inb a1 (gL s28 11 (gR s28 5 a0 5)) = false then none else
  lt (sJ s28 11 (gR s28 5 a0 5) (ix a1) 0 : St) fun s31 =>
  if gR s31 5 a0 6 = 0 then none else
  if inb a1 (gL s31 10 (gR s31 5 a0 6)) = false then none else
  lt (sI s31 10 (gR s31 5 a0 6) (ix a1) a3 : St) fun s34 =>
  if gR s34 5 a0 7 = 0 then none else
  if inb a1 (gL s34 10 (gR s34 5 a0 7)) = false then none else
  lt (sI s34 10 (gR s34 5 a0 7) (ix a1) a3 : St) fun s37 =>
  lt (sI s37 5 a0 8 ((gI s37 5 a0 8) + 1) : St) fun s38 =>
  some s38
def f_X5_add_b63 (fu : Nat) (s : St) (l0 : Nat) (l2 : Int32) (l5 : Int32) : Option (St) :=
  if l0 = 0 then none else
  if gR s 5 l0 4 = 0 then none else
  if inb l5 (gL s 10 (gR s 5 l0 4)) = false then none else
  if inb l5 (gL s 10 (gR s 5 l0 4)) = false then none else
  lt (sI s 10 (gR s 5 l0 4) (ix l5) ((gI s 10 (gR s 5 l0 4) (ix l5)) + 1) : St) fun s23 =>
  if gR s23 5 l0 5 = 0 then none else
  if inb l5 (gL s23 11 (gR s23 5 l0 5)) = false then none else
  if inb l5 (gL s23 11 (gR s23 5 l0 5)) = false then none else
  lt (sJ s23 11 (gR s23 5 l0 5) (ix l5) ((gJ s23 11 (gR s23 5 l0 5) (ix l5)) + (Int32.toInt64 l2)) : St) fun s27 =>
  if gR s27 5 l0 6 = 0 then none else
  if inb l5 (gL s27 10 (gR s27 5 l0 6)) = false then none else
  bI (f_J9_min_7cf53 fu s27 (gI s27 10 (gR s27 5 l0 6) (ix l5)) l2) fun s30 x31 =>
  if inb l5 (gL s30 10 (gR s27 5 l0 6)) = false then none else
  lt (sI s30 10 (gR s27 5 l0 6) (ix l5) x31 : St) fun s33 =>
  if gR s33 5 l0 7 = 0 then none else
  if inb l5 (gL s33 10 (gR s33 5 l0 7)) = false then none else
  bI (f_J9_max_7cf53 fu s33 (gI s33 10 (gR s33 5 l0 7) (ix l5)) l2) fun s36 x37 =>
  if inb l5 (gL s36 10 (gR s33 5 l0 7)) = false then none else
  lt (sI s36 10 (gR s33 5 l0 7) (ix l5) x37 : St) fun s39 =>
  some s39
def f_X5_add (fu : Nat) (s : St) (a0 : Nat) (a1 : Int32) (a2 : Int32) : Option (St) :=
  if a0 = 0 then none else
  bI (f_X5_tierOf fu s a0 a1) fun s2 x3 =>
  if x3 = ((-1) : Int32) then
    some s2
  else
    if gR s2 5 a0 0 = 0 then none else
    if gR s2 2 (gR s2 5 a0 0) 0 = 0 then none else
    if inb x3 (gL s2 10 (gR s2 2 (gR s2 5 a0 0) 0)) = false then none else
    bI (f_X8_multipleUpTo fu s2 a1 (gI s2 10 (gR s2 2 (gR s2 5 a0 0) 0) (ix x3))) fun s8 x9 =>
    bI (f_X5_firstFrom fu s8 a0 x9) fun s10 x11 =>
    bI (f_X5_hasStart fu s10 a0 x11 x9) fun s12 x13 =>
    if x13 = 0 then
      bI (f_X5_makeRoom fu s12 a0) fun s15 x16 =>
      if x16 = 0 then
        some s15
      else
        bV (f_X5_openAt fu s15 a0 x11 x9 a2) fun s18 =>
        f_X5_add_b63 fu s18 a0 a2 x11
    else
      f_X5_add_b63 fu s12 a0 a2 x11
def f_X8_place (fu : Nat) (s : St) (a0 : Nat) (a1 : Int32) (a2 : Int32) (a3 : Int32) : Option (St × Int32) :=
  if a0 = 0 then none else
  bI (f_X8_bring fu s a0 a1 a2) fun s2 x3 =>
  if x3 = 0 then none else
  bV (f_X5_add fu s2 x3 a2 a3) fun s5 =>
  bI (f_X5_tierOf fu s5 x3 a2) fun s6 x7 =>
  some (s6, x7)
def f_X8_put_b23 (fu : Nat) (s : St) (l0 : Nat) : Option (St × Int32) :=
  if l0 = 0 then none else
  bV (f_X8_explain fu s l0 1 0 ((-1)) ((-1))) fun s20 =>
  some (s20, ((-1)))
def f_X8_put (fu : Nat) (s : St) (a0 : Nat) (a1 : Int32) (a2 : Int32) (a3 : Int32) : Option (St × Int32) :=
  bI (f_X8_isId fu s a1) fun s1 x2 =>
  if x2 = 0 then
    f_X8_put_b23 fu s1 a0
  else
    bI (f_X8_isTime fu s1 (Int32.toInt64 a2)) fun s4 x5 =>
    if x5 = 0 then
      f_X8_put_b23 fu s4 a0
    else
      bI (f_X8_isValue fu s4 (Int32.toInt64 a3)) fun s7 x8 =>
      if x8 = 0 then
        f_X8_put_b23 fu s7 a0
      else
        if a0 = 0 then none else
        bI (f_X8_latenessIn fu s7 a0 (gR s7 8 a0 4) a1 a2) fun s11 x12 =>
        if x12 ≤ 0 then
          bV (f_X8_explain fu s11 a0 0 0 ((-1)) ((-1))) fun s14 =>
          bI (f_X8_place fu s14 a0 a1 a2 a3) fun s15 x16 =>
          some (s15, x16)
        else
          bV (f_X8_noteLate fu s11 a0 a1) fun s17 =>
          bV (f_X8_explain fu s17 a0 2 0 x12 ((-1))) fun s18 =>
          some (s18, ((-1)))
def f_X8_placeIfItCanBe_b15 (fu : Nat) (s : St) : Option (St × Int32) :=
  if zb 0 = false then none else
  some (s, 0)
def f_X8_placeIfItCanBe (fu : Nat) (s : St) (a0 : Nat) (a1 : Int32) (a2 : Int64) (a3 : Int64) : Option (St × Int32) :=
  bI (f_X8_isTime fu s a2) fun s1 x2 =>
  if x2 = 0 then
    f_X8_placeIfItCanBe_b15 fu s1
  else
    bI (f_X8_isValue fu s1 a3) fun s4 x5 =>
    if x5 = 0 then
      f_X8_placeIfItCanBe_b15 fu s4
    else
      if a0 = 0 then none else
      bI (f_X8_latenessIn fu s4 a0 (gR s4 8 a0 4) a1 (Int64.toInt32 a2)) fun s8 x9 =>
      if x9 ≤ 0 then
        bI (f_X8_place fu s8 a0 a1 (Int64.toInt32 a2) (Int64.toInt32 a3)) fun s11 x12 =>
        if zb 1 = false then none else
        some (s11, 1)
      else
        bV (f_X8_noteLate fu s8 a0 a1) fun s14 =>
        if zb 0 = false then none else
        some (s14, 0)
def f_X8_sheet_b17 (fu : Nat) (s : St) (l0 : Nat) : Option (St × Int32) :=
  if l0 = 0 then none else
  bV (f_X8_explain fu s l0 1 0 ((-1)) ((-1))) fun s7 =>
  some (s7, ((-1)))
def f_X8_sheet_b71 (fu : Nat) (k33 : St → Nat → Int32 → Int32 → Int32 → Int32 → Int32 → Int32 → Int32 → Int32 → Option (St × Int32)) (s : St) (l0 : Nat) (l1 : Int32) (l2 : Int32) (l3 : Int32) (l4 : Int32) (l5 : Int32) (l6 : Int32) (l7 : Int32) (l8 : Int32) : Option (St × Int32) :=
  lt (l8 + 1 : Int32) fun x16 =>
  k33 s l0 l1 l2 l3 l4 l5 l6 l7 x16
def f_X8_sheet_b33 (fu : Nat) : Nat → St → Nat → Int32 → Int32 → Int32 → Int32 → Int32 → Int32 → Int32 → Int32 → Option (St × Int32)
  | 0, _, _, _, _, _, _, _, _, _, _ => none
  | n + 1, s, l0, l1, l2, l3, l4, l5, l6, l7, l8 =>
    if l2 ≤ l8 then
      if l0 = 0 then none else
      bV (f_X8_explain fu s l0 0 0 ((-1)) ((-1))) fun s10 =>
      some (s10, l7)
    else
      if l0 = 0 then none else
      bI (f_X8_placeIfItCanBe fu s l0 l1 ((Int32.toInt64 l3) + ((Int32.toInt64 l8) * (Int32.toInt64 l4))) ((Int32.toInt64 l5) + ((Int32.toInt64 l8) * (Int32.toInt64 l6)))) fun s12 x13 =>
      if x13 = 0 then
        f_X8_sheet_b71 fu (f_X8_sheet_b33 fu n) s12 l0 l1 l2 l3 l4 l5 l6 l7 l8
      else
        lt (l7 + 1 : Int32) fun x15 =>
        f_X8_sheet_b71 fu (f_X8_sheet_b33 fu n) s12 l0 l1 l2 l3 l4 l5 l6 x15 l8
def f_X8_sheet (fu : Nat) (s : St) (a0 : Nat) (a1 : Int32) (a2 : Int32) (a3 : Int32) (a4 : Int32) (a5 : Int32) (a6 : Int32) : Option (St × Int32) :=
  bI (f_X8_isId fu s a1) fun s1 x2 =>
  if x2 = 0 then
    f_X8_sheet_b17 fu s1 a0
  else
    if a2 < 0 then
      f_X8_sheet_b17 fu s1 a0
    else
      if a2 ≤ (60 : Int32) then
        f_X8_sheet_b33 fu fu s1 a0 a1 a2 a3 a4 a5 a6 0 0
      else
        f_X8_sheet_b17 fu s1 a0
def f_X8_tick_b15 (fu : Nat) (s : St) (l0 : Nat) : Option (St × Int32) :=
  if l0 = 0 then none else
  bV (f_X8_explain fu s l0 1 0 ((-1)) ((-1))) fun s13 =>
  some (s13, ((-1)))
def f_X8_tick (fu : Nat) (s : St) (a0 : Nat) (a1 : Int32) (a2 : Int32) : Option (St × Int32) :=
  bI (f_X8_isId fu s a1) fun s1 x2 =>
  if x2 = 0 then
    f_X8_tick_b15 fu s1 a0
  else
    bI (f_X8_isTime fu s1 (Int32.toInt64 a2)) fun s4 x5 =>
    if x5 = 0 then
      f_X8_tick_b15 fu s4 a0
    else
      if a0 = 0 then none else
      bV (f_X8_explain fu s4 a0 0 0 ((-1)) ((-1))) fun s8 =>
      bI (f_X8_bring fu s8 a0 a1 a2) fun s9 x10 =>
      if x10 = 0 then none else
      some (s9, (gI s9 5 x10 8))
def f_X8_known (fu : Nat) (s : St) (a0 : Nat) (a1 : Int32) : Option (St × (Nat ⊕ Nat)) :=
  if a0 = 0 then none else
  if gR s 8 a0 4 = 0 then none else
  bI (f_X4_knows fu s (gR s 8 a0 4) a1) fun s3 x4 =>
  if x4 = 0 then
    if rmb (nX s3) = false then none else
    some (nX s3, .inl 1)
  else
    bI (f_X8_rowsOf fu s3 a0 a1) fun s6 x7 =>
    some (s6, .inr x7)
def f_X8_needWhat_b9 (fu : Nat) (s : St) : Option (St × (Nat ⊕ Unit)) :=
  if rmb (nX s) = false then none else
  some (nX s, .inl 1)
def f_X8_needWhat (fu : Nat) (s : St) (a0 : Int32) (a1 : Int32) : Option (St × (Nat ⊕ Unit)) :=
  if a0 < 0 then
    f_X8_needWhat_b9 fu s
  else
    if a0 ≤ a1 then
      some (s, .inr ())
    else
      f_X8_needWhat_b9 fu s
def f_X8_quotient_b16 (fu : Nat) (s : St) (t0 : Int32) : Option (St × Int32) :=
  some (s, t0)
def f_X8_quotient (fu : Nat) (s : St) (a0 : Int64) (a1 : Int32) : Option (St × Int32) :=
  if (1 : Int32) ≤ a1 then
    bI (f_J9_floorDiv_f86c9 fu s a0 (Int32.toInt64 a1)) fun s2 x3 =>
    f_X8_quotient_b16 fu s2 (Int64.toInt32 x3)
  else
    f_X8_quotient_b16 fu s 0
def f_X5_mean (fu : Nat) (s : St) (a0 : Nat) (a1 : Int32) : Option (St × Int32) :=
  if a0 = 0 then none else
  if gR s 5 a0 5 = 0 then none else
  if inb a1 (gL s 11 (gR s 5 a0 5)) = false then none else
  if gR s 5 a0 4 = 0 then none else
  if inb a1 (gL s 10 (gR s 5 a0 4)) = false then none else
  bI (f_X8_quotient fu s (gJ s 11 (gR s 5 a0 5) (ix a1)) (gI s 10 (gR s 5 a0 4) (ix a1))) fun s6 x7 =>
  some (s6, x7)
def f_X5_fact (fu : Nat) (s : St) (a0 : Nat) (a1 : Int32) (a2 : Int32) : Option (St × Int64) :=
  if a2 = 0 then
    if a0 = 0 then none else
    if gR s 5 a0 3 = 0 then none else
    if inb a1 (gL s 10 (gR s 5 a0 3)) = false then none else
    some (s, (Int32.toInt64 (gI s 10 (gR s 5 a0 3) (ix a1))))
  else
  if a2 = 1 then
    if a0 = 0 then none else
    if gR s 5 a0 4 = 0 then none else
    if inb a1 (gL s 10 (gR s 5 a0 4)) = false then none else
    some (s, (Int32.toInt64 (gI s 10 (gR s 5 a0 4) (ix a1))))
  else
  if a2 = 2 then
    if a0 = 0 then none else
    if gR s 5 a0 5 = 0 then none else
    if inb a1 (gL s 11 (gR s 5 a0 5)) = false then none else
    some (s, (gJ s 11 (gR s 5 a0 5) (ix a1)))
  else
  if a2 = 3 then
    if a0 = 0 then none else
    if gR s 5 a0 6 = 0 then none else
    if inb a1 (gL s 10 (gR s 5 a0 6)) = false then none else
    some (s, (Int32.toInt64 (gI s 10 (gR s 5 a0 6) (ix a1))))
  else
  if a2 = 4 then
    if a0 = 0 then none else
    if gR s 5 a0 7 = 0 then none else
    if inb a1 (gL s 10 (gR s 5 a0 7)) = false then none else
    some (s, (Int32.toInt64 (gI s 10 (gR s 5 a0 7) (ix a1))))
  else
  if a0 = 0 then none else
  bI (f_X5_mean fu s a0 a1) fun s22 x23 =>
  some (s22, (Int32.toInt64 x23))
def f_X0_compares_b94 (fu : Nat) (s : St) (t0 : Int32) : Option (St × Int32) :=
  if zb t0 = false then none else
  some (s, t0)
def f_X0_compares_b113 (fu : Nat) (s : St) (t0 : Int32) : Option (St × Int32) :=
  if zb t0 = false then none else
  some (s, t0)
def f_X0_compares_b132 (fu : Nat) (s : St) (t0 : Int32) : Option (St × Int32) :=
  if zb t0 = false then none else
  some (s, t0)
def f_X0_compares_b38 (fu : Nat) (s : St) (l0 : Nat) (l1 : Int32) (t0 : Int64) : Option (St × Int32) :=
  if l0 = 0 then none else
  if gR s 0 l0 0 = 0 then none else
  if inb l1 (gL s 10 (gR s 0 l0 0)) = false then none else
  lt ((gI s 10 (gR s 0 l0 0) (ix l1)) - (gI s 10 (gR s 0 l0 0) (ix l1)) / 3 * 3 : Int32) fun x19 =>
  if x19 = 0 then
    if gR s 0 l0 1 = 0 then none else
    if inb l1 (gL s 10 (gR s 0 l0 1)) = false then none else
    if 0 ≤ (lg_cmp t0 (Int32.toInt64 (gI s 10 (gR s 0 l0 1) (ix l1)))) then
      f_X0_compares_b94 fu s 0
    else
      f_X0_compares_b94 fu s 1
  else
  if x19 = 1 then
    if gR s 0 l0 1 = 0 then none else
    if inb l1 (gL s 10 (gR s 0 l0 1)) = false then none else
    if (lg_cmp t0 (Int32.toInt64 (gI s 10 (gR s 0 l0 1) (ix l1)))) = 0 then
      f_X0_compares_b113 fu s 1
    else
      f_X0_compares_b113 fu s 0
  else
  if gR s 0 l0 1 = 0 then none else
  if inb l1 (gL s 10 (gR s 0 l0 1)) = false then none else
  if (lg_cmp t0 (Int32.toInt64 (gI s 10 (gR s 0 l0 1) (ix l1)))) ≤ 0 then
    f_X0_compares_b132 fu s 0
  else
    f_X0_compares_b132 fu s 1
def f_X0_compares (fu : Nat) (s : St) (a0 : Nat) (a1 : Int32) (a2 : Nat) (a3 : Int32) : Option (St × Int32) :=
  if a0 = 0 then none else
  if gR s 0 a0 0 = 0 then none else
  if inb a1 (gL s 10 (gR s 0 a0 0)) = false then none else
  lt ((gI s 10 (gR s 0 a0 0) (ix a1)) / 3 : Int32) fun x5 =>
  if x5 = (6 : Int32) then
    if a2 = 0 then none else
    if gR s 5 a2 3 = 0 then none else
    if inb a3 (gL s 10 (gR s 5 a2 3)) = false then none else
    bI (f_X5_tierOf fu s a2 (gI s 10 (gR s 5 a2 3) (ix a3))) fun s13 x14 =>
    f_X0_compares_b38 fu s13 a0 a1 (Int32.toInt64 x14)
  else
    if a2 = 0 then none else
    bI (f_X5_fact fu s a2 a3 x5) fun s8 x9 =>
    f_X0_compares_b38 fu s8 a0 a1 x9
def f_X0_isSoOf_b113 (fu : Nat) (k5 : St → Nat → Nat → Int32 → Int32 → Int32 → Option (St × Int32)) (s : St) (l0 : Nat) (l1 : Nat) (l2 : Int32) (l3 : Int32) (l4 : Int32) : Option (St × Int32) :=
  lt (l4 + 1 : Int32) fun x19 =>
  k5 s l0 l1 l2 l3 x19
def f_X0_isSoOf_b79 (fu : Nat) (k5 : St → Nat → Nat → Int32 → Int32 → Int32 → Option (St × Int32)) (s : St) (l0 : Nat) (l1 : Nat) (l2 : Int32) (l4 : Int32) (t0 : Int32) : Option (St × Int32) :=
  f_X0_isSoOf_b113 fu k5 s l0 l1 l2 t0 l4
def f_X0_isSoOf_b111 (fu : Nat) (k5 : St → Nat → Nat → Int32 → Int32 → Int32 → Option (St × Int32)) (s : St) (l0 : Nat) (l1 : Nat) (l2 : Int32) (l4 : Int32) (t0 : Int32) (t1 : Int32) : Option (St × Int32) :=
  lt (t1 ||| t0 : Int32) fun x18 =>
  f_X0_isSoOf_b113 fu k5 s l0 l1 l2 x18 l4
def f_X0_isSoOf_b131 (fu : Nat) (s : St) (t0 : Int32) : Option (St × Int32) :=
  if zb t0 = false then none else
  some (s, t0)
def f_X0_isSoOf_b5 (fu : Nat) : Nat → St → Nat → Nat → Int32 → Int32 → Int32 → Option (St × Int32)
  | 0, _, _, _, _, _, _ => none
  | n + 1, s, l0, l1, l2, l3, l4 =>
    if l0 = 0 then none else
    if (gI s 0 l0 2) ≤ l4 then
      if (l3 &&& 1) = (1 : Int32) then
        f_X0_isSoOf_b131 fu s 1
      else
        f_X0_isSoOf_b131 fu s 0
    else
      lt (l3 &&& 1 : Int32) fun x4 =>
      lt (l3 >>> (1 &&& 31) : Int32) fun x5 =>
      if gR s 0 l0 0 = 0 then none else
      if inb l4 (gL s 10 (gR s 0 l0 0)) = false then none else
      lt (gI s 10 (gR s 0 l0 0) (ix l4) : Int32) fun x8 =>
      if x8 = 100 then
        lt (l3 ^^^ 1 : Int32) fun x10 =>
        f_X0_isSoOf_b113 fu (f_X0_isSoOf_b5 fu n) s l0 l1 l2 x10 l4
      else
      if x8 = 101 then
        if x4 = (1 : Int32) then
          f_X0_isSoOf_b79 fu (f_X0_isSoOf_b5 fu n) s l0 l1 l2 l4 x5
        else
          f_X0_isSoOf_b79 fu (f_X0_isSoOf_b5 fu n) s l0 l1 l2 l4 (x5 &&& ((-2)))
      else
      if x8 = 102 then
        lt (x5 ||| x4 : Int32) fun x14 =>
        f_X0_isSoOf_b113 fu (f_X0_isSoOf_b5 fu n) s l0 l1 l2 x14 l4
      else
      bI (f_X0_compares fu s l0 l4 l1 l2) fun s15 x16 =>
      if x16 = 0 then
        f_X0_isSoOf_b111 fu (f_X0_isSoOf_b5 fu n) s15 l0 l1 l2 l4 0 (l3 <<< (1 &&& 31))
      else
        f_X0_isSoOf_b111 fu (f_X0_isSoOf_b5 fu n) s15 l0 l1 l2 l4 1 (l3 <<< (1 &&& 31))
def f_X0_isSoOf (fu : Nat) (s : St) (a0 : Nat) (a1 : Nat) (a2 : Int32) : Option (St × Int32) :=
  f_X0_isSoOf_b5 fu fu s a0 a1 a2 0 0
def f_X0_isTold_b12 (fu : Nat) (s : St) (t0 : Int32) : Option (St × Int32) :=
  if zb t0 = false then none else
  some (s, t0)
def f_X0_isTold (fu : Nat) (s : St) (a0 : Nat) : Option (St × Int32) :=
  if a0 = 0 then none else
  if (gI s 0 a0 2) ≤ 0 then
    f_X0_isTold_b12 fu s 0
  else
    f_X0_isTold_b12 fu s 1
def f_X5_spanAt_b29 (fu : Nat) (s : St) (t0 : Int32) : Option (St × Int32) :=
  some (s, t0)
def f_X5_spanAt (fu : Nat) (s : St) (a0 : Nat) (a1 : Int32) : Option (St × Int32) :=
  if a0 = 0 then none else
  if gR s 5 a0 3 = 0 then none else
  if inb a1 (gL s 10 (gR s 5 a0 3)) = false then none else
  bI (f_X5_tierOf fu s a0 (gI s 10 (gR s 5 a0 3) (ix a1))) fun s4 x5 =>
  if x5 = ((-1) : Int32) then
    f_X5_spanAt_b29 fu s4 1
  else
    if gR s4 5 a0 0 = 0 then none else
    if gR s4 2 (gR s4 5 a0 0) 0 = 0 then none else
    if inb x5 (gL s4 10 (gR s4 2 (gR s4 5 a0 0) 0)) = false then none else
    f_X5_spanAt_b29 fu s4 (gI s4 10 (gR s4 2 (gR s4 5 a0 0) 0) (ix x5))
def f_X5_isBesideTheOneAhead_b57 (fu : Nat) (s : St) (t0 : Int32) : Option (St × Int32) :=
  if zb t0 = false then none else
  some (s, t0)
def f_X5_isBesideTheOneAhead_b56 (fu : Nat) (s : St) : Option (St × Int32) :=
  f_X5_isBesideTheOneAhead_b57 fu s 0
def f_X5_isBesideTheOneAhead (fu : Nat) (s : St) (a0 : Nat) (a1 : Int32) : Option (St × Int32) :=
  if a1 ≤ 0 then
    f_X5_isBesideTheOneAhead_b56 fu s
  else
    if a0 = 0 then none else
    if gR s 5 a0 3 = 0 then none else
    if inb (a1 - 1) (gL s 10 (gR s 5 a0 3)) = false then none else
    bI (f_X5_tierOf fu s a0 (gI s 10 (gR s 5 a0 3) (ix (a1 - 1)))) fun s5 x6 =>
    if gR s5 5 a0 3 = 0 then none else
    if inb a1 (gL s5 10 (gR s5 5 a0 3)) = false then none else
    bI (f_X5_tierOf fu s5 a0 (gI s5 10 (gR s5 5 a0 3) (ix a1))) fun s9 x10 =>
    if x6 = x10 then
      if gR s9 5 a0 3 = 0 then none else
      if inb a1 (gL s9 10 (gR s9 5 a0 3)) = false then none else
      if inb (a1 - 1) (gL s9 10 (gR s9 5 a0 3)) = false then none else
      bI (f_X5_spanAt fu s9 a0 a1) fun s15 x16 =>
      if ((gI s9 10 (gR s9 5 a0 3) (ix a1)) - (gI s9 10 (gR s9 5 a0 3) (ix (a1 - 1)))) = x16 then
        f_X5_isBesideTheOneAhead_b57 fu s15 1
      else
        f_X5_isBesideTheOneAhead_b56 fu s15
    else
      f_X5_isBesideTheOneAhead_b56 fu s9
def f_X5_surveyAlarms_b135 (fu : Nat) (k41 : St → Nat → Nat → Int32 → Int32 → Int32 → Option (St)) (s : St) (l0 : Nat) (l1 : Nat) (l2 : Int32) (l3 : Int32) (l4 : Int32) : Option (St) :=
  lt (l4 + 1 : Int32) fun x50 =>
  k41 s l0 l1 l2 l3 x50
def f_X5_surveyAlarms_b113 (fu : Nat) (k41 : St → Nat → Nat → Int32 → Int32 → Int32 → Option (St)) (s : St) (l0 : Nat) (l1 : Nat) (l2 : Int32) (l3 : Int32) (l4 : Int32) : Option (St) :=
  if l1 = 0 then none else
  if inb 0 (gL s 10 l1) = false then none else
  if inb 0 (gL s 10 l1) = false then none else
  lt (sI s 10 l1 (ix 0) ((gI s 10 l1 (ix 0)) + 1) : St) fun s43 =>
  if inb 2 (gL s43 10 l1) = false then none else
  if l2 ≤ (gI s43 10 l1 (ix 2)) then
    f_X5_surveyAlarms_b135 fu k41 s43 l0 l1 l2 l3 l4
  else
    if inb 2 (gL s43 10 l1) = false then none else
    lt (sI s43 10 l1 (ix 2) l2 : St) fun s47 =>
    if inb 3 (gL s47 10 l1) = false then none else
    lt (sI s47 10 l1 (ix 3) l3 : St) fun s49 =>
    f_X5_surveyAlarms_b135 fu k41 s49 l0 l1 l2 l3 l4
def f_X5_surveyAlarms_b94 (fu : Nat) (k41 : St → Nat → Nat → Int32 → Int32 → Int32 → Option (St)) (s : St) (l0 : Nat) (l1 : Nat) (l2 : Int32) (l3 : Int32) (l4 : Int32) : Option (St) :=
  lt (l2 + 1 : Int32) fun x31 =>
  if l1 = 0 then none else
  if inb 0 (gL s 10 l1) = false then none else
  if (gI s 10 l1 (ix 0)) = 0 then
    if l0 = 0 then none else
    if gR s 5 l0 3 = 0 then none else
    if inb l4 (gL s 10 (gR s 5 l0 3)) = false then none else
    if inb 1 (gL s 10 l1) = false then none else
    lt (sI s 10 l1 (ix 1) (gI s 10 (gR s 5 l0 3) (ix l4)) : St) fun s39 =>
    f_X5_surveyAlarms_b113 fu k41 s39 l0 l1 x31 l3 l4
  else
    f_X5_surveyAlarms_b113 fu k41 s l0 l1 x31 l3 l4
def f_X5_surveyAlarms_b84 (fu : Nat) (k41 : St → Nat → Nat → Int32 → Int32 → Int32 → Option (St)) (s : St) (l0 : Nat) (l1 : Nat) (l4 : Int32) : Option (St) :=
  if l0 = 0 then none else
  if gR s 5 l0 3 = 0 then none else
  if inb l4 (gL s 10 (gR s 5 l0 3)) = false then none else
  lt (gI s 10 (gR s 5 l0 3) (ix l4) : Int32) fun x30 =>
  f_X5_surveyAlarms_b94 fu k41 s l0 l1 0 x30 l4
def f_X5_surveyAlarms_b41 (fu : Nat) : Nat → St → Nat → Nat → Int32 → Int32 → Int32 → Option (St)
  | 0, _, _, _, _, _, _ => none
  | n + 1, s, l0, l1, l2, l3, l4 =>
    if l0 = 0 then none else
    if (gI s 5 l0 8) ≤ l4 then
      some s
    else
      if gR s 5 l0 0 = 0 then none else
      if gR s 2 (gR s 5 l0 0) 2 = 0 then none else
      bI (f_X0_isSoOf fu s (gR s 2 (gR s 5 l0 0) 2) l0 l4) fun s20 x21 =>
      if x21 = 0 then
        f_X5_surveyAlarms_b135 fu (f_X5_surveyAlarms_b41 fu n) s20 l0 l1 0 l3 l4
      else
        if l2 = 0 then
          f_X5_surveyAlarms_b84 fu (f_X5_surveyAlarms_b41 fu n) s20 l0 l1 l4
        else
          bI (f_X5_isBesideTheOneAhead fu s20 l0 l4) fun s24 x25 =>
          if x25 = 0 then
            f_X5_surveyAlarms_b84 fu (f_X5_surveyAlarms_b41 fu n) s24 l0 l1 l4
          else
            f_X5_surveyAlarms_b94 fu (f_X5_surveyAlarms_b41 fu n) s24 l0 l1 l2 l3 l4
def f_X5_surveyAlarms (fu : Nat) (s : St) (a0 : Nat) (a1 : Nat) : Option (St) :=
  if a1 = 0 then none else
  if inb 0 (gL s 10 a1) = false then none else
  lt (sI s 10 a1 (ix 0) 0 : St) fun s3 =>
  if inb 1 (gL s3 10 a1) = false then none else
  lt (sI s3 10 a1 (ix 1) ((-20000)) : St) fun s5 =>
  if inb 2 (gL s5 10 a1) = false then none else
  lt (sI s5 10 a1 (ix 2) 0 : St) fun s7 =>
  if inb 3 (gL s7 10 a1) = false then none else
  lt (sI s7 10 a1 (ix 3) ((-20000)) : St) fun s9 =>
  if a0 = 0 then none else
  if gR s9 5 a0 0 = 0 then none else
  if gR s9 2 (gR s9 5 a0 0) 2 = 0 then none else
  bI (f_X0_isTold fu s9 (gR s9 2 (gR s9 5 a0 0) 2)) fun s13 x14 =>
  if x14 = 0 then
    some s13
  else
    f_X5_surveyAlarms_b41 fu fu s13 a0 a1 0 0 0
def f_X8_alarms (fu : Nat) (s : St) (a0 : Nat) (a1 : Int32) (a2 : Int32) : Option (St × (Nat ⊕ Int32)) :=
  if a0 = 0 then none else
  bX (f_X8_known fu s a0 a1) (fun s2 e3 => some (s2, .inl e3)) fun s2 x4 =>
  bX (f_X8_needWhat fu s2 a2 3) (fun s5 e6 => some (s5, .inl e6)) fun s5 x7 =>
  if x4 = 0 then none else
  bV (f_X5_surveyAlarms fu s5 x4 (gR s5 8 a0 9)) fun s9 =>
  if gR s9 8 a0 9 = 0 then none else
  if inb a2 (gL s9 10 (gR s9 8 a0 9)) = false then none else
  some (s9, .inr (gI s9 10 (gR s9 8 a0 9) (ix a2)))
def f_X5_pointsFrom_b25 (fu : Nat) (s : St) (t0 : Int32) : Option (St × Int32) :=
  some (s, t0)
def f_X5_pointsFrom (fu : Nat) (s : St) (a0 : Nat) (a1 : Int32) : Option (St × Int32) :=
  if a0 = 0 then none else
  bI (f_X5_firstFrom fu s a0 a1) fun s2 x3 =>
  bI (f_X5_hasStart fu s2 a0 x3 a1) fun s4 x5 =>
  if x5 = 0 then
    f_X5_pointsFrom_b25 fu s4 0
  else
    if gR s4 5 a0 4 = 0 then none else
    if inb x3 (gL s4 10 (gR s4 5 a0 4)) = false then none else
    f_X5_pointsFrom_b25 fu s4 (gI s4 10 (gR s4 5 a0 4) (ix x3))
def f_X8_at_b64 (fu : Nat) (s : St) (t0 : Int32) : Option (St × (Nat ⊕ Int32)) :=
  some (s, .inr t0)
def f_X8_at_b98 (fu : Nat) (s : St) (t0 : Int32) : Option (St × (Nat ⊕ Int32)) :=
  some (s, .inr t0)
def f_X8_at (fu : Nat) (s : St) (a0 : Nat) (a1 : Int32) (a2 : Int32) (a3 : Int32) : Option (St × (Nat ⊕ Int32)) :=
  if a0 = 0 then none else
  bX (f_X8_known fu s a0 a1) (fun s2 e3 => some (s2, .inl e3)) fun s2 x4 =>
  bX (f_X8_needWhat fu s2 a3 2) (fun s5 e6 => some (s5, .inl e6)) fun s5 x7 =>
  bI (f_X8_isTime fu s5 (Int32.toInt64 a2)) fun s8 x9 =>
  if x9 = 0 then
    if rmb (nX s8) = false then none else
    some (nX s8, .inl 1)
  else
    if x4 = 0 then none else
    bI (f_X5_tierOf fu s8 x4 a2) fun s12 x13 =>
    if a3 = 0 then
      some (s12, .inr x13)
    else
      if x13 = ((-1) : Int32) then
        if a3 = (1 : Int32) then
          f_X8_at_b64 fu s12 ((-20000))
        else
          f_X8_at_b64 fu s12 0
      else
        if gR s12 8 a0 12 = 0 then none else
        if gR s12 2 (gR s12 8 a0 12) 0 = 0 then none else
        if inb x13 (gL s12 10 (gR s12 2 (gR s12 8 a0 12) 0)) = false then none else
        bI (f_X8_multipleUpTo fu s12 a2 (gI s12 10 (gR s12 2 (gR s12 8 a0 12) 0) (ix x13))) fun s19 x20 =>
        if a3 = (1 : Int32) then
          f_X8_at_b98 fu s19 x20
        else
          bI (f_X5_pointsFrom fu s19 x4 x20) fun s22 x23 =>
          f_X8_at_b98 fu s22 x23
def f_X2_isBarWidth_b35 (fu : Nat) (s : St) (t0 : Int32) : Option (St × Int32) :=
  if zb t0 = false then none else
  some (s, t0)
def f_X2_isBarWidth_b34 (fu : Nat) (s : St) : Option (St × Int32) :=
  f_X2_isBarWidth_b35 fu s 0
def f_X2_isBarWidth (fu : Nat) (s : St) (a0 : Nat) (a1 : Int32) : Option (St × Int32) :=
  if a1 < (1 : Int32) then
    f_X2_isBarWidth_b34 fu s
  else
    if (1000000 : Int32) < a1 then
      f_X2_isBarWidth_b34 fu s
    else
      if a0 = 0 then none else
      if gR s 2 a0 0 = 0 then none else
      if inb ((gI s 2 a0 3) - 1) (gL s 10 (gR s 2 a0 0)) = false then none else
      bI (f_X8_multipleUpTo fu s a1 (gI s 10 (gR s 2 a0 0) (ix ((gI s 2 a0 3) - 1)))) fun s6 x7 =>
      if x7 = a1 then
        f_X2_isBarWidth_b35 fu s6 1
      else
        f_X2_isBarWidth_b34 fu s6
def f_X6_fact (fu : Nat) (s : St) (a0 : Nat) (a1 : Int32) : Option (St × Int64) :=
  if a1 = 0 then
    if a0 = 0 then none else
    some (s, (Int32.toInt64 (gI s 6 a0 1)))
  else
  if a1 = 1 then
    if a0 = 0 then none else
    some (s, (gJ s 6 a0 2))
  else
  if a1 = 2 then
    if a0 = 0 then none else
    some (s, (Int32.toInt64 (gI s 6 a0 3)))
  else
  if a0 = 0 then none else
  some (s, (Int32.toInt64 (gI s 6 a0 4)))
def f_X8_bar_b32 (fu : Nat) (s : St) : Option (St × (Nat ⊕ Int64)) :=
  if rmb (nX s) = false then none else
  some (nX s, .inl 2)
def f_X8_bar_b108 (fu : Nat) (s : St) (l0 : Nat) (l4 : Int32) : Option (St × (Nat ⊕ Int64)) :=
  if l0 = 0 then none else
  if gR s 8 l0 7 = 0 then none else
  bI (f_X6_fact fu s (gR s 8 l0 7) l4) fun s34 x35 =>
  some (s34, .inr x35)
def f_X8_bar_b66 (fu : Nat) : Nat → St → Nat → Int32 → Int32 → Nat → Int32 → Int32 → Option (St × (Nat ⊕ Int64))
  | 0, _, _, _, _, _, _, _ => none
  | n + 1, s, l0, l2, l4, l5, l6, l7 =>
    if l5 = 0 then none else
    if (gI s 5 l5 8) ≤ l7 then
      f_X8_bar_b108 fu s l0 l4
    else
      if gR s 5 l5 3 = 0 then none else
      if inb l7 (gL s 10 (gR s 5 l5 3)) = false then none else
      if (l6 + l2) ≤ (gI s 10 (gR s 5 l5 3) (ix l7)) then
        f_X8_bar_b108 fu s l0 l4
      else
        if l0 = 0 then none else
        if gR s 8 l0 7 = 0 then none else
        bV (f_X6_add fu s (gR s 8 l0 7) l5 l7) fun s30 =>
        lt (l7 + 1 : Int32) fun x31 =>
        f_X8_bar_b66 fu n s30 l0 l2 l4 l5 l6 x31
def f_X8_bar (fu : Nat) (s : St) (a0 : Nat) (a1 : Int32) (a2 : Int32) (a3 : Int32) (a4 : Int32) : Option (St × (Nat ⊕ Int64)) :=
  if a0 = 0 then none else
  bX (f_X8_known fu s a0 a1) (fun s2 e3 => some (s2, .inl e3)) fun s2 x4 =>
  bX (f_X8_needWhat fu s2 a4 3) (fun s5 e6 => some (s5, .inl e6)) fun s5 x7 =>
  if gR s5 8 a0 12 = 0 then none else
  bI (f_X2_isBarWidth fu s5 (gR s5 8 a0 12) a2) fun s9 x10 =>
  if x10 = 0 then
    f_X8_bar_b32 fu s9
  else
    bI (f_X8_isTime fu s9 (Int32.toInt64 a3)) fun s12 x13 =>
    if x13 = 0 then
      f_X8_bar_b32 fu s12
    else
      bI (f_X8_multipleUpTo fu s12 a3 a2) fun s15 x16 =>
      if gR s15 8 a0 7 = 0 then none else
      bV (f_X6_clear fu s15 (gR s15 8 a0 7)) fun s18 =>
      if x4 = 0 then none else
      bI (f_X5_firstFrom fu s18 x4 x16) fun s20 x21 =>
      f_X8_bar_b66 fu fu s20 a0 a2 a4 x4 x16 x21
def f_X4_copyFrom_b10 (fu : Nat) : Nat → St → Nat → Nat → Int32 → Option (St)
  | 0, _, _, _, _ => none
  | n + 1, s, l0, l1, l2 =>
    if (10 : Int32) ≤ l2 then
      some s
    else
      if l0 = 0 then none else
      if l1 = 0 then none else
      if gR s 4 l1 0 = 0 then none else
      if inb l2 (gL s 10 (gR s 4 l1 0)) = false then none else
      if gR s 4 l0 0 = 0 then none else
      if inb l2 (gL s 10 (gR s 4 l0 0)) = false then none else
      lt (sI s 10 (gR s 4 l0 0) (ix l2) (gI s 10 (gR s 4 l1 0) (ix l2)) : St) fun s11 =>
      if gR s11 4 l1 1 = 0 then none else
      if inb l2 (gL s11 10 (gR s11 4 l1 1)) = false then none else
      if gR s11 4 l0 1 = 0 then none else
      if inb l2 (gL s11 10 (gR s11 4 l0 1)) = false then none else
      lt (sI s11 10 (gR s11 4 l0 1) (ix l2) (gI s11 10 (gR s11 4 l1 1) (ix l2)) : St) fun s16 =>
      lt (l2 + 1 : Int32) fun x17 =>
      f_X4_copyFrom_b10 fu n s16 l0 l1 x17
def f_X4_copyFrom (fu : Nat) (s : St) (a0 : Nat) (a1 : Nat) : Option (St) :=
  if a1 = 0 then none else
  if a0 = 0 then none else
  lt (sI s 4 a0 2 (gI s 4 a1 2) : St) fun s3 =>
  f_X4_copyFrom_b10 fu fu s3 a0 a1 0
def f_X8_allLinesWouldGo_b146 (fu : Nat) (k13 : St → Nat → Int32 → Option (St × Int32)) (s : St) (l0 : Nat) (l1 : Int32) : Option (St × Int32) :=
  lt (l1 + 1 : Int32) fun x39 =>
  k13 s l0 x39
def f_X8_allLinesWouldGo_b129 (fu : Nat) (k13 : St → Nat → Int32 → Option (St × Int32)) (s : St) (l0 : Nat) (l1 : Int32) (l2 : Int32) (l3 : Int32) : Option (St × Int32) :=
  if l0 = 0 then none else
  if gR s 8 l0 12 = 0 then none else
  if gR s 8 l0 5 = 0 then none else
  bI (f_X4_use fu s (gR s 8 l0 5) l2 l3 (gI s 2 (gR s 8 l0 12) 4)) fun s37 x38 =>
  f_X8_allLinesWouldGo_b146 fu k13 s37 l0 l1
def f_X8_allLinesWouldGo_b13 (fu : Nat) : Nat → St → Nat → Int32 → Option (St × Int32)
  | 0, _, _, _ => none
  | n + 1, s, l0, l1 =>
    if l0 = 0 then none else
    if gR s 8 l0 3 = 0 then none else
    if (gI s 1 (gR s 8 l0 3) 5) ≤ l1 then
      if zb 1 = false then none else
      some (s, 1)
    else
      if gR s 1 (gR s 8 l0 3) 2 = 0 then none else
      if inb l1 (gL s 10 (gR s 1 (gR s 8 l0 3) 2)) = false then none else
      lt (gI s 10 (gR s 1 (gR s 8 l0 3) 2) (ix l1) : Int32) fun x10 =>
      if gR s 1 (gR s 8 l0 3) 3 = 0 then none else
      if inb l1 (gL s 10 (gR s 1 (gR s 8 l0 3) 3)) = false then none else
      lt (gI s 10 (gR s 1 (gR s 8 l0 3) 3) (ix l1) : Int32) fun x13 =>
      if gR s 1 (gR s 8 l0 3) 1 = 0 then none else
      if inb l1 (gL s 10 (gR s 1 (gR s 8 l0 3) 1)) = false then none else
      if (gI s 10 (gR s 1 (gR s 8 l0 3) 1) (ix l1)) = (2 : Int32) then
        if gR s 8 l0 5 = 0 then none else
        bI (f_X4_knows fu s (gR s 8 l0 5) x10) fun s27 x28 =>
        if x28 = 0 then
          bV (f_X8_explain fu s27 l0 4 3 ((-1)) l1) fun s32 =>
          if zb 0 = false then none else
          some (s32, 0)
        else
          if gR s27 8 l0 5 = 0 then none else
          bV (f_X4_remove fu s27 (gR s27 8 l0 5) x10) fun s31 =>
          f_X8_allLinesWouldGo_b146 fu (f_X8_allLinesWouldGo_b13 fu n) s31 l0 l1
      else
        bI (f_X8_latenessIn fu s l0 (gR s 8 l0 5) x10 x13) fun s17 x18 =>
        if gR s17 8 l0 3 = 0 then none else
        if gR s17 1 (gR s17 8 l0 3) 1 = 0 then none else
        if inb l1 (gL s17 10 (gR s17 1 (gR s17 8 l0 3) 1)) = false then none else
        if (gI s17 10 (gR s17 1 (gR s17 8 l0 3) 1) (ix l1)) = 0 then
          if x18 ≤ 0 then
            f_X8_allLinesWouldGo_b129 fu (f_X8_allLinesWouldGo_b13 fu n) s17 l0 l1 x10 x13
          else
            bV (f_X8_explain fu s17 l0 4 2 x18 l1) fun s24 =>
            if zb 0 = false then none else
            some (s24, 0)
        else
          f_X8_allLinesWouldGo_b129 fu (f_X8_allLinesWouldGo_b13 fu n) s17 l0 l1 x10 x13
def f_X8_allLinesWouldGo (fu : Nat) (s : St) (a0 : Nat) : Option (St × Int32) :=
  if a0 = 0 then none else
  if gR s 8 a0 5 = 0 then none else
  bV (f_X4_copyFrom fu s (gR s 8 a0 5) (gR s 8 a0 4)) fun s3 =>
  f_X8_allLinesWouldGo_b13 fu fu s3 a0 0
def f_X8_carryOut_b93 (fu : Nat) (s : St) : Option (St) :=
  some s
def f_X8_carryOut (fu : Nat) (s : St) (a0 : Nat) (a1 : Int32) : Option (St) :=
  if a0 = 0 then none else
  if gR s 8 a0 3 = 0 then none else
  if gR s 1 (gR s 8 a0 3) 2 = 0 then none else
  if inb a1 (gL s 10 (gR s 1 (gR s 8 a0 3) 2)) = false then none else
  lt (gI s 10 (gR s 1 (gR s 8 a0 3) 2) (ix a1) : Int32) fun x5 =>
  if gR s 1 (gR s 8 a0 3) 3 = 0 then none else
  if inb a1 (gL s 10 (gR s 1 (gR s 8 a0 3) 3)) = false then none else
  lt (gI s 10 (gR s 1 (gR s 8 a0 3) 3) (ix a1) : Int32) fun x8 =>
  if gR s 1 (gR s 8 a0 3) 1 = 0 then none else
  if inb a1 (gL s 10 (gR s 1 (gR s 8 a0 3) 1)) = false then none else
  lt (gI s 10 (gR s 1 (gR s 8 a0 3) 1) (ix a1) : Int32) fun x11 =>
  if x11 = 0 then
    if gR s 1 (gR s 8 a0 3) 4 = 0 then none else
    if inb a1 (gL s 10 (gR s 1 (gR s 8 a0 3) 4)) = false then none else
    bI (f_X8_place fu s a0 x5 x8 (gI s 10 (gR s 1 (gR s 8 a0 3) 4) (ix a1))) fun s15 x16 =>
    f_X8_carryOut_b93 fu s15
  else
  if x11 = 1 then
    bI (f_X8_bring fu s a0 x5 x8) fun s18 x19 =>
    f_X8_carryOut_b93 fu s18
  else
  if gR s 8 a0 4 = 0 then none else
  bV (f_X4_remove fu s (gR s 8 a0 4) x5) fun s21 =>
  f_X8_carryOut_b93 fu s21
def f_X7_isWord_b24 (fu : Nat) (s : St) : Option (St × Int32) :=
  if zb 0 = false then none else
  some (s, 0)
def f_X7_isWord_b28 (fu : Nat) : Nat → St → Nat → Nat → Int32 → Option (St × Int32)
  | 0, _, _, _, _ => none
  | n + 1, s, l0, l1, l2 =>
    if l1 = 0 then none else
    bI (f_J0_length_8abf5 fu s l1) fun s9 x10 =>
    if x10 ≤ l2 then
      if zb 1 = false then none else
      some (s9, 1)
    else
      if l0 = 0 then none else
      if gR s9 7 l0 0 = 0 then none else
      if inb ((gI s9 7 l0 2) + l2) (gL s9 12 (gR s9 7 l0 0)) = false then none else
      bI (f_J0_charAt_5068e fu s9 l1 l2) fun s16 x17 =>
      if (gI s9 12 (gR s9 7 l0 0) (ix ((gI s9 7 l0 2) + l2))) = x17 then
        lt (l2 + 1 : Int32) fun x19 =>
        f_X7_isWord_b28 fu n s16 l0 l1 x19
      else
        if zb 0 = false then none else
        some (s16, 0)
def f_X7_isWord (fu : Nat) (s : St) (a0 : Nat) (a1 : Nat) : Option (St × Int32) :=
  if a0 = 0 then none else
  if (gI s 7 a0 4) = (1 : Int32) then
    if a1 = 0 then none else
    bI (f_J0_length_8abf5 fu s a1) fun s4 x5 =>
    if ((gI s 7 a0 3) - (gI s 7 a0 2)) = x5 then
      f_X7_isWord_b28 fu fu s4 a0 a1 0
    else
      f_X7_isWord_b24 fu s4
  else
    f_X7_isWord_b24 fu s
def f_X1_kindHere_b45 (fu : Nat) (s : St) (t0 : Int32) : Option (St × Int32) :=
  some (s, t0)
def f_X1_kindHere (fu : Nat) (s : St) (a0 : Nat) : Option (St × Int32) :=
  if a0 = 0 then none else
  if gR s 1 a0 0 = 0 then none else
  bI (f_X7_isWord fu s (gR s 1 a0 0) 14) fun s3 x4 =>
  if x4 = 0 then
    if gR s3 1 a0 0 = 0 then none else
    bI (f_X7_isWord fu s3 (gR s3 1 a0 0) 15) fun s7 x8 =>
    if x8 = 0 then
      if gR s7 1 a0 0 = 0 then none else
      bI (f_X7_isWord fu s7 (gR s7 1 a0 0) 16) fun s11 x12 =>
      if x12 = 0 then
        f_X1_kindHere_b45 fu s11 ((-1))
      else
        f_X1_kindHere_b45 fu s11 2
    else
      some (s7, 1)
  else
    some (s3, 0)
def f_X7_readNumber_b106 (fu : Nat) (s : St) : Option (St) :=
  some s
def f_X7_readNumber_b86 (fu : Nat) (s : St) (l0 : Nat) : Option (St) :=
  if l0 = 0 then none else
  if ((gI s 7 l0 3) - (gI s 7 l0 2)) ≤ (7 : Int32) then
    f_X7_readNumber_b106 fu s
  else
    lt (sI s 7 l0 5 2147483647 : St) fun s16 =>
    f_X7_readNumber_b106 fu s16
def f_X7_readNumber_b10 (fu : Nat) : Nat → St → Nat → Option (St)
  | 0, _, _ => none
  | n + 1, s, l0 =>
    if l0 = 0 then none else
    if (gI s 7 l0 1) ≤ (gI s 7 l0 3) then
      f_X7_readNumber_b86 fu s l0
    else
      if gR s 7 l0 0 = 0 then none else
      if inb (gI s 7 l0 3) (gL s 12 (gR s 7 l0 0)) = false then none else
      if (gI s 12 (gR s 7 l0 0) (ix (gI s 7 l0 3))) < (48 : Int32) then
        f_X7_readNumber_b86 fu s l0
      else
        if inb (gI s 7 l0 3) (gL s 12 (gR s 7 l0 0)) = false then none else
        if (57 : Int32) < (gI s 12 (gR s 7 l0 0) (ix (gI s 7 l0 3))) then
          f_X7_readNumber_b86 fu s l0
        else
          if inb (gI s 7 l0 3) (gL s 12 (gR s 7 l0 0)) = false then none else
          lt (sI s 7 l0 5 ((((gI s 7 l0 5) * 10) + (gI s 12 (gR s 7 l0 0) (ix (gI s 7 l0 3)))) - 48) : St) fun s12 =>
          lt (sI s12 7 l0 3 ((gI s12 7 l0 3) + 1) : St) fun s13 =>
          f_X7_readNumber_b10 fu n s13 l0
def f_X7_readNumber (fu : Nat) (s : St) (a0 : Nat) : Option (St) :=
  if a0 = 0 then none else
  lt (sI s 7 a0 4 2 : St) fun s2 =>
  lt (sI s2 7 a0 5 0 : St) fun s3 =>
  f_X7_readNumber_b10 fu fu s3 a0
def f_X7_readWord_b57 (fu : Nat) (s : St) : Option (St) :=
  some s
def f_X7_readWord_b5 (fu : Nat) : Nat → St → Nat → Option (St)
  | 0, _, _ => none
  | n + 1, s, l0 =>
    if l0 = 0 then none else
    if (gI s 7 l0 1) ≤ (gI s 7 l0 3) then
      f_X7_readWord_b57 fu s
    else
      if gR s 7 l0 0 = 0 then none else
      if inb (gI s 7 l0 3) (gL s 12 (gR s 7 l0 0)) = false then none else
      if (gI s 12 (gR s 7 l0 0) (ix (gI s 7 l0 3))) < (97 : Int32) then
        f_X7_readWord_b57 fu s
      else
        if inb (gI s 7 l0 3) (gL s 12 (gR s 7 l0 0)) = false then none else
        if (122 : Int32) < (gI s 12 (gR s 7 l0 0) (ix (gI s 7 l0 3))) then
          f_X7_readWord_b57 fu s
        else
          lt (sI s 7 l0 3 ((gI s 7 l0 3) + 1) : St) fun s10 =>
          f_X7_readWord_b5 fu n s10 l0
def f_X7_readWord (fu : Nat) (s : St) (a0 : Nat) : Option (St) :=
  if a0 = 0 then none else
  lt (sI s 7 a0 4 1 : St) fun s2 =>
  f_X7_readWord_b5 fu fu s2 a0
def f_X7_next_b39 (fu : Nat) (k0 : St → Nat → Option (St)) (s : St) (l0 : Nat) : Option (St) :=
  if l0 = 0 then none else
  lt (sI s 7 l0 3 ((gI s 7 l0 3) + 1) : St) fun s9 =>
  k0 s9 l0
def f_X7_next_b190 (fu : Nat) (s : St) : Option (St) :=
  some s
def f_X7_next_b177 (fu : Nat) (s : St) (l0 : Nat) (t0 : Int32) (t1 : Nat) : Option (St) :=
  if t1 = 0 then none else
  lt (sI s 7 t1 4 t0 : St) fun s34 =>
  if l0 = 0 then none else
  lt (sI s34 7 l0 3 ((gI s34 7 l0 2) + 1) : St) fun s36 =>
  f_X7_next_b190 fu s36
def f_X7_next_b149 (fu : Nat) (s : St) (l0 : Nat) : Option (St) :=
  if l0 = 0 then none else
  if gR s 7 l0 0 = 0 then none else
  if inb (gI s 7 l0 2) (gL s 12 (gR s 7 l0 0)) = false then none else
  bI (f_J0_indexOf_0f7a4 fu s 2 ((Int32.toUInt32 ((gI s 12 (gR s 7 l0 0) (ix (gI s 7 l0 2))) &&& 255) % 65536).toInt32)) fun s30 x31 =>
  if x31 < 0 then
    f_X7_next_b177 fu s30 l0 4 l0
  else
    f_X7_next_b177 fu s30 l0 3 l0
def f_X7_next_b114 (fu : Nat) (s : St) (l0 : Nat) : Option (St) :=
  if l0 = 0 then none else
  if gR s 7 l0 0 = 0 then none else
  if inb (gI s 7 l0 2) (gL s 12 (gR s 7 l0 0)) = false then none else
  if (gI s 12 (gR s 7 l0 0) (ix (gI s 7 l0 2))) < (48 : Int32) then
    f_X7_next_b149 fu s l0
  else
    if inb (gI s 7 l0 2) (gL s 12 (gR s 7 l0 0)) = false then none else
    if (57 : Int32) < (gI s 12 (gR s 7 l0 0) (ix (gI s 7 l0 2))) then
      f_X7_next_b149 fu s l0
    else
      bV (f_X7_readNumber fu s l0) fun s26 =>
      f_X7_next_b190 fu s26
def f_X7_next_b52 (fu : Nat) (s : St) (l0 : Nat) : Option (St) :=
  if l0 = 0 then none else
  lt (sI s 7 l0 2 (gI s 7 l0 3) : St) fun s11 =>
  if (gI s11 7 l0 2) < (gI s11 7 l0 1) then
    if gR s11 7 l0 0 = 0 then none else
    if inb (gI s11 7 l0 2) (gL s11 12 (gR s11 7 l0 0)) = false then none else
    if (gI s11 12 (gR s11 7 l0 0) (ix (gI s11 7 l0 2))) < (97 : Int32) then
      f_X7_next_b114 fu s11 l0
    else
      if inb (gI s11 7 l0 2) (gL s11 12 (gR s11 7 l0 0)) = false then none else
      if (122 : Int32) < (gI s11 12 (gR s11 7 l0 0) (ix (gI s11 7 l0 2))) then
        f_X7_next_b114 fu s11 l0
      else
        bV (f_X7_readWord fu s11 l0) fun s18 =>
        f_X7_next_b190 fu s18
  else
    lt (sI s11 7 l0 4 0 : St) fun s19 =>
    f_X7_next_b190 fu s19
def f_X7_next_b0 (fu : Nat) : Nat → St → Nat → Option (St)
  | 0, _, _ => none
  | n + 1, s, l0 =>
    if l0 = 0 then none else
    if (gI s 7 l0 1) ≤ (gI s 7 l0 3) then
      f_X7_next_b52 fu s l0
    else
      if gR s 7 l0 0 = 0 then none else
      if inb (gI s 7 l0 3) (gL s 12 (gR s 7 l0 0)) = false then none else
      if (gI s 12 (gR s 7 l0 0) (ix (gI s 7 l0 3))) = (32 : Int32) then
        f_X7_next_b39 fu (f_X7_next_b0 fu n) s l0
      else
        if inb (gI s 7 l0 3) (gL s 12 (gR s 7 l0 0)) = false then none else
        if (gI s 12 (gR s 7 l0 0) (ix (gI s 7 l0 3))) = (10 : Int32) then
          f_X7_next_b39 fu (f_X7_next_b0 fu n) s l0
        else
          f_X7_next_b52 fu s l0
def f_X7_next (fu : Nat) (s : St) (a0 : Nat) : Option (St) :=
  f_X7_next_b0 fu fu s a0
def f_X7_refuse (fu : Nat) (s : St) (a0 : Nat) (a1 : Int32) : Option (St × Int32) :=
  if a0 = 0 then none else
  lt (sI s 7 a0 7 a1 : St) fun s2 =>
  lt (sI s2 7 a0 8 (gI s2 7 a0 2) : St) fun s3 =>
  if zb 0 = false then none else
  some (s3, 0)
def f_X7_isNumberWithin_b30 (fu : Nat) (s : St) (l0 : Nat) : Option (St × Int32) :=
  if l0 = 0 then none else
  bI (f_X7_refuse fu s l0 2) fun s10 x11 =>
  if zb x11 = false then none else
  some (s10, x11)
def f_X7_isNumberWithin (fu : Nat) (s : St) (a0 : Nat) (a1 : Int32) (a2 : Int32) : Option (St × Int32) :=
  if a0 = 0 then none else
  if (gI s 7 a0 4) = (2 : Int32) then
    if (gI s 7 a0 5) < a1 then
      f_X7_isNumberWithin_b30 fu s a0
    else
      if (gI s 7 a0 5) ≤ a2 then
        if zb 1 = false then none else
        some (s, 1)
      else
        f_X7_isNumberWithin_b30 fu s a0
  else
    bI (f_X7_refuse fu s a0 1) fun s6 x7 =>
    if zb x7 = false then none else
    some (s6, x7)
def f_X7_takeNumber (fu : Nat) (s : St) (a0 : Nat) (a1 : Int32) (a2 : Int32) : Option (St × Int32) :=
  if a0 = 0 then none else
  bI (f_X7_isNumberWithin fu s a0 a1 a2) fun s2 x3 =>
  if x3 = 0 then
    if zb 0 = false then none else
    some (s2, 0)
  else
    lt (sI s2 7 a0 6 (gI s2 7 a0 5) : St) fun s5 =>
    bV (f_X7_next fu s5 a0) fun s6 =>
    if zb 1 = false then none else
    some (s6, 1)
def f_X7_isSign_b26 (fu : Nat) (s : St) (t0 : Int32) : Option (St × Int32) :=
  if zb t0 = false then none else
  some (s, t0)
def f_X7_isSign_b25 (fu : Nat) (s : St) : Option (St × Int32) :=
  f_X7_isSign_b26 fu s 0
def f_X7_isSign (fu : Nat) (s : St) (a0 : Nat) (a1 : Int32) : Option (St × Int32) :=
  if a0 = 0 then none else
  if (gI s 7 a0 4) = (3 : Int32) then
    if gR s 7 a0 0 = 0 then none else
    if inb (gI s 7 a0 2) (gL s 12 (gR s 7 a0 0)) = false then none else
    if (gI s 12 (gR s 7 a0 0) (ix (gI s 7 a0 2))) = a1 then
      f_X7_isSign_b26 fu s 1
    else
      f_X7_isSign_b25 fu s
  else
    f_X7_isSign_b25 fu s
def f_X7_takeSign (fu : Nat) (s : St) (a0 : Nat) (a1 : Int32) : Option (St × Int32) :=
  if a0 = 0 then none else
  bI (f_X7_isSign fu s a0 a1) fun s2 x3 =>
  if x3 = 0 then
    bI (f_X7_refuse fu s2 a0 1) fun s7 x8 =>
    if zb x8 = false then none else
    some (s7, x8)
  else
    bV (f_X7_next fu s2 a0) fun s5 =>
    if zb 1 = false then none else
    some (s5, 1)
def f_X7_takeSigned_b43 (fu : Nat) (s : St) (l0 : Nat) (t0 : Int32) (t1 : Nat) : Option (St × Int32) :=
  if t1 = 0 then none else
  lt (sI s 7 t1 6 t0 : St) fun s13 =>
  if l0 = 0 then none else
  bV (f_X7_next fu s13 l0) fun s15 =>
  if zb 1 = false then none else
  some (s15, 1)
def f_X7_takeSigned_b15 (fu : Nat) (s : St) (l0 : Nat) (l1 : Int32) (l2 : Int32) : Option (St × Int32) :=
  if l0 = 0 then none else
  bI (f_X7_isNumberWithin fu s l0 0 l1) fun s7 x8 =>
  if x8 = 0 then
    if zb 0 = false then none else
    some (s7, 0)
  else
    if l2 = 0 then
      f_X7_takeSigned_b43 fu s7 l0 (gI s7 7 l0 5) l0
    else
      f_X7_takeSigned_b43 fu s7 l0 (-(gI s7 7 l0 5)) l0
def f_X7_takeSigned (fu : Nat) (s : St) (a0 : Nat) (a1 : Int32) : Option (St × Int32) :=
  if a0 = 0 then none else
  bI (f_X7_isSign fu s a0 45) fun s2 x3 =>
  if x3 = 0 then
    f_X7_takeSigned_b15 fu s2 a0 a1 x3
  else
    bV (f_X7_next fu s2 a0) fun s5 =>
    f_X7_takeSigned_b15 fu s5 a0 a1 x3
def f_X1_readLine_b121 (fu : Nat) (s : St) (l0 : Nat) : Option (St × Int32) :=
  if l0 = 0 then none else
  if gR s 1 l0 0 = 0 then none else
  if gR s 1 l0 4 = 0 then none else
  if inb (gI s 1 l0 5) (gL s 10 (gR s 1 l0 4)) = false then none else
  lt (sI s 10 (gR s 1 l0 4) (ix (gI s 1 l0 5)) (gI s 7 (gR s 1 l0 0) 6) : St) fun s44 =>
  if gR s44 1 l0 0 = 0 then none else
  bI (f_X7_takeSign fu s44 (gR s44 1 l0 0) 59) fun s46 x47 =>
  if zb x47 = false then none else
  some (s46, x47)
def f_X1_readLine_b86 (fu : Nat) (s : St) (l0 : Nat) (l1 : Int32) : Option (St × Int32) :=
  if l0 = 0 then none else
  if gR s 1 l0 0 = 0 then none else
  if gR s 1 l0 3 = 0 then none else
  if inb (gI s 1 l0 5) (gL s 10 (gR s 1 l0 3)) = false then none else
  lt (sI s 10 (gR s 1 l0 3) (ix (gI s 1 l0 5)) (gI s 7 (gR s 1 l0 0) 6) : St) fun s33 =>
  if l1 = 0 then
    if gR s33 1 l0 0 = 0 then none else
    bI (f_X7_takeSigned fu s33 (gR s33 1 l0 0) 10000) fun s36 x37 =>
    if x37 = 0 then
      if zb 0 = false then none else
      some (s36, 0)
    else
      f_X1_readLine_b121 fu s36 l0
  else
    f_X1_readLine_b121 fu s33 l0
def f_X1_readLine (fu : Nat) (s : St) (a0 : Nat) : Option (St × Int32) :=
  if a0 = 0 then none else
  bI (f_X1_kindHere fu s a0) fun s2 x3 =>
  if x3 = ((-1) : Int32) then
    if gR s2 1 a0 0 = 0 then none else
    bI (f_X7_refuse fu s2 (gR s2 1 a0 0) 1) fun s26 x27 =>
    if zb x27 = false then none else
    some (s26, x27)
  else
    if gR s2 1 a0 0 = 0 then none else
    bV (f_X7_next fu s2 (gR s2 1 a0 0)) fun s6 =>
    if gR s6 1 a0 1 = 0 then none else
    if inb (gI s6 1 a0 5) (gL s6 10 (gR s6 1 a0 1)) = false then none else
    lt (sI s6 10 (gR s6 1 a0 1) (ix (gI s6 1 a0 5)) x3 : St) fun s9 =>
    if gR s9 1 a0 0 = 0 then none else
    bI (f_X7_takeNumber fu s9 (gR s9 1 a0 0) 0 9) fun s11 x12 =>
    if x12 = 0 then
      if zb 0 = false then none else
      some (s11, 0)
    else
      if gR s11 1 a0 0 = 0 then none else
      if gR s11 1 a0 2 = 0 then none else
      if inb (gI s11 1 a0 5) (gL s11 10 (gR s11 1 a0 2)) = false then none else
      lt (sI s11 10 (gR s11 1 a0 2) (ix (gI s11 1 a0 5)) (gI s11 7 (gR s11 1 a0 0) 6) : St) fun s17 =>
      if x3 = (2 : Int32) then
        f_X1_readLine_b86 fu s17 a0 x3
      else
        if gR s17 1 a0 0 = 0 then none else
        bI (f_X7_takeSigned fu s17 (gR s17 1 a0 0) 1000000) fun s20 x21 =>
        if x21 = 0 then
          if zb 0 = false then none else
          some (s20, 0)
        else
          f_X1_readLine_b86 fu s20 a0 x3
def f_X7_open (fu : Nat) (s : St) (a0 : Nat) (a1 : Int32) : Option (St) :=
  if a0 = 0 then none else
  if gR s 7 a0 0 = 0 then none else
  bI (f_J9_min_7cf53 fu s a1 (nI (gL s 12 (gR s 7 a0 0)))) fun s3 x4 =>
  bI (f_J9_max_7cf53 fu s3 0 x4) fun s5 x6 =>
  lt (sI s5 7 a0 1 x6 : St) fun s7 =>
  lt (sI s7 7 a0 3 0 : St) fun s8 =>
  lt (sI s8 7 a0 7 0 : St) fun s9 =>
  lt (sI s9 7 a0 8 ((-1)) : St) fun s10 =>
  bV (f_X7_next fu s10 a0) fun s11 =>
  some s11
def f_X1_read_b53 (fu : Nat) (s : St) : Option (St × Int32) :=
  if zb 1 = false then none else
  some (s, 1)
def f_X1_read_b15 (fu : Nat) : Nat → St → Nat → Int32 → Option (St × Int32)
  | 0, _, _, _ => none
  | n + 1, s, l0, l2 =>
    if (100 : Int32) ≤ l2 then
      f_X1_read_b53 fu s
    else
      if l0 = 0 then none else
      if gR s 1 l0 0 = 0 then none else
      if (gI s 7 (gR s 1 l0 0) 4) = 0 then
        f_X1_read_b53 fu s
      else
        bI (f_X1_readLine fu s l0) fun s9 x10 =>
        if x10 = 0 then
          if zb 0 = false then none else
          some (s9, 0)
        else
          lt (sI s9 1 l0 5 (l2 + 1) : St) fun s12 =>
          lt (l2 + 1 : Int32) fun x13 =>
          f_X1_read_b15 fu n s12 l0 x13
def f_X1_read (fu : Nat) (s : St) (a0 : Nat) (a1 : Int32) : Option (St × Int32) :=
  if a0 = 0 then none else
  lt (sI s 1 a0 5 0 : St) fun s2 =>
  if gR s2 1 a0 0 = 0 then none else
  bV (f_X7_open fu s2 (gR s2 1 a0 0) a1) fun s4 =>
  f_X1_read_b15 fu fu s4 a0 0
def f_X8_batch_b12 (fu : Nat) (s : St) : Option (St × (Nat ⊕ Int32)) :=
  if rmb (nX s) = false then none else
  some (nX s, .inl 2)
def f_X8_batch_b81 (fu : Nat) : Nat → St → Nat → Int32 → Option (St × (Nat ⊕ Int32))
  | 0, _, _, _ => none
  | n + 1, s, l0, l3 =>
    if l0 = 0 then none else
    if gR s 8 l0 3 = 0 then none else
    if (gI s 1 (gR s 8 l0 3) 5) ≤ l3 then
      bV (f_X8_explain fu s l0 0 0 ((-1)) ((-1))) fun s20 =>
      if gR s20 8 l0 3 = 0 then none else
      some (s20, .inr (gI s20 1 (gR s20 8 l0 3) 5))
    else
      bV (f_X8_carryOut fu s l0 l3) fun s22 =>
      lt (l3 + 1 : Int32) fun x23 =>
      f_X8_batch_b81 fu n s22 l0 x23
def f_X8_batch (fu : Nat) (s : St) (a0 : Nat) (a1 : Int32) : Option (St × (Nat ⊕ Int32)) :=
  if a1 < 0 then
    f_X8_batch_b12 fu s
  else
    if a0 = 0 then none else
    if a1 ≤ (gI s 8 a0 14) then
      lt (sI s 8 a0 14 0 : St) fun s4 =>
      if gR s4 8 a0 3 = 0 then none else
      bI (f_X1_read fu s4 (gR s4 8 a0 3) a1) fun s6 x7 =>
      if gR s6 8 a0 1 = 0 then none else
      lt (sI s6 8 a0 15 (gI s6 7 (gR s6 8 a0 1) 8) : St) fun s9 =>
      if x7 = 0 then
        bV (f_X8_explain fu s9 a0 1 0 ((-1)) ((-1))) fun s14 =>
        if gR s14 8 a0 1 = 0 then none else
        some (s14, .inr (((-2)) - (gI s14 7 (gR s14 8 a0 1) 7)))
      else
        bI (f_X8_allLinesWouldGo fu s9 a0) fun s11 x12 =>
        if x12 = 0 then
          some (s11, .inr ((-1)))
        else
          f_X8_batch_b81 fu fu s11 a0 0
    else
      f_X8_batch_b12 fu s
def f_X8_surveyBoth_b141 (fu : Nat) (k25 : St → Nat → Nat → Nat → Int32 → Option (St)) (s : St) (l0 : Nat) (l1 : Nat) (l2 : Nat) (l3 : Int32) : Option (St) :=
  lt (l3 + 1 : Int32) fun x52 =>
  k25 s l0 l1 l2 x52
def f_X8_surveyBoth_b119 (fu : Nat) (k25 : St → Nat → Nat → Nat → Int32 → Option (St)) (s : St) (l0 : Nat) (l1 : Nat) (l2 : Nat) (l3 : Int32) (l6 : Int32) (t0 : Int32) (t1 : Int32) (t2 : Int32) (t3 : Nat) : Option (St) :=
  if t3 = 0 then none else
  if inb t2 (gL s 10 t3) = false then none else
  lt (sI s 10 t3 (ix t2) (t1 + t0) : St) fun s42 =>
  if l0 = 0 then none else
  if gR s42 8 l0 9 = 0 then none else
  if inb 2 (gL s42 10 (gR s42 8 l0 9)) = false then none else
  bI (f_J9_abs_0f7a4 fu s42 l6) fun s46 x47 =>
  bI (f_J9_max_7cf53 fu s46 (gI s42 10 (gR s42 8 l0 9) (ix 2)) x47) fun s48 x49 =>
  if inb 2 (gL s48 10 (gR s42 8 l0 9)) = false then none else
  lt (sI s48 10 (gR s42 8 l0 9) (ix 2) x49 : St) fun s51 =>
  f_X8_surveyBoth_b141 fu k25 s51 l0 l1 l2 l3
def f_X8_surveyBoth_b25 (fu : Nat) : Nat → St → Nat → Nat → Nat → Int32 → Option (St)
  | 0, _, _, _, _, _ => none
  | n + 1, s, l0, l1, l2, l3 =>
    if l1 = 0 then none else
    if (gI s 5 l1 8) ≤ l3 then
      some s
    else
      if gR s 5 l1 3 = 0 then none else
      if inb l3 (gL s 10 (gR s 5 l1 3)) = false then none else
      lt (gI s 10 (gR s 5 l1 3) (ix l3) : Int32) fun x15 =>
      if l2 = 0 then none else
      bI (f_X5_firstFrom fu s l2 x15) fun s17 x18 =>
      bI (f_X5_hasStart fu s17 l2 x18 x15) fun s19 x20 =>
      if x20 = 0 then
        f_X8_surveyBoth_b141 fu (f_X8_surveyBoth_b25 fu n) s19 l0 l1 l2 l3
      else
        bI (f_X5_tierOf fu s19 l1 x15) fun s22 x23 =>
        bI (f_X5_tierOf fu s22 l2 x15) fun s24 x25 =>
        if x23 = x25 then
          bI (f_X5_mean fu s24 l1 l3) fun s27 x28 =>
          bI (f_X5_mean fu s27 l2 x18) fun s29 x30 =>
          lt (x28 - x30 : Int32) fun x31 =>
          if l0 = 0 then none else
          if gR s29 8 l0 9 = 0 then none else
          if inb 0 (gL s29 10 (gR s29 8 l0 9)) = false then none else
          if inb 0 (gL s29 10 (gR s29 8 l0 9)) = false then none else
          lt (sI s29 10 (gR s29 8 l0 9) (ix 0) ((gI s29 10 (gR s29 8 l0 9) (ix 0)) + 1) : St) fun s36 =>
          if gR s36 8 l0 9 = 0 then none else
          if inb 1 (gL s36 10 (gR s36 8 l0 9)) = false then none else
          if x31 ≤ 0 then
            f_X8_surveyBoth_b119 fu (f_X8_surveyBoth_b25 fu n) s36 l0 l1 l2 l3 x31 0 (gI s36 10 (gR s36 8 l0 9) (ix 1)) 1 (gR s36 8 l0 9)
          else
            f_X8_surveyBoth_b119 fu (f_X8_surveyBoth_b25 fu n) s36 l0 l1 l2 l3 x31 1 (gI s36 10 (gR s36 8 l0 9) (ix 1)) 1 (gR s36 8 l0 9)
        else
          f_X8_surveyBoth_b141 fu (f_X8_surveyBoth_b25 fu n) s24 l0 l1 l2 l3
def f_X8_surveyBoth (fu : Nat) (s : St) (a0 : Nat) (a1 : Nat) (a2 : Nat) : Option (St) :=
  if a0 = 0 then none else
  if gR s 8 a0 9 = 0 then none else
  if inb 0 (gL s 10 (gR s 8 a0 9)) = false then none else
  lt (sI s 10 (gR s 8 a0 9) (ix 0) 0 : St) fun s4 =>
  if gR s4 8 a0 9 = 0 then none else
  if inb 1 (gL s4 10 (gR s4 8 a0 9)) = false then none else
  lt (sI s4 10 (gR s4 8 a0 9) (ix 1) 0 : St) fun s7 =>
  if gR s7 8 a0 9 = 0 then none else
  if inb 2 (gL s7 10 (gR s7 8 a0 9)) = false then none else
  lt (sI s7 10 (gR s7 8 a0 9) (ix 2) ((-20000)) : St) fun s10 =>
  f_X8_surveyBoth_b25 fu fu s10 a0 a1 a2 0
def f_X8_both (fu : Nat) (s : St) (a0 : Nat) (a1 : Int32) (a2 : Int32) (a3 : Int32) : Option (St × (Nat ⊕ Int32)) :=
  if a0 = 0 then none else
  bX (f_X8_known fu s a0 a1) (fun s2 e3 => some (s2, .inl e3)) fun s2 x4 =>
  bX (f_X8_known fu s2 a0 a2) (fun s5 e6 => some (s5, .inl e6)) fun s5 x7 =>
  bX (f_X8_needWhat fu s5 a3 2) (fun s8 e9 => some (s8, .inl e9)) fun s8 x10 =>
  bV (f_X8_surveyBoth fu s8 a0 x4 x7) fun s11 =>
  if gR s11 8 a0 9 = 0 then none else
  if inb a3 (gL s11 10 (gR s11 8 a0 9)) = false then none else
  some (s11, .inr (gI s11 10 (gR s11 8 a0 9) (ix a3)))
def f_X8_needTier_b15 (fu : Nat) (s : St) : Option (St × (Nat ⊕ Unit)) :=
  if rmb (nX s) = false then none else
  some (nX s, .inl 1)
def f_X8_needTier (fu : Nat) (s : St) (a0 : Nat) (a1 : Int32) : Option (St × (Nat ⊕ Unit)) :=
  if a1 < 0 then
    f_X8_needTier_b15 fu s
  else
    if a0 = 0 then none else
    if gR s 8 a0 12 = 0 then none else
    if a1 < (gI s 2 (gR s 8 a0 12) 3) then
      some (s, .inr ())
    else
      f_X8_needTier_b15 fu s
def f_X5_beginOf (fu : Nat) (s : St) (a0 : Nat) (a1 : Int32) : Option (St × Int32) :=
  if a0 = 0 then none else
  if gR s 5 a0 1 = 0 then none else
  if inb a1 (gL s 10 (gR s 5 a0 1)) = false then none else
  bI (f_X5_firstFrom fu s a0 (gI s 10 (gR s 5 a0 1) (ix a1))) fun s4 x5 =>
  some (s4, x5)
def f_X5_endOf_b23 (fu : Nat) (s : St) (t0 : Int32) : Option (St × Int32) :=
  some (s, t0)
def f_X5_endOf (fu : Nat) (s : St) (a0 : Nat) (a1 : Int32) : Option (St × Int32) :=
  if a1 = 0 then
    if a0 = 0 then none else
    f_X5_endOf_b23 fu s (gI s 5 a0 8)
  else
    if a0 = 0 then none else
    if gR s 5 a0 1 = 0 then none else
    if inb (a1 - 1) (gL s 10 (gR s 5 a0 1)) = false then none else
    bI (f_X5_firstFrom fu s a0 (gI s 10 (gR s 5 a0 1) (ix (a1 - 1)))) fun s5 x6 =>
    f_X5_endOf_b23 fu s5 x6
def f_X8_bucket_b43 (fu : Nat) (s : St) : Option (St × (Nat ⊕ Int64)) :=
  if rmb (nX s) = false then none else
  some (nX s, .inl 1)
def f_X8_bucket (fu : Nat) (s : St) (a0 : Nat) (a1 : Int32) (a2 : Int32) (a3 : Int32) (a4 : Int32) : Option (St × (Nat ⊕ Int64)) :=
  if a0 = 0 then none else
  bX (f_X8_known fu s a0 a1) (fun s2 e3 => some (s2, .inl e3)) fun s2 x4 =>
  bX (f_X8_needTier fu s2 a0 a2) (fun s5 e6 => some (s5, .inl e6)) fun s5 x7 =>
  bX (f_X8_needWhat fu s5 a4 5) (fun s8 e9 => some (s8, .inl e9)) fun s8 x10 =>
  if x4 = 0 then none else
  bI (f_X5_beginOf fu s8 x4 a2) fun s12 x13 =>
  if a3 < 0 then
    f_X8_bucket_b43 fu s12
  else
    bI (f_X5_endOf fu s12 x4 a2) fun s15 x16 =>
    if a3 < (x16 - x13) then
      bI (f_X5_fact fu s15 x4 (x13 + a3) a4) fun s18 x19 =>
      some (s18, .inr x19)
    else
      f_X8_bucket_b43 fu s15
def f_X8_buckets (fu : Nat) (s : St) (a0 : Nat) (a1 : Int32) (a2 : Int32) : Option (St × (Nat ⊕ Int32)) :=
  if a0 = 0 then none else
  bX (f_X8_known fu s a0 a1) (fun s2 e3 => some (s2, .inl e3)) fun s2 x4 =>
  bX (f_X8_needTier fu s2 a0 a2) (fun s5 e6 => some (s5, .inl e6)) fun s5 x7 =>
  if x4 = 0 then none else
  bI (f_X5_endOf fu s5 x4 a2) fun s9 x10 =>
  bI (f_X5_beginOf fu s9 x4 a2) fun s11 x12 =>
  some (s11, .inr (x10 - x12))
def f_X8_count_b82 (fu : Nat) (s : St) (t0 : Int32) : Option (St × (Nat ⊕ Int32)) :=
  some (s, .inr t0)
def f_X8_count (fu : Nat) (s : St) (a0 : Nat) (a1 : Int32) : Option (St × (Nat ⊕ Int32)) :=
  if a1 = 0 then
    if a0 = 0 then none else
    if gR s 8 a0 12 = 0 then none else
    some (s, .inr (gI s 2 (gR s 8 a0 12) 3))
  else
  if a1 = 1 then
    if a0 = 0 then none else
    if gR s 8 a0 12 = 0 then none else
    some (s, .inr (gI s 2 (gR s 8 a0 12) 4))
  else
  if a1 = 2 then
    if a0 = 0 then none else
    if gR s 8 a0 12 = 0 then none else
    if gR s 2 (gR s 8 a0 12) 2 = 0 then none else
    bI (f_X0_isTold fu s (gR s 2 (gR s 8 a0 12) 2)) fun s11 x12 =>
    if x12 = 0 then
      f_X8_count_b82 fu s11 0
    else
      f_X8_count_b82 fu s11 1
  else
  if a1 = 3 then
    if a0 = 0 then none else
    if gR s 8 a0 4 = 0 then none else
    some (s, .inr (gI s 4 (gR s 8 a0 4) 2))
  else
  if a1 = 4 then
    if a0 = 0 then none else
    some (s, .inr (gI s 8 a0 14))
  else
  if a1 = 5 then
    if a0 = 0 then none else
    some (s, .inr (gI s 8 a0 16))
  else
  if a1 = 6 then
    if a0 = 0 then none else
    some (s, .inr (gI s 8 a0 17))
  else
  if a1 = 7 then
    if a0 = 0 then none else
    some (s, .inr (gI s 8 a0 18))
  else
  if rmb (nX s) = false then none else
  some (nX s, .inl 1)
def f_X8_gap_b115 (fu : Nat) (s : St) (t0 : Int32) : Option (St × (Nat ⊕ Int32)) :=
  some (s, .inr t0)
def f_X8_gap_b119 (fu : Nat) (k44 : St → Int32 → Int32 → Nat → Int32 → Int32 → Int32 → Int32 → Option (St × (Nat ⊕ Int32))) (s : St) (l3 : Int32) (l4 : Int32) (l5 : Nat) (l6 : Int32) (l7 : Int32) (l8 : Int32) (l9 : Int32) : Option (St × (Nat ⊕ Int32)) :=
  lt (l9 + 1 : Int32) fun x33 =>
  k44 s l3 l4 l5 l6 l7 l8 x33
def f_X8_gap_b44 (fu : Nat) : Nat → St → Int32 → Int32 → Nat → Int32 → Int32 → Int32 → Int32 → Option (St × (Nat ⊕ Int32))
  | 0, _, _, _, _, _, _, _, _ => none
  | n + 1, s, l3, l4, l5, l6, l7, l8, l9 =>
    if l7 ≤ l9 then
      if l3 = ((-1) : Int32) then
        some (s, .inr l8)
      else
        if rmb (nX s) = false then none else
        some (nX s, .inl 1)
    else
      if l5 = 0 then none else
      if gR s 5 l5 3 = 0 then none else
      if inb (l9 - 1) (gL s 10 (gR s 5 l5 3)) = false then none else
      lt ((gI s 10 (gR s 5 l5 3) (ix (l9 - 1))) + l6 : Int32) fun x24 =>
      if inb l9 (gL s 10 (gR s 5 l5 3)) = false then none else
      if (gI s 10 (gR s 5 l5 3) (ix l9)) = x24 then
        f_X8_gap_b119 fu (f_X8_gap_b44 fu n) s l3 l4 l5 l6 l7 l8 l9
      else
        if l8 = l3 then
          if l4 = 0 then
            f_X8_gap_b115 fu s x24
          else
            if inb l9 (gL s 10 (gR s 5 l5 3)) = false then none else
            bI (f_X8_quotient fu s (Int32.toInt64 ((gI s 10 (gR s 5 l5 3) (ix l9)) - x24)) l6) fun s31 x32 =>
            f_X8_gap_b115 fu s31 x32
        else
          lt (l8 + 1 : Int32) fun x28 =>
          f_X8_gap_b119 fu (f_X8_gap_b44 fu n) s l3 l4 l5 l6 l7 x28 l9
def f_X8_gap (fu : Nat) (s : St) (a0 : Nat) (a1 : Int32) (a2 : Int32) (a3 : Int32) (a4 : Int32) : Option (St × (Nat ⊕ Int32)) :=
  if a0 = 0 then none else
  bX (f_X8_known fu s a0 a1) (fun s2 e3 => some (s2, .inl e3)) fun s2 x4 =>
  bX (f_X8_needTier fu s2 a0 a2) (fun s5 e6 => some (s5, .inl e6)) fun s5 x7 =>
  if gR s5 8 a0 12 = 0 then none else
  if gR s5 2 (gR s5 8 a0 12) 0 = 0 then none else
  if inb a2 (gL s5 10 (gR s5 2 (gR s5 8 a0 12) 0)) = false then none else
  lt (gI s5 10 (gR s5 2 (gR s5 8 a0 12) 0) (ix a2) : Int32) fun x11 =>
  if x4 = 0 then none else
  bI (f_X5_endOf fu s5 x4 a2) fun s13 x14 =>
  bI (f_X5_beginOf fu s13 x4 a2) fun s15 x16 =>
  lt (x16 + 1 : Int32) fun x17 =>
  f_X8_gap_b44 fu fu s15 a3 a4 x4 x11 x14 0 x17
def f_X8_of (fu : Nat) (s : St) (a0 : Nat) (a1 : Int32) (a2 : Int32) : Option (St × (Nat ⊕ Int64)) :=
  if a0 = 0 then none else
  bX (f_X8_known fu s a0 a1) (fun s2 e3 => some (s2, .inl e3)) fun s2 x4 =>
  bV (f_X8_tallyAll fu s2 a0 x4) fun s5 =>
  if a2 = 0 then
    if gR s5 8 a0 4 = 0 then none else
    if gR s5 4 (gR s5 8 a0 4) 1 = 0 then none else
    if inb a1 (gL s5 10 (gR s5 4 (gR s5 8 a0 4) 1)) = false then none else
    some (s5, .inr (Int32.toInt64 (gI s5 10 (gR s5 4 (gR s5 8 a0 4) 1) (ix a1))))
  else
  if a2 = 1 then
    if x4 = 0 then none else
    some (s5, .inr (Int32.toInt64 (gI s5 5 x4 8)))
  else
  if a2 = 2 then
    if gR s5 8 a0 7 = 0 then none else
    some (s5, .inr (Int32.toInt64 (gI s5 6 (gR s5 8 a0 7) 1)))
  else
  if a2 = 3 then
    if x4 = 0 then none else
    some (s5, .inr (Int32.toInt64 (gI s5 5 x4 9)))
  else
  if a2 = 4 then
    if x4 = 0 then none else
    some (s5, .inr (Int32.toInt64 (gI s5 5 x4 10)))
  else
  if a2 = 5 then
    if gR s5 8 a0 7 = 0 then none else
    some (s5, .inr (Int32.toInt64 (gI s5 6 (gR s5 8 a0 7) 3)))
  else
  if a2 = 6 then
    if gR s5 8 a0 7 = 0 then none else
    some (s5, .inr (Int32.toInt64 (gI s5 6 (gR s5 8 a0 7) 4)))
  else
  if a2 = 7 then
    if gR s5 8 a0 7 = 0 then none else
    some (s5, .inr (gJ s5 6 (gR s5 8 a0 7) 2))
  else
  if rmb (nX s5) = false then none else
  some (nX s5, .inl 1)
def f_X8_seam (fu : Nat) (s : St) (a0 : Nat) (a1 : Int32) (a2 : Int32) : Option (St × (Nat ⊕ Int32)) :=
  if a0 = 0 then none else
  bX (f_X8_known fu s a0 a1) (fun s2 e3 => some (s2, .inl e3)) fun s2 x4 =>
  bX (f_X8_needTier fu s2 a0 a2) (fun s5 e6 => some (s5, .inl e6)) fun s5 x7 =>
  if x4 = 0 then none else
  if gR s5 5 x4 1 = 0 then none else
  if inb a2 (gL s5 10 (gR s5 5 x4 1)) = false then none else
  some (s5, .inr (gI s5 10 (gR s5 5 x4 1) (ix a2)))
def f_X0_clear (fu : Nat) (s : St) (a0 : Nat) : Option (St) :=
  if a0 = 0 then none else
  lt (sI s 0 a0 2 0 : St) fun s2 =>
  some s2
def f_X2_clear (fu : Nat) (s : St) (a0 : Nat) : Option (St) :=
  if a0 = 0 then none else
  lt (sI s 2 a0 3 0 : St) fun s2 =>
  lt (sI s2 2 a0 4 4 : St) fun s3 =>
  if gR s3 2 a0 2 = 0 then none else
  bV (f_X0_clear fu s3 (gR s3 2 a0 2)) fun s5 =>
  some s5
def f_X0_addStep_b40 (fu : Nat) (s : St) : Option (St) :=
  some s
def f_X0_addStep (fu : Nat) (s : St) (a0 : Nat) (a1 : Int32) (a2 : Int32) : Option (St) :=
  if a0 = 0 then none else
  if (160 : Int32) ≤ (gI s 0 a0 2) then
    f_X0_addStep_b40 fu s
  else
    if gR s 0 a0 0 = 0 then none else
    if inb (gI s 0 a0 2) (gL s 10 (gR s 0 a0 0)) = false then none else
    lt (sI s 10 (gR s 0 a0 0) (ix (gI s 0 a0 2)) a1 : St) fun s5 =>
    if gR s5 0 a0 1 = 0 then none else
    if inb (gI s5 0 a0 2) (gL s5 10 (gR s5 0 a0 1)) = false then none else
    lt (sI s5 10 (gR s5 0 a0 1) (ix (gI s5 0 a0 2)) a2 : St) fun s8 =>
    lt (sI s8 0 a0 2 ((gI s8 0 a0 2) + 1) : St) fun s9 =>
    f_X0_addStep_b40 fu s9
def f_X0_addJoint (fu : Nat) (s : St) (a0 : Nat) (a1 : Int32) : Option (St) :=
  if a0 = 0 then none else
  bV (f_X0_addStep fu s a0 a1 0) fun s2 =>
  some s2
def f_X0_addComparison (fu : Nat) (s : St) (a0 : Nat) (a1 : Int32) (a2 : Int32) (a3 : Int32) : Option (St) :=
  if a0 = 0 then none else
  bV (f_X0_addStep fu s a0 ((a1 * 3) + a2) a3) fun s2 =>
  some s2
def f_X3_factHere_b88 (fu : Nat) (s : St) (t0 : Int32) : Option (St × Int32) :=
  some (s, t0)
def f_X3_factHere (fu : Nat) (s : St) (a0 : Nat) : Option (St × Int32) :=
  if a0 = 0 then none else
  if gR s 3 a0 0 = 0 then none else
  bI (f_X7_isWord fu s (gR s 3 a0 0) 7) fun s3 x4 =>
  if x4 = 0 then
    if gR s3 3 a0 0 = 0 then none else
    bI (f_X7_isWord fu s3 (gR s3 3 a0 0) 8) fun s7 x8 =>
    if x8 = 0 then
      if gR s7 3 a0 0 = 0 then none else
      bI (f_X7_isWord fu s7 (gR s7 3 a0 0) 9) fun s11 x12 =>
      if x12 = 0 then
        if gR s11 3 a0 0 = 0 then none else
        bI (f_X7_isWord fu s11 (gR s11 3 a0 0) 10) fun s15 x16 =>
        if x16 = 0 then
          if gR s15 3 a0 0 = 0 then none else
          bI (f_X7_isWord fu s15 (gR s15 3 a0 0) 11) fun s19 x20 =>
          if x20 = 0 then
            if gR s19 3 a0 0 = 0 then none else
            bI (f_X7_isWord fu s19 (gR s19 3 a0 0) 3) fun s23 x24 =>
            if x24 = 0 then
              f_X3_factHere_b88 fu s23 ((-1))
            else
              f_X3_factHere_b88 fu s23 6
          else
            some (s19, 5)
        else
          some (s15, 4)
      else
        some (s11, 3)
    else
      some (s7, 2)
  else
    some (s3, 1)
def f_X3_relationHere_b45 (fu : Nat) (s : St) (t0 : Int32) : Option (St × Int32) :=
  some (s, t0)
def f_X3_relationHere (fu : Nat) (s : St) (a0 : Nat) : Option (St × Int32) :=
  if a0 = 0 then none else
  if gR s 3 a0 0 = 0 then none else
  bI (f_X7_isSign fu s (gR s 3 a0 0) 60) fun s3 x4 =>
  if x4 = 0 then
    if gR s3 3 a0 0 = 0 then none else
    bI (f_X7_isSign fu s3 (gR s3 3 a0 0) 61) fun s7 x8 =>
    if x8 = 0 then
      if gR s7 3 a0 0 = 0 then none else
      bI (f_X7_isSign fu s7 (gR s7 3 a0 0) 62) fun s11 x12 =>
      if x12 = 0 then
        f_X3_relationHere_b45 fu s11 ((-1))
      else
        f_X3_relationHere_b45 fu s11 2
    else
      some (s7, 1)
  else
    some (s3, 0)
def f_X3_readTest_b83 (fu : Nat) (c_X3_readUnit : St → Nat → Nat → Int32 → Option (St × Int32)) (k2 : St → Nat → Nat → Int32 → Int32 → Option (St × Int32)) (s : St) (l0 : Nat) (l1 : Nat) (l2 : Int32) (l3 : Int32) : Option (St × Int32) :=
  if l0 = 0 then none else
  if gR s 3 l0 0 = 0 then none else
  bI (f_X7_isWord fu s (gR s 3 l0 0) 13) fun s28 x29 =>
  if x29 = 0 then
    if zb 1 = false then none else
    some (s28, 1)
  else
    if gR s28 3 l0 0 = 0 then none else
    bV (f_X7_next fu s28 (gR s28 3 l0 0)) fun s32 =>
    lt (l3 + 1 : Int32) fun x33 =>
    k2 s32 l0 l1 l2 x33
def f_X3_readTest_b73 (fu : Nat) (c_X3_readUnit : St → Nat → Nat → Int32 → Option (St × Int32)) (k2 : St → Nat → Nat → Int32 → Int32 → Option (St × Int32)) (s : St) (l0 : Nat) (l1 : Nat) (l2 : Int32) (l3 : Int32) : Option (St × Int32) :=
  if l3 ≤ 0 then
    f_X3_readTest_b83 fu c_X3_readUnit k2 s l0 l1 l2 l3
  else
    if l1 = 0 then none else
    bV (f_X0_addJoint fu s l1 102) fun s25 =>
    f_X3_readTest_b83 fu c_X3_readUnit k2 s25 l0 l1 l2 l3
def f_X3_readTest_b23 (fu : Nat) (c_X3_readUnit : St → Nat → Nat → Int32 → Option (St × Int32)) (k2 : St → Nat → Nat → Int32 → Int32 → Option (St × Int32)) : Nat → St → Nat → Nat → Int32 → Int32 → Int32 → Option (St × Int32)
  | 0, _, _, _, _, _, _ => none
  | n + 1, s, l0, l1, l2, l3, l4 =>
    if (600 : Int32) ≤ l4 then
      f_X3_readTest_b73 fu c_X3_readUnit k2 s l0 l1 l2 l3
    else
      if l0 = 0 then none else
      if gR s 3 l0 0 = 0 then none else
      bI (f_X7_isWord fu s (gR s 3 l0 0) 12) fun s11 x12 =>
      if x12 = 0 then
        f_X3_readTest_b73 fu c_X3_readUnit k2 s11 l0 l1 l2 l3
      else
        if gR s11 3 l0 0 = 0 then none else
        bV (f_X7_next fu s11 (gR s11 3 l0 0)) fun s15 =>
        bI (c_X3_readUnit s15 l0 l1 l2) fun s16 x17 =>
        if x17 = 0 then
          if zb 0 = false then none else
          some (s16, 0)
        else
          if l1 = 0 then none else
          bV (f_X0_addJoint fu s16 l1 101) fun s20 =>
          lt (l4 + 1 : Int32) fun x21 =>
          f_X3_readTest_b23 fu c_X3_readUnit k2 n s20 l0 l1 l2 l3 x21
def f_X3_readTest_b2 (fu : Nat) (c_X3_readUnit : St → Nat → Nat → Int32 → Option (St × Int32)) : Nat → St → Nat → Nat → Int32 → Int32 → Option (St × Int32)
  | 0, _, _, _, _, _ => none
  | n + 1, s, l0, l1, l2, l3 =>
    if (600 : Int32) ≤ l3 then
      if zb 0 = false then none else
      some (s, 0)
    else
      if l0 = 0 then none else
      bI (c_X3_readUnit s l0 l1 l2) fun s4 x5 =>
      if x5 = 0 then
        if zb 0 = false then none else
        some (s4, 0)
      else
        f_X3_readTest_b23 fu c_X3_readUnit (f_X3_readTest_b2 fu c_X3_readUnit n) fu s4 l0 l1 l2 l3 0
def f_X3_readTest (fu : Nat) (c_X3_readUnit : St → Nat → Nat → Int32 → Option (St × Int32)) (s : St) (a0 : Nat) (a1 : Nat) (a2 : Int32) : Option (St × Int32) :=
  f_X3_readTest_b2 fu c_X3_readUnit fu s a0 a1 a2 0
def f_X3_readUnit_b80 (fu : Nat) (c_X3_readTest : St → Nat → Nat → Int32 → Option (St × Int32)) (c_X3_readUnit : St → Nat → Nat → Int32 → Option (St × Int32)) (s : St) (t0 : Int32) : Option (St × Int32) :=
  if zb t0 = false then none else
  some (s, t0)
def f_X3_readUnit_b79 (fu : Nat) (c_X3_readTest : St → Nat → Nat → Int32 → Option (St × Int32)) (c_X3_readUnit : St → Nat → Nat → Int32 → Option (St × Int32)) (s : St) : Option (St × Int32) :=
  f_X3_readUnit_b80 fu c_X3_readTest c_X3_readUnit s 0
def f_X3_readUnit_b26 (fu : Nat) (c_X3_readTest : St → Nat → Nat → Int32 → Option (St × Int32)) (c_X3_readUnit : St → Nat → Nat → Int32 → Option (St × Int32)) (s : St) (l0 : Nat) (l1 : Nat) (l2 : Int32) (l3 : Int32) : Option (St × Int32) :=
  if l2 < (6 : Int32) then
    if l0 = 0 then none else
    if gR s 3 l0 0 = 0 then none else
    bV (f_X7_next fu s (gR s 3 l0 0)) fun s38 =>
    if l3 = 0 then
      bI (c_X3_readTest s38 l0 l1 (l2 + 1)) fun s45 x46 =>
      if x46 = 0 then
        f_X3_readUnit_b79 fu c_X3_readTest c_X3_readUnit s45
      else
        if gR s45 3 l0 0 = 0 then none else
        bI (f_X7_takeSign fu s45 (gR s45 3 l0 0) 41) fun s49 x50 =>
        if x50 = 0 then
          f_X3_readUnit_b79 fu c_X3_readTest c_X3_readUnit s49
        else
          f_X3_readUnit_b80 fu c_X3_readTest c_X3_readUnit s49 1
    else
      bI (c_X3_readUnit s38 l0 l1 (l2 + 1)) fun s40 x41 =>
      if l1 = 0 then none else
      bV (f_X0_addJoint fu s40 l1 100) fun s43 =>
      if zb x41 = false then none else
      some (s43, x41)
  else
    if l0 = 0 then none else
    if gR s 3 l0 0 = 0 then none else
    bI (f_X7_refuse fu s (gR s 3 l0 0) 2) fun s54 x55 =>
    if zb x55 = false then none else
    some (s54, x55)
def f_X3_readUnit (fu : Nat) (c_X3_readTest : St → Nat → Nat → Int32 → Option (St × Int32)) (c_X3_readUnit : St → Nat → Nat → Int32 → Option (St × Int32)) (s : St) (a0 : Nat) (a1 : Nat) (a2 : Int32) : Option (St × Int32) :=
  if a0 = 0 then none else
  if gR s 3 a0 0 = 0 then none else
  bI (f_X7_isWord fu s (gR s 3 a0 0) 6) fun s3 x4 =>
  if x4 = 0 then
    if gR s3 3 a0 0 = 0 then none else
    bI (f_X7_isSign fu s3 (gR s3 3 a0 0) 40) fun s7 x8 =>
    if x8 = 0 then
      bI (f_X3_factHere fu s7 a0) fun s10 x11 =>
      if x11 = ((-1) : Int32) then
        if gR s10 3 a0 0 = 0 then none else
        bI (f_X7_refuse fu s10 (gR s10 3 a0 0) 1) fun s32 x33 =>
        if zb x33 = false then none else
        some (s32, x33)
      else
        if gR s10 3 a0 0 = 0 then none else
        bV (f_X7_next fu s10 (gR s10 3 a0 0)) fun s14 =>
        bI (f_X3_relationHere fu s14 a0) fun s15 x16 =>
        if x16 = ((-1) : Int32) then
          if gR s15 3 a0 0 = 0 then none else
          bI (f_X7_refuse fu s15 (gR s15 3 a0 0) 1) fun s28 x29 =>
          if zb x29 = false then none else
          some (s28, x29)
        else
          if gR s15 3 a0 0 = 0 then none else
          bV (f_X7_next fu s15 (gR s15 3 a0 0)) fun s19 =>
          if gR s19 3 a0 0 = 0 then none else
          bI (f_X7_takeSigned fu s19 (gR s19 3 a0 0) 9999999) fun s21 x22 =>
          if gR s21 3 a0 0 = 0 then none else
          if a1 = 0 then none else
          bV (f_X0_addComparison fu s21 a1 x11 x16 (gI s21 7 (gR s21 3 a0 0) 6)) fun s25 =>
          if zb x22 = false then none else
          some (s25, x22)
    else
      f_X3_readUnit_b26 fu c_X3_readTest c_X3_readUnit s7 a0 a1 a2 x4
  else
    f_X3_readUnit_b26 fu c_X3_readTest c_X3_readUnit s3 a0 a1 a2 x4
def fr_X3 (fu : Nat) : Nat → (St → Nat → Nat → Int32 → Option (St × Int32)) × (St → Nat → Nat → Int32 → Option (St × Int32))
  | 0 => (fun _ _ _ _ => none, fun _ _ _ _ => none)
  | n + 1 => (f_X3_readTest fu ((fr_X3 fu n).2), f_X3_readUnit fu ((fr_X3 fu n).1) ((fr_X3 fu n).2))
def r_X3_readTest (fu : Nat) : St → Nat → Nat → Int32 → Option (St × Int32) := (fr_X3 fu 40).1
def r_X3_readUnit (fu : Nat) : St → Nat → Nat → Int32 → Option (St × Int32) := (fr_X3 fu 40).2
def f_X2_isFull_b13 (fu : Nat) (s : St) (t0 : Int32) : Option (St × Int32) :=
  if zb t0 = false then none else
  some (s, t0)
def f_X2_isFull (fu : Nat) (s : St) (a0 : Nat) : Option (St × Int32) :=
  if a0 = 0 then none else
  if (gI s 2 a0 3) < (4 : Int32) then
    f_X2_isFull_b13 fu s 0
  else
    f_X2_isFull_b13 fu s 1
def f_X2_addTier_b37 (fu : Nat) (s : St) : Option (St) :=
  some s
def f_X2_addTier (fu : Nat) (s : St) (a0 : Nat) (a1 : Int32) (a2 : Int32) : Option (St) :=
  if a0 = 0 then none else
  bI (f_X2_isFull fu s a0) fun s2 x3 =>
  if x3 = 0 then
    if gR s2 2 a0 0 = 0 then none else
    if inb (gI s2 2 a0 3) (gL s2 10 (gR s2 2 a0 0)) = false then none else
    lt (sI s2 10 (gR s2 2 a0 0) (ix (gI s2 2 a0 3)) a1 : St) fun s7 =>
    if gR s7 2 a0 1 = 0 then none else
    if inb (gI s7 2 a0 3) (gL s7 10 (gR s7 2 a0 1)) = false then none else
    lt (sI s7 10 (gR s7 2 a0 1) (ix (gI s7 2 a0 3)) a2 : St) fun s10 =>
    lt (sI s10 2 a0 3 ((gI s10 2 a0 3) + 1) : St) fun s11 =>
    f_X2_addTier_b37 fu s11
  else
    f_X2_addTier_b37 fu s2
def f_X2_canFollow_b42 (fu : Nat) (s : St) (t0 : Int32) : Option (St × Int32) :=
  if zb t0 = false then none else
  some (s, t0)
def f_X2_canFollow_b41 (fu : Nat) (s : St) : Option (St × Int32) :=
  f_X2_canFollow_b42 fu s 0
def f_X2_canFollow (fu : Nat) (s : St) (a0 : Nat) (a1 : Int32) : Option (St × Int32) :=
  if a0 = 0 then none else
  if (gI s 2 a0 3) = 0 then
    if zb 1 = false then none else
    some (s, 1)
  else
    if gR s 2 a0 0 = 0 then none else
    if inb ((gI s 2 a0 3) - 1) (gL s 10 (gR s 2 a0 0)) = false then none else
    lt (gI s 10 (gR s 2 a0 0) (ix ((gI s 2 a0 3) - 1)) : Int32) fun x5 =>
    if a1 < (2 * x5) then
      f_X2_canFollow_b41 fu s
    else
      bI (f_X8_multipleUpTo fu s a1 x5) fun s7 x8 =>
      if x8 = a1 then
        f_X2_canFollow_b42 fu s7 1
      else
        f_X2_canFollow_b41 fu s7
def f_X3_readTier (fu : Nat) (s : St) (a0 : Nat) (a1 : Nat) : Option (St × Int32) :=
  if a1 = 0 then none else
  bI (f_X2_isFull fu s a1) fun s2 x3 =>
  if x3 = 0 then
    if a0 = 0 then none else
    if gR s2 3 a0 0 = 0 then none else
    bV (f_X7_next fu s2 (gR s2 3 a0 0)) fun s7 =>
    if gR s7 3 a0 0 = 0 then none else
    bI (f_X7_isNumberWithin fu s7 (gR s7 3 a0 0) 1 100000) fun s9 x10 =>
    if x10 = 0 then
      if zb 0 = false then none else
      some (s9, 0)
    else
      if gR s9 3 a0 0 = 0 then none else
      lt (gI s9 7 (gR s9 3 a0 0) 5 : Int32) fun x13 =>
      bI (f_X2_canFollow fu s9 a1 x13) fun s14 x15 =>
      if x15 = 0 then
        if gR s14 3 a0 0 = 0 then none else
        bI (f_X7_refuse fu s14 (gR s14 3 a0 0) 3) fun s28 x29 =>
        if zb x29 = false then none else
        some (s28, x29)
      else
        if gR s14 3 a0 0 = 0 then none else
        bV (f_X7_next fu s14 (gR s14 3 a0 0)) fun s18 =>
        if gR s18 3 a0 0 = 0 then none else
        bI (f_X7_takeNumber fu s18 (gR s18 3 a0 0) 1 20) fun s20 x21 =>
        if x21 = 0 then
          if zb 0 = false then none else
          some (s20, 0)
        else
          if gR s20 3 a0 0 = 0 then none else
          bV (f_X2_addTier fu s20 a1 x13 (gI s20 7 (gR s20 3 a0 0) 6)) fun s24 =>
          if zb 1 = false then none else
          some (s24, 1)
  else
    if a0 = 0 then none else
    if gR s2 3 a0 0 = 0 then none else
    bI (f_X7_refuse fu s2 (gR s2 3 a0 0) 2) fun s34 x35 =>
    if zb x35 = false then none else
    some (s34, x35)
def f_X3_readClause (fu : Nat) (s : St) (a0 : Nat) (a1 : Nat) : Option (St × Int32) :=
  if a0 = 0 then none else
  if gR s 3 a0 0 = 0 then none else
  bI (f_X7_isWord fu s (gR s 3 a0 0) 3) fun s3 x4 =>
  if x4 = 0 then
    if gR s3 3 a0 0 = 0 then none else
    bI (f_X7_isWord fu s3 (gR s3 3 a0 0) 4) fun s7 x8 =>
    if x8 = 0 then
      if gR s7 3 a0 0 = 0 then none else
      bI (f_X7_isWord fu s7 (gR s7 3 a0 0) 5) fun s11 x12 =>
      if x12 = 0 then
        if gR s11 3 a0 0 = 0 then none else
        bI (f_X7_refuse fu s11 (gR s11 3 a0 0) 1) fun s15 x16 =>
        if zb x16 = false then none else
        some (s15, x16)
      else
        if gR s11 3 a0 0 = 0 then none else
        bV (f_X7_next fu s11 (gR s11 3 a0 0)) fun s19 =>
        if a1 = 0 then none else
        if gR s19 2 a1 2 = 0 then none else
        bV (f_X0_clear fu s19 (gR s19 2 a1 2)) fun s22 =>
        bI (r_X3_readTest fu s22 a0 (gR s22 2 a1 2) 0) fun s23 x24 =>
        if zb x24 = false then none else
        some (s23, x24)
    else
      if gR s7 3 a0 0 = 0 then none else
      bV (f_X7_next fu s7 (gR s7 3 a0 0)) fun s27 =>
      if gR s27 3 a0 0 = 0 then none else
      bI (f_X7_takeNumber fu s27 (gR s27 3 a0 0) 1 6) fun s29 x30 =>
      if gR s29 3 a0 0 = 0 then none else
      if a1 = 0 then none else
      lt (sI s29 2 a1 4 (gI s29 7 (gR s29 3 a0 0) 6) : St) fun s33 =>
      if zb x30 = false then none else
      some (s33, x30)
  else
    bI (f_X3_readTier fu s3 a0 a1) fun s35 x36 =>
    if zb x36 = false then none else
    some (s35, x36)
def f_X3_read_b51 (fu : Nat) (s : St) : Option (St × Int32) :=
  if zb 0 = false then none else
  some (s, 0)
def f_X3_read_b70 (fu : Nat) (s : St) : Option (St × Int32) :=
  if zb 1 = false then none else
  some (s, 1)
def f_X3_read_b59 (fu : Nat) (s : St) (l2 : Nat) : Option (St × Int32) :=
  if l2 = 0 then none else
  if (gI s 2 l2 3) = 0 then
    bV (f_X2_takeFirstTiers fu s l2) fun s21 =>
    f_X3_read_b70 fu s21
  else
    f_X3_read_b70 fu s
def f_X3_read_b14 (fu : Nat) : Nat → St → Nat → Nat → Int32 → Option (St × Int32)
  | 0, _, _, _, _ => none
  | n + 1, s, l0, l2, l3 =>
    if (600 : Int32) ≤ l3 then
      f_X3_read_b59 fu s l2
    else
      if l0 = 0 then none else
      if gR s 3 l0 0 = 0 then none else
      if (gI s 7 (gR s 3 l0 0) 4) = 0 then
        f_X3_read_b59 fu s l2
      else
        bI (f_X3_readClause fu s l0 l2) fun s10 x11 =>
        if x11 = 0 then
          f_X3_read_b51 fu s10
        else
          if gR s10 3 l0 0 = 0 then none else
          bI (f_X7_takeSign fu s10 (gR s10 3 l0 0) 59) fun s14 x15 =>
          if x15 = 0 then
            f_X3_read_b51 fu s14
          else
            lt (l3 + 1 : Int32) fun x17 =>
            f_X3_read_b14 fu n s14 l0 l2 x17
def f_X3_read (fu : Nat) (s : St) (a0 : Nat) (a1 : Int32) (a2 : Nat) : Option (St × Int32) :=
  if a2 = 0 then none else
  bV (f_X2_clear fu s a2) fun s2 =>
  if a0 = 0 then none else
  if gR s2 3 a0 0 = 0 then none else
  bV (f_X7_open fu s2 (gR s2 3 a0 0) a1) fun s5 =>
  f_X3_read_b14 fu fu s5 a0 a2 0
def f_X4_clear (fu : Nat) (s : St) (a0 : Nat) : Option (St) :=
  if a0 = 0 then none else
  lt (sI s 4 a0 2 0 : St) fun s2 =>
  some s2
def f_X8_tell_b12 (fu : Nat) (s : St) : Option (St × (Nat ⊕ Int32)) :=
  if rmb (nX s) = false then none else
  some (nX s, .inl 2)
def f_X8_tell (fu : Nat) (s : St) (a0 : Nat) (a1 : Int32) : Option (St × (Nat ⊕ Int32)) :=
  if a1 < 0 then
    f_X8_tell_b12 fu s
  else
    if a0 = 0 then none else
    if a1 ≤ (gI s 8 a0 14) then
      lt (sI s 8 a0 14 0 : St) fun s4 =>
      if gR s4 8 a0 2 = 0 then none else
      bI (f_X3_read fu s4 (gR s4 8 a0 2) a1 (gR s4 8 a0 13)) fun s6 x7 =>
      if gR s6 8 a0 1 = 0 then none else
      lt (sI s6 8 a0 15 (gI s6 7 (gR s6 8 a0 1) 8) : St) fun s9 =>
      if x7 = 0 then
        if gR s9 8 a0 1 = 0 then none else
        some (s9, .inr (gI s9 7 (gR s9 8 a0 1) 7))
      else
        lt (gR s9 8 a0 12 : Nat) fun x11 =>
        lt (sR s9 8 a0 12 (gR s9 8 a0 13) : St) fun s12 =>
        lt (sR s12 8 a0 13 x11 : St) fun s13 =>
        if gR s13 8 a0 4 = 0 then none else
        bV (f_X4_clear fu s13 (gR s13 8 a0 4)) fun s15 =>
        some (s15, .inr 0)
    else
      f_X8_tell_b12 fu s
def f_X8_tier_b35 (fu : Nat) (s : St) (t0 : Int32) : Option (St × (Nat ⊕ Int32)) :=
  some (s, .inr t0)
def f_X8_tier (fu : Nat) (s : St) (a0 : Nat) (a1 : Int32) (a2 : Int32) : Option (St × (Nat ⊕ Int32)) :=
  if a0 = 0 then none else
  bX (f_X8_needTier fu s a0 a1) (fun s2 e3 => some (s2, .inl e3)) fun s2 x4 =>
  bX (f_X8_needWhat fu s2 a2 1) (fun s5 e6 => some (s5, .inl e6)) fun s5 x7 =>
  if a2 = 0 then
    if gR s5 8 a0 12 = 0 then none else
    if gR s5 2 (gR s5 8 a0 12) 0 = 0 then none else
    if inb a1 (gL s5 10 (gR s5 2 (gR s5 8 a0 12) 0)) = false then none else
    f_X8_tier_b35 fu s5 (gI s5 10 (gR s5 2 (gR s5 8 a0 12) 0) (ix a1))
  else
    if gR s5 8 a0 12 = 0 then none else
    if gR s5 2 (gR s5 8 a0 12) 1 = 0 then none else
    if inb a1 (gL s5 10 (gR s5 2 (gR s5 8 a0 12) 1)) = false then none else
    f_X8_tier_b35 fu s5 (gI s5 10 (gR s5 2 (gR s5 8 a0 12) 1) (ix a1))
def f_X8_tallyStretch_b96 (fu : Nat) (k17 : St → Nat → Nat → Int32 → Int32 → Int32 → Option (St)) (s : St) (l0 : Nat) (l1 : Nat) (l2 : Int32) (l3 : Int32) (l4 : Int32) : Option (St) :=
  lt (l4 + 1 : Int32) fun x27 =>
  k17 s l0 l1 l2 l3 x27
def f_X8_tallyStretch_b71 (fu : Nat) (k17 : St → Nat → Nat → Int32 → Int32 → Int32 → Option (St)) (s : St) (l0 : Nat) (l1 : Nat) (l2 : Int32) (l3 : Int32) (l4 : Int32) (l5 : Int32) (l6 : Int32) : Option (St) :=
  bI (f_J9_max_7cf53 fu s l5 l2) fun s19 x20 =>
  bI (f_J9_min_7cf53 fu s19 l6 l3) fun s21 x22 =>
  if x22 ≤ x20 then
    f_X8_tallyStretch_b96 fu k17 s21 l0 l1 l2 l3 l4
  else
    if l0 = 0 then none else
    if gR s21 8 l0 8 = 0 then none else
    bV (f_X6_add fu s21 (gR s21 8 l0 8) l1 l4) fun s26 =>
    f_X8_tallyStretch_b96 fu k17 s26 l0 l1 l2 l3 l4
def f_X8_tallyStretch_b17 (fu : Nat) : Nat → St → Nat → Nat → Int32 → Int32 → Int32 → Option (St)
  | 0, _, _, _, _, _, _ => none
  | n + 1, s, l0, l1, l2, l3, l4 =>
    if l1 = 0 then none else
    if (gI s 5 l1 8) ≤ l4 then
      some s
    else
      if gR s 5 l1 3 = 0 then none else
      if inb l4 (gL s 10 (gR s 5 l1 3)) = false then none else
      lt (gI s 10 (gR s 5 l1 3) (ix l4) : Int32) fun x10 =>
      bI (f_X5_spanAt fu s l1 l4) fun s11 x12 =>
      lt (x10 + x12 : Int32) fun x13 =>
      if x10 < l2 then
        f_X8_tallyStretch_b71 fu (f_X8_tallyStretch_b17 fu n) s11 l0 l1 l2 l3 l4 x10 x13
      else
        if l3 < x13 then
          f_X8_tallyStretch_b71 fu (f_X8_tallyStretch_b17 fu n) s11 l0 l1 l2 l3 l4 x10 x13
        else
          if l0 = 0 then none else
          if gR s11 8 l0 7 = 0 then none else
          bV (f_X6_add fu s11 (gR s11 8 l0 7) l1 l4) fun s18 =>
          f_X8_tallyStretch_b96 fu (f_X8_tallyStretch_b17 fu n) s18 l0 l1 l2 l3 l4
def f_X8_tallyStretch (fu : Nat) (s : St) (a0 : Nat) (a1 : Nat) (a2 : Int32) (a3 : Int32) : Option (St) :=
  if a0 = 0 then none else
  if gR s 8 a0 7 = 0 then none else
  bV (f_X6_clear fu s (gR s 8 a0 7)) fun s3 =>
  if gR s3 8 a0 8 = 0 then none else
  bV (f_X6_clear fu s3 (gR s3 8 a0 8)) fun s5 =>
  f_X8_tallyStretch_b17 fu fu s5 a0 a1 a2 a3 0
def f_X8_total_b35 (fu : Nat) (s : St) : Option (St × (Nat ⊕ Int64)) :=
  if rmb (nX s) = false then none else
  some (nX s, .inl 2)
def f_X8_total (fu : Nat) (s : St) (a0 : Nat) (a1 : Int32) (a2 : Int32) (a3 : Int32) (a4 : Int32) : Option (St × (Nat ⊕ Int64)) :=
  if a0 = 0 then none else
  bX (f_X8_known fu s a0 a1) (fun s2 e3 => some (s2, .inl e3)) fun s2 x4 =>
  bX (f_X8_needWhat fu s2 a4 6) (fun s5 e6 => some (s5, .inl e6)) fun s5 x7 =>
  bI (f_X8_isTime fu s5 (Int32.toInt64 a2)) fun s8 x9 =>
  if x9 = 0 then
    f_X8_total_b35 fu s8
  else
    bI (f_X8_isTime fu s8 (Int32.toInt64 a3)) fun s11 x12 =>
    if x12 = 0 then
      f_X8_total_b35 fu s11
    else
      if a2 ≤ a3 then
        bV (f_X8_tallyStretch fu s11 a0 x4 a2 a3) fun s15 =>
        if a4 = 4 then
          if gR s15 8 a0 8 = 0 then none else
          some (s15, .inr (Int32.toInt64 (gI s15 6 (gR s15 8 a0 8) 1)))
        else
        if a4 = 5 then
          if gR s15 8 a0 7 = 0 then none else
          some (s15, .inr (Int32.toInt64 (gI s15 6 (gR s15 8 a0 7) 0)))
        else
        if a4 = 6 then
          if gR s15 8 a0 8 = 0 then none else
          some (s15, .inr (Int32.toInt64 (gI s15 6 (gR s15 8 a0 8) 0)))
        else
        if gR s15 8 a0 7 = 0 then none else
        bI (f_X6_fact fu s15 (gR s15 8 a0 7) a4) fun s23 x24 =>
        some (s23, .inr x24)
      else
        f_X8_total_b35 fu s11
def f_X5_surveyTrend_b111 (fu : Nat) (k33 : St → Nat → Nat → Int32 → Int32 → Option (St)) (s : St) (l0 : Nat) (l2 : Nat) (l3 : Int32) (l4 : Int32) : Option (St) :=
  lt (l4 + 1 : Int32) fun x45 =>
  k33 s l0 l2 l3 x45
def f_X5_surveyTrend_b86 (fu : Nat) (k33 : St → Nat → Nat → Int32 → Int32 → Option (St)) (s : St) (l0 : Nat) (l2 : Nat) (l3 : Int32) (l4 : Int32) (l5 : Int32) (t0 : Int32) (t1 : Int32) (t2 : Int32) (t3 : Nat) : Option (St) :=
  if t3 = 0 then none else
  if inb t2 (gL s 10 t3) = false then none else
  lt (sI s 10 t3 (ix t2) (t1 + t0) : St) fun s34 =>
  if l2 = 0 then none else
  if inb 2 (gL s34 10 l2) = false then none else
  if l5 ≤ (gI s34 10 l2 (ix 2)) then
    f_X5_surveyTrend_b111 fu k33 s34 l0 l2 l3 l4
  else
    if inb 2 (gL s34 10 l2) = false then none else
    lt (sI s34 10 l2 (ix 2) l5 : St) fun s39 =>
    if l0 = 0 then none else
    if gR s39 5 l0 3 = 0 then none else
    if inb l4 (gL s39 10 (gR s39 5 l0 3)) = false then none else
    if inb 3 (gL s39 10 l2) = false then none else
    lt (sI s39 10 l2 (ix 3) (gI s39 10 (gR s39 5 l0 3) (ix l4)) : St) fun s44 =>
    f_X5_surveyTrend_b111 fu k33 s44 l0 l2 l3 l4
def f_X5_surveyTrend_b70 (fu : Nat) (k33 : St → Nat → Nat → Int32 → Int32 → Option (St)) (s : St) (l0 : Nat) (l2 : Nat) (l3 : Int32) (l4 : Int32) (l5 : Int32) (t0 : Int32) (t1 : Int32) (t2 : Int32) (t3 : Nat) : Option (St) :=
  if t3 = 0 then none else
  if inb t2 (gL s 10 t3) = false then none else
  lt (sI s 10 t3 (ix t2) (t1 + t0) : St) fun s28 =>
  if l2 = 0 then none else
  if inb 1 (gL s28 10 l2) = false then none else
  if 0 ≤ l5 then
    f_X5_surveyTrend_b86 fu k33 s28 l0 l2 l3 l4 l5 0 (gI s28 10 l2 (ix 1)) 1 l2
  else
    f_X5_surveyTrend_b86 fu k33 s28 l0 l2 l3 l4 l5 1 (gI s28 10 l2 (ix 1)) 1 l2
def f_X5_surveyTrend_b33 (fu : Nat) : Nat → St → Nat → Nat → Int32 → Int32 → Option (St)
  | 0, _, _, _, _, _ => none
  | n + 1, s, l0, l2, l3, l4 =>
    if l3 ≤ l4 then
      some s
    else
      if l0 = 0 then none else
      bI (f_X5_mean fu s l0 l4) fun s18 x19 =>
      bI (f_X5_mean fu s18 l0 (l4 - 1)) fun s20 x21 =>
      lt (x19 - x21 : Int32) fun x22 =>
      if l2 = 0 then none else
      if inb 0 (gL s20 10 l2) = false then none else
      if x22 ≤ 0 then
        f_X5_surveyTrend_b70 fu (f_X5_surveyTrend_b33 fu n) s20 l0 l2 l3 l4 x22 0 (gI s20 10 l2 (ix 0)) 0 l2
      else
        f_X5_surveyTrend_b70 fu (f_X5_surveyTrend_b33 fu n) s20 l0 l2 l3 l4 x22 1 (gI s20 10 l2 (ix 0)) 0 l2
def f_X5_surveyTrend (fu : Nat) (s : St) (a0 : Nat) (a1 : Int32) (a2 : Nat) : Option (St) :=
  if a2 = 0 then none else
  if inb 0 (gL s 10 a2) = false then none else
  lt (sI s 10 a2 (ix 0) 0 : St) fun s3 =>
  if inb 1 (gL s3 10 a2) = false then none else
  lt (sI s3 10 a2 (ix 1) 0 : St) fun s5 =>
  if inb 2 (gL s5 10 a2) = false then none else
  lt (sI s5 10 a2 (ix 2) 0 : St) fun s7 =>
  if inb 3 (gL s7 10 a2) = false then none else
  lt (sI s7 10 a2 (ix 3) ((-20000)) : St) fun s9 =>
  if a0 = 0 then none else
  bI (f_X5_endOf fu s9 a0 a1) fun s11 x12 =>
  bI (f_X5_beginOf fu s11 a0 a1) fun s13 x14 =>
  lt (x14 + 1 : Int32) fun x15 =>
  f_X5_surveyTrend_b33 fu fu s13 a0 a2 x12 x15
def f_X8_trend (fu : Nat) (s : St) (a0 : Nat) (a1 : Int32) (a2 : Int32) (a3 : Int32) : Option (St × (Nat ⊕ Int64)) :=
  if a0 = 0 then none else
  bX (f_X8_known fu s a0 a1) (fun s2 e3 => some (s2, .inl e3)) fun s2 x4 =>
  bX (f_X8_needTier fu s2 a0 a2) (fun s5 e6 => some (s5, .inl e6)) fun s5 x7 =>
  bX (f_X8_needWhat fu s5 a3 3) (fun s8 e9 => some (s8, .inl e9)) fun s8 x10 =>
  if x4 = 0 then none else
  bV (f_X5_surveyTrend fu s8 x4 a2 (gR s8 8 a0 9)) fun s12 =>
  if gR s12 8 a0 9 = 0 then none else
  if inb a3 (gL s12 10 (gR s12 8 a0 9)) = false then none else
  some (s12, .inr (Int32.toInt64 (gI s12 10 (gR s12 8 a0 9) (ix a3))))
def f_X8_multipleFrom (fu : Nat) (s : St) (a0 : Int32) (a1 : Int32) : Option (St × Int32) :=
  bI (f_X8_multipleUpTo fu s (-a0) a1) fun s1 x2 =>
  some (s1, (-x2))
def f_X2_leastHeadPast_b37 (fu : Nat) (k7 : St → Nat → Int32 → Int32 → Option (St × Int32)) (s : St) (l0 : Nat) (l3 : Int32) (l4 : Int32) : Option (St × Int32) :=
  if l0 = 0 then none else
  if gR s 2 l0 1 = 0 then none else
  if inb l4 (gL s 10 (gR s 2 l0 1)) = false then none else
  if gR s 2 l0 0 = 0 then none else
  if inb l4 (gL s 10 (gR s 2 l0 0)) = false then none else
  lt (l3 + ((gI s 10 (gR s 2 l0 1) (ix l4)) * (gI s 10 (gR s 2 l0 0) (ix l4))) : Int32) fun x20 =>
  lt (l4 + (-1) : Int32) fun x21 =>
  k7 s l0 x20 x21
def f_X2_leastHeadPast_b7 (fu : Nat) : Nat → St → Nat → Int32 → Int32 → Option (St × Int32)
  | 0, _, _, _, _ => none
  | n + 1, s, l0, l3, l4 =>
    if l4 < 0 then
      if l0 = 0 then none else
      if gR s 2 l0 0 = 0 then none else
      if inb 0 (gL s 10 (gR s 2 l0 0)) = false then none else
      if inb 0 (gL s 10 (gR s 2 l0 0)) = false then none else
      bI (f_X8_multipleFrom fu s (l3 - (gI s 10 (gR s 2 l0 0) (ix 0))) (gI s 10 (gR s 2 l0 0) (ix 0))) fun s7 x8 =>
      some (s7, x8)
    else
      if l0 = 0 then none else
      if (gI s 2 l0 3) ≤ (l4 + 1) then
        f_X2_leastHeadPast_b37 fu (f_X2_leastHeadPast_b7 fu n) s l0 l3 l4
      else
        if gR s 2 l0 0 = 0 then none else
        if inb (l4 + 1) (gL s 10 (gR s 2 l0 0)) = false then none else
        bI (f_X8_multipleFrom fu s l3 (gI s 10 (gR s 2 l0 0) (ix (l4 + 1)))) fun s13 x14 =>
        f_X2_leastHeadPast_b37 fu (f_X2_leastHeadPast_b7 fu n) s13 l0 x14 l4
def f_X2_leastHeadPast (fu : Nat) (s : St) (a0 : Nat) (a1 : Int32) (a2 : Int32) : Option (St × Int32) :=
  lt (a2 + 1 : Int32) fun x1 =>
  f_X2_leastHeadPast_b7 fu fu s a0 x1 a1
def f_X8_until_b67 (fu : Nat) (s : St) (t0 : Int32) : Option (St × (Nat ⊕ Int32)) :=
  some (s, .inr t0)
def f_X8_until (fu : Nat) (s : St) (a0 : Nat) (a1 : Int32) (a2 : Int32) (a3 : Int32) : Option (St × (Nat ⊕ Int32)) :=
  if a0 = 0 then none else
  bX (f_X8_known fu s a0 a1) (fun s2 e3 => some (s2, .inl e3)) fun s2 x4 =>
  bX (f_X8_needTier fu s2 a0 a2) (fun s5 e6 => some (s5, .inl e6)) fun s5 x7 =>
  bI (f_X8_isTime fu s5 (Int32.toInt64 a3)) fun s8 x9 =>
  if x9 = 0 then
    if rmb (nX s8) = false then none else
    some (nX s8, .inl 2)
  else
    if gR s8 8 a0 4 = 0 then none else
    if gR s8 4 (gR s8 8 a0 4) 1 = 0 then none else
    if inb a1 (gL s8 10 (gR s8 4 (gR s8 8 a0 4) 1)) = false then none else
    if gR s8 8 a0 12 = 0 then none else
    bI (f_X2_leastHeadPast fu s8 (gR s8 8 a0 12) a2 a3) fun s15 x16 =>
    bI (f_J9_max_7cf53 fu s15 (gI s8 10 (gR s8 4 (gR s8 8 a0 4) 1) (ix a1)) x16) fun s17 x18 =>
    if x18 ≤ (1000000 : Int32) then
      f_X8_until_b67 fu s17 x18
    else
      f_X8_until_b67 fu s17 ((-1))
def f_X8_used_b15 (fu : Nat) (s : St) : Option (St × (Nat ⊕ Int32)) :=
  if rmb (nX s) = false then none else
  some (nX s, .inl 1)
def f_X8_used (fu : Nat) (s : St) (a0 : Nat) (a1 : Int32) : Option (St × (Nat ⊕ Int32)) :=
  if a1 < 0 then
    f_X8_used_b15 fu s
  else
    if a0 = 0 then none else
    if gR s 8 a0 4 = 0 then none else
    if a1 < (gI s 4 (gR s 8 a0 4) 2) then
      if gR s 4 (gR s 8 a0 4) 0 = 0 then none else
      if inb a1 (gL s 10 (gR s 4 (gR s 8 a0 4) 0)) = false then none else
      some (s, .inr (gI s 10 (gR s 4 (gR s 8 a0 4) 0) (ix a1)))
    else
      f_X8_used_b15 fu s
def f_X8_why (fu : Nat) (s : St) (a0 : Nat) (a1 : Int32) : Option (St × (Nat ⊕ Int32)) :=
  bX (f_X8_needWhat fu s a1 3) (fun s1 e2 => some (s1, .inl e2)) fun s1 x3 =>
  if a0 = 0 then none else
  if gR s1 8 a0 11 = 0 then none else
  if inb a1 (gL s1 10 (gR s1 8 a0 11)) = false then none else
  some (s1, .inr (gI s1 10 (gR s1 8 a0 11) (ix a1)))
def f_X5_foresee_b135 (fu : Nat) (k26 : St → Nat → Nat → Int32 → Int32 → Int32 → Int32 → Int32 → Option (St)) (s : St) (l0 : Nat) (l2 : Nat) (l3 : Int32) (l4 : Int32) (l5 : Int32) (l6 : Int32) (l7 : Int32) : Option (St) :=
  lt (l7 + 1 : Int32) fun x40 =>
  k26 s l0 l2 l3 l4 l5 l6 x40
def f_X5_foresee_b131 (fu : Nat) (k26 : St → Nat → Nat → Int32 → Int32 → Int32 → Int32 → Int32 → Option (St)) (s : St) (l0 : Nat) (l2 : Nat) (l3 : Int32) (l4 : Int32) (l5 : Int32) (l7 : Int32) (l9 : Int32) : Option (St) :=
  f_X5_foresee_b135 fu k26 s l0 l2 l3 l4 l5 l9 l7
def f_X5_foresee_b128 (fu : Nat) (k26 : St → Nat → Nat → Int32 → Int32 → Int32 → Int32 → Int32 → Option (St)) (s : St) (l0 : Nat) (l2 : Nat) (l3 : Int32) (l4 : Int32) (l5 : Int32) (l7 : Int32) (l9 : Int32) : Option (St) :=
  lt (l3 + 1 : Int32) fun x39 =>
  f_X5_foresee_b131 fu k26 s l0 l2 x39 l4 l5 l7 l9
def f_X5_foresee_b74 (fu : Nat) (k26 : St → Nat → Nat → Int32 → Int32 → Int32 → Int32 → Int32 → Option (St)) (s : St) (l0 : Nat) (l2 : Nat) (l3 : Int32) (l4 : Int32) (l5 : Int32) (l6 : Int32) (l7 : Int32) (l8 : Int32) : Option (St) :=
  if l8 = ((-1) : Int32) then
    if l0 = 0 then none else
    if gR s 5 l0 4 = 0 then none else
    if inb l7 (gL s 10 (gR s 5 l0 4)) = false then none else
    lt (l4 + (gI s 10 (gR s 5 l0 4) (ix l7)) : Int32) fun x38 =>
    f_X5_foresee_b135 fu k26 s l0 l2 l3 x38 l5 l6 l7
  else
    if l0 = 0 then none else
    if gR s 5 l0 3 = 0 then none else
    if inb l7 (gL s 10 (gR s 5 l0 3)) = false then none else
    if gR s 5 l0 0 = 0 then none else
    if gR s 2 (gR s 5 l0 0) 0 = 0 then none else
    if inb l8 (gL s 10 (gR s 2 (gR s 5 l0 0) 0)) = false then none else
    bI (f_X8_multipleUpTo fu s (gI s 10 (gR s 5 l0 3) (ix l7)) (gI s 10 (gR s 2 (gR s 5 l0 0) 0) (ix l8))) fun s31 x32 =>
    if l3 = 0 then
      f_X5_foresee_b128 fu k26 s31 l0 l2 l3 l4 l5 l7 x32
    else
      if x32 = l6 then
        f_X5_foresee_b131 fu k26 s31 l0 l2 l3 l4 l5 l7 x32
      else
        f_X5_foresee_b128 fu k26 s31 l0 l2 l3 l4 l5 l7 x32
def f_X5_foresee_b26 (fu : Nat) : Nat → St → Nat → Nat → Int32 → Int32 → Int32 → Int32 → Int32 → Option (St)
  | 0, _, _, _, _, _, _, _, _ => none
  | n + 1, s, l0, l2, l3, l4, l5, l6, l7 =>
    if l0 = 0 then none else
    if (gI s 5 l0 8) ≤ l7 then
      if l2 = 0 then none else
      if inb 0 (gL s 10 l2) = false then none else
      lt (sI s 10 l2 (ix 0) l3 : St) fun s8 =>
      if inb 1 (gL s8 10 l2) = false then none else
      lt (sI s8 10 l2 (ix 1) l4 : St) fun s10 =>
      if inb 2 (gL s10 10 l2) = false then none else
      lt (sI s10 10 l2 (ix 2) l5 : St) fun s12 =>
      some s12
    else
      if gR s 5 l0 3 = 0 then none else
      if inb l7 (gL s 10 (gR s 5 l0 3)) = false then none else
      if gR s 5 l0 0 = 0 then none else
      bI (f_X2_tierUnder fu s (gR s 5 l0 0) (gR s 5 l0 2) (gI s 10 (gR s 5 l0 3) (ix l7))) fun s16 x17 =>
      if gR s16 5 l0 3 = 0 then none else
      if inb l7 (gL s16 10 (gR s16 5 l0 3)) = false then none else
      bI (f_X5_tierOf fu s16 l0 (gI s16 10 (gR s16 5 l0 3) (ix l7))) fun s20 x21 =>
      if x17 = x21 then
        f_X5_foresee_b74 fu (f_X5_foresee_b26 fu n) s20 l0 l2 l3 l4 l5 l6 l7 x17
      else
        lt (l5 + 1 : Int32) fun x23 =>
        f_X5_foresee_b74 fu (f_X5_foresee_b26 fu n) s20 l0 l2 l3 l4 x23 l6 l7 x17
def f_X5_foresee (fu : Nat) (s : St) (a0 : Nat) (a1 : Int32) (a2 : Nat) : Option (St) :=
  if a0 = 0 then none else
  if gR s 5 a0 0 = 0 then none else
  bV (f_X2_findSeams fu s (gR s 5 a0 0) a1 (gR s 5 a0 2)) fun s3 =>
  f_X5_foresee_b26 fu fu s3 a0 a2 0 0 0 0 0
def f_X8_would (fu : Nat) (s : St) (a0 : Nat) (a1 : Int32) (a2 : Int32) (a3 : Int32) : Option (St × (Nat ⊕ Int32)) :=
  if a0 = 0 then none else
  bX (f_X8_known fu s a0 a1) (fun s2 e3 => some (s2, .inl e3)) fun s2 x4 =>
  bX (f_X8_needWhat fu s2 a3 2) (fun s5 e6 => some (s5, .inl e6)) fun s5 x7 =>
  bI (f_X8_isTime fu s5 (Int32.toInt64 a2)) fun s8 x9 =>
  if x9 = 0 then
    if rmb (nX s8) = false then none else
    some (nX s8, .inl 2)
  else
    if gR s8 8 a0 4 = 0 then none else
    if gR s8 4 (gR s8 8 a0 4) 1 = 0 then none else
    if inb a1 (gL s8 10 (gR s8 4 (gR s8 8 a0 4) 1)) = false then none else
    bI (f_J9_max_7cf53 fu s8 a2 (gI s8 10 (gR s8 4 (gR s8 8 a0 4) 1) (ix a1))) fun s14 x15 =>
    if x4 = 0 then none else
    bV (f_X5_foresee fu s14 x4 x15 (gR s14 8 a0 9)) fun s17 =>
    if gR s17 8 a0 9 = 0 then none else
    if inb a3 (gL s17 10 (gR s17 8 a0 9)) = false then none else
    some (s17, .inr (gI s17 10 (gR s17 8 a0 9) (ix a3)))
