def f_X9_usual (fu : Nat) (s : St) (a0 : Nat) (a1 : Nat) : Option (St) :=
  if a0 = 0 then none else
  if inb 0 (gL s 10 a0) = false then none else
  lt (sI s 10 a0 (ix 0) 10 : St) fun s3 =>
  if inb 1 (gL s3 10 a0) = false then none else
  lt (sI s3 10 a0 (ix 1) 60 : St) fun s5 =>
  if inb 2 (gL s5 10 a0) = false then none else
  lt (sI s5 10 a0 (ix 2) 300 : St) fun s7 =>
  if a1 = 0 then none else
  if inb 0 (gL s7 10 a1) = false then none else
  lt (sI s7 10 a1 (ix 0) 6 : St) fun s10 =>
  if inb 1 (gL s10 10 a1) = false then none else
  lt (sI s10 10 a1 (ix 1) 5 : St) fun s12 =>
  if inb 2 (gL s12 10 a1) = false then none else
  lt (sI s12 10 a1 (ix 2) 4 : St) fun s14 =>
  some s14
def f_X9_init (fu : Nat) (s : St) (a0 : Nat) : Option (St) :=
  if a0 = 0 then none else
  if szb 6 = false then none else
  lt (nW s 15 (ix 6) (ix 6) : St) fun s3 =>
  if rmb s3 = false then none else
  if inb 0 (gL s3 15 (gN s 15 + 1)) = false then none else
  lt (sR s3 15 (gN s 15 + 1) (ix 0) 25 : St) fun s6 =>
  if inb 1 (gL s6 15 (gN s 15 + 1)) = false then none else
  lt (sR s6 15 (gN s 15 + 1) (ix 1) 26 : St) fun s8 =>
  if inb 2 (gL s8 15 (gN s 15 + 1)) = false then none else
  lt (sR s8 15 (gN s 15 + 1) (ix 2) 27 : St) fun s10 =>
  if inb 3 (gL s10 15 (gN s 15 + 1)) = false then none else
  lt (sR s10 15 (gN s 15 + 1) (ix 3) 28 : St) fun s12 =>
  if inb 4 (gL s12 15 (gN s 15 + 1)) = false then none else
  lt (sR s12 15 (gN s 15 + 1) (ix 4) 29 : St) fun s14 =>
  if inb 5 (gL s14 15 (gN s 15 + 1)) = false then none else
  lt (sR s14 15 (gN s 15 + 1) (ix 5) 30 : St) fun s16 =>
  lt (sR s16 9 a0 0 (gN s 15 + 1) : St) fun s17 =>
  if szb 3 = false then none else
  lt (nW s17 15 (ix 3) (ix 3) : St) fun s19 =>
  if rmb s19 = false then none else
  if inb 0 (gL s19 15 (gN s17 15 + 1)) = false then none else
  lt (sR s19 15 (gN s17 15 + 1) (ix 0) 30 : St) fun s22 =>
  if inb 1 (gL s22 15 (gN s17 15 + 1)) = false then none else
  lt (sR s22 15 (gN s17 15 + 1) (ix 1) 31 : St) fun s24 =>
  if inb 2 (gL s24 15 (gN s17 15 + 1)) = false then none else
  lt (sR s24 15 (gN s17 15 + 1) (ix 2) 32 : St) fun s26 =>
  lt (sR s26 9 a0 1 (gN s17 15 + 1) : St) fun s27 =>
  if szb 3 = false then none else
  lt (nW s27 15 (ix 3) (ix 3) : St) fun s29 =>
  if rmb s29 = false then none else
  if inb 0 (gL s29 15 (gN s27 15 + 1)) = false then none else
  lt (sR s29 15 (gN s27 15 + 1) (ix 0) 33 : St) fun s32 =>
  if inb 1 (gL s32 15 (gN s27 15 + 1)) = false then none else
  lt (sR s32 15 (gN s27 15 + 1) (ix 1) 34 : St) fun s34 =>
  if inb 2 (gL s34 15 (gN s27 15 + 1)) = false then none else
  lt (sR s34 15 (gN s27 15 + 1) (ix 2) 35 : St) fun s36 =>
  lt (sR s36 9 a0 2 (gN s27 15 + 1) : St) fun s37 =>
  if szb 4 = false then none else
  lt (nW s37 10 (ix 4) (ix 4) : St) fun s39 =>
  if rmb s39 = false then none else
  lt (sR s39 9 a0 4 (gN s37 10 + 1) : St) fun s41 =>
  if szb 4 = false then none else
  lt (nW s41 10 (ix 4) (ix 4) : St) fun s43 =>
  if rmb s43 = false then none else
  lt (sR s43 9 a0 5 (gN s41 10 + 1) : St) fun s45 =>
  if szb 1300 = false then none else
  lt (nW s45 10 (ix 1300) (ix 1300) : St) fun s47 =>
  if rmb s47 = false then none else
  lt (sR s47 9 a0 6 (gN s45 10 + 1) : St) fun s49 =>
  lt (sI s49 9 a0 8 4 : St) fun s50 =>
  if szb 10 = false then none else
  lt (nW s50 13 (ix 10) (ix 10) : St) fun s52 =>
  if rmb s52 = false then none else
  lt (sR s52 9 a0 10 (gN s50 13 + 1) : St) fun s54 =>
  if szb 10 = false then none else
  lt (nW s54 10 (ix 10) (ix 10) : St) fun s56 =>
  if rmb s56 = false then none else
  lt (sR s56 9 a0 11 (gN s54 10 + 1) : St) fun s58 =>
  if szb 10 = false then none else
  lt (nW s58 10 (ix 10) (ix 10) : St) fun s60 =>
  if rmb s60 = false then none else
  lt (sR s60 9 a0 12 (gN s58 10 + 1) : St) fun s62 =>
  if szb 10 = false then none else
  lt (nW s62 10 (ix 10) (ix 10) : St) fun s64 =>
  if rmb s64 = false then none else
  lt (sR s64 9 a0 13 (gN s62 10 + 1) : St) fun s66 =>
  if szb 10 = false then none else
  lt (nW s66 10 (ix 10) (ix 10) : St) fun s68 =>
  if rmb s68 = false then none else
  lt (sR s68 9 a0 14 (gN s66 10 + 1) : St) fun s70 =>
  if szb 512 = false then none else
  lt (nW s70 10 (ix 512) (ix 512) : St) fun s72 =>
  if rmb s72 = false then none else
  lt (sR s72 9 a0 19 (gN s70 10 + 1) : St) fun s74 =>
  if szb 512 = false then none else
  lt (nW s74 10 (ix 512) (ix 512) : St) fun s76 =>
  if rmb s76 = false then none else
  lt (sR s76 9 a0 20 (gN s74 10 + 1) : St) fun s78 =>
  if szb 512 = false then none else
  lt (nW s78 10 (ix 512) (ix 512) : St) fun s80 =>
  if rmb s80 = false then none else
  lt (sR s80 9 a0 21 (gN s78 10 + 1) : St) fun s82 =>
  if szb 600 = false then none else
  lt (nW s82 10 (ix 600) (ix 600) : St) fun s84 =>
  if rmb s84 = false then none else
  lt (sR s84 9 a0 23 (gN s82 10 + 1) : St) fun s86 =>
  lt (sI s86 9 a0 33 ((-1)) : St) fun s87 =>
  if szb 4 = false then none else
  lt (nW s87 10 (ix 4) (ix 4) : St) fun s89 =>
  if rmb s89 = false then none else
  lt (sR s89 9 a0 34 (gN s87 10 + 1) : St) fun s91 =>
  if szb 4 = false then none else
  lt (nW s91 10 (ix 4) (ix 4) : St) fun s93 =>
  if rmb s93 = false then none else
  lt (sR s93 9 a0 35 (gN s91 10 + 1) : St) fun s95 =>
  if szb 1300 = false then none else
  lt (nW s95 10 (ix 1300) (ix 1300) : St) fun s97 =>
  if rmb s97 = false then none else
  lt (sR s97 9 a0 36 (gN s95 10 + 1) : St) fun s99 =>
  lt (sI s99 9 a0 42 ((-1)) : St) fun s100 =>
  lt (sI s100 9 a0 43 ((-1)) : St) fun s101 =>
  if szb 800 = false then none else
  lt (nW s101 10 (ix 800) (ix 800) : St) fun s103 =>
  if rmb s103 = false then none else
  lt (sR s103 9 a0 44 (gN s101 10 + 1) : St) fun s105 =>
  if szb 512 = false then none else
  lt (nW s105 10 (ix 512) (ix 512) : St) fun s107 =>
  if rmb s107 = false then none else
  lt (sR s107 9 a0 46 (gN s105 10 + 1) : St) fun s109 =>
  if szb 512 = false then none else
  lt (nW s109 10 (ix 512) (ix 512) : St) fun s111 =>
  if rmb s111 = false then none else
  lt (sR s111 9 a0 47 (gN s109 10 + 1) : St) fun s113 =>
  if szb 512 = false then none else
  lt (nW s113 10 (ix 512) (ix 512) : St) fun s115 =>
  if rmb s115 = false then none else
  lt (sR s115 9 a0 48 (gN s113 10 + 1) : St) fun s117 =>
  if szb 10 = false then none else
  lt (nW s117 13 (ix 10) (ix 10) : St) fun s119 =>
  if rmb s119 = false then none else
  lt (sR s119 9 a0 49 (gN s117 13 + 1) : St) fun s121 =>
  if szb 44 = false then none else
  lt (nW s121 10 (ix 44) (ix 44) : St) fun s123 =>
  if rmb s123 = false then none else
  lt (sR s123 9 a0 50 (gN s121 10 + 1) : St) fun s125 =>
  if szb 320 = false then none else
  lt (nW s125 13 (ix 320) (ix 320) : St) fun s127 =>
  if rmb s127 = false then none else
  lt (sR s127 9 a0 64 (gN s125 13 + 1) : St) fun s129 =>
  bV (f_X9_usual fu s129 (gR s129 9 a0 4) (gR s129 9 a0 5)) fun s130 =>
  lt (sI s130 9 a0 7 3 : St) fun s131 =>
  some s131
def f_X9_fail (fu : Nat) (s : St) (a0 : Nat) (a1 : Int32) : Option (St × Int32) :=
  if a0 = 0 then none else
  lt (sI s 9 a0 3 a1 : St) fun s2 =>
  some (s2, 0)
def f_X9_isIn_b18 (fu : Nat) (s : St) (t0 : Int32) : Option (St × Int32) :=
  if zb t0 = false then none else
  some (s, t0)
def f_X9_isIn_b17 (fu : Nat) (s : St) : Option (St × Int32) :=
  f_X9_isIn_b18 fu s 0
def f_X9_isIn (fu : Nat) (s : St) (a0 : Int64) (a1 : Int64) (a2 : Int64) : Option (St × Int32) :=
  if (lg_cmp a0 a1) < 0 then
    f_X9_isIn_b17 fu s
  else
    if 0 < (lg_cmp a0 a2) then
      f_X9_isIn_b17 fu s
    else
      f_X9_isIn_b18 fu s 1
def f_X9_isId (fu : Nat) (s : St) (a0 : Int32) : Option (St × Int32) :=
  bI (f_X9_isIn fu s (Int32.toInt64 a0) 0 9) fun s1 x2 =>
  if zb x2 = false then none else
  some (s1, x2)
def f_X9_isSeries_b21 (fu : Nat) (s : St) (t0 : Int32) : Option (St × Int32) :=
  if zb t0 = false then none else
  some (s, t0)
def f_X9_isSeries_b20 (fu : Nat) (s : St) : Option (St × Int32) :=
  f_X9_isSeries_b21 fu s 0
def f_X9_isSeries (fu : Nat) (s : St) (a0 : Nat) (a1 : Int32) : Option (St × Int32) :=
  bI (f_X9_isId fu s a1) fun s1 x2 =>
  if x2 = 0 then
    f_X9_isSeries_b20 fu s1
  else
    if a0 = 0 then none else
    if gR s1 9 a0 10 = 0 then none else
    if inb a1 (gL s1 13 (gR s1 9 a0 10)) = false then none else
    if (gI s1 13 (gR s1 9 a0 10) (ix a1)) = 0 then
      f_X9_isSeries_b20 fu s1
    else
      f_X9_isSeries_b21 fu s1 1
def f_X9_by_b21 (fu : Nat) (s : St) (t0 : Int64) : Option (St × Int64) :=
  some (s, t0)
def f_X9_by (fu : Nat) (s : St) (a0 : Int64) (a1 : Int64) : Option (St × Int64) :=
  if (lg_cmp a0 0) < 0 then
    if a1 = 0 then none else
    f_X9_by_b21 fu s (-((((-a0) + a1) - 1) / a1))
  else
    if a1 = 0 then none else
    f_X9_by_b21 fu s (a0 / a1)
def f_X9_multiple (fu : Nat) (s : St) (a0 : Int64) (a1 : Int32) : Option (St × Int32) :=
  bI (f_X9_by fu s a0 (Int32.toInt64 a1)) fun s1 x2 =>
  some (s1, (Int64.toInt32 ((Int32.toInt64 a1) * x2)))
def f_X9_seamBy_b91 (fu : Nat) (k5 : St → Nat → Int32 → Int32 → Int64 → Int32 → Option (St × Int32)) (s : St) (l0 : Nat) (l1 : Int32) (l2 : Int32) (l3 : Int64) (l5 : Int32) : Option (St × Int32) :=
  lt (l5 + 1 : Int32) fun x22 =>
  k5 s l0 l1 l2 l3 x22
def f_X9_seamBy_b42 (fu : Nat) (k5 : St → Nat → Int32 → Int32 → Int64 → Int32 → Option (St × Int32)) (s : St) (l0 : Nat) (l1 : Int32) (l2 : Int32) (l5 : Int32) (t0 : Int64) : Option (St × Int32) :=
  if l0 = 0 then none else
  if gR s 9 l0 5 = 0 then none else
  if inb l5 (gL s 10 (gR s 9 l0 5)) = false then none else
  if gR s 9 l0 4 = 0 then none else
  if inb l5 (gL s 10 (gR s 9 l0 4)) = false then none else
  lt ((Int32.toInt64 (gI s 10 (gR s 9 l0 5) (ix l5))) * (Int32.toInt64 (gI s 10 (gR s 9 l0 4) (ix l5))) : Int64) fun x15 =>
  lt (t0 - x15 : Int64) fun x16 =>
  if (gI s 9 l0 7) ≤ (l5 + 1) then
    f_X9_seamBy_b91 fu k5 s l0 l1 l2 x16 l5
  else
    if inb (l5 + 1) (gL s 10 (gR s 9 l0 4)) = false then none else
    bI (f_X9_multiple fu s x16 (gI s 10 (gR s 9 l0 4) (ix (l5 + 1)))) fun s19 x20 =>
    lt (Int32.toInt64 x20 : Int64) fun x21 =>
    f_X9_seamBy_b91 fu k5 s19 l0 l1 l2 x21 l5
def f_X9_seamBy_b5 (fu : Nat) : Nat → St → Nat → Int32 → Int32 → Int64 → Int32 → Option (St × Int32)
  | 0, _, _, _, _, _, _ => none
  | n + 1, s, l0, l1, l2, l3, l5 =>
    if l2 < l5 then
      some (s, (Int64.toInt32 l3))
    else
      if l5 = 0 then
        if l0 = 0 then none else
        if gR s 9 l0 4 = 0 then none else
        if inb 0 (gL s 10 (gR s 9 l0 4)) = false then none else
        bI (f_X9_by fu s (Int32.toInt64 l1) (Int32.toInt64 (gI s 10 (gR s 9 l0 4) (ix 0)))) fun s6 x7 =>
        if gR s6 9 l0 4 = 0 then none else
        if inb 0 (gL s6 10 (gR s6 9 l0 4)) = false then none else
        f_X9_seamBy_b42 fu (f_X9_seamBy_b5 fu n) s6 l0 l1 l2 l5 ((x7 + 1) * (Int32.toInt64 (gI s6 10 (gR s6 9 l0 4) (ix 0))))
      else
        f_X9_seamBy_b42 fu (f_X9_seamBy_b5 fu n) s l0 l1 l2 l5 l3
def f_X9_seamBy (fu : Nat) (s : St) (a0 : Nat) (a1 : Int32) (a2 : Int32) : Option (St × Int32) :=
  f_X9_seamBy_b5 fu fu s a0 a1 a2 0 0
def f_X9_tierBy_b2 (fu : Nat) : Nat → St → Nat → Int32 → Int32 → Int32 → Option (St × Int32)
  | 0, _, _, _, _, _ => none
  | n + 1, s, l0, l1, l2, l3 =>
    if l0 = 0 then none else
    if (gI s 9 l0 7) ≤ l3 then
      some (s, ((-1)))
    else
      bI (f_X9_seamBy fu s l0 l1 l3) fun s3 x4 =>
      if l2 < x4 then
        lt (l3 + 1 : Int32) fun x6 =>
        f_X9_tierBy_b2 fu n s3 l0 l1 l2 x6
      else
        some (s3, l3)
def f_X9_tierBy (fu : Nat) (s : St) (a0 : Nat) (a1 : Int32) (a2 : Int32) : Option (St × Int32) :=
  f_X9_tierBy_b2 fu fu s a0 a1 a2 0
def f_X9_bucketFrom_b187 (fu : Nat) (s : St) (l3 : Int32) : Option (St × Int32) :=
  some (s, l3)
def f_X9_bucketFrom_b80 (fu : Nat) : Nat → St → Nat → Int32 → Int32 → Option (St × Int32)
  | 0, _, _, _, _ => none
  | n + 1, s, l0, l2, l3 =>
    if l0 = 0 then none else
    if (gI s 9 l0 22) ≤ l3 then
      f_X9_bucketFrom_b187 fu s l3
    else
      if gR s 9 l0 19 = 0 then none else
      if inb l3 (gL s 10 (gR s 9 l0 19)) = false then none else
      if (gI s 10 (gR s 9 l0 19) (ix l3)) = l2 then
        if gR s 9 l0 20 = 0 then none else
        if inb l3 (gL s 10 (gR s 9 l0 20)) = false then none else
        if gR s 9 l0 4 = 0 then none else
        if inb (gI s 9 l0 51) (gL s 10 (gR s 9 l0 4)) = false then none else
        if ((gI s 9 l0 52) + (gI s 10 (gR s 9 l0 4) (ix (gI s 9 l0 51)))) ≤ (gI s 10 (gR s 9 l0 20) (ix l3)) then
          f_X9_bucketFrom_b187 fu s l3
        else
          lt (sI s 9 l0 53 ((gI s 9 l0 53) + 1) : St) fun s35 =>
          if gR s35 9 l0 21 = 0 then none else
          if inb l3 (gL s35 10 (gR s35 9 l0 21)) = false then none else
          lt (sJ s35 9 l0 56 ((gJ s35 9 l0 56) + (Int32.toInt64 (gI s35 10 (gR s35 9 l0 21) (ix l3)))) : St) fun s38 =>
          if gR s38 9 l0 21 = 0 then none else
          if inb l3 (gL s38 10 (gR s38 9 l0 21)) = false then none else
          bI (f_J9_min_7cf53 fu s38 (gI s38 9 l0 54) (gI s38 10 (gR s38 9 l0 21) (ix l3))) fun s41 x42 =>
          lt (sI s41 9 l0 54 x42 : St) fun s43 =>
          if gR s43 9 l0 21 = 0 then none else
          if inb l3 (gL s43 10 (gR s43 9 l0 21)) = false then none else
          bI (f_J9_max_7cf53 fu s43 (gI s43 9 l0 55) (gI s43 10 (gR s43 9 l0 21) (ix l3))) fun s46 x47 =>
          lt (sI s46 9 l0 55 x47 : St) fun s48 =>
          lt (l3 + 1 : Int32) fun x49 =>
          f_X9_bucketFrom_b80 fu n s48 l0 l2 x49
      else
        f_X9_bucketFrom_b187 fu s l3
def f_X9_bucketFrom (fu : Nat) (s : St) (a0 : Nat) (a1 : Int32) : Option (St × Int32) :=
  if a0 = 0 then none else
  if gR s 9 a0 19 = 0 then none else
  if inb a1 (gL s 10 (gR s 9 a0 19)) = false then none else
  lt (gI s 10 (gR s 9 a0 19) (ix a1) : Int32) fun x4 =>
  if gR s 9 a0 11 = 0 then none else
  if inb x4 (gL s 10 (gR s 9 a0 11)) = false then none else
  if gR s 9 a0 20 = 0 then none else
  if inb a1 (gL s 10 (gR s 9 a0 20)) = false then none else
  bI (f_X9_tierBy fu s a0 (gI s 10 (gR s 9 a0 11) (ix x4)) (gI s 10 (gR s 9 a0 20) (ix a1))) fun s9 x10 =>
  lt (sI s9 9 a0 51 x10 : St) fun s11 =>
  if gR s11 9 a0 20 = 0 then none else
  if inb a1 (gL s11 10 (gR s11 9 a0 20)) = false then none else
  if gR s11 9 a0 4 = 0 then none else
  if inb (gI s11 9 a0 51) (gL s11 10 (gR s11 9 a0 4)) = false then none else
  bI (f_X9_multiple fu s11 (Int32.toInt64 (gI s11 10 (gR s11 9 a0 20) (ix a1))) (gI s11 10 (gR s11 9 a0 4) (ix (gI s11 9 a0 51)))) fun s16 x17 =>
  lt (sI s16 9 a0 52 x17 : St) fun s18 =>
  lt (sI s18 9 a0 53 0 : St) fun s19 =>
  lt (sJ s19 9 a0 56 0 : St) fun s20 =>
  if gR s20 9 a0 21 = 0 then none else
  if inb a1 (gL s20 10 (gR s20 9 a0 21)) = false then none else
  lt (sI s20 9 a0 54 (gI s20 10 (gR s20 9 a0 21) (ix a1)) : St) fun s23 =>
  lt (sI s23 9 a0 55 (gI s23 9 a0 54) : St) fun s24 =>
  f_X9_bucketFrom_b80 fu fu s24 a0 x4 a1
def f_X9_meanNow (fu : Nat) (s : St) (a0 : Nat) : Option (St × Int32) :=
  if a0 = 0 then none else
  bI (f_X9_by fu s (gJ s 9 a0 56) (Int32.toInt64 (gI s 9 a0 53))) fun s2 x3 =>
  some (s2, (Int64.toInt32 x3))
def f_X9_fieldNow (fu : Nat) (s : St) (a0 : Nat) (a1 : Int32) : Option (St × Int64) :=
  if a1 = 0 then
    if a0 = 0 then none else
    some (s, (Int32.toInt64 (gI s 9 a0 54)))
  else
  if a1 = 1 then
    if a0 = 0 then none else
    some (s, (Int32.toInt64 (gI s 9 a0 55)))
  else
  if a1 = 2 then
    if a0 = 0 then none else
    some (s, (gJ s 9 a0 56))
  else
  if a1 = 3 then
    if a0 = 0 then none else
    some (s, (Int32.toInt64 (gI s 9 a0 53)))
  else
  if a1 = 4 then
    if a0 = 0 then none else
    bI (f_X9_meanNow fu s a0) fun s11 x12 =>
    some (s11, (Int32.toInt64 x12))
  else
  if a0 = 0 then none else
  some (s, (Int32.toInt64 (gI s 9 a0 51)))
def f_X9_isAlarmed_b239 (fu : Nat) (k4 : St → Nat → Int32 → Int32 → Option (St × Int32)) (s : St) (l0 : Nat) (l1 : Int32) (l2 : Int32) : Option (St × Int32) :=
  k4 s l0 l1 l2
def f_X9_isAlarmed_b48 (fu : Nat) (k4 : St → Nat → Int32 → Int32 → Option (St × Int32)) (s : St) (l0 : Nat) (l1 : Int32) (l2 : Int32) (t0 : Int32) (t1 : Int32) (t2 : Nat) : Option (St × Int32) :=
  if t2 = 0 then none else
  if inb t1 (gL s 13 t2) = false then none else
  lt (sI s 13 t2 (ix t1) (vp_nar .boolean t0) : St) fun s29 =>
  lt (l2 + 1 : Int32) fun x30 =>
  f_X9_isAlarmed_b239 fu k4 s29 l0 l1 x30
def f_X9_isAlarmed_b136 (fu : Nat) (k4 : St → Nat → Int32 → Int32 → Option (St × Int32)) (s : St) (l0 : Nat) (l1 : Int32) (l2 : Int32) (t0 : Int32) (t1 : Int32) (t2 : Nat) : Option (St × Int32) :=
  if t2 = 0 then none else
  if inb t1 (gL s 13 t2) = false then none else
  lt (sI s 13 t2 (ix t1) (vp_nar .boolean t0) : St) fun s46 =>
  lt (l2 + 1 : Int32) fun x47 =>
  f_X9_isAlarmed_b239 fu k4 s46 l0 l1 x47
def f_X9_isAlarmed_b107 (fu : Nat) (k4 : St → Nat → Int32 → Int32 → Option (St × Int32)) (s : St) (l0 : Nat) (l1 : Int32) (l2 : Int32) (t0 : Int32) (t1 : Nat) : Option (St × Int32) :=
  f_X9_isAlarmed_b136 fu k4 s l0 l1 l2 0 t0 t1
def f_X9_isAlarmed_b131 (fu : Nat) (k4 : St → Nat → Int32 → Int32 → Option (St × Int32)) (s : St) (l0 : Nat) (l1 : Int32) (l2 : Int32) (t0 : Int32) (t1 : Nat) : Option (St × Int32) :=
  f_X9_isAlarmed_b136 fu k4 s l0 l1 l2 1 t0 t1
def f_X9_isAlarmed_b67 (fu : Nat) (k4 : St → Nat → Int32 → Int32 → Option (St × Int32)) (s : St) (l0 : Nat) (l1 : Int32) (l2 : Int32) (l3 : Int32) : Option (St × Int32) :=
  lt (l1 + (-1) : Int32) fun x31 =>
  if l0 = 0 then none else
  if l3 = (21 : Int32) then
    if gR s 9 l0 64 = 0 then none else
    if inb (x31 - 1) (gL s 13 (gR s 9 l0 64)) = false then none else
    if (gI s 13 (gR s 9 l0 64) (ix (x31 - 1))) = 0 then
      f_X9_isAlarmed_b107 fu k4 s l0 x31 l2 (x31 - 1) (gR s 9 l0 64)
    else
      if inb x31 (gL s 13 (gR s 9 l0 64)) = false then none else
      if (gI s 13 (gR s 9 l0 64) (ix x31)) = 0 then
        f_X9_isAlarmed_b107 fu k4 s l0 x31 l2 (x31 - 1) (gR s 9 l0 64)
      else
        f_X9_isAlarmed_b136 fu k4 s l0 x31 l2 1 (x31 - 1) (gR s 9 l0 64)
  else
    if gR s 9 l0 64 = 0 then none else
    if inb (x31 - 1) (gL s 13 (gR s 9 l0 64)) = false then none else
    if (gI s 13 (gR s 9 l0 64) (ix (x31 - 1))) = 0 then
      if inb x31 (gL s 13 (gR s 9 l0 64)) = false then none else
      if (gI s 13 (gR s 9 l0 64) (ix x31)) = 0 then
        f_X9_isAlarmed_b136 fu k4 s l0 x31 l2 0 (x31 - 1) (gR s 9 l0 64)
      else
        f_X9_isAlarmed_b131 fu k4 s l0 x31 l2 (x31 - 1) (gR s 9 l0 64)
    else
      f_X9_isAlarmed_b131 fu k4 s l0 x31 l2 (x31 - 1) (gR s 9 l0 64)
def f_X9_isAlarmed_b232 (fu : Nat) (k4 : St → Nat → Int32 → Int32 → Option (St × Int32)) (s : St) (l0 : Nat) (l1 : Int32) (l2 : Int32) (t0 : Int32) (t1 : Int32) (t2 : Nat) : Option (St × Int32) :=
  if t2 = 0 then none else
  if inb t1 (gL s 13 t2) = false then none else
  lt (sI s 13 t2 (ix t1) (vp_nar .boolean t0) : St) fun s50 =>
  lt (l1 + 1 : Int32) fun x51 =>
  lt (l2 + 3 : Int32) fun x52 =>
  f_X9_isAlarmed_b239 fu k4 s50 l0 x51 x52
def f_X9_isAlarmed_b263 (fu : Nat) (s : St) (t0 : Int32) : Option (St × Int32) :=
  if zb t0 = false then none else
  some (s, t0)
def f_X9_isAlarmed_b262 (fu : Nat) (s : St) : Option (St × Int32) :=
  f_X9_isAlarmed_b263 fu s 0
def f_X9_isAlarmed_b4 (fu : Nat) : Nat → St → Nat → Int32 → Int32 → Option (St × Int32)
  | 0, _, _, _, _ => none
  | n + 1, s, l0, l1, l2 =>
    if l0 = 0 then none else
    if (gI s 9 l0 9) ≤ l2 then
      if (gI s 9 l0 9) ≤ 0 then
        f_X9_isAlarmed_b262 fu s
      else
        if gR s 9 l0 64 = 0 then none else
        if inb 0 (gL s 13 (gR s 9 l0 64)) = false then none else
        if (gI s 13 (gR s 9 l0 64) (ix 0)) = 0 then
          f_X9_isAlarmed_b262 fu s
        else
          f_X9_isAlarmed_b263 fu s 1
    else
      if gR s 9 l0 6 = 0 then none else
      if inb l2 (gL s 10 (gR s 9 l0 6)) = false then none else
      lt (gI s 10 (gR s 9 l0 6) (ix l2) : Int32) fun x9 =>
      if x9 = (20 : Int32) then
        if gR s 9 l0 64 = 0 then none else
        if inb (l1 - 1) (gL s 13 (gR s 9 l0 64)) = false then none else
        if (gI s 13 (gR s 9 l0 64) (ix (l1 - 1))) = 0 then
          f_X9_isAlarmed_b48 fu (f_X9_isAlarmed_b4 fu n) s l0 l1 l2 1 (l1 - 1) (gR s 9 l0 64)
        else
          f_X9_isAlarmed_b48 fu (f_X9_isAlarmed_b4 fu n) s l0 l1 l2 0 (l1 - 1) (gR s 9 l0 64)
      else
        if x9 = (21 : Int32) then
          f_X9_isAlarmed_b67 fu (f_X9_isAlarmed_b4 fu n) s l0 l1 l2 x9
        else
          if x9 = (22 : Int32) then
            f_X9_isAlarmed_b67 fu (f_X9_isAlarmed_b4 fu n) s l0 l1 l2 x9
          else
            if inb (l2 + 1) (gL s 10 (gR s 9 l0 6)) = false then none else
            bI (f_X9_fieldNow fu s l0 (gI s 10 (gR s 9 l0 6) (ix (l2 + 1)))) fun s14 x15 =>
            if gR s14 9 l0 6 = 0 then none else
            if inb (l2 + 2) (gL s14 10 (gR s14 9 l0 6)) = false then none else
            lt (gI s14 10 (gR s14 9 l0 6) (ix (l2 + 2)) : Int32) fun x18 =>
            if x9 = (10 : Int32) then
              if 0 ≤ (lg_cmp x15 (Int32.toInt64 x18)) then
                f_X9_isAlarmed_b232 fu (f_X9_isAlarmed_b4 fu n) s14 l0 l1 l2 0 l1 (gR s14 9 l0 64)
              else
                f_X9_isAlarmed_b232 fu (f_X9_isAlarmed_b4 fu n) s14 l0 l1 l2 1 l1 (gR s14 9 l0 64)
            else
              if x9 = (11 : Int32) then
                if (lg_cmp x15 (Int32.toInt64 x18)) = 0 then
                  f_X9_isAlarmed_b232 fu (f_X9_isAlarmed_b4 fu n) s14 l0 l1 l2 1 l1 (gR s14 9 l0 64)
                else
                  f_X9_isAlarmed_b232 fu (f_X9_isAlarmed_b4 fu n) s14 l0 l1 l2 0 l1 (gR s14 9 l0 64)
              else
                if (lg_cmp x15 (Int32.toInt64 x18)) ≤ 0 then
                  f_X9_isAlarmed_b232 fu (f_X9_isAlarmed_b4 fu n) s14 l0 l1 l2 0 l1 (gR s14 9 l0 64)
                else
                  f_X9_isAlarmed_b232 fu (f_X9_isAlarmed_b4 fu n) s14 l0 l1 l2 1 l1 (gR s14 9 l0 64)
def f_X9_isAlarmed (fu : Nat) (s : St) (a0 : Nat) : Option (St × Int32) :=
  f_X9_isAlarmed_b4 fu fu s a0 0 0
def f_X9_placeOf_b95 (fu : Nat) (k9 : St → Nat → Int32 → Int64 → Int32 → Int32 → Option (St × Int32)) (s : St) (l0 : Nat) (l1 : Int32) (l2 : Int64) (l4 : Int32) (t0 : Int32) : Option (St × Int32) :=
  k9 s l0 l1 l2 l4 t0
def f_X9_placeOf_b81 (fu : Nat) (k9 : St → Nat → Int32 → Int64 → Int32 → Int32 → Option (St × Int32)) (s : St) (l0 : Nat) (l1 : Int32) (l2 : Int64) (l5 : Int32) (l6 : Int32) (l7 : Int32) (t0 : Int32) : Option (St × Int32) :=
  if l7 = 0 then
    f_X9_placeOf_b95 fu k9 s l0 l1 l2 t0 l6
  else
    f_X9_placeOf_b95 fu k9 s l0 l1 l2 t0 l5
def f_X9_placeOf_b65 (fu : Nat) (k9 : St → Nat → Int32 → Int64 → Int32 → Int32 → Option (St × Int32)) (s : St) (l0 : Nat) (l1 : Int32) (l2 : Int64) (l4 : Int32) (l5 : Int32) (l6 : Int32) (t0 : Int32) : Option (St × Int32) :=
  if t0 = 0 then
    f_X9_placeOf_b81 fu k9 s l0 l1 l2 l5 l6 t0 l4
  else
    f_X9_placeOf_b81 fu k9 s l0 l1 l2 l5 l6 t0 (l6 + 1)
def f_X9_placeOf_b60 (fu : Nat) (k9 : St → Nat → Int32 → Int64 → Int32 → Int32 → Option (St × Int32)) (s : St) (l0 : Nat) (l1 : Int32) (l2 : Int64) (l4 : Int32) (l5 : Int32) (l6 : Int32) : Option (St × Int32) :=
  f_X9_placeOf_b65 fu k9 s l0 l1 l2 l4 l5 l6 1
def f_X9_placeOf_b64 (fu : Nat) (k9 : St → Nat → Int32 → Int64 → Int32 → Int32 → Option (St × Int32)) (s : St) (l0 : Nat) (l1 : Int32) (l2 : Int64) (l4 : Int32) (l5 : Int32) (l6 : Int32) : Option (St × Int32) :=
  f_X9_placeOf_b65 fu k9 s l0 l1 l2 l4 l5 l6 0
def f_X9_placeOf_b9 (fu : Nat) : Nat → St → Nat → Int32 → Int64 → Int32 → Int32 → Option (St × Int32)
  | 0, _, _, _, _, _, _ => none
  | n + 1, s, l0, l1, l2, l4, l5 =>
    if l5 ≤ l4 then
      some (s, l4)
    else
      lt ((l4 + l5) / 2 : Int32) fun x5 =>
      if l0 = 0 then none else
      if gR s 9 l0 19 = 0 then none else
      if inb x5 (gL s 10 (gR s 9 l0 19)) = false then none else
      if (gI s 10 (gR s 9 l0 19) (ix x5)) < l1 then
        f_X9_placeOf_b60 fu (f_X9_placeOf_b9 fu n) s l0 l1 l2 l4 l5 x5
      else
        if inb x5 (gL s 10 (gR s 9 l0 19)) = false then none else
        if (gI s 10 (gR s 9 l0 19) (ix x5)) = l1 then
          if gR s 9 l0 20 = 0 then none else
          if inb x5 (gL s 10 (gR s 9 l0 20)) = false then none else
          if 0 ≤ (lg_cmp (Int32.toInt64 (gI s 10 (gR s 9 l0 20) (ix x5))) l2) then
            f_X9_placeOf_b64 fu (f_X9_placeOf_b9 fu n) s l0 l1 l2 l4 l5 x5
          else
            f_X9_placeOf_b60 fu (f_X9_placeOf_b9 fu n) s l0 l1 l2 l4 l5 x5
        else
          f_X9_placeOf_b64 fu (f_X9_placeOf_b9 fu n) s l0 l1 l2 l4 l5 x5
def f_X9_placeOf (fu : Nat) (s : St) (a0 : Nat) (a1 : Int32) (a2 : Int64) : Option (St × Int32) :=
  if a0 = 0 then none else
  lt (gI s 9 a0 22 : Int32) fun x2 =>
  f_X9_placeOf_b9 fu fu s a0 a1 a2 0 x2
def f_X9_tierFrom (fu : Nat) (s : St) (a0 : Nat) (a1 : Int32) (a2 : Int32) : Option (St × Int32) :=
  if a0 = 0 then none else
  if gR s 9 a0 11 = 0 then none else
  if inb a1 (gL s 10 (gR s 9 a0 11)) = false then none else
  bI (f_X9_seamBy fu s a0 (gI s 10 (gR s 9 a0 11) (ix a1)) a2) fun s4 x5 =>
  bI (f_X9_placeOf fu s4 a0 a1 (Int32.toInt64 x5)) fun s6 x7 =>
  some (s6, x7)
def f_X9_behindOf (fu : Nat) (s : St) (a0 : Nat) (a1 : Int32) : Option (St × Int32) :=
  if a0 = 0 then none else
  bI (f_X9_placeOf fu s a0 a1 200000000) fun s2 x3 =>
  some (s2, x3)
def f_X9_tierTo_b31 (fu : Nat) (s : St) (t0 : Int32) : Option (St × Int32) :=
  some (s, t0)
def f_X9_tierTo (fu : Nat) (s : St) (a0 : Nat) (a1 : Int32) (a2 : Int32) : Option (St × Int32) :=
  if a2 = 0 then
    if a0 = 0 then none else
    bI (f_X9_behindOf fu s a0 a1) fun s10 x11 =>
    f_X9_tierTo_b31 fu s10 x11
  else
    if a0 = 0 then none else
    if gR s 9 a0 11 = 0 then none else
    if inb a1 (gL s 10 (gR s 9 a0 11)) = false then none else
    bI (f_X9_seamBy fu s a0 (gI s 10 (gR s 9 a0 11) (ix a1)) (a2 - 1)) fun s5 x6 =>
    bI (f_X9_placeOf fu s5 a0 a1 (Int32.toInt64 x6)) fun s7 x8 =>
    f_X9_tierTo_b31 fu s7 x8
def f_X9_tellAlarms_b151 (fu : Nat) (k31 : St → Nat → Int32 → Int32 → Option (St)) (k58 : St → Nat → Int32 → Int32 → Int32 → Int32 → Int32 → Int32 → Option (St)) (s : St) (l0 : Nat) (l1 : Int32) (l2 : Int32) (l3 : Int32) (l4 : Int32) (l5 : Int32) (l6 : Int32) (t0 : Int32) (t1 : Nat) : Option (St) :=
  if t1 = 0 then none else
  lt (sI s 9 t1 66 t0 : St) fun s30 =>
  if l0 = 0 then none else
  lt (sI s30 9 l0 65 ((gI s30 9 l0 65) + 1) : St) fun s32 =>
  if (gI s32 9 l0 67) < l4 then
    lt (sI s32 9 l0 67 l4 : St) fun s34 =>
    if gR s34 9 l0 4 = 0 then none else
    if inb l2 (gL s34 10 (gR s34 9 l0 4)) = false then none else
    lt (sI s34 9 l0 68 (l5 - (l4 * (gI s34 10 (gR s34 9 l0 4) (ix l2)))) : St) fun s37 =>
    k58 s37 l0 l1 l2 l3 l4 l5 l6
  else
    k58 s32 l0 l1 l2 l3 l4 l5 l6
def f_X9_tellAlarms_b109 (fu : Nat) (k31 : St → Nat → Int32 → Int32 → Option (St)) (k58 : St → Nat → Int32 → Int32 → Int32 → Int32 → Int32 → Int32 → Option (St)) (s : St) (l0 : Nat) (l1 : Int32) (l2 : Int32) (l3 : Int32) (l6 : Int32) (l7 : Int32) (t0 : Int32) : Option (St) :=
  if l0 = 0 then none else
  if gR s 9 l0 4 = 0 then none else
  if inb l2 (gL s 10 (gR s 9 l0 4)) = false then none else
  lt ((gI s 9 l0 52) + (gI s 10 (gR s 9 l0 4) (ix l2)) : Int32) fun x26 =>
  if l7 = 0 then
    k58 s l0 l1 l2 l3 t0 x26 l6
  else
    if (gI s 9 l0 65) = 0 then
      f_X9_tellAlarms_b151 fu k31 k58 s l0 l1 l2 l3 t0 x26 l6 (gI s 9 l0 52) l0
    else
      f_X9_tellAlarms_b151 fu k31 k58 s l0 l1 l2 l3 t0 x26 l6 (gI s 9 l0 66) l0
def f_X9_tellAlarms_b108 (fu : Nat) (k31 : St → Nat → Int32 → Int32 → Option (St)) (k58 : St → Nat → Int32 → Int32 → Int32 → Int32 → Int32 → Int32 → Option (St)) (s : St) (l0 : Nat) (l1 : Int32) (l2 : Int32) (l3 : Int32) (l6 : Int32) (l7 : Int32) : Option (St) :=
  f_X9_tellAlarms_b109 fu k31 k58 s l0 l1 l2 l3 l6 l7 1
def f_X9_tellAlarms_b58 (fu : Nat) (k31 : St → Nat → Int32 → Int32 → Option (St)) : Nat → St → Nat → Int32 → Int32 → Int32 → Int32 → Int32 → Int32 → Option (St)
  | 0, _, _, _, _, _, _, _, _ => none
  | n + 1, s, l0, l1, l2, l3, l4, l5, l6 =>
    if l3 ≤ l6 then
      lt (l2 + (-1) : Int32) fun x14 =>
      k31 s l0 l1 x14
    else
      if l0 = 0 then none else
      bI (f_X9_bucketFrom fu s l0 l6) fun s16 x17 =>
      bI (f_X9_isAlarmed fu s16 l0) fun s18 x19 =>
      if x19 = 0 then
        f_X9_tellAlarms_b109 fu k31 (f_X9_tellAlarms_b58 fu k31 n) s18 l0 l1 l2 l3 x17 x19 0
      else
        if l4 ≤ 0 then
          f_X9_tellAlarms_b108 fu k31 (f_X9_tellAlarms_b58 fu k31 n) s18 l0 l1 l2 l3 x17 x19
        else
          if (gI s18 9 l0 52) = l5 then
            f_X9_tellAlarms_b109 fu k31 (f_X9_tellAlarms_b58 fu k31 n) s18 l0 l1 l2 l3 x17 x19 (l4 + 1)
          else
            f_X9_tellAlarms_b108 fu k31 (f_X9_tellAlarms_b58 fu k31 n) s18 l0 l1 l2 l3 x17 x19
def f_X9_tellAlarms_b31 (fu : Nat) : Nat → St → Nat → Int32 → Int32 → Option (St)
  | 0, _, _, _, _ => none
  | n + 1, s, l0, l1, l2 =>
    if l2 < 0 then
      some s
    else
      if l0 = 0 then none else
      bI (f_X9_tierTo fu s l0 l1 l2) fun s9 x10 =>
      bI (f_X9_tierFrom fu s9 l0 l1 l2) fun s11 x12 =>
      f_X9_tellAlarms_b58 fu (f_X9_tellAlarms_b31 fu n) fu s11 l0 l1 l2 x10 0 ((-20000)) x12
def f_X9_tellAlarms (fu : Nat) (s : St) (a0 : Nat) (a1 : Int32) : Option (St) :=
  if a0 = 0 then none else
  lt (sI s 9 a0 65 0 : St) fun s2 =>
  lt (sI s2 9 a0 66 ((-20000)) : St) fun s3 =>
  lt (sI s3 9 a0 67 0 : St) fun s4 =>
  lt (sI s4 9 a0 68 ((-20000)) : St) fun s5 =>
  lt ((gI s5 9 a0 7) - 1 : Int32) fun x6 =>
  f_X9_tellAlarms_b31 fu fu s5 a0 a1 x6
def f_X9_alarms_b25 (fu : Nat) (s : St) (l0 : Nat) : Option (St × Int32) :=
  if l0 = 0 then none else
  bI (f_X9_fail fu s l0 1) fun s14 x15 =>
  some (s14, x15)
def f_X9_alarms_b75 (fu : Nat) (s : St) (t0 : Int32) : Option (St × Int32) :=
  some (s, t0)
def f_X9_alarms (fu : Nat) (s : St) (a0 : Nat) (a1 : Int32) (a2 : Int32) : Option (St × Int32) :=
  if a0 = 0 then none else
  lt (sI s 9 a0 3 0 : St) fun s2 =>
  bI (f_X9_isSeries fu s2 a0 a1) fun s3 x4 =>
  if x4 = 0 then
    f_X9_alarms_b25 fu s3 a0
  else
    bI (f_X9_isIn fu s3 (Int32.toInt64 a2) 0 3) fun s6 x7 =>
    if x7 = 0 then
      f_X9_alarms_b25 fu s6 a0
    else
      bV (f_X9_tellAlarms fu s6 a0 a1) fun s9 =>
      if a2 = 0 then
        f_X9_alarms_b75 fu s9 (gI s9 9 a0 65)
      else
        if a2 = (1 : Int32) then
          f_X9_alarms_b75 fu s9 (gI s9 9 a0 66)
        else
          if a2 = (2 : Int32) then
            f_X9_alarms_b75 fu s9 (gI s9 9 a0 67)
          else
            f_X9_alarms_b75 fu s9 (gI s9 9 a0 68)
def f_X9_isTime (fu : Nat) (s : St) (a0 : Int64) : Option (St × Int32) :=
  bI (f_X9_isIn fu s a0 ((-1000000)) 1000000) fun s1 x2 =>
  if zb x2 = false then none else
  some (s1, x2)
def f_X9_at_b33 (fu : Nat) (s : St) (l0 : Nat) : Option (St × Int32) :=
  if l0 = 0 then none else
  bI (f_X9_fail fu s l0 1) fun s32 x33 =>
  some (s32, x33)
def f_X9_at_b78 (fu : Nat) (s : St) (t0 : Int32) : Option (St × Int32) :=
  some (s, t0)
def f_X9_at_b138 (fu : Nat) (s : St) (t0 : Int32) : Option (St × Int32) :=
  some (s, t0)
def f_X9_at (fu : Nat) (s : St) (a0 : Nat) (a1 : Int32) (a2 : Int32) (a3 : Int32) : Option (St × Int32) :=
  if a0 = 0 then none else
  lt (sI s 9 a0 3 0 : St) fun s2 =>
  bI (f_X9_isSeries fu s2 a0 a1) fun s3 x4 =>
  if x4 = 0 then
    f_X9_at_b33 fu s3 a0
  else
    bI (f_X9_isTime fu s3 (Int32.toInt64 a2)) fun s6 x7 =>
    if x7 = 0 then
      f_X9_at_b33 fu s6 a0
    else
      bI (f_X9_isIn fu s6 (Int32.toInt64 a3) 0 2) fun s9 x10 =>
      if x10 = 0 then
        f_X9_at_b33 fu s9 a0
      else
        if gR s9 9 a0 11 = 0 then none else
        if inb a1 (gL s9 10 (gR s9 9 a0 11)) = false then none else
        bI (f_X9_tierBy fu s9 a0 (gI s9 10 (gR s9 9 a0 11) (ix a1)) a2) fun s14 x15 =>
        if x15 = ((-1) : Int32) then
          if a3 = 0 then
            f_X9_at_b78 fu s14 ((-1))
          else
            if a3 = (1 : Int32) then
              f_X9_at_b78 fu s14 ((-20000))
            else
              f_X9_at_b78 fu s14 0
        else
          if gR s14 9 a0 4 = 0 then none else
          if inb x15 (gL s14 10 (gR s14 9 a0 4)) = false then none else
          bI (f_X9_multiple fu s14 (Int32.toInt64 a2) (gI s14 10 (gR s14 9 a0 4) (ix x15))) fun s19 x20 =>
          if a3 = 0 then
            f_X9_at_b138 fu s19 x15
          else
            if a3 = (1 : Int32) then
              f_X9_at_b138 fu s19 x20
            else
              if gR s19 9 a0 4 = 0 then none else
              if inb x15 (gL s19 10 (gR s19 9 a0 4)) = false then none else
              bI (f_X9_placeOf fu s19 a0 a1 ((Int32.toInt64 x20) + (Int32.toInt64 (gI s19 10 (gR s19 9 a0 4) (ix x15))))) fun s25 x26 =>
              bI (f_X9_placeOf fu s25 a0 a1 (Int32.toInt64 x20)) fun s27 x28 =>
              f_X9_at_b138 fu s27 (x26 - x28)
def f_X9_adds_b68 (fu : Nat) (s : St) (l0 : Nat) (t0 : Int32) (t1 : Nat) : Option (St) :=
  if t1 = 0 then none else
  lt (sI s 9 t1 60 t0 : St) fun s13 =>
  if l0 = 0 then none else
  lt (sI s13 9 l0 58 ((gI s13 9 l0 58) + (gI s13 9 l0 53)) : St) fun s15 =>
  lt (sI s15 9 l0 61 ((gI s15 9 l0 61) + 1) : St) fun s16 =>
  some s16
def f_X9_adds_b39 (fu : Nat) (s : St) (l0 : Nat) (t0 : Int32) (t1 : Nat) : Option (St) :=
  if t1 = 0 then none else
  lt (sI s 9 t1 59 t0 : St) fun s7 =>
  if l0 = 0 then none else
  if (gI s7 9 l0 58) = 0 then
    f_X9_adds_b68 fu s7 l0 (gI s7 9 l0 55) l0
  else
    bI (f_J9_max_7cf53 fu s7 (gI s7 9 l0 60) (gI s7 9 l0 55)) fun s10 x11 =>
    f_X9_adds_b68 fu s10 l0 x11 l0
def f_X9_adds (fu : Nat) (s : St) (a0 : Nat) : Option (St) :=
  if a0 = 0 then none else
  lt (sJ s 9 a0 57 ((gJ s 9 a0 57) + (gJ s 9 a0 56)) : St) fun s2 =>
  if (gI s2 9 a0 58) = 0 then
    f_X9_adds_b39 fu s2 a0 (gI s2 9 a0 54) a0
  else
    bI (f_J9_min_7cf53 fu s2 (gI s2 9 a0 59) (gI s2 9 a0 54)) fun s4 x5 =>
    f_X9_adds_b39 fu s4 a0 x5 a0
def f_X9_clears (fu : Nat) (s : St) (a0 : Nat) : Option (St) :=
  if a0 = 0 then none else
  lt (sJ s 9 a0 57 0 : St) fun s2 =>
  lt (sI s2 9 a0 58 0 : St) fun s3 =>
  lt (sI s3 9 a0 59 ((-20000)) : St) fun s4 =>
  lt (sI s4 9 a0 60 ((-20000)) : St) fun s5 =>
  lt (sI s5 9 a0 61 0 : St) fun s6 =>
  some s6
def f_X9_bar_b26 (fu : Nat) (s : St) (l0 : Nat) : Option (St × Int64) :=
  if l0 = 0 then none else
  bI (f_X9_fail fu s l0 1) fun s27 x28 =>
  some (s27, (Int32.toInt64 x28))
def f_X9_bar_b69 (fu : Nat) (s : St) (l0 : Nat) : Option (St × Int64) :=
  if l0 = 0 then none else
  bI (f_X9_fail fu s l0 2) fun s30 x31 =>
  some (s30, (Int32.toInt64 x31))
def f_X9_bar_b178 (fu : Nat) (s : St) (t0 : Int64) : Option (St × Int64) :=
  some (s, t0)
def f_X9_bar_b111 (fu : Nat) : Nat → St → Nat → Int32 → Int32 → Int32 → Option (St × Int64)
  | 0, _, _, _, _, _ => none
  | n + 1, s, l0, l4, l6, l7 =>
    if l6 ≤ l7 then
      if l4 = 0 then
        if l0 = 0 then none else
        f_X9_bar_b178 fu s (Int32.toInt64 (gI s 9 l0 58))
      else
        if l4 = (1 : Int32) then
          if l0 = 0 then none else
          f_X9_bar_b178 fu s (gJ s 9 l0 57)
        else
          if l4 = (2 : Int32) then
            if l0 = 0 then none else
            f_X9_bar_b178 fu s (Int32.toInt64 (gI s 9 l0 59))
          else
            if l0 = 0 then none else
            f_X9_bar_b178 fu s (Int32.toInt64 (gI s 9 l0 60))
    else
      if l0 = 0 then none else
      bI (f_X9_bucketFrom fu s l0 l7) fun s41 x42 =>
      bV (f_X9_adds fu s41 l0) fun s43 =>
      f_X9_bar_b111 fu n s43 l0 l4 l6 x42
def f_X9_bar (fu : Nat) (s : St) (a0 : Nat) (a1 : Int32) (a2 : Int32) (a3 : Int32) (a4 : Int32) : Option (St × Int64) :=
  if a0 = 0 then none else
  lt (sI s 9 a0 3 0 : St) fun s2 =>
  bI (f_X9_isSeries fu s2 a0 a1) fun s3 x4 =>
  if x4 = 0 then
    f_X9_bar_b26 fu s3 a0
  else
    bI (f_X9_isIn fu s3 (Int32.toInt64 a4) 0 3) fun s6 x7 =>
    if x7 = 0 then
      f_X9_bar_b26 fu s6 a0
    else
      bI (f_X9_isIn fu s6 (Int32.toInt64 a2) 1 1000000) fun s9 x10 =>
      if x10 = 0 then
        f_X9_bar_b69 fu s9 a0
      else
        if gR s9 9 a0 4 = 0 then none else
        if inb ((gI s9 9 a0 7) - 1) (gL s9 10 (gR s9 9 a0 4)) = false then none else
        if gI s9 10 (gR s9 9 a0 4) (ix ((gI s9 9 a0 7) - 1)) = 0 then none else
        if (a2 - a2 / (gI s9 10 (gR s9 9 a0 4) (ix ((gI s9 9 a0 7) - 1))) * (gI s9 10 (gR s9 9 a0 4) (ix ((gI s9 9 a0 7) - 1)))) = 0 then
          bI (f_X9_isTime fu s9 (Int32.toInt64 a3)) fun s16 x17 =>
          if x17 = 0 then
            f_X9_bar_b69 fu s16 a0
          else
            bI (f_X9_multiple fu s16 (Int32.toInt64 a3) a2) fun s19 x20 =>
            bV (f_X9_clears fu s19 a0) fun s21 =>
            bI (f_X9_placeOf fu s21 a0 a1 ((Int32.toInt64 x20) + (Int32.toInt64 a2))) fun s22 x23 =>
            bI (f_X9_placeOf fu s22 a0 a1 (Int32.toInt64 x20)) fun s24 x25 =>
            f_X9_bar_b111 fu fu s24 a0 a4 x23 x25
        else
          f_X9_bar_b69 fu s9 a0
def f_X9_byteAt_b18 (fu : Nat) (s : St) (t0 : Int32) : Option (St × Int32) :=
  some (s, t0)
def f_X9_byteAt (fu : Nat) (s : St) (a0 : Nat) (a1 : Int32) : Option (St × Int32) :=
  if a0 = 0 then none else
  if (gI s 9 a0 26) ≤ a1 then
    f_X9_byteAt_b18 fu s ((-1))
  else
    if gR s 9 a0 23 = 0 then none else
    if inb a1 (gL s 10 (gR s 9 a0 23)) = false then none else
    f_X9_byteAt_b18 fu s (gI s 10 (gR s 9 a0 23) (ix a1))
def f_X9_isDigit_b17 (fu : Nat) (s : St) (t0 : Int32) : Option (St × Int32) :=
  if zb t0 = false then none else
  some (s, t0)
def f_X9_isDigit_b16 (fu : Nat) (s : St) : Option (St × Int32) :=
  f_X9_isDigit_b17 fu s 0
def f_X9_isDigit (fu : Nat) (s : St) (a0 : Int32) : Option (St × Int32) :=
  if a0 < (48 : Int32) then
    f_X9_isDigit_b16 fu s
  else
    if (57 : Int32) < a0 then
      f_X9_isDigit_b16 fu s
    else
      f_X9_isDigit_b17 fu s 1
def f_X9_isLetter_b17 (fu : Nat) (s : St) (t0 : Int32) : Option (St × Int32) :=
  if zb t0 = false then none else
  some (s, t0)
def f_X9_isLetter_b16 (fu : Nat) (s : St) : Option (St × Int32) :=
  f_X9_isLetter_b17 fu s 0
def f_X9_isLetter (fu : Nat) (s : St) (a0 : Int32) : Option (St × Int32) :=
  if a0 < (97 : Int32) then
    f_X9_isLetter_b16 fu s
  else
    if (122 : Int32) < a0 then
      f_X9_isLetter_b16 fu s
    else
      f_X9_isLetter_b17 fu s 1
def f_X9_isMark_b47 (fu : Nat) (s : St) (t0 : Int32) : Option (St × Int32) :=
  if zb t0 = false then none else
  some (s, t0)
def f_X9_isMark_b42 (fu : Nat) (s : St) : Option (St × Int32) :=
  f_X9_isMark_b47 fu s 1
def f_X9_isMark (fu : Nat) (s : St) (a0 : Int32) : Option (St × Int32) :=
  if a0 = (59 : Int32) then
    f_X9_isMark_b42 fu s
  else
    if a0 = (45 : Int32) then
      f_X9_isMark_b42 fu s
    else
      if a0 = (40 : Int32) then
        f_X9_isMark_b42 fu s
      else
        if a0 = (41 : Int32) then
          f_X9_isMark_b42 fu s
        else
          if a0 = (60 : Int32) then
            f_X9_isMark_b42 fu s
          else
            if a0 = (61 : Int32) then
              f_X9_isMark_b42 fu s
            else
              if a0 = (62 : Int32) then
                f_X9_isMark_b42 fu s
              else
                f_X9_isMark_b47 fu s 0
def f_X9_stepOn_b26 (fu : Nat) (k0 : St → Nat → Option (St)) (s : St) (l0 : Nat) : Option (St) :=
  if l0 = 0 then none else
  lt (sI s 9 l0 25 ((gI s 9 l0 25) + 1) : St) fun s25 =>
  k0 s25 l0
def f_X9_stepOn_b212 (fu : Nat) (s : St) (l0 : Nat) : Option (St) :=
  if l0 = 0 then none else
  lt (sI s 9 l0 30 (gI s 9 l0 25) : St) fun s50 =>
  some s50
def f_X9_stepOn_b76 (fu : Nat) : Nat → St → Nat → Option (St)
  | 0, _, _ => none
  | n + 1, s, l0 =>
    if l0 = 0 then none else
    bI (f_X9_byteAt fu s l0 (gI s 9 l0 25)) fun s27 x28 =>
    bI (f_X9_isLetter fu s27 x28) fun s29 x30 =>
    if x30 = 0 then
      lt (sI s29 9 l0 27 1 : St) fun s32 =>
      f_X9_stepOn_b212 fu s32 l0
    else
      lt (sI s29 9 l0 25 ((gI s29 9 l0 25) + 1) : St) fun s33 =>
      f_X9_stepOn_b76 fu n s33 l0
def f_X9_stepOn_b123 (fu : Nat) : Nat → St → Nat → Option (St)
  | 0, _, _ => none
  | n + 1, s, l0 =>
    if l0 = 0 then none else
    bI (f_X9_byteAt fu s l0 (gI s 9 l0 25)) fun s35 x36 =>
    bI (f_X9_isDigit fu s35 x36) fun s37 x38 =>
    if x38 = 0 then
      lt (sI s37 9 l0 27 2 : St) fun s40 =>
      f_X9_stepOn_b212 fu s40 l0
    else
      bI (f_X9_byteAt fu s37 l0 (gI s37 9 l0 25)) fun s41 x42 =>
      bI (f_J9_min_7cf53 fu s41 100000000 (((10 * (gI s37 9 l0 28)) + x42) - 48)) fun s43 x44 =>
      lt (sI s43 9 l0 28 x44 : St) fun s45 =>
      lt (sI s45 9 l0 25 ((gI s45 9 l0 25) + 1) : St) fun s46 =>
      f_X9_stepOn_b123 fu n s46 l0
def f_X9_stepOn_b209 (fu : Nat) (s : St) (l0 : Nat) (t0 : Int32) (t1 : Nat) : Option (St) :=
  if t1 = 0 then none else
  lt (sI s 9 t1 27 t0 : St) fun s48 =>
  f_X9_stepOn_b212 fu s48 l0
def f_X9_stepOn_b0 (fu : Nat) : Nat → St → Nat → Option (St)
  | 0, _, _ => none
  | n + 1, s, l0 =>
    if l0 = 0 then none else
    bI (f_X9_byteAt fu s l0 (gI s 9 l0 25)) fun s2 x3 =>
    if x3 = (32 : Int32) then
      f_X9_stepOn_b26 fu (f_X9_stepOn_b0 fu n) s2 l0
    else
      bI (f_X9_byteAt fu s2 l0 (gI s2 9 l0 25)) fun s5 x6 =>
      if x6 = (10 : Int32) then
        f_X9_stepOn_b26 fu (f_X9_stepOn_b0 fu n) s5 l0
      else
        lt (sI s5 9 l0 29 (gI s5 9 l0 25) : St) fun s8 =>
        bI (f_X9_byteAt fu s8 l0 (gI s8 9 l0 25)) fun s9 x10 =>
        if x10 = ((-1) : Int32) then
          lt (sI s9 9 l0 27 0 : St) fun s23 =>
          f_X9_stepOn_b212 fu s23 l0
        else
          bI (f_X9_isLetter fu s9 x10) fun s12 x13 =>
          if x13 = 0 then
            bI (f_X9_isDigit fu s12 x10) fun s15 x16 =>
            if x16 = 0 then
              lt (sI s15 9 l0 25 ((gI s15 9 l0 25) + 1) : St) fun s18 =>
              bI (f_X9_isMark fu s18 x10) fun s19 x20 =>
              if x20 = 0 then
                f_X9_stepOn_b209 fu s19 l0 4 l0
              else
                f_X9_stepOn_b209 fu s19 l0 3 l0
            else
              lt (sI s15 9 l0 28 0 : St) fun s22 =>
              f_X9_stepOn_b123 fu fu s22 l0
          else
            f_X9_stepOn_b76 fu fu s12 l0
def f_X9_stepOn (fu : Nat) (s : St) (a0 : Nat) : Option (St) :=
  f_X9_stepOn_b0 fu fu s a0
def f_X9_begin (fu : Nat) (s : St) (a0 : Nat) (a1 : Int32) : Option (St) :=
  if a0 = 0 then none else
  lt (sI s 9 a0 24 0 : St) fun s2 =>
  lt (sI s2 9 a0 26 a1 : St) fun s3 =>
  lt (sI s3 9 a0 25 0 : St) fun s4 =>
  lt (sI s4 9 a0 31 0 : St) fun s5 =>
  lt (sI s5 9 a0 33 ((-1)) : St) fun s6 =>
  bV (f_X9_stepOn fu s6 a0) fun s7 =>
  some s7
def f_X9_lastSeam (fu : Nat) (s : St) (a0 : Nat) (a1 : Int32) : Option (St × Int32) :=
  if a0 = 0 then none else
  if gR s 9 a0 11 = 0 then none else
  if inb a1 (gL s 10 (gR s 9 a0 11)) = false then none else
  bI (f_X9_seamBy fu s a0 (gI s 10 (gR s 9 a0 11) (ix a1)) ((gI s 9 a0 7) - 1)) fun s4 x5 =>
  some (s4, x5)
def f_X9_isLate_b23 (fu : Nat) (s : St) (t0 : Int32) : Option (St × Int32) :=
  if zb t0 = false then none else
  some (s, t0)
def f_X9_isLate_b22 (fu : Nat) (s : St) : Option (St × Int32) :=
  f_X9_isLate_b23 fu s 0
def f_X9_isLate (fu : Nat) (s : St) (a0 : Nat) (a1 : Int32) (a2 : Int32) : Option (St × Int32) :=
  if a0 = 0 then none else
  if gR s 9 a0 10 = 0 then none else
  if inb a1 (gL s 13 (gR s 9 a0 10)) = false then none else
  if (gI s 13 (gR s 9 a0 10) (ix a1)) = 0 then
    f_X9_isLate_b22 fu s
  else
    bI (f_X9_lastSeam fu s a0 a1) fun s5 x6 =>
    if x6 ≤ a2 then
      f_X9_isLate_b22 fu s5
    else
      f_X9_isLate_b23 fu s5 1
def f_X9_isLateBy (fu : Nat) (s : St) (a0 : Nat) (a1 : Int32) (a2 : Int32) : Option (St) :=
  if a0 = 0 then none else
  bI (f_X9_lastSeam fu s a0 a1) fun s2 x3 =>
  lt (sI s2 9 a0 42 (x3 - a2) : St) fun s4 =>
  some s4
def f_X9_firstOf (fu : Nat) (s : St) (a0 : Nat) (a1 : Int32) : Option (St × Int32) :=
  if a0 = 0 then none else
  bI (f_X9_placeOf fu s a0 a1 ((-200000000))) fun s2 x3 =>
  some (s2, x3)
def f_X9_goes_b84 (fu : Nat) (s : St) (l3 : Int32) : Option (St × Int32) :=
  some (s, l3)
def f_X9_goes_b17 (fu : Nat) : Nat → St → Nat → Int32 → Int32 → Option (St × Int32)
  | 0, _, _, _, _ => none
  | n + 1, s, l0, l3, l4 =>
    if l0 = 0 then none else
    if (gI s 9 l0 22) ≤ l4 then
      f_X9_goes_b84 fu s l3
    else
      if l3 ≤ 0 then
        f_X9_goes_b84 fu s l3
      else
        if gR s 9 l0 19 = 0 then none else
        if inb (l4 + l3) (gL s 10 (gR s 9 l0 19)) = false then none else
        if inb l4 (gL s 10 (gR s 9 l0 19)) = false then none else
        lt (sI s 10 (gR s 9 l0 19) (ix l4) (gI s 10 (gR s 9 l0 19) (ix (l4 + l3))) : St) fun s10 =>
        if gR s10 9 l0 20 = 0 then none else
        if inb (l4 + l3) (gL s10 10 (gR s10 9 l0 20)) = false then none else
        if inb l4 (gL s10 10 (gR s10 9 l0 20)) = false then none else
        lt (sI s10 10 (gR s10 9 l0 20) (ix l4) (gI s10 10 (gR s10 9 l0 20) (ix (l4 + l3))) : St) fun s14 =>
        if gR s14 9 l0 21 = 0 then none else
        if inb (l4 + l3) (gL s14 10 (gR s14 9 l0 21)) = false then none else
        if inb l4 (gL s14 10 (gR s14 9 l0 21)) = false then none else
        lt (sI s14 10 (gR s14 9 l0 21) (ix l4) (gI s14 10 (gR s14 9 l0 21) (ix (l4 + l3))) : St) fun s18 =>
        lt (l4 + 1 : Int32) fun x19 =>
        f_X9_goes_b17 fu n s18 l0 l3 x19
def f_X9_goes (fu : Nat) (s : St) (a0 : Nat) (a1 : Int32) (a2 : Int32) : Option (St × Int32) :=
  lt (a2 - a1 : Int32) fun x1 =>
  if a0 = 0 then none else
  lt (sI s 9 a0 22 ((gI s 9 a0 22) - x1) : St) fun s3 =>
  f_X9_goes_b17 fu fu s3 a0 x1 a1
def f_X9_leaves (fu : Nat) (s : St) (a0 : Nat) (a1 : Int32) : Option (St × Int32) :=
  if a0 = 0 then none else
  if gR s 9 a0 10 = 0 then none else
  if inb a1 (gL s 13 (gR s 9 a0 10)) = false then none else
  lt (sI s 13 (gR s 9 a0 10) (ix a1) (vp_nar .boolean 0) : St) fun s4 =>
  bI (f_X9_firstOf fu s4 a0 a1) fun s5 x6 =>
  bI (f_X9_behindOf fu s5 a0 a1) fun s7 x8 =>
  bI (f_X9_goes fu s7 a0 x6 x8) fun s9 x10 =>
  some (s9, x10)
def f_X9_longer_b9 (fu : Nat) : Nat → St → Nat → Nat → Int32 → Option (St × Nat)
  | 0, _, _, _, _ => none
  | n + 1, s, l0, l1, l2 =>
    if l0 = 0 then none else
    if (nI (gL s 10 l0)) ≤ l2 then
      some (s, l1)
    else
      if inb l2 (gL s 10 l0) = false then none else
      if l1 = 0 then none else
      if inb l2 (gL s 10 l1) = false then none else
      lt (sI s 10 l1 (ix l2) (gI s 10 l0 (ix l2)) : St) fun s12 =>
      lt (l2 + 1 : Int32) fun x13 =>
      f_X9_longer_b9 fu n s12 l0 l1 x13
def f_X9_longer (fu : Nat) (s : St) (a0 : Nat) : Option (St × Nat) :=
  if a0 = 0 then none else
  if szb (2 * (nI (gL s 10 a0))) = false then none else
  lt (nW s 10 (ix (2 * (nI (gL s 10 a0)))) (ix (2 * (nI (gL s 10 a0)))) : St) fun s3 =>
  if rmb s3 = false then none else
  lt (gN s 10 + 1 : Nat) fun x5 =>
  f_X9_longer_b9 fu fu s3 a0 x5 0
def f_X9_comes_b60 (fu : Nat) : Nat → St → Nat → Int32 → Int32 → Int32 → Int32 → Int32 → Option (St)
  | 0, _, _, _, _, _, _, _ => none
  | n + 1, s, l0, l1, l2, l3, l4, l5 =>
    if l5 ≤ l4 then
      if l0 = 0 then none else
      if gR s 9 l0 19 = 0 then none else
      if inb l4 (gL s 10 (gR s 9 l0 19)) = false then none else
      lt (sI s 10 (gR s 9 l0 19) (ix l4) l1 : St) fun s21 =>
      if gR s21 9 l0 20 = 0 then none else
      if inb l4 (gL s21 10 (gR s21 9 l0 20)) = false then none else
      lt (sI s21 10 (gR s21 9 l0 20) (ix l4) l2 : St) fun s24 =>
      if gR s24 9 l0 21 = 0 then none else
      if inb l4 (gL s24 10 (gR s24 9 l0 21)) = false then none else
      lt (sI s24 10 (gR s24 9 l0 21) (ix l4) l3 : St) fun s27 =>
      lt (sI s27 9 l0 22 ((gI s27 9 l0 22) + 1) : St) fun s28 =>
      some s28
    else
      if l0 = 0 then none else
      if gR s 9 l0 19 = 0 then none else
      if inb (l5 - 1) (gL s 10 (gR s 9 l0 19)) = false then none else
      if inb l5 (gL s 10 (gR s 9 l0 19)) = false then none else
      lt (sI s 10 (gR s 9 l0 19) (ix l5) (gI s 10 (gR s 9 l0 19) (ix (l5 - 1))) : St) fun s33 =>
      if gR s33 9 l0 20 = 0 then none else
      if inb (l5 - 1) (gL s33 10 (gR s33 9 l0 20)) = false then none else
      if inb l5 (gL s33 10 (gR s33 9 l0 20)) = false then none else
      lt (sI s33 10 (gR s33 9 l0 20) (ix l5) (gI s33 10 (gR s33 9 l0 20) (ix (l5 - 1))) : St) fun s37 =>
      if gR s37 9 l0 21 = 0 then none else
      if inb (l5 - 1) (gL s37 10 (gR s37 9 l0 21)) = false then none else
      if inb l5 (gL s37 10 (gR s37 9 l0 21)) = false then none else
      lt (sI s37 10 (gR s37 9 l0 21) (ix l5) (gI s37 10 (gR s37 9 l0 21) (ix (l5 - 1))) : St) fun s41 =>
      lt (l5 + (-1) : Int32) fun x42 =>
      f_X9_comes_b60 fu n s41 l0 l1 l2 l3 l4 x42
def f_X9_comes_b45 (fu : Nat) (s : St) (l0 : Nat) (l1 : Int32) (l2 : Int32) (l3 : Int32) : Option (St) :=
  if l0 = 0 then none else
  bI (f_X9_placeOf fu s l0 l1 (Int32.toInt64 l2)) fun s14 x15 =>
  lt (gI s14 9 l0 22 : Int32) fun x16 =>
  f_X9_comes_b60 fu fu s14 l0 l1 l2 l3 x15 x16
def f_X9_comes (fu : Nat) (s : St) (a0 : Nat) (a1 : Int32) (a2 : Int32) (a3 : Int32) : Option (St) :=
  if a0 = 0 then none else
  if gR s 9 a0 19 = 0 then none else
  if (gI s 9 a0 22) = (nI (gL s 10 (gR s 9 a0 19))) then
    bI (f_X9_longer fu s (gR s 9 a0 19)) fun s4 x5 =>
    lt (sR s4 9 a0 19 x5 : St) fun s6 =>
    bI (f_X9_longer fu s6 (gR s6 9 a0 20)) fun s7 x8 =>
    lt (sR s7 9 a0 20 x8 : St) fun s9 =>
    bI (f_X9_longer fu s9 (gR s9 9 a0 21)) fun s10 x11 =>
    lt (sR s10 9 a0 21 x11 : St) fun s12 =>
    f_X9_comes_b45 fu s12 a0 a1 a2 a3
  else
    f_X9_comes_b45 fu s a0 a1 a2 a3
def f_X9_oldest_b41 (fu : Nat) (k4 : St → Nat → Int32 → Int32 → Option (St × Int32)) (s : St) (l0 : Nat) (l1 : Int32) (l2 : Int32) : Option (St × Int32) :=
  lt (l2 + 1 : Int32) fun x11 =>
  k4 s l0 l1 x11
def f_X9_oldest_b39 (fu : Nat) (k4 : St → Nat → Int32 → Int32 → Option (St × Int32)) (s : St) (l0 : Nat) (l2 : Int32) : Option (St × Int32) :=
  f_X9_oldest_b41 fu k4 s l0 l2 l2
def f_X9_oldest_b4 (fu : Nat) : Nat → St → Nat → Int32 → Int32 → Option (St × Int32)
  | 0, _, _, _, _ => none
  | n + 1, s, l0, l1, l2 =>
    if (10 : Int32) ≤ l2 then
      some (s, l1)
    else
      if l0 = 0 then none else
      if gR s 9 l0 10 = 0 then none else
      if inb l2 (gL s 13 (gR s 9 l0 10)) = false then none else
      if (gI s 13 (gR s 9 l0 10) (ix l2)) = 0 then
        f_X9_oldest_b41 fu (f_X9_oldest_b4 fu n) s l0 l1 l2
      else
        if l1 = ((-1) : Int32) then
          f_X9_oldest_b39 fu (f_X9_oldest_b4 fu n) s l0 l2
        else
          if gR s 9 l0 14 = 0 then none else
          if inb l2 (gL s 10 (gR s 9 l0 14)) = false then none else
          if inb l1 (gL s 10 (gR s 9 l0 14)) = false then none else
          if (gI s 10 (gR s 9 l0 14) (ix l1)) ≤ (gI s 10 (gR s 9 l0 14) (ix l2)) then
            f_X9_oldest_b41 fu (f_X9_oldest_b4 fu n) s l0 l1 l2
          else
            f_X9_oldest_b39 fu (f_X9_oldest_b4 fu n) s l0 l2
def f_X9_oldest (fu : Nat) (s : St) (a0 : Nat) : Option (St × Int32) :=
  f_X9_oldest_b4 fu fu s a0 ((-1)) 0
def f_X9_series_b25 (fu : Nat) (k4 : St → Nat → Int32 → Int32 → Option (St × Int32)) (s : St) (l0 : Nat) (l2 : Int32) (t0 : Int32) (t1 : Int32) : Option (St × Int32) :=
  lt (t1 + t0 : Int32) fun x6 =>
  lt (l2 + 1 : Int32) fun x7 =>
  k4 s l0 x6 x7
def f_X9_series_b4 (fu : Nat) : Nat → St → Nat → Int32 → Int32 → Option (St × Int32)
  | 0, _, _, _, _ => none
  | n + 1, s, l0, l1, l2 =>
    if (10 : Int32) ≤ l2 then
      some (s, l1)
    else
      if l0 = 0 then none else
      if gR s 9 l0 10 = 0 then none else
      if inb l2 (gL s 13 (gR s 9 l0 10)) = false then none else
      if (gI s 13 (gR s 9 l0 10) (ix l2)) = 0 then
        f_X9_series_b25 fu (f_X9_series_b4 fu n) s l0 l2 0 l1
      else
        f_X9_series_b25 fu (f_X9_series_b4 fu n) s l0 l2 1 l1
def f_X9_series (fu : Nat) (s : St) (a0 : Nat) : Option (St × Int32) :=
  f_X9_series_b4 fu fu s a0 0 0
def f_X9_rises_b67 (fu : Nat) (s : St) (l0 : Nat) (l1 : Int32) (l2 : Int32) : Option (St) :=
  if l0 = 0 then none else
  if gR s 9 l0 11 = 0 then none else
  if inb l1 (gL s 10 (gR s 9 l0 11)) = false then none else
  bI (f_J9_max_7cf53 fu s (gI s 10 (gR s 9 l0 11) (ix l1)) l2) fun s29 x30 =>
  if inb l1 (gL s29 10 (gR s 9 l0 11)) = false then none else
  lt (sI s29 10 (gR s 9 l0 11) (ix l1) x30 : St) fun s32 =>
  bI (f_X9_firstOf fu s32 l0 l1) fun s33 x34 =>
  bI (f_X9_lastSeam fu s33 l0 l1) fun s35 x36 =>
  bI (f_X9_placeOf fu s35 l0 l1 (Int32.toInt64 x36)) fun s37 x38 =>
  bI (f_X9_goes fu s37 l0 x34 x38) fun s39 x40 =>
  if gR s39 9 l0 13 = 0 then none else
  if inb l1 (gL s39 10 (gR s39 9 l0 13)) = false then none else
  if inb l1 (gL s39 10 (gR s39 9 l0 13)) = false then none else
  lt (sI s39 10 (gR s39 9 l0 13) (ix l1) ((gI s39 10 (gR s39 9 l0 13) (ix l1)) + x40) : St) fun s44 =>
  lt (sI s44 9 l0 18 ((gI s44 9 l0 18) + x40) : St) fun s45 =>
  lt (sI s45 9 l0 15 ((gI s45 9 l0 15) + 1) : St) fun s46 =>
  if gR s46 9 l0 14 = 0 then none else
  if inb l1 (gL s46 10 (gR s46 9 l0 14)) = false then none else
  lt (sI s46 10 (gR s46 9 l0 14) (ix l1) (gI s46 9 l0 15) : St) fun s49 =>
  some s49
def f_X9_rises_b39 (fu : Nat) (s : St) (l0 : Nat) (l1 : Int32) (l2 : Int32) : Option (St) :=
  if l0 = 0 then none else
  if gR s 9 l0 10 = 0 then none else
  if inb l1 (gL s 13 (gR s 9 l0 10)) = false then none else
  lt (sI s 13 (gR s 9 l0 10) (ix l1) (vp_nar .boolean 1) : St) fun s16 =>
  if gR s16 9 l0 11 = 0 then none else
  if inb l1 (gL s16 10 (gR s16 9 l0 11)) = false then none else
  lt (sI s16 10 (gR s16 9 l0 11) (ix l1) l2 : St) fun s19 =>
  if gR s19 9 l0 12 = 0 then none else
  if inb l1 (gL s19 10 (gR s19 9 l0 12)) = false then none else
  lt (sI s19 10 (gR s19 9 l0 12) (ix l1) 0 : St) fun s22 =>
  if gR s22 9 l0 13 = 0 then none else
  if inb l1 (gL s22 10 (gR s22 9 l0 13)) = false then none else
  lt (sI s22 10 (gR s22 9 l0 13) (ix l1) 0 : St) fun s25 =>
  f_X9_rises_b67 fu s25 l0 l1 l2
def f_X9_rises (fu : Nat) (s : St) (a0 : Nat) (a1 : Int32) (a2 : Int32) : Option (St) :=
  if a0 = 0 then none else
  if gR s 9 a0 10 = 0 then none else
  if inb a1 (gL s 13 (gR s 9 a0 10)) = false then none else
  if (gI s 13 (gR s 9 a0 10) (ix a1)) = 0 then
    bI (f_X9_series fu s a0) fun s5 x6 =>
    if x6 = (gI s5 9 a0 8) then
      bI (f_X9_oldest fu s5 a0) fun s8 x9 =>
      bI (f_X9_leaves fu s8 a0 x9) fun s10 x11 =>
      lt (sI s10 9 a0 16 ((gI s10 9 a0 16) + 1) : St) fun s12 =>
      f_X9_rises_b39 fu s12 a0 a1 a2
    else
      f_X9_rises_b39 fu s5 a0 a1 a2
  else
    f_X9_rises_b67 fu s a0 a1 a2
def f_X9_puts (fu : Nat) (s : St) (a0 : Nat) (a1 : Int32) (a2 : Int32) (a3 : Int32) : Option (St) :=
  if a0 = 0 then none else
  bV (f_X9_rises fu s a0 a1 a2) fun s2 =>
  bV (f_X9_comes fu s2 a0 a1 a2 a3) fun s3 =>
  some s3
def f_X9_does_b72 (fu : Nat) (s : St) : Option (St × Int32) :=
  some (s, 0)
def f_X9_does_b60 (fu : Nat) (s : St) (l0 : Nat) (l1 : Int32) (l2 : Int32) : Option (St × Int32) :=
  if l1 = (2 : Int32) then
    if l0 = 0 then none else
    bI (f_X9_leaves fu s l0 l2) fun s20 x21 =>
    f_X9_does_b72 fu s20
  else
    f_X9_does_b72 fu s
def f_X9_does_b49 (fu : Nat) (s : St) (l0 : Nat) (l1 : Int32) (l2 : Int32) (l3 : Int32) : Option (St × Int32) :=
  if l1 = (1 : Int32) then
    if l0 = 0 then none else
    bV (f_X9_rises fu s l0 l2 l3) fun s17 =>
    f_X9_does_b60 fu s17 l0 l1 l2
  else
    f_X9_does_b60 fu s l0 l1 l2
def f_X9_does_b37 (fu : Nat) (s : St) (l0 : Nat) (l1 : Int32) (l2 : Int32) (l3 : Int32) (l4 : Int32) : Option (St × Int32) :=
  if l1 = 0 then
    if l0 = 0 then none else
    bV (f_X9_puts fu s l0 l2 l3 l4) fun s14 =>
    f_X9_does_b49 fu s14 l0 l1 l2 l3
  else
    f_X9_does_b49 fu s l0 l1 l2 l3
def f_X9_does_b16 (fu : Nat) (s : St) (l0 : Nat) (l1 : Int32) (l2 : Int32) (l3 : Int32) (l4 : Int32) : Option (St × Int32) :=
  if l1 = 0 then
    if l0 = 0 then none else
    bI (f_X9_isLate fu s l0 l2 l3) fun s8 x9 =>
    if x9 = 0 then
      f_X9_does_b37 fu s8 l0 l1 l2 l3 l4
    else
      bV (f_X9_isLateBy fu s8 l0 l2 l3) fun s11 =>
      some (s11, 2)
  else
    f_X9_does_b37 fu s l0 l1 l2 l3 l4
def f_X9_does (fu : Nat) (s : St) (a0 : Nat) (a1 : Int32) (a2 : Int32) (a3 : Int32) (a4 : Int32) : Option (St × Int32) :=
  if a1 = (2 : Int32) then
    if a0 = 0 then none else
    if gR s 9 a0 10 = 0 then none else
    if inb a2 (gL s 13 (gR s 9 a0 10)) = false then none else
    if (gI s 13 (gR s 9 a0 10) (ix a2)) = 0 then
      some (s, 3)
    else
      f_X9_does_b16 fu s a0 a1 a2 a3 a4
  else
    f_X9_does_b16 fu s a0 a1 a2 a3 a4
def f_X9_ended_b15 (fu : Nat) (s : St) (l0 : Nat) : Option (St × Int32) :=
  if l0 = 0 then none else
  some (s, (gI s 9 l0 31))
def f_X9_ended (fu : Nat) (s : St) (a0 : Nat) : Option (St × Int32) :=
  if a0 = 0 then none else
  if (gI s 9 a0 31) = 0 then
    f_X9_ended_b15 fu s a0
  else
    lt (sI s 9 a0 33 (gI s 9 a0 32) : St) fun s3 =>
    f_X9_ended_b15 fu s3 a0
def f_X9_fine (fu : Nat) (s : St) (a0 : Nat) : Option (St) :=
  if a0 = 0 then none else
  lt (sI s 9 a0 40 0 : St) fun s2 =>
  lt (sI s2 9 a0 41 0 : St) fun s3 =>
  lt (sI s3 9 a0 42 ((-1)) : St) fun s4 =>
  lt (sI s4 9 a0 43 ((-1)) : St) fun s5 =>
  some s5
def f_X9_copies_b2 (fu : Nat) : Nat → St → Nat → Nat → Int32 → Int32 → Option (St)
  | 0, _, _, _, _, _ => none
  | n + 1, s, l0, l1, l2, l3 =>
    if l2 ≤ l3 then
      some s
    else
      if l1 = 0 then none else
      if inb l3 (gL s 10 l1) = false then none else
      if l0 = 0 then none else
      if inb l3 (gL s 10 l0) = false then none else
      lt (sI s 10 l0 (ix l3) (gI s 10 l1 (ix l3)) : St) fun s6 =>
      lt (l3 + 1 : Int32) fun x7 =>
      f_X9_copies_b2 fu n s6 l0 l1 l2 x7
def f_X9_copies (fu : Nat) (s : St) (a0 : Nat) (a1 : Nat) (a2 : Int32) : Option (St) :=
  f_X9_copies_b2 fu fu s a0 a1 a2 0
def f_X9_laysAside_b95 (fu : Nat) : Nat → St → Nat → Int32 → Option (St)
  | 0, _, _, _ => none
  | n + 1, s, l0, l1 =>
    if (10 : Int32) ≤ l1 then
      if l0 = 0 then none else
      if gR s 9 l0 50 = 0 then none else
      if inb 40 (gL s 10 (gR s 9 l0 50)) = false then none else
      lt (sI s 10 (gR s 9 l0 50) (ix 40) (gI s 9 l0 22) : St) fun s20 =>
      if gR s20 9 l0 50 = 0 then none else
      if inb 41 (gL s20 10 (gR s20 9 l0 50)) = false then none else
      lt (sI s20 10 (gR s20 9 l0 50) (ix 41) (gI s20 9 l0 15) : St) fun s23 =>
      if gR s23 9 l0 50 = 0 then none else
      if inb 42 (gL s23 10 (gR s23 9 l0 50)) = false then none else
      lt (sI s23 10 (gR s23 9 l0 50) (ix 42) (gI s23 9 l0 16) : St) fun s26 =>
      if gR s26 9 l0 50 = 0 then none else
      if inb 43 (gL s26 10 (gR s26 9 l0 50)) = false then none else
      lt (sI s26 10 (gR s26 9 l0 50) (ix 43) (gI s26 9 l0 18) : St) fun s29 =>
      some s29
    else
      if l0 = 0 then none else
      if gR s 9 l0 10 = 0 then none else
      if inb l1 (gL s 13 (gR s 9 l0 10)) = false then none else
      if gR s 9 l0 49 = 0 then none else
      if inb l1 (gL s 13 (gR s 9 l0 49)) = false then none else
      lt (sI s 13 (gR s 9 l0 49) (ix l1) (vp_nar .boolean (gI s 13 (gR s 9 l0 10) (ix l1))) : St) fun s35 =>
      if gR s35 9 l0 11 = 0 then none else
      if inb l1 (gL s35 10 (gR s35 9 l0 11)) = false then none else
      if gR s35 9 l0 50 = 0 then none else
      if inb (4 * l1) (gL s35 10 (gR s35 9 l0 50)) = false then none else
      lt (sI s35 10 (gR s35 9 l0 50) (ix (4 * l1)) (gI s35 10 (gR s35 9 l0 11) (ix l1)) : St) fun s40 =>
      if gR s40 9 l0 12 = 0 then none else
      if inb l1 (gL s40 10 (gR s40 9 l0 12)) = false then none else
      if gR s40 9 l0 50 = 0 then none else
      if inb ((4 * l1) + 1) (gL s40 10 (gR s40 9 l0 50)) = false then none else
      lt (sI s40 10 (gR s40 9 l0 50) (ix ((4 * l1) + 1)) (gI s40 10 (gR s40 9 l0 12) (ix l1)) : St) fun s45 =>
      if gR s45 9 l0 13 = 0 then none else
      if inb l1 (gL s45 10 (gR s45 9 l0 13)) = false then none else
      if gR s45 9 l0 50 = 0 then none else
      if inb ((4 * l1) + 2) (gL s45 10 (gR s45 9 l0 50)) = false then none else
      lt (sI s45 10 (gR s45 9 l0 50) (ix ((4 * l1) + 2)) (gI s45 10 (gR s45 9 l0 13) (ix l1)) : St) fun s50 =>
      if gR s50 9 l0 14 = 0 then none else
      if inb l1 (gL s50 10 (gR s50 9 l0 14)) = false then none else
      if gR s50 9 l0 50 = 0 then none else
      if inb ((4 * l1) + 3) (gL s50 10 (gR s50 9 l0 50)) = false then none else
      lt (sI s50 10 (gR s50 9 l0 50) (ix ((4 * l1) + 3)) (gI s50 10 (gR s50 9 l0 14) (ix l1)) : St) fun s55 =>
      lt (l1 + 1 : Int32) fun x56 =>
      f_X9_laysAside_b95 fu n s55 l0 x56
def f_X9_laysAside_b0 (fu : Nat) : Nat → St → Nat → Option (St)
  | 0, _, _ => none
  | n + 1, s, l0 =>
    if l0 = 0 then none else
    if gR s 9 l0 46 = 0 then none else
    if (gI s 9 l0 22) ≤ (nI (gL s 10 (gR s 9 l0 46))) then
      bV (f_X9_copies fu s (gR s 9 l0 46) (gR s 9 l0 19) (gI s 9 l0 22)) fun s4 =>
      bV (f_X9_copies fu s4 (gR s4 9 l0 47) (gR s4 9 l0 20) (gI s4 9 l0 22)) fun s5 =>
      bV (f_X9_copies fu s5 (gR s5 9 l0 48) (gR s5 9 l0 21) (gI s5 9 l0 22)) fun s6 =>
      f_X9_laysAside_b95 fu fu s6 l0 0
    else
      bI (f_X9_longer fu s (gR s 9 l0 46)) fun s7 x8 =>
      lt (sR s7 9 l0 46 x8 : St) fun s9 =>
      bI (f_X9_longer fu s9 (gR s9 9 l0 47)) fun s10 x11 =>
      lt (sR s10 9 l0 47 x11 : St) fun s12 =>
      bI (f_X9_longer fu s12 (gR s12 9 l0 48)) fun s13 x14 =>
      lt (sR s13 9 l0 48 x14 : St) fun s15 =>
      f_X9_laysAside_b0 fu n s15 l0
def f_X9_laysAside (fu : Nat) (s : St) (a0 : Nat) : Option (St) :=
  f_X9_laysAside_b0 fu fu s a0
def f_X9_isMarked_b33 (fu : Nat) (s : St) (t0 : Int32) : Option (St × Int32) :=
  if zb t0 = false then none else
  some (s, t0)
def f_X9_isMarked_b32 (fu : Nat) (s : St) : Option (St × Int32) :=
  f_X9_isMarked_b33 fu s 0
def f_X9_isMarked (fu : Nat) (s : St) (a0 : Nat) (a1 : Int32) : Option (St × Int32) :=
  if a0 = 0 then none else
  if (gI s 9 a0 31) = 0 then
    if (gI s 9 a0 27) = (3 : Int32) then
      if gR s 9 a0 23 = 0 then none else
      if inb (gI s 9 a0 29) (gL s 10 (gR s 9 a0 23)) = false then none else
      if (gI s 10 (gR s 9 a0 23) (ix (gI s 9 a0 29))) = a1 then
        f_X9_isMarked_b33 fu s 1
      else
        f_X9_isMarked_b32 fu s
    else
      f_X9_isMarked_b32 fu s
  else
    f_X9_isMarked_b32 fu s
def f_X9_pass_b11 (fu : Nat) (s : St) : Option (St) :=
  some s
def f_X9_pass (fu : Nat) (s : St) (a0 : Nat) : Option (St) :=
  if a0 = 0 then none else
  if (gI s 9 a0 31) = 0 then
    bV (f_X9_stepOn fu s a0) fun s3 =>
    f_X9_pass_b11 fu s3
  else
    f_X9_pass_b11 fu s
def f_X9_wrong (fu : Nat) (s : St) (a0 : Nat) (a1 : Int32) : Option (St) :=
  if a0 = 0 then none else
  if (gI s 9 a0 31) = 0 then
    lt (sI s 9 a0 31 a1 : St) fun s3 =>
    lt (sI s3 9 a0 32 (gI s3 9 a0 29) : St) fun s4 =>
    some s4
  else
    some s
def f_X9_mark_b13 (fu : Nat) (s : St) (l0 : Nat) : Option (St) :=
  if l0 = 0 then none else
  bV (f_X9_pass fu s l0) fun s7 =>
  some s7
def f_X9_mark (fu : Nat) (s : St) (a0 : Nat) (a1 : Int32) : Option (St) :=
  if a0 = 0 then none else
  bI (f_X9_isMarked fu s a0 a1) fun s2 x3 =>
  if x3 = 0 then
    bV (f_X9_wrong fu s2 a0 1) fun s5 =>
    f_X9_mark_b13 fu s5 a0
  else
    f_X9_mark_b13 fu s2 a0
def f_X9_numberNow_b78 (fu : Nat) (s : St) (t0 : Int32) : Option (St × Int32) :=
  some (s, t0)
def f_X9_numberNow_b61 (fu : Nat) (s : St) (l0 : Nat) (l1 : Int32) : Option (St × Int32) :=
  if l0 = 0 then none else
  if (gI s 9 l0 31) = 0 then
    f_X9_numberNow_b78 fu s (l1 * (gI s 9 l0 28))
  else
    f_X9_numberNow_b78 fu s 0
def f_X9_numberNow_b56 (fu : Nat) (s : St) (l0 : Nat) (l1 : Int32) : Option (St × Int32) :=
  if l0 = 0 then none else
  bV (f_X9_wrong fu s l0 2) fun s10 =>
  f_X9_numberNow_b61 fu s10 l0 l1
def f_X9_numberNow (fu : Nat) (s : St) (a0 : Nat) (a1 : Int32) (a2 : Int32) (a3 : Int32) : Option (St × Int32) :=
  if a0 = 0 then none else
  if (gI s 9 a0 31) = 0 then
    if (gI s 9 a0 27) = (2 : Int32) then
      if (7 : Int32) < ((gI s 9 a0 30) - (gI s 9 a0 29)) then
        f_X9_numberNow_b56 fu s a0 a1
      else
        bI (f_X9_isIn fu s (Int32.toInt64 (a1 * (gI s 9 a0 28))) (Int32.toInt64 a2) (Int32.toInt64 a3)) fun s5 x6 =>
        if x6 = 0 then
          f_X9_numberNow_b56 fu s5 a0 a1
        else
          f_X9_numberNow_b61 fu s5 a0 a1
    else
      bV (f_X9_wrong fu s a0 1) fun s8 =>
      f_X9_numberNow_b61 fu s8 a0 a1
  else
    some (s, 0)
def f_X9_readNumber (fu : Nat) (s : St) (a0 : Nat) (a1 : Int32) (a2 : Int32) : Option (St × Int32) :=
  if a0 = 0 then none else
  bI (f_X9_numberNow fu s a0 1 a1 a2) fun s2 x3 =>
  bV (f_X9_pass fu s2 a0) fun s4 =>
  some (s4, x3)
def f_X9_readSigned_b17 (fu : Nat) (s : St) (l0 : Nat) (l1 : Int32) (l2 : Int32) (l3 : Int32) : Option (St × Int32) :=
  if l0 = 0 then none else
  bI (f_X9_numberNow fu s l0 l3 l1 l2) fun s7 x8 =>
  bV (f_X9_pass fu s7 l0) fun s9 =>
  some (s9, x8)
def f_X9_readSigned (fu : Nat) (s : St) (a0 : Nat) (a1 : Int32) (a2 : Int32) : Option (St × Int32) :=
  if a0 = 0 then none else
  bI (f_X9_isMarked fu s a0 45) fun s2 x3 =>
  if x3 = 0 then
    f_X9_readSigned_b17 fu s2 a0 a1 a2 1
  else
    bV (f_X9_stepOn fu s2 a0) fun s5 =>
    f_X9_readSigned_b17 fu s5 a0 a1 a2 ((-1))
def f_X9_is_b75 (fu : Nat) (k39 : St → Nat → Nat → Int32 → Int32 → Option (St × Int32)) (s : St) (l0 : Nat) (l1 : Nat) (l3 : Int32) (t0 : Int32) : Option (St × Int32) :=
  lt (l3 + 1 : Int32) fun x19 =>
  k39 s l0 l1 t0 x19
def f_X9_is_b82 (fu : Nat) (s : St) (l2 : Int32) : Option (St × Int32) :=
  if zb l2 = false then none else
  some (s, l2)
def f_X9_is_b39 (fu : Nat) : Nat → St → Nat → Nat → Int32 → Int32 → Option (St × Int32)
  | 0, _, _, _, _, _ => none
  | n + 1, s, l0, l1, l2, l3 =>
    if l2 = 0 then
      f_X9_is_b82 fu s l2
    else
      if l1 = 0 then none else
      bI (f_J0_length_8abf5 fu s l1) fun s10 x11 =>
      if x11 ≤ l3 then
        f_X9_is_b82 fu s10 l2
      else
        bI (f_J0_charAt_5068e fu s10 l1 l3) fun s13 x14 =>
        if l0 = 0 then none else
        if gR s13 9 l0 23 = 0 then none else
        if inb ((gI s13 9 l0 29) + l3) (gL s13 10 (gR s13 9 l0 23)) = false then none else
        if x14 = (gI s13 10 (gR s13 9 l0 23) (ix ((gI s13 9 l0 29) + l3))) then
          f_X9_is_b75 fu (f_X9_is_b39 fu n) s13 l0 l1 l3 1
        else
          f_X9_is_b75 fu (f_X9_is_b39 fu n) s13 l0 l1 l3 0
def f_X9_is_b36 (fu : Nat) (s : St) (l0 : Nat) (l1 : Nat) (t0 : Int32) : Option (St × Int32) :=
  f_X9_is_b39 fu fu s l0 l1 t0 0
def f_X9_is_b35 (fu : Nat) (s : St) (l0 : Nat) (l1 : Nat) : Option (St × Int32) :=
  f_X9_is_b36 fu s l0 l1 0
def f_X9_is (fu : Nat) (s : St) (a0 : Nat) (a1 : Nat) : Option (St × Int32) :=
  if a0 = 0 then none else
  if (gI s 9 a0 31) = 0 then
    if (gI s 9 a0 27) = (1 : Int32) then
      if a1 = 0 then none else
      bI (f_J0_length_8abf5 fu s a1) fun s5 x6 =>
      if x6 = ((gI s5 9 a0 30) - (gI s5 9 a0 29)) then
        f_X9_is_b36 fu s5 a0 a1 1
      else
        f_X9_is_b35 fu s5 a0 a1
    else
      f_X9_is_b35 fu s a0 a1
  else
    f_X9_is_b35 fu s a0 a1
def f_X9_which_b2 (fu : Nat) : Nat → St → Nat → Nat → Int32 → Option (St × Int32)
  | 0, _, _, _, _ => none
  | n + 1, s, l0, l1, l2 =>
    if l1 = 0 then none else
    if (nI (gL s 15 l1)) ≤ l2 then
      some (s, ((-1)))
    else
      if inb l2 (gL s 15 l1) = false then none else
      if l0 = 0 then none else
      bI (f_X9_is fu s l0 (gR s 15 l1 (ix l2))) fun s5 x6 =>
      if x6 = 0 then
        lt (l2 + 1 : Int32) fun x8 =>
        f_X9_which_b2 fu n s5 l0 l1 x8
      else
        some (s5, l2)
def f_X9_which (fu : Nat) (s : St) (a0 : Nat) (a1 : Nat) : Option (St × Int32) :=
  f_X9_which_b2 fu fu s a0 a1 0
def f_X9_readLine_b69 (fu : Nat) (s : St) (l0 : Nat) (l1 : Int32) (l2 : Int32) (l3 : Int32) (t0 : Int32) : Option (St) :=
  if l0 = 0 then none else
  bV (f_X9_mark fu s l0 59) fun s18 =>
  if (gI s18 9 l0 31) = 0 then
    if gR s18 9 l0 44 = 0 then none else
    if inb (4 * (gI s18 9 l0 45)) (gL s18 10 (gR s18 9 l0 44)) = false then none else
    lt (sI s18 10 (gR s18 9 l0 44) (ix (4 * (gI s18 9 l0 45))) l1 : St) fun s22 =>
    if gR s22 9 l0 44 = 0 then none else
    if inb ((4 * (gI s22 9 l0 45)) + 1) (gL s22 10 (gR s22 9 l0 44)) = false then none else
    lt (sI s22 10 (gR s22 9 l0 44) (ix ((4 * (gI s22 9 l0 45)) + 1)) l2 : St) fun s25 =>
    if gR s25 9 l0 44 = 0 then none else
    if inb ((4 * (gI s25 9 l0 45)) + 2) (gL s25 10 (gR s25 9 l0 44)) = false then none else
    lt (sI s25 10 (gR s25 9 l0 44) (ix ((4 * (gI s25 9 l0 45)) + 2)) l3 : St) fun s28 =>
    if gR s28 9 l0 44 = 0 then none else
    if inb ((4 * (gI s28 9 l0 45)) + 3) (gL s28 10 (gR s28 9 l0 44)) = false then none else
    lt (sI s28 10 (gR s28 9 l0 44) (ix ((4 * (gI s28 9 l0 45)) + 3)) t0 : St) fun s31 =>
    lt (sI s31 9 l0 45 ((gI s31 9 l0 45) + 1) : St) fun s32 =>
    some s32
  else
    some s18
def f_X9_readLine_b50 (fu : Nat) (s : St) (l0 : Nat) (l1 : Int32) (l2 : Int32) (t0 : Int32) : Option (St) :=
  if l1 = 0 then
    if l0 = 0 then none else
    bI (f_X9_readSigned fu s l0 ((-10000)) 10000) fun s15 x16 =>
    f_X9_readLine_b69 fu s15 l0 l1 l2 t0 x16
  else
    f_X9_readLine_b69 fu s l0 l1 l2 t0 0
def f_X9_readLine_b19 (fu : Nat) (s : St) (l0 : Nat) (l1 : Int32) : Option (St) :=
  if l0 = 0 then none else
  bV (f_X9_pass fu s l0) fun s7 =>
  bI (f_X9_readNumber fu s7 l0 0 9) fun s8 x9 =>
  if (2 : Int32) ≤ l1 then
    f_X9_readLine_b50 fu s8 l0 l1 x9 0
  else
    bI (f_X9_readSigned fu s8 l0 ((-1000000)) 1000000) fun s11 x12 =>
    f_X9_readLine_b50 fu s11 l0 l1 x9 x12
def f_X9_readLine (fu : Nat) (s : St) (a0 : Nat) : Option (St) :=
  if a0 = 0 then none else
  bI (f_X9_which fu s a0 (gR s 9 a0 2)) fun s2 x3 =>
  if x3 = ((-1) : Int32) then
    bV (f_X9_wrong fu s2 a0 1) fun s5 =>
    f_X9_readLine_b19 fu s5 a0 x3
  else
    f_X9_readLine_b19 fu s2 a0 x3
def f_X9_refuse (fu : Nat) (s : St) (a0 : Nat) (a1 : Int32) : Option (St × Int32) :=
  if a0 = 0 then none else
  lt (sI s 9 a0 40 a1 : St) fun s2 =>
  some (s2, ((-1)))
def f_X9_takesBack_b91 (fu : Nat) : Nat → St → Nat → Int32 → Option (St)
  | 0, _, _, _ => none
  | n + 1, s, l0, l1 =>
    if (10 : Int32) ≤ l1 then
      some s
    else
      if l0 = 0 then none else
      if gR s 9 l0 49 = 0 then none else
      if inb l1 (gL s 13 (gR s 9 l0 49)) = false then none else
      if gR s 9 l0 10 = 0 then none else
      if inb l1 (gL s 13 (gR s 9 l0 10)) = false then none else
      lt (sI s 13 (gR s 9 l0 10) (ix l1) (vp_nar .boolean (gI s 13 (gR s 9 l0 49) (ix l1))) : St) fun s23 =>
      if gR s23 9 l0 50 = 0 then none else
      if inb (4 * l1) (gL s23 10 (gR s23 9 l0 50)) = false then none else
      if gR s23 9 l0 11 = 0 then none else
      if inb l1 (gL s23 10 (gR s23 9 l0 11)) = false then none else
      lt (sI s23 10 (gR s23 9 l0 11) (ix l1) (gI s23 10 (gR s23 9 l0 50) (ix (4 * l1))) : St) fun s28 =>
      if gR s28 9 l0 50 = 0 then none else
      if inb ((4 * l1) + 1) (gL s28 10 (gR s28 9 l0 50)) = false then none else
      if gR s28 9 l0 12 = 0 then none else
      if inb l1 (gL s28 10 (gR s28 9 l0 12)) = false then none else
      lt (sI s28 10 (gR s28 9 l0 12) (ix l1) (gI s28 10 (gR s28 9 l0 50) (ix ((4 * l1) + 1))) : St) fun s33 =>
      if gR s33 9 l0 50 = 0 then none else
      if inb ((4 * l1) + 2) (gL s33 10 (gR s33 9 l0 50)) = false then none else
      if gR s33 9 l0 13 = 0 then none else
      if inb l1 (gL s33 10 (gR s33 9 l0 13)) = false then none else
      lt (sI s33 10 (gR s33 9 l0 13) (ix l1) (gI s33 10 (gR s33 9 l0 50) (ix ((4 * l1) + 2))) : St) fun s38 =>
      if gR s38 9 l0 50 = 0 then none else
      if inb ((4 * l1) + 3) (gL s38 10 (gR s38 9 l0 50)) = false then none else
      if gR s38 9 l0 14 = 0 then none else
      if inb l1 (gL s38 10 (gR s38 9 l0 14)) = false then none else
      lt (sI s38 10 (gR s38 9 l0 14) (ix l1) (gI s38 10 (gR s38 9 l0 50) (ix ((4 * l1) + 3))) : St) fun s43 =>
      lt (l1 + 1 : Int32) fun x44 =>
      f_X9_takesBack_b91 fu n s43 l0 x44
def f_X9_takesBack (fu : Nat) (s : St) (a0 : Nat) : Option (St) :=
  if a0 = 0 then none else
  if gR s 9 a0 50 = 0 then none else
  if inb 40 (gL s 10 (gR s 9 a0 50)) = false then none else
  lt (sI s 9 a0 22 (gI s 10 (gR s 9 a0 50) (ix 40)) : St) fun s4 =>
  if gR s4 9 a0 50 = 0 then none else
  if inb 41 (gL s4 10 (gR s4 9 a0 50)) = false then none else
  lt (sI s4 9 a0 15 (gI s4 10 (gR s4 9 a0 50) (ix 41)) : St) fun s7 =>
  if gR s7 9 a0 50 = 0 then none else
  if inb 42 (gL s7 10 (gR s7 9 a0 50)) = false then none else
  lt (sI s7 9 a0 16 (gI s7 10 (gR s7 9 a0 50) (ix 42)) : St) fun s10 =>
  if gR s10 9 a0 50 = 0 then none else
  if inb 43 (gL s10 10 (gR s10 9 a0 50)) = false then none else
  lt (sI s10 9 a0 18 (gI s10 10 (gR s10 9 a0 50) (ix 43)) : St) fun s13 =>
  bV (f_X9_copies fu s13 (gR s13 9 a0 19) (gR s13 9 a0 46) (gI s13 9 a0 22)) fun s14 =>
  bV (f_X9_copies fu s14 (gR s14 9 a0 20) (gR s14 9 a0 47) (gI s14 9 a0 22)) fun s15 =>
  bV (f_X9_copies fu s15 (gR s15 9 a0 21) (gR s15 9 a0 48) (gI s15 9 a0 22)) fun s16 =>
  f_X9_takesBack_b91 fu fu s16 a0 0
def f_X9_batch_b17 (fu : Nat) (s : St) (l0 : Nat) : Option (St × Int32) :=
  if l0 = 0 then none else
  bI (f_X9_fail fu s l0 1) fun s9 x10 =>
  some (s9, x10)
def f_X9_batch_b84 (fu : Nat) : Nat → St → Nat → Int32 → Option (St × Int32)
  | 0, _, _, _ => none
  | n + 1, s, l0, l2 =>
    if l0 = 0 then none else
    if (gI s 9 l0 45) ≤ l2 then
      some (s, (gI s 9 l0 45))
    else
      if gR s 9 l0 44 = 0 then none else
      if inb (4 * l2) (gL s 10 (gR s 9 l0 44)) = false then none else
      if inb ((4 * l2) + 1) (gL s 10 (gR s 9 l0 44)) = false then none else
      if inb ((4 * l2) + 2) (gL s 10 (gR s 9 l0 44)) = false then none else
      if inb ((4 * l2) + 3) (gL s 10 (gR s 9 l0 44)) = false then none else
      bI (f_X9_does fu s l0 (gI s 10 (gR s 9 l0 44) (ix (4 * l2))) (gI s 10 (gR s 9 l0 44) (ix ((4 * l2) + 1))) (gI s 10 (gR s 9 l0 44) (ix ((4 * l2) + 2))) (gI s 10 (gR s 9 l0 44) (ix ((4 * l2) + 3)))) fun s29 x30 =>
      lt (sI s29 9 l0 41 x30 : St) fun s31 =>
      if (gI s31 9 l0 41) = 0 then
        lt (l2 + 1 : Int32) fun x37 =>
        f_X9_batch_b84 fu n s31 l0 x37
      else
        bV (f_X9_takesBack fu s31 l0) fun s33 =>
        lt (sI s33 9 l0 43 l2 : St) fun s34 =>
        bI (f_X9_refuse fu s34 l0 4) fun s35 x36 =>
        some (s35, x36)
def f_X9_batch_b58 (fu : Nat) (s : St) (l0 : Nat) : Option (St × Int32) :=
  if l0 = 0 then none else
  bI (f_X9_ended fu s l0) fun s16 x17 =>
  if x17 = 0 then
    bV (f_X9_laysAside fu s16 l0) fun s19 =>
    f_X9_batch_b84 fu fu s19 l0 0
  else
    bI (f_X9_refuse fu s16 l0 1) fun s20 x21 =>
    some (s20, ((x21 - 1) - (gI s20 9 l0 31)))
def f_X9_batch_b37 (fu : Nat) : Nat → St → Nat → Option (St × Int32)
  | 0, _, _ => none
  | n + 1, s, l0 =>
    if l0 = 0 then none else
    if (gI s 9 l0 31) = 0 then
      if (gI s 9 l0 27) = 0 then
        f_X9_batch_b58 fu s l0
      else
        bV (f_X9_readLine fu s l0) fun s14 =>
        f_X9_batch_b37 fu n s14 l0
    else
      f_X9_batch_b58 fu s l0
def f_X9_batch (fu : Nat) (s : St) (a0 : Nat) (a1 : Int32) : Option (St × Int32) :=
  if a0 = 0 then none else
  lt (sI s 9 a0 3 0 : St) fun s2 =>
  if a1 < 0 then
    f_X9_batch_b17 fu s2 a0
  else
    if a1 ≤ (gI s2 9 a0 24) then
      bV (f_X9_fine fu s2 a0) fun s5 =>
      bV (f_X9_begin fu s5 a0 a1) fun s6 =>
      lt (sI s6 9 a0 45 0 : St) fun s7 =>
      f_X9_batch_b37 fu fu s7 a0
    else
      f_X9_batch_b17 fu s2 a0
def f_X9_meanOf_b66 (fu : Nat) (s : St) : Option (St × Int32) :=
  some (s, ((-20000)))
def f_X9_meanOf (fu : Nat) (s : St) (a0 : Nat) (a1 : Int32) (a2 : Int32) (a3 : Int32) : Option (St × Int32) :=
  if a0 = 0 then none else
  bI (f_X9_placeOf fu s a0 a1 (Int32.toInt64 a3)) fun s2 x3 =>
  if x3 = (gI s2 9 a0 22) then
    f_X9_meanOf_b66 fu s2
  else
    if gR s2 9 a0 19 = 0 then none else
    if inb x3 (gL s2 10 (gR s2 9 a0 19)) = false then none else
    if (gI s2 10 (gR s2 9 a0 19) (ix x3)) = a1 then
      if gR s2 9 a0 20 = 0 then none else
      if inb x3 (gL s2 10 (gR s2 9 a0 20)) = false then none else
      if gR s2 9 a0 4 = 0 then none else
      if inb a2 (gL s2 10 (gR s2 9 a0 4)) = false then none else
      if 0 ≤ (lg_cmp (Int32.toInt64 (gI s2 10 (gR s2 9 a0 20) (ix x3))) ((Int32.toInt64 a3) + (Int32.toInt64 (gI s2 10 (gR s2 9 a0 4) (ix a2))))) then
        f_X9_meanOf_b66 fu s2
      else
        if gR s2 9 a0 11 = 0 then none else
        if inb a1 (gL s2 10 (gR s2 9 a0 11)) = false then none else
        bI (f_X9_tierBy fu s2 a0 (gI s2 10 (gR s2 9 a0 11) (ix a1)) a3) fun s15 x16 =>
        if x16 = a2 then
          bI (f_X9_bucketFrom fu s15 a0 x3) fun s18 x19 =>
          bI (f_X9_meanNow fu s18 a0) fun s20 x21 =>
          some (s20, x21)
        else
          f_X9_meanOf_b66 fu s15
    else
      f_X9_meanOf_b66 fu s2
def f_X9_both_b33 (fu : Nat) (s : St) (l0 : Nat) : Option (St × Int32) :=
  if l0 = 0 then none else
  bI (f_X9_fail fu s l0 1) fun s17 x18 =>
  some (s17, x18)
def f_X9_both_b128 (fu : Nat) (k64 : St → Nat → Int32 → Int32 → Int32 → Int32 → Int32 → Int32 → Int32 → Option (St × Int32)) (s : St) (l0 : Nat) (l2 : Int32) (l3 : Int32) (l4 : Int32) (l6 : Int32) (l7 : Int32) (l8 : Int32) (l9 : Int32) (l10 : Int32) (t0 : Int32) (t1 : Int32) : Option (St × Int32) :=
  lt (t1 + t0 : Int32) fun x32 =>
  bI (f_J9_abs_0f7a4 fu s (l9 - l10)) fun s33 x34 =>
  bI (f_J9_max_7cf53 fu s33 l6 x34) fun s35 x36 =>
  k64 s35 l0 l2 l3 l4 x32 x36 l7 l8
def f_X9_both_b170 (fu : Nat) (s : St) (t0 : Int32) : Option (St × Int32) :=
  some (s, t0)
def f_X9_both_b64 (fu : Nat) : Nat → St → Nat → Int32 → Int32 → Int32 → Int32 → Int32 → Int32 → Int32 → Option (St × Int32)
  | 0, _, _, _, _, _, _, _, _, _ => none
  | n + 1, s, l0, l2, l3, l4, l5, l6, l7, l8 =>
    if l7 ≤ l8 then
      if l3 = 0 then
        f_X9_both_b170 fu s l4
      else
        if l3 = (1 : Int32) then
          f_X9_both_b170 fu s l5
        else
          f_X9_both_b170 fu s l6
    else
      if l0 = 0 then none else
      bI (f_X9_bucketFrom fu s l0 l8) fun s23 x24 =>
      bI (f_X9_meanNow fu s23 l0) fun s25 x26 =>
      bI (f_X9_meanOf fu s25 l0 l2 (gI s25 9 l0 51) (gI s25 9 l0 52)) fun s27 x28 =>
      if x28 = ((-20000) : Int32) then
        f_X9_both_b64 fu n s27 l0 l2 l3 l4 l5 l6 l7 x24
      else
        lt (l4 + 1 : Int32) fun x30 =>
        if x26 ≤ x28 then
          f_X9_both_b128 fu (f_X9_both_b64 fu n) s27 l0 l2 l3 x30 l6 l7 x24 x26 x28 0 l5
        else
          f_X9_both_b128 fu (f_X9_both_b64 fu n) s27 l0 l2 l3 x30 l6 l7 x24 x26 x28 1 l5
def f_X9_both (fu : Nat) (s : St) (a0 : Nat) (a1 : Int32) (a2 : Int32) (a3 : Int32) : Option (St × Int32) :=
  if a0 = 0 then none else
  lt (sI s 9 a0 3 0 : St) fun s2 =>
  bI (f_X9_isSeries fu s2 a0 a1) fun s3 x4 =>
  if x4 = 0 then
    f_X9_both_b33 fu s3 a0
  else
    bI (f_X9_isSeries fu s3 a0 a2) fun s6 x7 =>
    if x7 = 0 then
      f_X9_both_b33 fu s6 a0
    else
      bI (f_X9_isIn fu s6 (Int32.toInt64 a3) 0 2) fun s9 x10 =>
      if x10 = 0 then
        f_X9_both_b33 fu s9 a0
      else
        bI (f_X9_behindOf fu s9 a0 a1) fun s12 x13 =>
        bI (f_X9_firstOf fu s12 a0 a1) fun s14 x15 =>
        f_X9_both_b64 fu fu s14 a0 a2 a3 0 0 ((-20000)) x13 x15
def f_X9_bucketsIn_b18 (fu : Nat) : Nat → St → Nat → Int32 → Int32 → Int32 → Option (St × Int32)
  | 0, _, _, _, _, _ => none
  | n + 1, s, l0, l3, l4, l5 =>
    if l4 ≤ l5 then
      some (s, l3)
    else
      lt (l3 + 1 : Int32) fun x7 =>
      if l0 = 0 then none else
      bI (f_X9_bucketFrom fu s l0 l5) fun s9 x10 =>
      f_X9_bucketsIn_b18 fu n s9 l0 x7 l4 x10
def f_X9_bucketsIn (fu : Nat) (s : St) (a0 : Nat) (a1 : Int32) (a2 : Int32) : Option (St × Int32) :=
  if a0 = 0 then none else
  bI (f_X9_tierTo fu s a0 a1 a2) fun s2 x3 =>
  bI (f_X9_tierFrom fu s2 a0 a1 a2) fun s4 x5 =>
  f_X9_bucketsIn_b18 fu fu s4 a0 0 x3 x5
def f_X9_isTier (fu : Nat) (s : St) (a0 : Nat) (a1 : Int32) : Option (St × Int32) :=
  if a0 = 0 then none else
  bI (f_X9_isIn fu s (Int32.toInt64 a1) 0 (Int32.toInt64 ((gI s 9 a0 7) - 1))) fun s2 x3 =>
  if zb x3 = false then none else
  some (s2, x3)
def f_X9_bucket_b39 (fu : Nat) (s : St) (l0 : Nat) : Option (St × Int64) :=
  if l0 = 0 then none else
  bI (f_X9_fail fu s l0 1) fun s17 x18 =>
  some (s17, (Int32.toInt64 x18))
def f_X9_bucket_b57 (fu : Nat) : Nat → St → Nat → Int32 → Int32 → Int32 → Int32 → Option (St × Int64)
  | 0, _, _, _, _, _, _ => none
  | n + 1, s, l0, l3, l4, l5, l6 =>
    if l3 < l6 then
      if l4 = 0 then
        if l0 = 0 then none else
        some (s, (Int32.toInt64 (gI s 9 l0 52)))
      else
      if l4 = 1 then
        if l0 = 0 then none else
        some (s, (Int32.toInt64 (gI s 9 l0 53)))
      else
      if l4 = 2 then
        if l0 = 0 then none else
        some (s, (gJ s 9 l0 56))
      else
      if l4 = 3 then
        if l0 = 0 then none else
        some (s, (Int32.toInt64 (gI s 9 l0 54)))
      else
      if l4 = 4 then
        if l0 = 0 then none else
        some (s, (Int32.toInt64 (gI s 9 l0 55)))
      else
      if l4 = 5 then
        if l0 = 0 then none else
        bI (f_X9_meanNow fu s l0) fun s32 x33 =>
        some (s32, (Int32.toInt64 x33))
      else
      if l0 = 0 then none else
      bI (f_X9_fail fu s l0 1) fun s35 x36 =>
      some (s35, (Int32.toInt64 x36))
    else
      if l0 = 0 then none else
      bI (f_X9_bucketFrom fu s l0 l5) fun s38 x39 =>
      lt (l6 + 1 : Int32) fun x40 =>
      f_X9_bucket_b57 fu n s38 l0 l3 l4 x39 x40
def f_X9_bucket (fu : Nat) (s : St) (a0 : Nat) (a1 : Int32) (a2 : Int32) (a3 : Int32) (a4 : Int32) : Option (St × Int64) :=
  if a0 = 0 then none else
  lt (sI s 9 a0 3 0 : St) fun s2 =>
  bI (f_X9_isSeries fu s2 a0 a1) fun s3 x4 =>
  if x4 = 0 then
    f_X9_bucket_b39 fu s3 a0
  else
    bI (f_X9_isTier fu s3 a0 a2) fun s6 x7 =>
    if x7 = 0 then
      f_X9_bucket_b39 fu s6 a0
    else
      bI (f_X9_bucketsIn fu s6 a0 a1 a2) fun s9 x10 =>
      bI (f_X9_isIn fu s9 (Int32.toInt64 a3) 0 (Int32.toInt64 (x10 - 1))) fun s11 x12 =>
      if x12 = 0 then
        f_X9_bucket_b39 fu s11 a0
      else
        bI (f_X9_tierFrom fu s11 a0 a1 a2) fun s14 x15 =>
        f_X9_bucket_b57 fu fu s14 a0 a3 a4 x15 0
def f_X9_buckets_b35 (fu : Nat) (s : St) (t0 : Int32) : Option (St × Int32) :=
  some (s, t0)
def f_X9_buckets_b30 (fu : Nat) (s : St) (l0 : Nat) : Option (St × Int32) :=
  if l0 = 0 then none else
  bI (f_X9_fail fu s l0 1) fun s12 x13 =>
  f_X9_buckets_b35 fu s12 x13
def f_X9_buckets (fu : Nat) (s : St) (a0 : Nat) (a1 : Int32) (a2 : Int32) : Option (St × Int32) :=
  if a0 = 0 then none else
  lt (sI s 9 a0 3 0 : St) fun s2 =>
  bI (f_X9_isSeries fu s2 a0 a1) fun s3 x4 =>
  if x4 = 0 then
    f_X9_buckets_b30 fu s3 a0
  else
    bI (f_X9_isTier fu s3 a0 a2) fun s6 x7 =>
    if x7 = 0 then
      f_X9_buckets_b30 fu s6 a0
    else
      bI (f_X9_bucketsIn fu s6 a0 a1 a2) fun s9 x10 =>
      f_X9_buckets_b35 fu s9 x10
def f_X9_count_b74 (fu : Nat) (s : St) (t0 : Int32) : Option (St × Int32) :=
  some (s, t0)
def f_X9_count (fu : Nat) (s : St) (a0 : Nat) (a1 : Int32) : Option (St × Int32) :=
  if a0 = 0 then none else
  lt (sI s 9 a0 3 0 : St) fun s2 =>
  if a1 = 0 then
    some (s2, (gI s2 9 a0 7))
  else
  if a1 = 1 then
    some (s2, (gI s2 9 a0 8))
  else
  if a1 = 2 then
    if (gI s2 9 a0 9) ≤ 0 then
      f_X9_count_b74 fu s2 0
    else
      f_X9_count_b74 fu s2 1
  else
  if a1 = 3 then
    bI (f_X9_series fu s2 a0) fun s8 x9 =>
    some (s8, x9)
  else
  if a1 = 4 then
    some (s2, (gI s2 9 a0 24))
  else
  if a1 = 5 then
    some (s2, (gI s2 9 a0 16))
  else
  if a1 = 6 then
    some (s2, (gI s2 9 a0 17))
  else
  if a1 = 7 then
    some (s2, (gI s2 9 a0 18))
  else
  bI (f_X9_fail fu s2 a0 1) fun s14 x15 =>
  some (s14, x15)
def f_X9_drop_b44 (fu : Nat) (s : St) (t0 : Int32) : Option (St × Int32) :=
  some (s, t0)
def f_X9_drop (fu : Nat) (s : St) (a0 : Nat) (a1 : Int32) : Option (St × Int32) :=
  if a0 = 0 then none else
  lt (sI s 9 a0 3 0 : St) fun s2 =>
  bV (f_X9_fine fu s2 a0) fun s3 =>
  bI (f_X9_isId fu s3 a1) fun s4 x5 =>
  if x5 = 0 then
    bI (f_X9_refuse fu s4 a0 1) fun s14 x15 =>
    some (s14, x15)
  else
    if gR s4 9 a0 10 = 0 then none else
    if inb a1 (gL s4 13 (gR s4 9 a0 10)) = false then none else
    if (gI s4 13 (gR s4 9 a0 10) (ix a1)) = 0 then
      bI (f_X9_refuse fu s4 a0 3) fun s10 x11 =>
      f_X9_drop_b44 fu s10 x11
    else
      bI (f_X9_leaves fu s4 a0 a1) fun s12 x13 =>
      f_X9_drop_b44 fu s12 x13
def f_X9_fault (fu : Nat) (s : St) (a0 : Nat) : Option (St × Int32) :=
  if a0 = 0 then none else
  lt (sI s 9 a0 3 0 : St) fun s2 =>
  some (s2, (gI s2 9 a0 33))
def f_X9_feed_b76 (fu : Nat) (k23 : St → Nat → Int32 → Int32 → Int32 → Int32 → Int32 → Int32 → Option (St × Int32)) (s : St) (l0 : Nat) (l1 : Int32) (l2 : Int32) (l3 : Int32) (l4 : Int32) (l5 : Int32) (l6 : Int32) (t0 : Int32) : Option (St × Int32) :=
  if l0 = 0 then none else
  if gR s 9 l0 23 = 0 then none else
  if inb (gI s 9 l0 24) (gL s 10 (gR s 9 l0 23)) = false then none else
  lt (sI s 10 (gR s 9 l0 23) (ix (gI s 9 l0 24)) ((t0 >>> ((24 - (8 * (l6 - l6 / 4 * 4))) &&& 31)) &&& 255) : St) fun s14 =>
  lt (sI s14 9 l0 24 ((gI s14 9 l0 24) + 1) : St) fun s15 =>
  lt (l6 + 1 : Int32) fun x16 =>
  k23 s15 l0 l1 l2 l3 l4 l5 x16
def f_X9_feed_b23 (fu : Nat) : Nat → St → Nat → Int32 → Int32 → Int32 → Int32 → Int32 → Int32 → Option (St × Int32)
  | 0, _, _, _, _, _, _, _, _ => none
  | n + 1, s, l0, l1, l2, l3, l4, l5, l6 =>
    if (20 : Int32) ≤ l6 then
      if l0 = 0 then none else
      some (s, (gI s 9 l0 24))
    else
      if (4 : Int32) ≤ l6 then
        if (8 : Int32) ≤ l6 then
          if (12 : Int32) ≤ l6 then
            if (16 : Int32) ≤ l6 then
              f_X9_feed_b76 fu (f_X9_feed_b23 fu n) s l0 l1 l2 l3 l4 l5 l6 l5
            else
              f_X9_feed_b76 fu (f_X9_feed_b23 fu n) s l0 l1 l2 l3 l4 l5 l6 l4
          else
            f_X9_feed_b76 fu (f_X9_feed_b23 fu n) s l0 l1 l2 l3 l4 l5 l6 l3
        else
          f_X9_feed_b76 fu (f_X9_feed_b23 fu n) s l0 l1 l2 l3 l4 l5 l6 l2
      else
        f_X9_feed_b76 fu (f_X9_feed_b23 fu n) s l0 l1 l2 l3 l4 l5 l6 l1
def f_X9_feed (fu : Nat) (s : St) (a0 : Nat) (a1 : Int32) (a2 : Int32) (a3 : Int32) (a4 : Int32) (a5 : Int32) : Option (St × Int32) :=
  if a0 = 0 then none else
  lt (sI s 9 a0 3 0 : St) fun s2 =>
  if ((gI s2 9 a0 24) + 20) ≤ (600 : Int32) then
    f_X9_feed_b23 fu fu s2 a0 a1 a2 a3 a4 a5 0
  else
    some (s2, ((-1)))
def f_X9_gap_b21 (fu : Nat) (s : St) (l0 : Nat) : Option (St × Int32) :=
  if l0 = 0 then none else
  bI (f_X9_fail fu s l0 1) fun s14 x15 =>
  some (s14, x15)
def f_X9_gap_b113 (fu : Nat) (s : St) (t0 : Int32) : Option (St × Int32) :=
  some (s, t0)
def f_X9_gap_b117 (fu : Nat) (k54 : St → Nat → Int32 → Int32 → Int32 → Int32 → Int32 → Int32 → Int32 → Int32 → Option (St × Int32)) (s : St) (l0 : Nat) (l2 : Int32) (l3 : Int32) (l4 : Int32) (l5 : Int32) (l7 : Int32) (l9 : Int32) : Option (St × Int32) :=
  if l0 = 0 then none else
  if gR s 9 l0 4 = 0 then none else
  if inb l2 (gL s 10 (gR s 9 l0 4)) = false then none else
  lt ((gI s 9 l0 52) + (gI s 10 (gR s 9 l0 4) (ix l2)) : Int32) fun x35 =>
  k54 s l0 l2 l3 l4 l5 x35 l7 1 l9
def f_X9_gap_b151 (fu : Nat) (s : St) (t0 : Int32) : Option (St × Int32) :=
  some (s, t0)
def f_X9_gap_b54 (fu : Nat) : Nat → St → Nat → Int32 → Int32 → Int32 → Int32 → Int32 → Int32 → Int32 → Int32 → Option (St × Int32)
  | 0, _, _, _, _, _, _, _, _, _, _ => none
  | n + 1, s, l0, l2, l3, l4, l5, l6, l7, l8, l9 =>
    if l5 ≤ l9 then
      if l3 = ((-1) : Int32) then
        f_X9_gap_b151 fu s l7
      else
        if l0 = 0 then none else
        bI (f_X9_fail fu s l0 1) fun s19 x20 =>
        f_X9_gap_b151 fu s19 x20
    else
      if l0 = 0 then none else
      bI (f_X9_bucketFrom fu s l0 l9) fun s22 x23 =>
      if l8 = 0 then
        f_X9_gap_b117 fu (f_X9_gap_b54 fu n) s22 l0 l2 l3 l4 l5 l7 x23
      else
        if (gI s22 9 l0 52) ≤ l6 then
          f_X9_gap_b117 fu (f_X9_gap_b54 fu n) s22 l0 l2 l3 l4 l5 l7 x23
        else
          if l7 = l3 then
            if l4 = 0 then
              f_X9_gap_b113 fu s22 l6
            else
              if gR s22 9 l0 4 = 0 then none else
              if inb l2 (gL s22 10 (gR s22 9 l0 4)) = false then none else
              if gI s22 10 (gR s22 9 l0 4) (ix l2) = 0 then none else
              f_X9_gap_b113 fu s22 (((gI s22 9 l0 52) - l6) / (gI s22 10 (gR s22 9 l0 4) (ix l2)))
          else
            lt (l7 + 1 : Int32) fun x27 =>
            f_X9_gap_b117 fu (f_X9_gap_b54 fu n) s22 l0 l2 l3 l4 l5 x27 x23
def f_X9_gap (fu : Nat) (s : St) (a0 : Nat) (a1 : Int32) (a2 : Int32) (a3 : Int32) (a4 : Int32) : Option (St × Int32) :=
  if a0 = 0 then none else
  lt (sI s 9 a0 3 0 : St) fun s2 =>
  bI (f_X9_isSeries fu s2 a0 a1) fun s3 x4 =>
  if x4 = 0 then
    f_X9_gap_b21 fu s3 a0
  else
    bI (f_X9_isTier fu s3 a0 a2) fun s6 x7 =>
    if x7 = 0 then
      f_X9_gap_b21 fu s6 a0
    else
      bI (f_X9_tierTo fu s6 a0 a1 a2) fun s9 x10 =>
      bI (f_X9_tierFrom fu s9 a0 a1 a2) fun s11 x12 =>
      f_X9_gap_b54 fu fu s11 a0 a2 a3 a4 x10 ((-20000)) 0 0 x12
def f_X9_allBuckets_b15 (fu : Nat) : Nat → St → Nat → Int32 → Int32 → Int32 → Option (St × Int32)
  | 0, _, _, _, _, _ => none
  | n + 1, s, l0, l2, l3, l4 =>
    if l3 ≤ l4 then
      some (s, l2)
    else
      lt (l2 + 1 : Int32) fun x7 =>
      if l0 = 0 then none else
      bI (f_X9_bucketFrom fu s l0 l4) fun s9 x10 =>
      f_X9_allBuckets_b15 fu n s9 l0 x7 l3 x10
def f_X9_allBuckets (fu : Nat) (s : St) (a0 : Nat) (a1 : Int32) : Option (St × Int32) :=
  if a0 = 0 then none else
  bI (f_X9_behindOf fu s a0 a1) fun s2 x3 =>
  bI (f_X9_firstOf fu s2 a0 a1) fun s4 x5 =>
  f_X9_allBuckets_b15 fu fu s4 a0 0 x3 x5
def f_X9_allBy_b112 (fu : Nat) (k28 : St → Nat → Int32 → Int32 → Int64 → Int32 → Option (St × Int64)) (s : St) (l0 : Nat) (l2 : Int32) (l3 : Int32) (l4 : Int64) (l6 : Int32) : Option (St × Int64) :=
  lt (l6 + 1 : Int32) fun x29 =>
  k28 s l0 l2 l3 l4 x29
def f_X9_allBy_b110 (fu : Nat) (k28 : St → Nat → Int32 → Int32 → Int64 → Int32 → Option (St × Int64)) (s : St) (l0 : Nat) (l2 : Int32) (l3 : Int32) (l6 : Int32) (t0 : Int64) : Option (St × Int64) :=
  f_X9_allBy_b112 fu k28 s l0 l2 l3 t0 l6
def f_X9_allBy_b28 (fu : Nat) : Nat → St → Nat → Int32 → Int32 → Int64 → Int32 → Option (St × Int64)
  | 0, _, _, _, _, _, _ => none
  | n + 1, s, l0, l2, l3, l4, l6 =>
    if l3 ≤ l6 then
      some (s, l4)
    else
      if l2 = (7 : Int32) then
        if l0 = 0 then none else
        if gR s 9 l0 21 = 0 then none else
        if inb l6 (gL s 10 (gR s 9 l0 21)) = false then none else
        lt (l4 + (Int32.toInt64 (gI s 10 (gR s 9 l0 21) (ix l6))) : Int64) fun x28 =>
        f_X9_allBy_b112 fu (f_X9_allBy_b28 fu n) s l0 l2 l3 x28 l6
      else
        if (lg_cmp l4 ((-20000))) = 0 then
          if l0 = 0 then none else
          if gR s 9 l0 21 = 0 then none else
          if inb l6 (gL s 10 (gR s 9 l0 21)) = false then none else
          f_X9_allBy_b110 fu (f_X9_allBy_b28 fu n) s l0 l2 l3 l6 (Int32.toInt64 (gI s 10 (gR s 9 l0 21) (ix l6)))
        else
          if l2 = (5 : Int32) then
            if l0 = 0 then none else
            if gR s 9 l0 21 = 0 then none else
            if inb l6 (gL s 10 (gR s 9 l0 21)) = false then none else
            bI (f_J9_min_f86c9 fu s l4 (Int32.toInt64 (gI s 10 (gR s 9 l0 21) (ix l6)))) fun s20 x21 =>
            f_X9_allBy_b110 fu (f_X9_allBy_b28 fu n) s20 l0 l2 l3 l6 x21
          else
            if l0 = 0 then none else
            if gR s 9 l0 21 = 0 then none else
            if inb l6 (gL s 10 (gR s 9 l0 21)) = false then none else
            bI (f_J9_max_f86c9 fu s l4 (Int32.toInt64 (gI s 10 (gR s 9 l0 21) (ix l6)))) fun s15 x16 =>
            f_X9_allBy_b110 fu (f_X9_allBy_b28 fu n) s15 l0 l2 l3 l6 x16
def f_X9_allBy_b19 (fu : Nat) (s : St) (l0 : Nat) (l1 : Int32) (l2 : Int32) (l3 : Int32) (t0 : Int64) : Option (St × Int64) :=
  if l0 = 0 then none else
  bI (f_X9_firstOf fu s l0 l1) fun s6 x7 =>
  f_X9_allBy_b28 fu fu s6 l0 l2 l3 t0 x7
def f_X9_allBy (fu : Nat) (s : St) (a0 : Nat) (a1 : Int32) (a2 : Int32) : Option (St × Int64) :=
  if a0 = 0 then none else
  bI (f_X9_behindOf fu s a0 a1) fun s2 x3 =>
  if a2 = (7 : Int32) then
    f_X9_allBy_b19 fu s2 a0 a1 a2 x3 0
  else
    f_X9_allBy_b19 fu s2 a0 a1 a2 x3 ((-20000))
def f_X9_of_b112 (fu : Nat) (s : St) (l0 : Nat) (l1 : Int32) (l2 : Int32) : Option (St × Int64) :=
  if l0 = 0 then none else
  bI (f_X9_allBy fu s l0 l1 l2) fun s31 x32 =>
  some (s31, x32)
def f_X9_of (fu : Nat) (s : St) (a0 : Nat) (a1 : Int32) (a2 : Int32) : Option (St × Int64) :=
  if a0 = 0 then none else
  lt (sI s 9 a0 3 0 : St) fun s2 =>
  bI (f_X9_isSeries fu s2 a0 a1) fun s3 x4 =>
  if x4 = 0 then
    bI (f_X9_fail fu s3 a0 1) fun s28 x29 =>
    some (s28, (Int32.toInt64 x29))
  else
    if a2 = 0 then
      if gR s3 9 a0 11 = 0 then none else
      if inb a1 (gL s3 10 (gR s3 9 a0 11)) = false then none else
      some (s3, (Int32.toInt64 (gI s3 10 (gR s3 9 a0 11) (ix a1))))
    else
    if a2 = 1 then
      bI (f_X9_allBuckets fu s3 a0 a1) fun s10 x11 =>
      some (s10, (Int32.toInt64 x11))
    else
    if a2 = 2 then
      bI (f_X9_behindOf fu s3 a0 a1) fun s13 x14 =>
      bI (f_X9_firstOf fu s13 a0 a1) fun s15 x16 =>
      some (s15, (Int32.toInt64 (x14 - x16)))
    else
    if a2 = 3 then
      if gR s3 9 a0 12 = 0 then none else
      if inb a1 (gL s3 10 (gR s3 9 a0 12)) = false then none else
      some (s3, (Int32.toInt64 (gI s3 10 (gR s3 9 a0 12) (ix a1))))
    else
    if a2 = 4 then
      if gR s3 9 a0 13 = 0 then none else
      if inb a1 (gL s3 10 (gR s3 9 a0 13)) = false then none else
      some (s3, (Int32.toInt64 (gI s3 10 (gR s3 9 a0 13) (ix a1))))
    else
    if a2 = 5 then
      f_X9_of_b112 fu s3 a0 a1 5
    else
    if a2 = 6 then
      f_X9_of_b112 fu s3 a0 a1 6
    else
    if a2 = 7 then
      f_X9_of_b112 fu s3 a0 a1 7
    else
    bI (f_X9_fail fu s3 a0 1) fun s26 x27 =>
    some (s26, (Int32.toInt64 x27))
def f_X9_isValue (fu : Nat) (s : St) (a0 : Int64) : Option (St × Int32) :=
  bI (f_X9_isIn fu s a0 ((-10000)) 10000) fun s1 x2 =>
  if zb x2 = false then none else
  some (s1, x2)
def f_X9_put_b32 (fu : Nat) (s : St) (l0 : Nat) : Option (St × Int32) :=
  if l0 = 0 then none else
  bI (f_X9_refuse fu s l0 1) fun s30 x31 =>
  some (s30, x31)
def f_X9_put (fu : Nat) (s : St) (a0 : Nat) (a1 : Int32) (a2 : Int32) (a3 : Int32) : Option (St × Int32) :=
  if a0 = 0 then none else
  lt (sI s 9 a0 3 0 : St) fun s2 =>
  bV (f_X9_fine fu s2 a0) fun s3 =>
  bI (f_X9_isId fu s3 a1) fun s4 x5 =>
  if x5 = 0 then
    f_X9_put_b32 fu s4 a0
  else
    bI (f_X9_isTime fu s4 (Int32.toInt64 a2)) fun s7 x8 =>
    if x8 = 0 then
      f_X9_put_b32 fu s7 a0
    else
      bI (f_X9_isValue fu s7 (Int32.toInt64 a3)) fun s10 x11 =>
      if x11 = 0 then
        f_X9_put_b32 fu s10 a0
      else
        bI (f_X9_isLate fu s10 a0 a1 a2) fun s13 x14 =>
        if x14 = 0 then
          bV (f_X9_puts fu s13 a0 a1 a2 a3) fun s16 =>
          if gR s16 9 a0 11 = 0 then none else
          if inb a1 (gL s16 10 (gR s16 9 a0 11)) = false then none else
          bI (f_X9_tierBy fu s16 a0 (gI s16 10 (gR s16 9 a0 11) (ix a1)) a2) fun s19 x20 =>
          some (s19, x20)
        else
          if gR s13 9 a0 12 = 0 then none else
          if inb a1 (gL s13 10 (gR s13 9 a0 12)) = false then none else
          if inb a1 (gL s13 10 (gR s13 9 a0 12)) = false then none else
          lt (sI s13 10 (gR s13 9 a0 12) (ix a1) ((gI s13 10 (gR s13 9 a0 12) (ix a1)) + 1) : St) fun s24 =>
          lt (sI s24 9 a0 17 ((gI s24 9 a0 17) + 1) : St) fun s25 =>
          bV (f_X9_isLateBy fu s25 a0 a1 a2) fun s26 =>
          bI (f_X9_refuse fu s26 a0 2) fun s27 x28 =>
          some (s27, x28)
def f_X9_seam_b40 (fu : Nat) (s : St) (t0 : Int32) : Option (St × Int32) :=
  some (s, t0)
def f_X9_seam_b35 (fu : Nat) (s : St) (l0 : Nat) : Option (St × Int32) :=
  if l0 = 0 then none else
  bI (f_X9_fail fu s l0 1) fun s14 x15 =>
  f_X9_seam_b40 fu s14 x15
def f_X9_seam (fu : Nat) (s : St) (a0 : Nat) (a1 : Int32) (a2 : Int32) : Option (St × Int32) :=
  if a0 = 0 then none else
  lt (sI s 9 a0 3 0 : St) fun s2 =>
  bI (f_X9_isSeries fu s2 a0 a1) fun s3 x4 =>
  if x4 = 0 then
    f_X9_seam_b35 fu s3 a0
  else
    bI (f_X9_isTier fu s3 a0 a2) fun s6 x7 =>
    if x7 = 0 then
      f_X9_seam_b35 fu s6 a0
    else
      if gR s6 9 a0 11 = 0 then none else
      if inb a1 (gL s6 10 (gR s6 9 a0 11)) = false then none else
      bI (f_X9_seamBy fu s6 a0 (gI s6 10 (gR s6 9 a0 11) (ix a1)) a2) fun s11 x12 =>
      f_X9_seam_b40 fu s11 x12
def f_X9_sheet_b28 (fu : Nat) (s : St) (l0 : Nat) : Option (St × Int32) :=
  if l0 = 0 then none else
  bI (f_X9_refuse fu s l0 1) fun s11 x12 =>
  some (s11, x12)
def f_X9_sheet_b138 (fu : Nat) (k40 : St → Nat → Int32 → Int32 → Int32 → Int32 → Int32 → Int32 → Int32 → Int32 → Option (St × Int32)) (s : St) (l0 : Nat) (l1 : Int32) (l2 : Int32) (l3 : Int32) (l4 : Int32) (l5 : Int32) (l6 : Int32) (l7 : Int32) (l8 : Int32) : Option (St × Int32) :=
  lt (l8 + 1 : Int32) fun x33 =>
  k40 s l0 l1 l2 l3 l4 l5 l6 l7 x33
def f_X9_sheet_b40 (fu : Nat) : Nat → St → Nat → Int32 → Int32 → Int32 → Int32 → Int32 → Int32 → Int32 → Int32 → Option (St × Int32)
  | 0, _, _, _, _, _, _, _, _, _, _ => none
  | n + 1, s, l0, l1, l2, l3, l4, l5, l6, l7, l8 =>
    if l2 ≤ l8 then
      some (s, l7)
    else
      lt (((Int32.toInt64 l4) * (Int32.toInt64 l8)) + (Int32.toInt64 l3) : Int64) fun x14 =>
      lt (((Int32.toInt64 l6) * (Int32.toInt64 l8)) + (Int32.toInt64 l5) : Int64) fun x15 =>
      bI (f_X9_isTime fu s x14) fun s16 x17 =>
      if x17 = 0 then
        f_X9_sheet_b138 fu (f_X9_sheet_b40 fu n) s16 l0 l1 l2 l3 l4 l5 l6 l7 l8
      else
        bI (f_X9_isValue fu s16 x15) fun s19 x20 =>
        if x20 = 0 then
          f_X9_sheet_b138 fu (f_X9_sheet_b40 fu n) s19 l0 l1 l2 l3 l4 l5 l6 l7 l8
        else
          if l0 = 0 then none else
          bI (f_X9_isLate fu s19 l0 l1 (Int64.toInt32 x14)) fun s23 x24 =>
          if x24 = 0 then
            bV (f_X9_puts fu s23 l0 l1 (Int64.toInt32 x14) (Int64.toInt32 x15)) fun s26 =>
            lt (l7 + 1 : Int32) fun x27 =>
            f_X9_sheet_b138 fu (f_X9_sheet_b40 fu n) s26 l0 l1 l2 l3 l4 l5 l6 x27 l8
          else
            if gR s23 9 l0 12 = 0 then none else
            if inb l1 (gL s23 10 (gR s23 9 l0 12)) = false then none else
            if inb l1 (gL s23 10 (gR s23 9 l0 12)) = false then none else
            lt (sI s23 10 (gR s23 9 l0 12) (ix l1) ((gI s23 10 (gR s23 9 l0 12) (ix l1)) + 1) : St) fun s31 =>
            lt (sI s31 9 l0 17 ((gI s31 9 l0 17) + 1) : St) fun s32 =>
            f_X9_sheet_b138 fu (f_X9_sheet_b40 fu n) s32 l0 l1 l2 l3 l4 l5 l6 l7 l8
def f_X9_sheet (fu : Nat) (s : St) (a0 : Nat) (a1 : Int32) (a2 : Int32) (a3 : Int32) (a4 : Int32) (a5 : Int32) (a6 : Int32) : Option (St × Int32) :=
  if a0 = 0 then none else
  lt (sI s 9 a0 3 0 : St) fun s2 =>
  bV (f_X9_fine fu s2 a0) fun s3 =>
  bI (f_X9_isId fu s3 a1) fun s4 x5 =>
  if x5 = 0 then
    f_X9_sheet_b28 fu s4 a0
  else
    bI (f_X9_isIn fu s4 (Int32.toInt64 a2) 0 60) fun s7 x8 =>
    if x8 = 0 then
      f_X9_sheet_b28 fu s7 a0
    else
      f_X9_sheet_b40 fu fu s7 a0 a1 a2 a3 a4 a5 a6 0 0
def f_X9_lay (fu : Nat) (s : St) (a0 : Nat) (a1 : Int32) : Option (St) :=
  if a0 = 0 then none else
  if (gI s 9 a0 31) = 0 then
    if gR s 9 a0 36 = 0 then none else
    if inb (gI s 9 a0 39) (gL s 10 (gR s 9 a0 36)) = false then none else
    lt (sI s 10 (gR s 9 a0 36) (ix (gI s 9 a0 39)) a1 : St) fun s5 =>
    lt (sI s5 9 a0 39 ((gI s5 9 a0 39) + 1) : St) fun s6 =>
    some s6
  else
    some s
def f_X9_readAll_b5 (fu : Nat) (c_X9_readUnit : St → Nat → Int32 → Option (St)) : Nat → St → Nat → Int32 → Option (St)
  | 0, _, _, _ => none
  | n + 1, s, l0, l1 =>
    if l0 = 0 then none else
    bI (f_X9_is fu s l0 37) fun s4 x5 =>
    if x5 = 0 then
      some s4
    else
      bV (f_X9_stepOn fu s4 l0) fun s7 =>
      bV (c_X9_readUnit s7 l0 l1) fun s8 =>
      bV (f_X9_lay fu s8 l0 21) fun s9 =>
      f_X9_readAll_b5 fu c_X9_readUnit n s9 l0 l1
def f_X9_readAll (fu : Nat) (c_X9_readUnit : St → Nat → Int32 → Option (St)) (s : St) (a0 : Nat) (a1 : Int32) : Option (St) :=
  if a0 = 0 then none else
  bV (c_X9_readUnit s a0 a1) fun s2 =>
  f_X9_readAll_b5 fu c_X9_readUnit fu s2 a0 a1
def f_X9_readTest_b13 (fu : Nat) (c_X9_readAll : St → Nat → Int32 → Option (St)) : Nat → St → Nat → Int32 → Option (St)
  | 0, _, _, _ => none
  | n + 1, s, l0, l1 =>
    if l0 = 0 then none else
    bI (f_X9_is fu s l0 38) fun s5 x6 =>
    if x6 = 0 then
      some s5
    else
      bV (f_X9_stepOn fu s5 l0) fun s8 =>
      bV (c_X9_readAll s8 l0 l1) fun s9 =>
      bV (f_X9_lay fu s9 l0 22) fun s10 =>
      f_X9_readTest_b13 fu c_X9_readAll n s10 l0 l1
def f_X9_readTest (fu : Nat) (c_X9_readAll : St → Nat → Int32 → Option (St)) (s : St) (a0 : Nat) (a1 : Int32) : Option (St) :=
  if a0 = 0 then none else
  if (gI s 9 a0 31) = 0 then
    bV (c_X9_readAll s a0 a1) fun s3 =>
    f_X9_readTest_b13 fu c_X9_readAll fu s3 a0 a1
  else
    some s
def f_X9_readUnit_b75 (fu : Nat) (c_X9_readTest : St → Nat → Int32 → Option (St)) (c_X9_readUnit : St → Nat → Int32 → Option (St)) (s : St) : Option (St) :=
  some s
def f_X9_readUnit_b56 (fu : Nat) (c_X9_readTest : St → Nat → Int32 → Option (St)) (c_X9_readUnit : St → Nat → Int32 → Option (St)) (s : St) (l0 : Nat) (l2 : Int32) : Option (St) :=
  if l2 = 0 then
    if l0 = 0 then none else
    bV (f_X9_mark fu s l0 41) fun s22 =>
    f_X9_readUnit_b75 fu c_X9_readTest c_X9_readUnit s22
  else
    if l0 = 0 then none else
    bV (f_X9_lay fu s l0 20) fun s24 =>
    f_X9_readUnit_b75 fu c_X9_readTest c_X9_readUnit s24
def f_X9_readUnit_b31 (fu : Nat) (c_X9_readTest : St → Nat → Int32 → Option (St)) (c_X9_readUnit : St → Nat → Int32 → Option (St)) (s : St) (l0 : Nat) (l1 : Int32) (l2 : Int32) : Option (St) :=
  if l0 = 0 then none else
  bV (f_X9_pass fu s l0) fun s16 =>
  if l2 = 0 then
    bV (c_X9_readTest s16 l0 (l1 + 1)) fun s18 =>
    f_X9_readUnit_b56 fu c_X9_readTest c_X9_readUnit s18 l0 l2
  else
    bV (c_X9_readUnit s16 l0 (l1 + 1)) fun s19 =>
    f_X9_readUnit_b56 fu c_X9_readTest c_X9_readUnit s19 l0 l2
def f_X9_readUnit_b20 (fu : Nat) (c_X9_readTest : St → Nat → Int32 → Option (St)) (c_X9_readUnit : St → Nat → Int32 → Option (St)) (s : St) (l0 : Nat) (l1 : Int32) (l2 : Int32) : Option (St) :=
  if l1 = (6 : Int32) then
    if l0 = 0 then none else
    bV (f_X9_wrong fu s l0 2) fun s14 =>
    f_X9_readUnit_b31 fu c_X9_readTest c_X9_readUnit s14 l0 l1 l2
  else
    f_X9_readUnit_b31 fu c_X9_readTest c_X9_readUnit s l0 l1 l2
def f_X9_readUnit_b152 (fu : Nat) (c_X9_readTest : St → Nat → Int32 → Option (St)) (c_X9_readUnit : St → Nat → Int32 → Option (St)) (s : St) (l0 : Nat) (l3 : Int32) (l4 : Int32) : Option (St) :=
  if l0 = 0 then none else
  bV (f_X9_pass fu s l0) fun s40 =>
  bI (f_X9_readSigned fu s40 l0 ((-100000000)) 100000000) fun s41 x42 =>
  bV (f_X9_lay fu s41 l0 l4) fun s43 =>
  bV (f_X9_lay fu s43 l0 l3) fun s44 =>
  bV (f_X9_lay fu s44 l0 x42) fun s45 =>
  some s45
def f_X9_readUnit_b129 (fu : Nat) (c_X9_readTest : St → Nat → Int32 → Option (St)) (c_X9_readUnit : St → Nat → Int32 → Option (St)) (s : St) (l0 : Nat) (l3 : Int32) (t0 : Int32) : Option (St) :=
  if t0 = (12 : Int32) then
    if l0 = 0 then none else
    bI (f_X9_isMarked fu s l0 62) fun s35 x36 =>
    if x36 = 0 then
      bV (f_X9_wrong fu s35 l0 1) fun s38 =>
      f_X9_readUnit_b152 fu c_X9_readTest c_X9_readUnit s38 l0 l3 t0
    else
      f_X9_readUnit_b152 fu c_X9_readTest c_X9_readUnit s35 l0 l3 t0
  else
    f_X9_readUnit_b152 fu c_X9_readTest c_X9_readUnit s l0 l3 t0
def f_X9_readUnit_b95 (fu : Nat) (c_X9_readTest : St → Nat → Int32 → Option (St)) (c_X9_readUnit : St → Nat → Int32 → Option (St)) (s : St) (l0 : Nat) (l3 : Int32) : Option (St) :=
  if l0 = 0 then none else
  bV (f_X9_pass fu s l0) fun s26 =>
  bI (f_X9_isMarked fu s26 l0 60) fun s27 x28 =>
  if x28 = 0 then
    bI (f_X9_isMarked fu s27 l0 61) fun s30 x31 =>
    if x31 = 0 then
      f_X9_readUnit_b129 fu c_X9_readTest c_X9_readUnit s30 l0 l3 12
    else
      f_X9_readUnit_b129 fu c_X9_readTest c_X9_readUnit s30 l0 l3 11
  else
    f_X9_readUnit_b129 fu c_X9_readTest c_X9_readUnit s27 l0 l3 10
def f_X9_readUnit (fu : Nat) (c_X9_readTest : St → Nat → Int32 → Option (St)) (c_X9_readUnit : St → Nat → Int32 → Option (St)) (s : St) (a0 : Nat) (a1 : Int32) : Option (St) :=
  if a0 = 0 then none else
  bI (f_X9_is fu s a0 36) fun s2 x3 =>
  if x3 = 0 then
    bI (f_X9_isMarked fu s2 a0 40) fun s5 x6 =>
    if x6 = 0 then
      bI (f_X9_which fu s5 a0 (gR s5 9 a0 0)) fun s8 x9 =>
      if x9 = ((-1) : Int32) then
        bV (f_X9_wrong fu s8 a0 1) fun s11 =>
        f_X9_readUnit_b95 fu c_X9_readTest c_X9_readUnit s11 a0 x9
      else
        f_X9_readUnit_b95 fu c_X9_readTest c_X9_readUnit s8 a0 x9
    else
      f_X9_readUnit_b20 fu c_X9_readTest c_X9_readUnit s5 a0 a1 x3
  else
    f_X9_readUnit_b20 fu c_X9_readTest c_X9_readUnit s2 a0 a1 x3
def fr_X9 (fu : Nat) : Nat → (St → Nat → Int32 → Option (St)) × (St → Nat → Int32 → Option (St)) × (St → Nat → Int32 → Option (St))
  | 0 => (fun _ _ _ => none, fun _ _ _ => none, fun _ _ _ => none)
  | n + 1 => (f_X9_readAll fu ((fr_X9 fu n).2.2), f_X9_readTest fu ((fr_X9 fu n).1), f_X9_readUnit fu ((fr_X9 fu n).2.1) ((fr_X9 fu n).2.2))
def r_X9_readAll (fu : Nat) : St → Nat → Int32 → Option (St) := (fr_X9 fu 40).1
def r_X9_readTest (fu : Nat) : St → Nat → Int32 → Option (St) := (fr_X9 fu 40).2.1
def r_X9_readUnit (fu : Nat) : St → Nat → Int32 → Option (St) := (fr_X9 fu 40).2.2
def f_X9_readTier_b61 (fu : Nat) (s : St) (l0 : Nat) (l1 : Int32) : Option (St) :=
  if l0 = 0 then none else
  bV (f_X9_pass fu s l0) fun s16 =>
  bI (f_X9_readNumber fu s16 l0 1 20) fun s17 x18 =>
  if (gI s17 9 l0 31) = 0 then
    if gR s17 9 l0 34 = 0 then none else
    if inb (gI s17 9 l0 37) (gL s17 10 (gR s17 9 l0 34)) = false then none else
    lt (sI s17 10 (gR s17 9 l0 34) (ix (gI s17 9 l0 37)) l1 : St) fun s22 =>
    if gR s22 9 l0 35 = 0 then none else
    if inb (gI s22 9 l0 37) (gL s22 10 (gR s22 9 l0 35)) = false then none else
    lt (sI s22 10 (gR s22 9 l0 35) (ix (gI s22 9 l0 37)) x18 : St) fun s25 =>
    lt (sI s25 9 l0 37 ((gI s25 9 l0 37) + 1) : St) fun s26 =>
    some s26
  else
    some s17
def f_X9_readTier_b56 (fu : Nat) (s : St) (l0 : Nat) (l1 : Int32) : Option (St) :=
  if l0 = 0 then none else
  bV (f_X9_wrong fu s l0 3) fun s14 =>
  f_X9_readTier_b61 fu s14 l0 l1
def f_X9_readTier_b31 (fu : Nat) (s : St) (l0 : Nat) (l1 : Int32) (t0 : Int32) : Option (St) :=
  if l0 = 0 then none else
  if (gI s 9 l0 31) = 0 then
    if t0 ≤ 0 then
      f_X9_readTier_b61 fu s l0 l1
    else
      if t0 = 0 then none else
      if (l1 - l1 / t0 * t0) = 0 then
        if (2 * t0) ≤ l1 then
          f_X9_readTier_b61 fu s l0 l1
        else
          f_X9_readTier_b56 fu s l0 l1
      else
        f_X9_readTier_b56 fu s l0 l1
  else
    f_X9_readTier_b61 fu s l0 l1
def f_X9_readTier (fu : Nat) (s : St) (a0 : Nat) : Option (St) :=
  if a0 = 0 then none else
  bI (f_X9_numberNow fu s a0 1 1 100000) fun s2 x3 =>
  if (gI s2 9 a0 37) = 0 then
    f_X9_readTier_b31 fu s2 a0 x3 0
  else
    if gR s2 9 a0 34 = 0 then none else
    if inb ((gI s2 9 a0 37) - 1) (gL s2 10 (gR s2 9 a0 34)) = false then none else
    f_X9_readTier_b31 fu s2 a0 x3 (gI s2 10 (gR s2 9 a0 34) (ix ((gI s2 9 a0 37) - 1)))
def f_X9_readClause_b88 (fu : Nat) (s : St) (l0 : Nat) : Option (St) :=
  if l0 = 0 then none else
  bV (f_X9_mark fu s l0 59) fun s22 =>
  some s22
def f_X9_readClause_b36 (fu : Nat) (s : St) (l0 : Nat) (l1 : Int32) : Option (St) :=
  if l0 = 0 then none else
  bV (f_X9_pass fu s l0) fun s11 =>
  if (gI s11 9 l0 31) = 0 then
    if l1 = 0 then
      bV (f_X9_readTier fu s11 l0) fun s20 =>
      f_X9_readClause_b88 fu s20 l0
    else
      if l1 = (1 : Int32) then
        bI (f_X9_readNumber fu s11 l0 1 6) fun s17 x18 =>
        lt (sI s17 9 l0 38 x18 : St) fun s19 =>
        f_X9_readClause_b88 fu s19 l0
      else
        lt (sI s11 9 l0 39 0 : St) fun s15 =>
        bV (r_X9_readTest fu s15 l0 0) fun s16 =>
        f_X9_readClause_b88 fu s16 l0
  else
    some s11
def f_X9_readClause_b19 (fu : Nat) (s : St) (l0 : Nat) (l1 : Int32) : Option (St) :=
  if l1 = 0 then
    if l0 = 0 then none else
    if (gI s 9 l0 37) = (4 : Int32) then
      bV (f_X9_wrong fu s l0 2) fun s9 =>
      f_X9_readClause_b36 fu s9 l0 l1
    else
      f_X9_readClause_b36 fu s l0 l1
  else
    f_X9_readClause_b36 fu s l0 l1
def f_X9_readClause (fu : Nat) (s : St) (a0 : Nat) : Option (St) :=
  if a0 = 0 then none else
  bI (f_X9_which fu s a0 (gR s 9 a0 1)) fun s2 x3 =>
  if x3 = ((-1) : Int32) then
    bV (f_X9_wrong fu s2 a0 1) fun s5 =>
    f_X9_readClause_b19 fu s5 a0 x3
  else
    f_X9_readClause_b19 fu s2 a0 x3
def f_X9_tell_b17 (fu : Nat) (s : St) (l0 : Nat) : Option (St × Int32) :=
  if l0 = 0 then none else
  bI (f_X9_fail fu s l0 1) fun s10 x11 =>
  some (s10, x11)
def f_X9_tell_b201 (fu : Nat) : Nat → St → Nat → Int32 → Option (St × Int32)
  | 0, _, _, _ => none
  | n + 1, s, l0, l2 =>
    if (10 : Int32) ≤ l2 then
      some (s, 0)
    else
      if l0 = 0 then none else
      if gR s 9 l0 10 = 0 then none else
      if inb l2 (gL s 13 (gR s 9 l0 10)) = false then none else
      lt (sI s 13 (gR s 9 l0 10) (ix l2) (vp_nar .boolean 0) : St) fun s55 =>
      lt (l2 + 1 : Int32) fun x56 =>
      f_X9_tell_b201 fu n s55 l0 x56
def f_X9_tell_b168 (fu : Nat) : Nat → St → Nat → Int32 → Option (St × Int32)
  | 0, _, _, _ => none
  | n + 1, s, l0, l2 =>
    if l0 = 0 then none else
    if (gI s 9 l0 9) ≤ l2 then
      lt (sI s 9 l0 22 0 : St) fun s44 =>
      f_X9_tell_b201 fu fu s44 l0 0
    else
      if gR s 9 l0 36 = 0 then none else
      if inb l2 (gL s 10 (gR s 9 l0 36)) = false then none else
      if gR s 9 l0 6 = 0 then none else
      if inb l2 (gL s 10 (gR s 9 l0 6)) = false then none else
      lt (sI s 10 (gR s 9 l0 6) (ix l2) (gI s 10 (gR s 9 l0 36) (ix l2)) : St) fun s49 =>
      lt (l2 + 1 : Int32) fun x50 =>
      f_X9_tell_b168 fu n s49 l0 x50
def f_X9_tell_b115 (fu : Nat) : Nat → St → Nat → Int32 → Option (St × Int32)
  | 0, _, _, _ => none
  | n + 1, s, l0, l2 =>
    if (4 : Int32) ≤ l2 then
      if l0 = 0 then none else
      lt (sI s 9 l0 8 (gI s 9 l0 38) : St) fun s28 =>
      lt (sI s28 9 l0 9 (gI s28 9 l0 39) : St) fun s29 =>
      f_X9_tell_b168 fu fu s29 l0 0
    else
      if l0 = 0 then none else
      if gR s 9 l0 34 = 0 then none else
      if inb l2 (gL s 10 (gR s 9 l0 34)) = false then none else
      if gR s 9 l0 4 = 0 then none else
      if inb l2 (gL s 10 (gR s 9 l0 4)) = false then none else
      lt (sI s 10 (gR s 9 l0 4) (ix l2) (gI s 10 (gR s 9 l0 34) (ix l2)) : St) fun s35 =>
      if gR s35 9 l0 35 = 0 then none else
      if inb l2 (gL s35 10 (gR s35 9 l0 35)) = false then none else
      if gR s35 9 l0 5 = 0 then none else
      if inb l2 (gL s35 10 (gR s35 9 l0 5)) = false then none else
      lt (sI s35 10 (gR s35 9 l0 5) (ix l2) (gI s35 10 (gR s35 9 l0 35) (ix l2)) : St) fun s40 =>
      lt (l2 + 1 : Int32) fun x41 =>
      f_X9_tell_b115 fu n s40 l0 x41
def f_X9_tell_b110 (fu : Nat) (s : St) (l0 : Nat) (t0 : Int32) (t1 : Nat) : Option (St × Int32) :=
  if t1 = 0 then none else
  lt (sI s 9 t1 7 t0 : St) fun s25 =>
  f_X9_tell_b115 fu fu s25 l0 0
def f_X9_tell_b94 (fu : Nat) (s : St) (l0 : Nat) : Option (St × Int32) :=
  if l0 = 0 then none else
  if (gI s 9 l0 37) = 0 then
    f_X9_tell_b110 fu s l0 3 l0
  else
    f_X9_tell_b110 fu s l0 (gI s 9 l0 37) l0
def f_X9_tell_b64 (fu : Nat) (s : St) (l0 : Nat) : Option (St × Int32) :=
  if l0 = 0 then none else
  bI (f_X9_ended fu s l0) fun s17 x18 =>
  if x18 = 0 then
    if (gI s17 9 l0 37) = 0 then
      bV (f_X9_usual fu s17 (gR s17 9 l0 34) (gR s17 9 l0 35)) fun s21 =>
      f_X9_tell_b94 fu s21 l0
    else
      f_X9_tell_b94 fu s17 l0
  else
    some (s17, (gI s17 9 l0 31))
def f_X9_tell_b43 (fu : Nat) : Nat → St → Nat → Option (St × Int32)
  | 0, _, _ => none
  | n + 1, s, l0 =>
    if l0 = 0 then none else
    if (gI s 9 l0 31) = 0 then
      if (gI s 9 l0 27) = 0 then
        f_X9_tell_b64 fu s l0
      else
        bV (f_X9_readClause fu s l0) fun s15 =>
        f_X9_tell_b43 fu n s15 l0
    else
      f_X9_tell_b64 fu s l0
def f_X9_tell (fu : Nat) (s : St) (a0 : Nat) (a1 : Int32) : Option (St × Int32) :=
  if a0 = 0 then none else
  lt (sI s 9 a0 3 0 : St) fun s2 =>
  if a1 < 0 then
    f_X9_tell_b17 fu s2 a0
  else
    if a1 ≤ (gI s2 9 a0 24) then
      bV (f_X9_begin fu s2 a0 a1) fun s5 =>
      lt (sI s5 9 a0 37 0 : St) fun s6 =>
      lt (sI s6 9 a0 38 4 : St) fun s7 =>
      lt (sI s7 9 a0 39 0 : St) fun s8 =>
      f_X9_tell_b43 fu fu s8 a0
    else
      f_X9_tell_b17 fu s2 a0
def f_X9_thrown (fu : Nat) (s : St) (a0 : Nat) : Option (St × Int32) :=
  if a0 = 0 then none else
  some (s, (gI s 9 a0 3))
def f_X9_tick_b24 (fu : Nat) (s : St) (l0 : Nat) : Option (St × Int32) :=
  if l0 = 0 then none else
  bI (f_X9_refuse fu s l0 1) fun s14 x15 =>
  some (s14, x15)
def f_X9_tick (fu : Nat) (s : St) (a0 : Nat) (a1 : Int32) (a2 : Int32) : Option (St × Int32) :=
  if a0 = 0 then none else
  lt (sI s 9 a0 3 0 : St) fun s2 =>
  bV (f_X9_fine fu s2 a0) fun s3 =>
  bI (f_X9_isId fu s3 a1) fun s4 x5 =>
  if x5 = 0 then
    f_X9_tick_b24 fu s4 a0
  else
    bI (f_X9_isTime fu s4 (Int32.toInt64 a2)) fun s7 x8 =>
    if x8 = 0 then
      f_X9_tick_b24 fu s7 a0
    else
      bV (f_X9_rises fu s7 a0 a1 a2) fun s10 =>
      bI (f_X9_allBuckets fu s10 a0 a1) fun s11 x12 =>
      some (s11, x12)
def f_X9_tier_b50 (fu : Nat) (s : St) (t0 : Int32) : Option (St × Int32) :=
  some (s, t0)
def f_X9_tier_b45 (fu : Nat) (s : St) (l0 : Nat) : Option (St × Int32) :=
  if l0 = 0 then none else
  bI (f_X9_fail fu s l0 1) fun s15 x16 =>
  f_X9_tier_b50 fu s15 x16
def f_X9_tier (fu : Nat) (s : St) (a0 : Nat) (a1 : Int32) (a2 : Int32) : Option (St × Int32) :=
  if a0 = 0 then none else
  lt (sI s 9 a0 3 0 : St) fun s2 =>
  bI (f_X9_isTier fu s2 a0 a1) fun s3 x4 =>
  if x4 = 0 then
    f_X9_tier_b45 fu s3 a0
  else
    bI (f_X9_isIn fu s3 (Int32.toInt64 a2) 0 1) fun s6 x7 =>
    if x7 = 0 then
      f_X9_tier_b45 fu s6 a0
    else
      if a2 = 0 then
        if gR s6 9 a0 4 = 0 then none else
        if inb a1 (gL s6 10 (gR s6 9 a0 4)) = false then none else
        f_X9_tier_b50 fu s6 (gI s6 10 (gR s6 9 a0 4) (ix a1))
      else
        if gR s6 9 a0 5 = 0 then none else
        if inb a1 (gL s6 10 (gR s6 9 a0 5)) = false then none else
        f_X9_tier_b50 fu s6 (gI s6 10 (gR s6 9 a0 5) (ix a1))
def f_X9_totals_b76 (fu : Nat) (k28 : St → Nat → Int32 → Int32 → Int32 → Int32 → Option (St)) (s : St) (l0 : Nat) (l2 : Int32) (l3 : Int32) (l4 : Int32) (l5 : Int32) : Option (St) :=
  if l3 ≤ l2 then
    k28 s l0 l2 l3 l4 l5
  else
    if l0 = 0 then none else
    if l3 ≤ (gI s 9 l0 52) then
      k28 s l0 l2 l3 l4 l5
    else
      if gR s 9 l0 4 = 0 then none else
      if inb (gI s 9 l0 51) (gL s 10 (gR s 9 l0 4)) = false then none else
      if ((gI s 9 l0 52) + (gI s 10 (gR s 9 l0 4) (ix (gI s 9 l0 51)))) ≤ l2 then
        k28 s l0 l2 l3 l4 l5
      else
        lt (sI s 9 l0 63 ((gI s 9 l0 63) + 1) : St) fun s24 =>
        lt (sI s24 9 l0 62 ((gI s24 9 l0 62) + (gI s24 9 l0 53)) : St) fun s25 =>
        k28 s25 l0 l2 l3 l4 l5
def f_X9_totals_b28 (fu : Nat) : Nat → St → Nat → Int32 → Int32 → Int32 → Int32 → Option (St)
  | 0, _, _, _, _, _, _ => none
  | n + 1, s, l0, l2, l3, l4, l5 =>
    if l4 ≤ l5 then
      some s
    else
      if l0 = 0 then none else
      bI (f_X9_bucketFrom fu s l0 l5) fun s11 x12 =>
      if (gI s11 9 l0 52) < l2 then
        f_X9_totals_b76 fu (f_X9_totals_b28 fu n) s11 l0 l2 l3 l4 x12
      else
        if gR s11 9 l0 4 = 0 then none else
        if inb (gI s11 9 l0 51) (gL s11 10 (gR s11 9 l0 4)) = false then none else
        if l3 < ((gI s11 9 l0 52) + (gI s11 10 (gR s11 9 l0 4) (ix (gI s11 9 l0 51)))) then
          f_X9_totals_b76 fu (f_X9_totals_b28 fu n) s11 l0 l2 l3 l4 x12
        else
          bV (f_X9_adds fu s11 l0) fun s17 =>
          f_X9_totals_b28 fu n s17 l0 l2 l3 l4 x12
def f_X9_totals (fu : Nat) (s : St) (a0 : Nat) (a1 : Int32) (a2 : Int32) (a3 : Int32) : Option (St) :=
  if a0 = 0 then none else
  bV (f_X9_clears fu s a0) fun s2 =>
  lt (sI s2 9 a0 62 0 : St) fun s3 =>
  lt (sI s3 9 a0 63 0 : St) fun s4 =>
  bI (f_X9_behindOf fu s4 a0 a1) fun s5 x6 =>
  bI (f_X9_firstOf fu s5 a0 a1) fun s7 x8 =>
  f_X9_totals_b28 fu fu s7 a0 a2 a3 x6 x8
def f_X9_total_b26 (fu : Nat) (s : St) (l0 : Nat) : Option (St × Int64) :=
  if l0 = 0 then none else
  bI (f_X9_fail fu s l0 1) fun s24 x25 =>
  some (s24, (Int32.toInt64 x25))
def f_X9_total_b54 (fu : Nat) (s : St) (l0 : Nat) : Option (St × Int64) :=
  if l0 = 0 then none else
  bI (f_X9_fail fu s l0 2) fun s27 x28 =>
  some (s27, (Int32.toInt64 x28))
def f_X9_total (fu : Nat) (s : St) (a0 : Nat) (a1 : Int32) (a2 : Int32) (a3 : Int32) (a4 : Int32) : Option (St × Int64) :=
  if a0 = 0 then none else
  lt (sI s 9 a0 3 0 : St) fun s2 =>
  bI (f_X9_isSeries fu s2 a0 a1) fun s3 x4 =>
  if x4 = 0 then
    f_X9_total_b26 fu s3 a0
  else
    bI (f_X9_isIn fu s3 (Int32.toInt64 a4) 0 6) fun s6 x7 =>
    if x7 = 0 then
      f_X9_total_b26 fu s6 a0
    else
      bI (f_X9_isTime fu s6 (Int32.toInt64 a2)) fun s9 x10 =>
      if x10 = 0 then
        f_X9_total_b54 fu s9 a0
      else
        bI (f_X9_isTime fu s9 (Int32.toInt64 a3)) fun s12 x13 =>
        if x13 = 0 then
          f_X9_total_b54 fu s12 a0
        else
          if a2 ≤ a3 then
            bV (f_X9_totals fu s12 a0 a1 a2 a3) fun s16 =>
            if a4 = 0 then
              some (s16, (Int32.toInt64 (gI s16 9 a0 58)))
            else
            if a4 = 1 then
              some (s16, (gJ s16 9 a0 57))
            else
            if a4 = 2 then
              some (s16, (Int32.toInt64 (gI s16 9 a0 59)))
            else
            if a4 = 3 then
              some (s16, (Int32.toInt64 (gI s16 9 a0 60)))
            else
            if a4 = 4 then
              some (s16, (Int32.toInt64 (gI s16 9 a0 62)))
            else
            if a4 = 5 then
              some (s16, (Int32.toInt64 (gI s16 9 a0 61)))
            else
            some (s16, (Int32.toInt64 (gI s16 9 a0 63)))
          else
            f_X9_total_b54 fu s12 a0
def f_X9_trend_b33 (fu : Nat) (s : St) (l0 : Nat) : Option (St × Int64) :=
  if l0 = 0 then none else
  bI (f_X9_fail fu s l0 1) fun s17 x18 =>
  some (s17, (Int32.toInt64 x18))
def f_X9_trend_b158 (fu : Nat) (k75 : St → Nat → Int32 → Int32 → Int32 → Int32 → Int32 → Int32 → Int32 → Int32 → Option (St × Int64)) (s : St) (l0 : Nat) (l3 : Int32) (l4 : Int32) (l5 : Int32) (l6 : Int32) (l7 : Int32) (l8 : Int32) (l9 : Int32) : Option (St × Int64) :=
  if l0 = 0 then none else
  bI (f_X9_meanNow fu s l0) fun s37 x38 =>
  k75 s37 l0 l3 l4 l5 l6 l7 l8 l9 x38
def f_X9_trend_b138 (fu : Nat) (k75 : St → Nat → Int32 → Int32 → Int32 → Int32 → Int32 → Int32 → Int32 → Int32 → Option (St × Int64)) (s : St) (l0 : Nat) (l3 : Int32) (l4 : Int32) (l6 : Int32) (l7 : Int32) (l8 : Int32) (l9 : Int32) (l11 : Int32) (t0 : Int32) (t1 : Int32) : Option (St × Int64) :=
  lt (t1 + t0 : Int32) fun x32 =>
  if l11 ≤ l6 then
    f_X9_trend_b158 fu k75 s l0 l3 l4 x32 l6 l7 l8 l9
  else
    if l0 = 0 then none else
    lt (gI s 9 l0 52 : Int32) fun x35 =>
    f_X9_trend_b158 fu k75 s l0 l3 l4 x32 l11 x35 l8 l9
def f_X9_trend_b123 (fu : Nat) (k75 : St → Nat → Int32 → Int32 → Int32 → Int32 → Int32 → Int32 → Int32 → Int32 → Option (St × Int64)) (s : St) (l0 : Nat) (l3 : Int32) (l5 : Int32) (l6 : Int32) (l7 : Int32) (l8 : Int32) (l9 : Int32) (l11 : Int32) (t0 : Int32) (t1 : Int32) : Option (St × Int64) :=
  lt (t1 + t0 : Int32) fun x30 =>
  if 0 ≤ l11 then
    f_X9_trend_b138 fu k75 s l0 l3 x30 l6 l7 l8 l9 l11 0 l5
  else
    f_X9_trend_b138 fu k75 s l0 l3 x30 l6 l7 l8 l9 l11 1 l5
def f_X9_trend_b109 (fu : Nat) (k75 : St → Nat → Int32 → Int32 → Int32 → Int32 → Int32 → Int32 → Int32 → Int32 → Option (St × Int64)) (s : St) (l0 : Nat) (l3 : Int32) (l4 : Int32) (l5 : Int32) (l6 : Int32) (l7 : Int32) (l8 : Int32) (l9 : Int32) (t0 : Int32) : Option (St × Int64) :=
  if t0 ≤ 0 then
    f_X9_trend_b123 fu k75 s l0 l3 l5 l6 l7 l8 l9 t0 0 l4
  else
    f_X9_trend_b123 fu k75 s l0 l3 l5 l6 l7 l8 l9 t0 1 l4
def f_X9_trend_b202 (fu : Nat) (s : St) (t0 : Int64) : Option (St × Int64) :=
  some (s, t0)
def f_X9_trend_b75 (fu : Nat) : Nat → St → Nat → Int32 → Int32 → Int32 → Int32 → Int32 → Int32 → Int32 → Int32 → Option (St × Int64)
  | 0, _, _, _, _, _, _, _, _, _, _ => none
  | n + 1, s, l0, l3, l4, l5, l6, l7, l8, l9, l10 =>
    if l8 ≤ l9 then
      if l3 = 0 then
        f_X9_trend_b202 fu s (Int32.toInt64 l4)
      else
        if l3 = (1 : Int32) then
          f_X9_trend_b202 fu s (Int32.toInt64 l5)
        else
          if l3 = (2 : Int32) then
            f_X9_trend_b202 fu s (Int32.toInt64 l6)
          else
            f_X9_trend_b202 fu s (Int32.toInt64 l7)
    else
      if l0 = 0 then none else
      bI (f_X9_bucketFrom fu s l0 l9) fun s24 x25 =>
      if l10 = ((-20000) : Int32) then
        f_X9_trend_b109 fu (f_X9_trend_b75 fu n) s24 l0 l3 l4 l5 l6 l7 l8 x25 0
      else
        bI (f_X9_meanNow fu s24 l0) fun s27 x28 =>
        f_X9_trend_b109 fu (f_X9_trend_b75 fu n) s27 l0 l3 l4 l5 l6 l7 l8 x25 (x28 - l10)
def f_X9_trend (fu : Nat) (s : St) (a0 : Nat) (a1 : Int32) (a2 : Int32) (a3 : Int32) : Option (St × Int64) :=
  if a0 = 0 then none else
  lt (sI s 9 a0 3 0 : St) fun s2 =>
  bI (f_X9_isSeries fu s2 a0 a1) fun s3 x4 =>
  if x4 = 0 then
    f_X9_trend_b33 fu s3 a0
  else
    bI (f_X9_isTier fu s3 a0 a2) fun s6 x7 =>
    if x7 = 0 then
      f_X9_trend_b33 fu s6 a0
    else
      bI (f_X9_isIn fu s6 (Int32.toInt64 a3) 0 3) fun s9 x10 =>
      if x10 = 0 then
        f_X9_trend_b33 fu s9 a0
      else
        bI (f_X9_tierTo fu s9 a0 a1 a2) fun s12 x13 =>
        bI (f_X9_tierFrom fu s12 a0 a1 a2) fun s14 x15 =>
        f_X9_trend_b75 fu fu s14 a0 a3 0 0 0 ((-20000)) x13 x15 ((-20000))
def f_X9_until_b21 (fu : Nat) (s : St) (l0 : Nat) : Option (St × Int32) :=
  if l0 = 0 then none else
  bI (f_X9_fail fu s l0 1) fun s18 x19 =>
  some (s18, x19)
def f_X9_until_b97 (fu : Nat) (k54 : St → Nat → Int32 → Int32 → Int32 → Int32 → Option (St × Int32)) (s : St) (l0 : Nat) (l2 : Int32) (l3 : Int32) (l4 : Int32) (l5 : Int32) : Option (St × Int32) :=
  k54 s l0 l2 l3 l4 l5
def f_X9_until_b114 (fu : Nat) (s : St) (t0 : Int32) : Option (St × Int32) :=
  some (s, t0)
def f_X9_until_b54 (fu : Nat) : Nat → St → Nat → Int32 → Int32 → Int32 → Int32 → Option (St × Int32)
  | 0, _, _, _, _, _, _ => none
  | n + 1, s, l0, l2, l3, l4, l5 =>
    if l5 ≤ l4 then
      if l4 ≤ (1000000 : Int32) then
        f_X9_until_b114 fu s l4
      else
        f_X9_until_b114 fu s ((-1))
    else
      lt (l4 + ((l5 - l4) / 2) : Int32) fun x23 =>
      if l0 = 0 then none else
      bI (f_X9_seamBy fu s l0 x23 l2) fun s25 x26 =>
      if x26 ≤ l3 then
        lt (x23 + 1 : Int32) fun x28 =>
        f_X9_until_b97 fu (f_X9_until_b54 fu n) s25 l0 l2 l3 x28 l5
      else
        f_X9_until_b97 fu (f_X9_until_b54 fu n) s25 l0 l2 l3 l4 x23
def f_X9_until (fu : Nat) (s : St) (a0 : Nat) (a1 : Int32) (a2 : Int32) (a3 : Int32) : Option (St × Int32) :=
  if a0 = 0 then none else
  lt (sI s 9 a0 3 0 : St) fun s2 =>
  bI (f_X9_isSeries fu s2 a0 a1) fun s3 x4 =>
  if x4 = 0 then
    f_X9_until_b21 fu s3 a0
  else
    bI (f_X9_isTier fu s3 a0 a2) fun s6 x7 =>
    if x7 = 0 then
      f_X9_until_b21 fu s6 a0
    else
      bI (f_X9_isTime fu s6 (Int32.toInt64 a3)) fun s9 x10 =>
      if x10 = 0 then
        bI (f_X9_fail fu s9 a0 2) fun s15 x16 =>
        some (s15, x16)
      else
        if gR s9 9 a0 11 = 0 then none else
        if inb a1 (gL s9 10 (gR s9 9 a0 11)) = false then none else
        lt (gI s9 10 (gR s9 9 a0 11) (ix a1) : Int32) fun x14 =>
        f_X9_until_b54 fu fu s9 a0 a2 a3 x14 1000001
def f_X9_used_b57 (fu : Nat) (k7 : St → Nat → Int32 → Int32 → Option (St × Int32)) (k18 : St → Nat → Int32 → Int32 → Int32 → Int32 → Option (St × Int32)) (s : St) (l0 : Nat) (l1 : Int32) (l2 : Int32) (l4 : Int32) (t0 : Int32) (t1 : Int32) : Option (St × Int32) :=
  lt (t1 + t0 : Int32) fun x21 =>
  lt (l4 + 1 : Int32) fun x22 =>
  k18 s l0 l1 l2 x21 x22
def f_X9_used_b56 (fu : Nat) (k7 : St → Nat → Int32 → Int32 → Option (St × Int32)) (k18 : St → Nat → Int32 → Int32 → Int32 → Int32 → Option (St × Int32)) (s : St) (l0 : Nat) (l1 : Int32) (l2 : Int32) (l4 : Int32) (t0 : Int32) : Option (St × Int32) :=
  f_X9_used_b57 fu k7 k18 s l0 l1 l2 l4 0 t0
def f_X9_used_b81 (fu : Nat) (k7 : St → Nat → Int32 → Int32 → Option (St × Int32)) (s : St) (l0 : Nat) (l1 : Int32) (l2 : Int32) : Option (St × Int32) :=
  lt (l2 + 1 : Int32) fun x23 =>
  k7 s l0 l1 x23
def f_X9_used_b18 (fu : Nat) (k7 : St → Nat → Int32 → Int32 → Option (St × Int32)) : Nat → St → Nat → Int32 → Int32 → Int32 → Int32 → Option (St × Int32)
  | 0, _, _, _, _, _, _ => none
  | n + 1, s, l0, l1, l2, l3, l4 =>
    if (10 : Int32) ≤ l4 then
      if l0 = 0 then none else
      if gR s 9 l0 10 = 0 then none else
      if inb l2 (gL s 13 (gR s 9 l0 10)) = false then none else
      if (gI s 13 (gR s 9 l0 10) (ix l2)) = 0 then
        f_X9_used_b81 fu k7 s l0 l1 l2
      else
        if l3 = l1 then
          some (s, l2)
        else
          f_X9_used_b81 fu k7 s l0 l1 l2
    else
      if l0 = 0 then none else
      if gR s 9 l0 10 = 0 then none else
      if inb l4 (gL s 13 (gR s 9 l0 10)) = false then none else
      if (gI s 13 (gR s 9 l0 10) (ix l4)) = 0 then
        f_X9_used_b56 fu k7 (f_X9_used_b18 fu k7 n) s l0 l1 l2 l4 l3
      else
        if gR s 9 l0 14 = 0 then none else
        if inb l4 (gL s 10 (gR s 9 l0 14)) = false then none else
        if inb l2 (gL s 10 (gR s 9 l0 14)) = false then none else
        if (gI s 10 (gR s 9 l0 14) (ix l4)) ≤ (gI s 10 (gR s 9 l0 14) (ix l2)) then
          f_X9_used_b56 fu k7 (f_X9_used_b18 fu k7 n) s l0 l1 l2 l4 l3
        else
          f_X9_used_b57 fu k7 (f_X9_used_b18 fu k7 n) s l0 l1 l2 l4 1 l3
def f_X9_used_b7 (fu : Nat) : Nat → St → Nat → Int32 → Int32 → Option (St × Int32)
  | 0, _, _, _, _ => none
  | n + 1, s, l0, l1, l2 =>
    if (10 : Int32) ≤ l2 then
      if l0 = 0 then none else
      bI (f_X9_fail fu s l0 1) fun s5 x6 =>
      some (s5, x6)
    else
      f_X9_used_b18 fu (f_X9_used_b7 fu n) fu s l0 l1 l2 0 0
def f_X9_used (fu : Nat) (s : St) (a0 : Nat) (a1 : Int32) : Option (St × Int32) :=
  if a0 = 0 then none else
  lt (sI s 9 a0 3 0 : St) fun s2 =>
  f_X9_used_b7 fu fu s2 a0 a1 0
def f_X9_why (fu : Nat) (s : St) (a0 : Nat) (a1 : Int32) : Option (St × Int32) :=
  if a0 = 0 then none else
  lt (sI s 9 a0 3 0 : St) fun s2 =>
  if a1 = 0 then
    some (s2, (gI s2 9 a0 40))
  else
  if a1 = 1 then
    some (s2, (gI s2 9 a0 41))
  else
  if a1 = 2 then
    some (s2, (gI s2 9 a0 42))
  else
  if a1 = 3 then
    some (s2, (gI s2 9 a0 43))
  else
  bI (f_X9_fail fu s2 a0 1) fun s7 x8 =>
  some (s7, x8)
def f_X9_bucketsBy_b28 (fu : Nat) : Nat → St → Nat → Int32 → Int32 → Int32 → Int32 → Int32 → Option (St × Int32)
  | 0, _, _, _, _, _, _, _ => none
  | n + 1, s, l0, l1, l2, l3, l4, l5 =>
    if l4 ≤ l5 then
      some (s, l3)
    else
      if l0 = 0 then none else
      if gR s 9 l0 20 = 0 then none else
      if inb l5 (gL s 10 (gR s 9 l0 20)) = false then none else
      bI (f_X9_tierBy fu s l0 l2 (gI s 10 (gR s 9 l0 20) (ix l5))) fun s12 x13 =>
      if gR s12 9 l0 20 = 0 then none else
      if inb l5 (gL s12 10 (gR s12 9 l0 20)) = false then none else
      if gR s12 9 l0 4 = 0 then none else
      if inb x13 (gL s12 10 (gR s12 9 l0 4)) = false then none else
      bI (f_X9_multiple fu s12 (Int32.toInt64 (gI s12 10 (gR s12 9 l0 20) (ix l5))) (gI s12 10 (gR s12 9 l0 4) (ix x13))) fun s18 x19 =>
      if gR s18 9 l0 4 = 0 then none else
      if inb x13 (gL s18 10 (gR s18 9 l0 4)) = false then none else
      bI (f_X9_placeOf fu s18 l0 l1 ((Int32.toInt64 x19) + (Int32.toInt64 (gI s18 10 (gR s18 9 l0 4) (ix x13))))) fun s22 x23 =>
      lt (l3 + 1 : Int32) fun x24 =>
      f_X9_bucketsBy_b28 fu n s22 l0 l1 l2 x24 l4 x23
def f_X9_bucketsBy (fu : Nat) (s : St) (a0 : Nat) (a1 : Int32) (a2 : Int32) : Option (St × Int32) :=
  if a0 = 0 then none else
  bI (f_X9_behindOf fu s a0 a1) fun s2 x3 =>
  bI (f_X9_seamBy fu s2 a0 a2 ((gI s2 9 a0 7) - 1)) fun s4 x5 =>
  bI (f_X9_placeOf fu s4 a0 a1 (Int32.toInt64 x5)) fun s6 x7 =>
  f_X9_bucketsBy_b28 fu fu s6 a0 a1 a2 0 x3 x7
def f_X9_movedBy_b53 (fu : Nat) (k16 : St → Nat → Int32 → Int32 → Int32 → Int32 → Option (St × Int32)) (s : St) (l0 : Nat) (l2 : Int32) (l4 : Int32) (l5 : Int32) (t0 : Int32) (t1 : Int32) : Option (St × Int32) :=
  lt (t1 + t0 : Int32) fun x13 =>
  k16 s l0 l2 x13 l4 l5
def f_X9_movedBy_b16 (fu : Nat) : Nat → St → Nat → Int32 → Int32 → Int32 → Int32 → Option (St × Int32)
  | 0, _, _, _, _, _, _ => none
  | n + 1, s, l0, l2, l3, l4, l5 =>
    if l4 ≤ l5 then
      some (s, l3)
    else
      if l0 = 0 then none else
      bI (f_X9_bucketFrom fu s l0 l5) fun s8 x9 =>
      bI (f_X9_tierBy fu s8 l0 l2 (gI s8 9 l0 52)) fun s10 x11 =>
      if x11 = (gI s10 9 l0 51) then
        f_X9_movedBy_b53 fu (f_X9_movedBy_b16 fu n) s10 l0 l2 l4 x9 0 l3
      else
        f_X9_movedBy_b53 fu (f_X9_movedBy_b16 fu n) s10 l0 l2 l4 x9 1 l3
def f_X9_movedBy (fu : Nat) (s : St) (a0 : Nat) (a1 : Int32) (a2 : Int32) : Option (St × Int32) :=
  if a0 = 0 then none else
  bI (f_X9_behindOf fu s a0 a1) fun s2 x3 =>
  bI (f_X9_firstOf fu s2 a0 a1) fun s4 x5 =>
  f_X9_movedBy_b16 fu fu s4 a0 a2 0 x3 x5
def f_X9_would_b25 (fu : Nat) (s : St) (l0 : Nat) : Option (St × Int32) :=
  if l0 = 0 then none else
  bI (f_X9_fail fu s l0 1) fun s31 x32 =>
  some (s31, x32)
def f_X9_would_b110 (fu : Nat) (s : St) (t0 : Int32) : Option (St × Int32) :=
  some (s, t0)
def f_X9_would (fu : Nat) (s : St) (a0 : Nat) (a1 : Int32) (a2 : Int32) (a3 : Int32) : Option (St × Int32) :=
  if a0 = 0 then none else
  lt (sI s 9 a0 3 0 : St) fun s2 =>
  bI (f_X9_isSeries fu s2 a0 a1) fun s3 x4 =>
  if x4 = 0 then
    f_X9_would_b25 fu s3 a0
  else
    bI (f_X9_isIn fu s3 (Int32.toInt64 a3) 0 2) fun s6 x7 =>
    if x7 = 0 then
      f_X9_would_b25 fu s6 a0
    else
      bI (f_X9_isTime fu s6 (Int32.toInt64 a2)) fun s9 x10 =>
      if x10 = 0 then
        bI (f_X9_fail fu s9 a0 2) fun s28 x29 =>
        some (s28, x29)
      else
        if gR s9 9 a0 11 = 0 then none else
        if inb a1 (gL s9 10 (gR s9 9 a0 11)) = false then none else
        bI (f_J9_max_7cf53 fu s9 (gI s9 10 (gR s9 9 a0 11) (ix a1)) a2) fun s14 x15 =>
        if a3 = 0 then
          bI (f_X9_bucketsBy fu s14 a0 a1 x15) fun s26 x27 =>
          f_X9_would_b110 fu s26 x27
        else
          if a3 = (1 : Int32) then
            bI (f_X9_seamBy fu s14 a0 x15 ((gI s14 9 a0 7) - 1)) fun s20 x21 =>
            bI (f_X9_placeOf fu s20 a0 a1 (Int32.toInt64 x21)) fun s22 x23 =>
            bI (f_X9_firstOf fu s22 a0 a1) fun s24 x25 =>
            f_X9_would_b110 fu s24 (x23 - x25)
          else
            bI (f_X9_movedBy fu s14 a0 a1 x15) fun s18 x19 =>
            f_X9_would_b110 fu s18 x19
