def f_J9_max_7cf53_b10 (fu : Nat) (s : St) (t0 : Int32) : Option (St × Int32) :=
  some (s, t0)
def f_J9_max_7cf53 (fu : Nat) (s : St) (a0 : Int32) (a1 : Int32) : Option (St × Int32) :=
  if a0 < a1 then
    f_J9_max_7cf53_b10 fu s a1
  else
    f_J9_max_7cf53_b10 fu s a0
def f_J9_min_7cf53_b10 (fu : Nat) (s : St) (t0 : Int32) : Option (St × Int32) :=
  some (s, t0)
def f_J9_min_7cf53 (fu : Nat) (s : St) (a0 : Int32) (a1 : Int32) : Option (St × Int32) :=
  if a1 < a0 then
    f_J9_min_7cf53_b10 fu s a1
  else
    f_J9_min_7cf53_b10 fu s a0
def f_J9_floorMod_7cf53_b18 (fu : Nat) (s : St) (l2 : Int32) : Option (St × Int32) :=
  some (s, l2)
def f_J9_floorMod_7cf53 (fu : Nat) (s : St) (a0 : Int32) (a1 : Int32) : Option (St × Int32) :=
  if a1 = 0 then none else
  lt (a0 - a0 / a1 * a1 : Int32) fun x2 =>
  if 0 ≤ (a0 ^^^ a1) then
    f_J9_floorMod_7cf53_b18 fu s x2
  else
    if x2 = 0 then
      f_J9_floorMod_7cf53_b18 fu s x2
    else
      some (s, (x2 + a1))
def f_J7_copyOf_59c91 (fu : Nat) (s : St) (a0 : Nat) (a1 : Int32) : Option (St × Nat) :=
  if a0 = 0 then none else
  if a1 = (nI (gL s 10 a0)) then
    none
  else
    if szb a1 = false then none else
    lt (nW s 10 (ix a1) (ix a1) : St) fun s4 =>
    if rmb s4 = false then none else
    lt (gN s 10 + 1 : Nat) fun x6 =>
    bI (f_J9_min_7cf53 fu s4 (nI (gL s4 10 a0)) a1) fun s8 x9 =>
    if cpb 0 x9 (gL s8 10 a0) = false then none else
    if cpb 0 x9 (gL s8 10 x6) = false then none else
    lt (wI s8 10 x6 (va_cpy (gI s8 10 a0) (gI s8 10 x6) (ix 0) (ix 0) (ix x9)) : St) fun s12 =>
    some (s12, x6)
def f_J7_copyOf_c38d5 (fu : Nat) (s : St) (a0 : Nat) (a1 : Int32) : Option (St × Nat) :=
  if a0 = 0 then none else
  if a1 = (nI (gL s 11 a0)) then
    none
  else
    if szb a1 = false then none else
    lt (nW s 11 (ix a1) (ix a1) : St) fun s4 =>
    if rmb s4 = false then none else
    lt (gN s 11 + 1 : Nat) fun x6 =>
    bI (f_J9_min_7cf53 fu s4 (nI (gL s4 11 a0)) a1) fun s8 x9 =>
    if cpb 0 x9 (gL s8 11 a0) = false then none else
    if cpb 0 x9 (gL s8 11 x6) = false then none else
    lt (wJ s8 11 x6 (va_cpy (gJ s8 11 a0) (gJ s8 11 x6) (ix 0) (ix 0) (ix x9)) : St) fun s12 =>
    some (s12, x6)
def f_J9_floorDiv_f86c9_b27 (fu : Nat) (s : St) (l4 : Int64) : Option (St × Int64) :=
  some (s, l4)
def f_J9_floorDiv_f86c9 (fu : Nat) (s : St) (a0 : Int64) (a1 : Int64) : Option (St × Int64) :=
  if a1 = 0 then none else
  lt (a0 / a1 : Int64) fun x2 =>
  if 0 ≤ (lg_cmp (a0 ^^^ a1) 0) then
    f_J9_floorDiv_f86c9_b27 fu s x2
  else
    if (lg_cmp (x2 * a1) a0) = 0 then
      f_J9_floorDiv_f86c9_b27 fu s x2
    else
      some (s, (x2 - 1))
def f_J0_isLatin1_aae02_b18 (fu : Nat) (s : St) (t0 : Int32) : Option (St × Int32) :=
  if zb t0 = false then none else
  some (s, t0)
def f_J0_isLatin1_aae02_b17 (fu : Nat) (s : St) : Option (St × Int32) :=
  f_J0_isLatin1_aae02_b18 fu s 0
def f_J0_isLatin1_aae02 (fu : Nat) (s : St) (a0 : Nat) : Option (St × Int32) :=
  if (1 : Int32) = 0 then
    f_J0_isLatin1_aae02_b17 fu s
  else
    if a0 = 0 then none else
    if (0 : Int32) = 0 then
      f_J0_isLatin1_aae02_b18 fu s 1
    else
      f_J0_isLatin1_aae02_b17 fu s
def f_J3_checkIndex_8e157_b9 (fu : Nat) (s : St) (l0 : Int32) (l1 : Int32) : Option (St × Int32) :=
  none
def f_J3_checkIndex_8e157 (fu : Nat) (s : St) (a0 : Int32) (a1 : Int32) : Option (St × Int32) :=
  if a0 < 0 then
    f_J3_checkIndex_8e157_b9 fu s a0 a1
  else
    if a0 < a1 then
      some (s, a0)
    else
      f_J3_checkIndex_8e157_b9 fu s a0 a1
def f_J0_checkIndex_df160 (fu : Nat) (s : St) (a0 : Int32) (a1 : Int32) : Option (St) :=
  bI (f_J3_checkIndex_8e157 fu s a0 a1) fun s2 x3 =>
  some s2
def f_J1_charAt_3b067 (fu : Nat) (s : St) (a0 : Nat) (a1 : Int32) : Option (St × Int32) :=
  if a0 = 0 then none else
  bV (f_J0_checkIndex_df160 fu s a1 (nI (sL a0))) fun s2 =>
  if inb a1 (sL a0) = false then none else
  if chb ((Int32.toUInt32 ((sB a0 (ix a1)) &&& 255) % 65536).toInt32) = false then none else
  some (s2, ((Int32.toUInt32 ((sB a0 (ix a1)) &&& 255) % 65536).toInt32))
def f_J0_charAt_5068e (fu : Nat) (s : St) (a0 : Nat) (a1 : Int32) : Option (St × Int32) :=
  if a0 = 0 then none else
  bI (f_J0_isLatin1_aae02 fu s a0) fun s2 x3 =>
  if x3 = 0 then
    none
  else
    bI (f_J1_charAt_3b067 fu s2 a0 a1) fun s5 x6 =>
    if chb x6 = false then none else
    some (s5, x6)
def f_J0_coder_7d493_b14 (fu : Nat) (s : St) (t0 : Int32) : Option (St × Int32) :=
  if byb t0 = false then none else
  some (s, t0)
def f_J0_coder_7d493 (fu : Nat) (s : St) (a0 : Nat) : Option (St × Int32) :=
  if (1 : Int32) = 0 then
    f_J0_coder_7d493_b14 fu s 1
  else
    if a0 = 0 then none else
    f_J0_coder_7d493_b14 fu s 0
def f_J0_length_8abf5 (fu : Nat) (s : St) (a0 : Nat) : Option (St × Int32) :=
  if a0 = 0 then none else
  bI (f_J0_coder_7d493 fu s a0) fun s2 x3 =>
  some (s2, ((nI (sL a0)) >>> (x3 &&& 31)))
def f_J1_canEncode_9a6ad_b16 (fu : Nat) (s : St) (t0 : Int32) : Option (St × Int32) :=
  if zb t0 = false then none else
  some (s, t0)
def f_J1_canEncode_9a6ad_b15 (fu : Nat) (s : St) : Option (St × Int32) :=
  f_J1_canEncode_9a6ad_b16 fu s 0
def f_J1_canEncode_9a6ad (fu : Nat) (s : St) (a0 : Int32) : Option (St × Int32) :=
  if a0 < 0 then
    f_J1_canEncode_9a6ad_b15 fu s
  else
    if (255 : Int32) < a0 then
      f_J1_canEncode_9a6ad_b15 fu s
    else
      f_J1_canEncode_9a6ad_b16 fu s 1
def f_J1_indexOfChar_4cfef_b7 (fu : Nat) : Nat → St → Nat → Int32 → Int32 → Int32 → Option (St × Int32)
  | 0, _, _, _, _, _ => none
  | n + 1, s, l0, l3, l4, l5 =>
    if l3 ≤ l5 then
      some (s, ((-1)))
    else
      if l0 = 0 then none else
      if inb l5 (sL l0) = false then none else
      if (sB l0 (ix l5)) = l4 then
        some (s, l5)
      else
        lt (l5 + 1 : Int32) fun x6 =>
        f_J1_indexOfChar_4cfef_b7 fu n s l0 l3 l4 x6
def f_J1_indexOfChar_4cfef (fu : Nat) (s : St) (a0 : Nat) (a1 : Int32) (a2 : Int32) (a3 : Int32) : Option (St × Int32) :=
  lt ((Int32.toInt8 a1).toInt32 : Int32) fun x1 =>
  f_J1_indexOfChar_4cfef_b7 fu fu s a0 a3 x1 a2
def f_J1_indexOf_4cfef (fu : Nat) (s : St) (a0 : Nat) (a1 : Int32) (a2 : Int32) (a3 : Int32) : Option (St × Int32) :=
  bI (f_J1_canEncode_9a6ad fu s a1) fun s1 x2 =>
  if x2 = 0 then
    some (s1, ((-1)))
  else
    bI (f_J9_max_7cf53 fu s1 a2 0) fun s4 x5 =>
    if a0 = 0 then none else
    bI (f_J9_min_7cf53 fu s4 a3 (nI (sL a0))) fun s7 x8 =>
    if x5 < x8 then
      bI (f_J1_indexOfChar_4cfef fu s7 a0 a1 x5 x8) fun s10 x11 =>
      some (s10, x11)
    else
      some (s7, ((-1)))
def f_J0_indexOf_7cf53_b36 (fu : Nat) (s : St) (t0 : Int32) : Option (St × Int32) :=
  some (s, t0)
def f_J0_indexOf_7cf53 (fu : Nat) (s : St) (a0 : Nat) (a1 : Int32) (a2 : Int32) : Option (St × Int32) :=
  if a0 = 0 then none else
  bI (f_J0_isLatin1_aae02 fu s a0) fun s2 x3 =>
  if x3 = 0 then
    bI (f_J0_length_8abf5 fu s2 a0) fun s5 x6 =>
    none
  else
    bI (f_J0_length_8abf5 fu s2 a0) fun s7 x8 =>
    bI (f_J1_indexOf_4cfef fu s7 a0 a1 a2 x8) fun s9 x10 =>
    f_J0_indexOf_7cf53_b36 fu s9 x10
def f_J0_indexOf_0f7a4 (fu : Nat) (s : St) (a0 : Nat) (a1 : Int32) : Option (St × Int32) :=
  if a0 = 0 then none else
  bI (f_J0_indexOf_7cf53 fu s a0 a1 0) fun s2 x3 =>
  some (s2, x3)
def f_J9_abs_0f7a4_b10 (fu : Nat) (s : St) (t0 : Int32) : Option (St × Int32) :=
  some (s, t0)
def f_J9_abs_0f7a4 (fu : Nat) (s : St) (a0 : Int32) : Option (St × Int32) :=
  if 0 ≤ a0 then
    f_J9_abs_0f7a4_b10 fu s a0
  else
    f_J9_abs_0f7a4_b10 fu s (-a0)
def f_J9_max_f86c9_b11 (fu : Nat) (s : St) (t0 : Int64) : Option (St × Int64) :=
  some (s, t0)
def f_J9_max_f86c9 (fu : Nat) (s : St) (a0 : Int64) (a1 : Int64) : Option (St × Int64) :=
  if (lg_cmp a0 a1) < 0 then
    f_J9_max_f86c9_b11 fu s a1
  else
    f_J9_max_f86c9_b11 fu s a0
def f_J9_min_f86c9_b11 (fu : Nat) (s : St) (t0 : Int64) : Option (St × Int64) :=
  some (s, t0)
def f_J9_min_f86c9 (fu : Nat) (s : St) (a0 : Int64) (a1 : Int64) : Option (St × Int64) :=
  if 0 < (lg_cmp a0 a1) then
    f_J9_min_f86c9_b11 fu s a1
  else
    f_J9_min_f86c9_b11 fu s a0
