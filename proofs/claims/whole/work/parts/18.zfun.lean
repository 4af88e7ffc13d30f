def f_L_alarms (fu : Nat) (s : St) (a0 : Nat) (a1 : Int32) (a2 : Int32) (a3 : Nat) : Option (St × Int32) :=
  if a0 = 0 then none else
  bX (f_X8_alarms fu s a0 a1 a2) (fun s2 e3 =>
    if e3 = 1 then
      some (s2, 1)
    else
    none
    ) fun s2 x4 =>
  if a3 = 0 then none else
  if inb 0 (gL s2 11 a3) = false then none else
  lt (sJ s2 11 a3 (ix 0) (Int32.toInt64 x4) : St) fun s8 =>
  some (s8, 0)
def f_L_at (fu : Nat) (s : St) (a0 : Nat) (a1 : Int32) (a2 : Int32) (a3 : Int32) (a4 : Nat) : Option (St × Int32) :=
  if a0 = 0 then none else
  bX (f_X8_at fu s a0 a1 a2 a3) (fun s2 e3 =>
    if e3 = 1 then
      some (s2, 1)
    else
    none
    ) fun s2 x4 =>
  if a4 = 0 then none else
  if inb 0 (gL s2 11 a4) = false then none else
  lt (sJ s2 11 a4 (ix 0) (Int32.toInt64 x4) : St) fun s8 =>
  some (s8, 0)
def f_L_bar (fu : Nat) (s : St) (a0 : Nat) (a1 : Int32) (a2 : Int32) (a3 : Int32) (a4 : Int32) (a5 : Nat) : Option (St × Int32) :=
  if a0 = 0 then none else
  bX (f_X8_bar fu s a0 a1 a2 a3 a4) (fun s2 e3 =>
    if e3 = 1 then
      some (s2, 1)
    else
    if e3 = 2 then
      some (s2, 2)
    else
    none
    ) fun s2 x4 =>
  if a5 = 0 then none else
  if inb 0 (gL s2 11 a5) = false then none else
  lt (sJ s2 11 a5 (ix 0) x4 : St) fun s9 =>
  some (s9, 0)
def f_L_batch (fu : Nat) (s : St) (a0 : Nat) (a1 : Int32) (a2 : Nat) : Option (St × Int32) :=
  if a0 = 0 then none else
  bX (f_X8_batch fu s a0 a1) (fun s2 e3 =>
    if e3 = 2 then
      some (s2, 1)
    else
    none
    ) fun s2 x4 =>
  if a2 = 0 then none else
  if inb 0 (gL s2 11 a2) = false then none else
  lt (sJ s2 11 a2 (ix 0) (Int32.toInt64 x4) : St) fun s8 =>
  some (s8, 0)
def f_L_both (fu : Nat) (s : St) (a0 : Nat) (a1 : Int32) (a2 : Int32) (a3 : Int32) (a4 : Nat) : Option (St × Int32) :=
  if a0 = 0 then none else
  bX (f_X8_both fu s a0 a1 a2 a3) (fun s2 e3 =>
    if e3 = 1 then
      some (s2, 1)
    else
    none
    ) fun s2 x4 =>
  if a4 = 0 then none else
  if inb 0 (gL s2 11 a4) = false then none else
  lt (sJ s2 11 a4 (ix 0) (Int32.toInt64 x4) : St) fun s8 =>
  some (s8, 0)
def f_L_bucket (fu : Nat) (s : St) (a0 : Nat) (a1 : Int32) (a2 : Int32) (a3 : Int32) (a4 : Int32) (a5 : Nat) : Option (St × Int32) :=
  if a0 = 0 then none else
  bX (f_X8_bucket fu s a0 a1 a2 a3 a4) (fun s2 e3 =>
    if e3 = 1 then
      some (s2, 1)
    else
    none
    ) fun s2 x4 =>
  if a5 = 0 then none else
  if inb 0 (gL s2 11 a5) = false then none else
  lt (sJ s2 11 a5 (ix 0) x4 : St) fun s8 =>
  some (s8, 0)
def f_L_buckets (fu : Nat) (s : St) (a0 : Nat) (a1 : Int32) (a2 : Int32) (a3 : Nat) : Option (St × Int32) :=
  if a0 = 0 then none else
  bX (f_X8_buckets fu s a0 a1 a2) (fun s2 e3 =>
    if e3 = 1 then
      some (s2, 1)
    else
    none
    ) fun s2 x4 =>
  if a3 = 0 then none else
  if inb 0 (gL s2 11 a3) = false then none else
  lt (sJ s2 11 a3 (ix 0) (Int32.toInt64 x4) : St) fun s8 =>
  some (s8, 0)
def f_L_count (fu : Nat) (s : St) (a0 : Nat) (a1 : Int32) (a2 : Nat) : Option (St × Int32) :=
  if a0 = 0 then none else
  bX (f_X8_count fu s a0 a1) (fun s2 e3 =>
    if e3 = 1 then
      some (s2, 1)
    else
    none
    ) fun s2 x4 =>
  if a2 = 0 then none else
  if inb 0 (gL s2 11 a2) = false then none else
  lt (sJ s2 11 a2 (ix 0) (Int32.toInt64 x4) : St) fun s8 =>
  some (s8, 0)
def f_L_gap (fu : Nat) (s : St) (a0 : Nat) (a1 : Int32) (a2 : Int32) (a3 : Int32) (a4 : Int32) (a5 : Nat) : Option (St × Int32) :=
  if a0 = 0 then none else
  bX (f_X8_gap fu s a0 a1 a2 a3 a4) (fun s2 e3 =>
    if e3 = 1 then
      some (s2, 1)
    else
    none
    ) fun s2 x4 =>
  if a5 = 0 then none else
  if inb 0 (gL s2 11 a5) = false then none else
  lt (sJ s2 11 a5 (ix 0) (Int32.toInt64 x4) : St) fun s8 =>
  some (s8, 0)
def f_L_of (fu : Nat) (s : St) (a0 : Nat) (a1 : Int32) (a2 : Int32) (a3 : Nat) : Option (St × Int32) :=
  if a0 = 0 then none else
  bX (f_X8_of fu s a0 a1 a2) (fun s2 e3 =>
    if e3 = 1 then
      some (s2, 1)
    else
    none
    ) fun s2 x4 =>
  if a3 = 0 then none else
  if inb 0 (gL s2 11 a3) = false then none else
  lt (sJ s2 11 a3 (ix 0) x4 : St) fun s8 =>
  some (s8, 0)
def f_L_seam (fu : Nat) (s : St) (a0 : Nat) (a1 : Int32) (a2 : Int32) (a3 : Nat) : Option (St × Int32) :=
  if a0 = 0 then none else
  bX (f_X8_seam fu s a0 a1 a2) (fun s2 e3 =>
    if e3 = 1 then
      some (s2, 1)
    else
    none
    ) fun s2 x4 =>
  if a3 = 0 then none else
  if inb 0 (gL s2 11 a3) = false then none else
  lt (sJ s2 11 a3 (ix 0) (Int32.toInt64 x4) : St) fun s8 =>
  some (s8, 0)
def f_L_tell (fu : Nat) (s : St) (a0 : Nat) (a1 : Int32) (a2 : Nat) : Option (St × Int32) :=
  if a0 = 0 then none else
  bX (f_X8_tell fu s a0 a1) (fun s2 e3 =>
    if e3 = 2 then
      some (s2, 1)
    else
    none
    ) fun s2 x4 =>
  if a2 = 0 then none else
  if inb 0 (gL s2 11 a2) = false then none else
  lt (sJ s2 11 a2 (ix 0) (Int32.toInt64 x4) : St) fun s8 =>
  some (s8, 0)
def f_L_tier (fu : Nat) (s : St) (a0 : Nat) (a1 : Int32) (a2 : Int32) (a3 : Nat) : Option (St × Int32) :=
  if a0 = 0 then none else
  bX (f_X8_tier fu s a0 a1 a2) (fun s2 e3 =>
    if e3 = 1 then
      some (s2, 1)
    else
    none
    ) fun s2 x4 =>
  if a3 = 0 then none else
  if inb 0 (gL s2 11 a3) = false then none else
  lt (sJ s2 11 a3 (ix 0) (Int32.toInt64 x4) : St) fun s8 =>
  some (s8, 0)
def f_L_total (fu : Nat) (s : St) (a0 : Nat) (a1 : Int32) (a2 : Int32) (a3 : Int32) (a4 : Int32) (a5 : Nat) : Option (St × Int32) :=
  if a0 = 0 then none else
  bX (f_X8_total fu s a0 a1 a2 a3 a4) (fun s2 e3 =>
    if e3 = 1 then
      some (s2, 1)
    else
    if e3 = 2 then
      some (s2, 2)
    else
    none
    ) fun s2 x4 =>
  if a5 = 0 then none else
  if inb 0 (gL s2 11 a5) = false then none else
  lt (sJ s2 11 a5 (ix 0) x4 : St) fun s9 =>
  some (s9, 0)
def f_L_trend (fu : Nat) (s : St) (a0 : Nat) (a1 : Int32) (a2 : Int32) (a3 : Int32) (a4 : Nat) : Option (St × Int32) :=
  if a0 = 0 then none else
  bX (f_X8_trend fu s a0 a1 a2 a3) (fun s2 e3 =>
    if e3 = 1 then
      some (s2, 1)
    else
    none
    ) fun s2 x4 =>
  if a4 = 0 then none else
  if inb 0 (gL s2 11 a4) = false then none else
  lt (sJ s2 11 a4 (ix 0) x4 : St) fun s8 =>
  some (s8, 0)
def f_L_until (fu : Nat) (s : St) (a0 : Nat) (a1 : Int32) (a2 : Int32) (a3 : Int32) (a4 : Nat) : Option (St × Int32) :=
  if a0 = 0 then none else
  bX (f_X8_until fu s a0 a1 a2 a3) (fun s2 e3 =>
    if e3 = 1 then
      some (s2, 1)
    else
    if e3 = 2 then
      some (s2, 2)
    else
    none
    ) fun s2 x4 =>
  if a4 = 0 then none else
  if inb 0 (gL s2 11 a4) = false then none else
  lt (sJ s2 11 a4 (ix 0) (Int32.toInt64 x4) : St) fun s9 =>
  some (s9, 0)
def f_L_used (fu : Nat) (s : St) (a0 : Nat) (a1 : Int32) (a2 : Nat) : Option (St × Int32) :=
  if a0 = 0 then none else
  bX (f_X8_used fu s a0 a1) (fun s2 e3 =>
    if e3 = 1 then
      some (s2, 1)
    else
    none
    ) fun s2 x4 =>
  if a2 = 0 then none else
  if inb 0 (gL s2 11 a2) = false then none else
  lt (sJ s2 11 a2 (ix 0) (Int32.toInt64 x4) : St) fun s8 =>
  some (s8, 0)
def f_L_why (fu : Nat) (s : St) (a0 : Nat) (a1 : Int32) (a2 : Nat) : Option (St × Int32) :=
  if a0 = 0 then none else
  bX (f_X8_why fu s a0 a1) (fun s2 e3 =>
    if e3 = 1 then
      some (s2, 1)
    else
    none
    ) fun s2 x4 =>
  if a2 = 0 then none else
  if inb 0 (gL s2 11 a2) = false then none else
  lt (sJ s2 11 a2 (ix 0) (Int32.toInt64 x4) : St) fun s8 =>
  some (s8, 0)
def f_L_would (fu : Nat) (s : St) (a0 : Nat) (a1 : Int32) (a2 : Int32) (a3 : Int32) (a4 : Nat) : Option (St × Int32) :=
  if a0 = 0 then none else
  bX (f_X8_would fu s a0 a1 a2 a3) (fun s2 e3 =>
    if e3 = 1 then
      some (s2, 1)
    else
    if e3 = 2 then
      some (s2, 2)
    else
    none
    ) fun s2 x4 =>
  if a4 = 0 then none else
  if inb 0 (gL s2 11 a4) = false then none else
  lt (sJ s2 11 a4 (ix 0) (Int32.toInt64 x4) : St) fun s9 =>
  some (s9, 0)
def f_L_law_b1839 (fu : Nat) (xs : Nat → Int32) (L : Nat) (k23 : St → Nat → Nat → Nat → Nat → Int32 → Option (St × Int32)) (s : St) (l1 : Nat) (l2 : Nat) (l3 : Nat) (l4 : Int32) : Option (St × Int32) :=
  lt (l4 + 7 : Int32) fun x443 =>
  k23 s 1 l1 l2 l3 x443
def f_L_law_b282 (fu : Nat) (xs : Nat → Int32) (L : Nat) (k23 : St → Nat → Nat → Nat → Nat → Int32 → Option (St × Int32)) (s : St) (l1 : Nat) (l2 : Nat) (l3 : Nat) (l4 : Int32) : Option (St × Int32) :=
  f_L_law_b1839 fu k23 s 1 l1 l2 l3 l4
def f_L_law_b338 (fu : Nat) (xs : Nat → Int32) (L : Nat) (k23 : St → Nat → Nat → Nat → Nat → Int32 → Option (St × Int32)) (s : St) (l1 : Nat) (l2 : Nat) (l3 : Nat) (l4 : Int32) : Option (St × Int32) :=
  f_L_law_b1839 fu k23 s 1 l1 l2 l3 l4
def f_L_law_b605 (fu : Nat) (xs : Nat → Int32) (L : Nat) (k23 : St → Nat → Nat → Nat → Nat → Int32 → Option (St × Int32)) (s : St) (l1 : Nat) (l2 : Nat) (l3 : Nat) (l4 : Int32) : Option (St × Int32) :=
  f_L_law_b1839 fu k23 s 1 l1 l2 l3 l4
def f_L_law_b661 (fu : Nat) (xs : Nat → Int32) (L : Nat) (k23 : St → Nat → Nat → Nat → Nat → Int32 → Option (St × Int32)) (s : St) (l1 : Nat) (l2 : Nat) (l3 : Nat) (l4 : Int32) : Option (St × Int32) :=
  f_L_law_b1839 fu k23 s 1 l1 l2 l3 l4
def f_L_law_b729 (fu : Nat) (xs : Nat → Int32) (L : Nat) (k23 : St → Nat → Nat → Nat → Nat → Int32 → Option (St × Int32)) (s : St) (l1 : Nat) (l2 : Nat) (l3 : Nat) (l4 : Int32) : Option (St × Int32) :=
  f_L_law_b1839 fu k23 s 1 l1 l2 l3 l4
def f_L_law_b785 (fu : Nat) (xs : Nat → Int32) (L : Nat) (k23 : St → Nat → Nat → Nat → Nat → Int32 → Option (St × Int32)) (s : St) (l1 : Nat) (l2 : Nat) (l3 : Nat) (l4 : Int32) : Option (St × Int32) :=
  f_L_law_b1839 fu k23 s 1 l1 l2 l3 l4
def f_L_law_b852 (fu : Nat) (xs : Nat → Int32) (L : Nat) (k23 : St → Nat → Nat → Nat → Nat → Int32 → Option (St × Int32)) (s : St) (l1 : Nat) (l2 : Nat) (l3 : Nat) (l4 : Int32) : Option (St × Int32) :=
  f_L_law_b1839 fu k23 s 1 l1 l2 l3 l4
def f_L_law_b920 (fu : Nat) (xs : Nat → Int32) (L : Nat) (k23 : St → Nat → Nat → Nat → Nat → Int32 → Option (St × Int32)) (s : St) (l1 : Nat) (l2 : Nat) (l3 : Nat) (l4 : Int32) : Option (St × Int32) :=
  f_L_law_b1839 fu k23 s 1 l1 l2 l3 l4
def f_L_law_b988 (fu : Nat) (xs : Nat → Int32) (L : Nat) (k23 : St → Nat → Nat → Nat → Nat → Int32 → Option (St × Int32)) (s : St) (l1 : Nat) (l2 : Nat) (l3 : Nat) (l4 : Int32) : Option (St × Int32) :=
  f_L_law_b1839 fu k23 s 1 l1 l2 l3 l4
def f_L_law_b1079 (fu : Nat) (xs : Nat → Int32) (L : Nat) (k23 : St → Nat → Nat → Nat → Nat → Int32 → Option (St × Int32)) (s : St) (l1 : Nat) (l2 : Nat) (l3 : Nat) (l4 : Int32) : Option (St × Int32) :=
  f_L_law_b1839 fu k23 s 1 l1 l2 l3 l4
def f_L_law_b1159 (fu : Nat) (xs : Nat → Int32) (L : Nat) (k23 : St → Nat → Nat → Nat → Nat → Int32 → Option (St × Int32)) (s : St) (l1 : Nat) (l2 : Nat) (l3 : Nat) (l4 : Int32) : Option (St × Int32) :=
  f_L_law_b1839 fu k23 s 1 l1 l2 l3 l4
def f_L_law_b1250 (fu : Nat) (xs : Nat → Int32) (L : Nat) (k23 : St → Nat → Nat → Nat → Nat → Int32 → Option (St × Int32)) (s : St) (l1 : Nat) (l2 : Nat) (l3 : Nat) (l4 : Int32) : Option (St × Int32) :=
  f_L_law_b1839 fu k23 s 1 l1 l2 l3 l4
def f_L_law_b1358 (fu : Nat) (xs : Nat → Int32) (L : Nat) (k23 : St → Nat → Nat → Nat → Nat → Int32 → Option (St × Int32)) (s : St) (l1 : Nat) (l2 : Nat) (l3 : Nat) (l4 : Int32) : Option (St × Int32) :=
  f_L_law_b1839 fu k23 s 1 l1 l2 l3 l4
def f_L_law_b1325 (fu : Nat) (xs : Nat → Int32) (L : Nat) (k23 : St → Nat → Nat → Nat → Nat → Int32 → Option (St × Int32)) (s : St) (l1 : Nat) (l2 : Nat) (l3 : Nat) (l4 : Int32) (l5 : Int32) (t0 : Int32) (t1 : Int32) (t2 : Int32) (t3 : Int32) (t4 : Nat) : Option (St × Int32) :=
  if t4 = 0 then none else
  bI (f_X9_gap fu s t4 t3 t2 t1 t0) fun s433 x434 =>
  if l2 = 0 then none else
  bI (f_X9_thrown fu s433 l2) fun s436 x437 =>
  if x437 = l5 then
    if l5 = 0 then
      if l3 = 0 then none else
      if inb 0 (gL s436 11 l3) = false then none else
      if (lg_cmp (gJ s436 11 l3 (ix 0)) (Int32.toInt64 x434)) = 0 then
        f_L_law_b1358 fu k23 s436 1 l1 l2 l3 l4
      else
        some (s436, 0)
    else
      f_L_law_b1358 fu k23 s436 1 l1 l2 l3 l4
  else
    some (s436, 0)
def f_L_law_b1286 (fu : Nat) (xs : Nat → Int32) (L : Nat) (k23 : St → Nat → Nat → Nat → Nat → Int32 → Option (St × Int32)) (s : St) (l1 : Nat) (l2 : Nat) (l3 : Nat) (l4 : Int32) (t0 : Int32) (t1 : Int32) (t2 : Int32) (t3 : Int32) (t4 : Nat) : Option (St × Int32) :=
  bI (f_L_gap fu s t4 t3 t2 t1 t0 l3) fun s425 x426 =>
  if inb (l4 + 1) L = false then none else
  if inb (l4 + 2) L = false then none else
  if inb (l4 + 3) L = false then none else
  if inb (l4 + 4) L = false then none else
  if (xs (ix (l4 + 4))) = 0 then
    f_L_law_b1325 fu k23 s425 1 l1 l2 l3 l4 x426 0 (xs (ix (l4 + 3))) (xs (ix (l4 + 2))) (xs (ix (l4 + 1))) l2
  else
    f_L_law_b1325 fu k23 s425 1 l1 l2 l3 l4 x426 1 (xs (ix (l4 + 3))) (xs (ix (l4 + 2))) (xs (ix (l4 + 1))) l2
def f_L_law_b1449 (fu : Nat) (xs : Nat → Int32) (L : Nat) (k23 : St → Nat → Nat → Nat → Nat → Int32 → Option (St × Int32)) (s : St) (l1 : Nat) (l2 : Nat) (l3 : Nat) (l4 : Int32) : Option (St × Int32) :=
  f_L_law_b1839 fu k23 s 1 l1 l2 l3 l4
def f_L_law_b1517 (fu : Nat) (xs : Nat → Int32) (L : Nat) (k23 : St → Nat → Nat → Nat → Nat → Int32 → Option (St × Int32)) (s : St) (l1 : Nat) (l2 : Nat) (l3 : Nat) (l4 : Int32) : Option (St × Int32) :=
  f_L_law_b1839 fu k23 s 1 l1 l2 l3 l4
def f_L_law_b1597 (fu : Nat) (xs : Nat → Int32) (L : Nat) (k23 : St → Nat → Nat → Nat → Nat → Int32 → Option (St × Int32)) (s : St) (l1 : Nat) (l2 : Nat) (l3 : Nat) (l4 : Int32) : Option (St × Int32) :=
  f_L_law_b1839 fu k23 s 1 l1 l2 l3 l4
def f_L_law_b1677 (fu : Nat) (xs : Nat → Int32) (L : Nat) (k23 : St → Nat → Nat → Nat → Nat → Int32 → Option (St × Int32)) (s : St) (l1 : Nat) (l2 : Nat) (l3 : Nat) (l4 : Int32) : Option (St × Int32) :=
  f_L_law_b1839 fu k23 s 1 l1 l2 l3 l4
def f_L_law_b1756 (fu : Nat) (xs : Nat → Int32) (L : Nat) (k23 : St → Nat → Nat → Nat → Nat → Int32 → Option (St × Int32)) (s : St) (l1 : Nat) (l2 : Nat) (l3 : Nat) (l4 : Int32) : Option (St × Int32) :=
  f_L_law_b1839 fu k23 s 1 l1 l2 l3 l4
def f_L_law_b1836 (fu : Nat) (xs : Nat → Int32) (L : Nat) (k23 : St → Nat → Nat → Nat → Nat → Int32 → Option (St × Int32)) (s : St) (l1 : Nat) (l2 : Nat) (l3 : Nat) (l4 : Int32) : Option (St × Int32) :=
  f_L_law_b1839 fu k23 s 1 l1 l2 l3 l4
def f_L_law_b23 (fu : Nat) (xs : Nat → Int32) (L : Nat) : Nat → St → Nat → Nat → Nat → Int32 → Option (St × Int32)
  | 0, _, _, _, _, _ => none
  | n + 1, s, l1, l2, l3, l4 =>
    if ((nI L) - 7) < l4 then
      some (s, 1)
    else
      if inb l4 L = false then none else
      lt ((xs (ix l4)) &&& 31 : Int32) fun x18 =>
      if x18 = 0 then
        if inb (l4 + 1) L = false then none else
        if inb (l4 + 2) L = false then none else
        if inb (l4 + 3) L = false then none else
        if inb (l4 + 4) L = false then none else
        if inb (l4 + 5) L = false then none else
        if l1 = 0 then none else
        bI (f_X8_feed fu s l1 (xs (ix (l4 + 1))) (xs (ix (l4 + 2))) (xs (ix (l4 + 3))) (xs (ix (l4 + 4))) (xs (ix (l4 + 5)))) fun s26 x27 =>
        if inb (l4 + 1) L = false then none else
        if inb (l4 + 2) L = false then none else
        if inb (l4 + 3) L = false then none else
        if inb (l4 + 4) L = false then none else
        if inb (l4 + 5) L = false then none else
        if l2 = 0 then none else
        bI (f_X9_feed fu s26 l2 (xs (ix (l4 + 1))) (xs (ix (l4 + 2))) (xs (ix (l4 + 3))) (xs (ix (l4 + 4))) (xs (ix (l4 + 5)))) fun s34 x35 =>
        if x27 = x35 then
          f_L_law_b1839 fu (f_L_law_b23 fu n) s34 1 l1 l2 l3 l4
        else
          some (s34, 0)
      else
      if x18 = 1 then
        if inb (l4 + 1) L = false then none else
        bI (f_L_tell fu s l1 (xs (ix (l4 + 1))) l3) fun s39 x40 =>
        if inb (l4 + 1) L = false then none else
        if l2 = 0 then none else
        bI (f_X9_tell fu s39 l2 (xs (ix (l4 + 1)))) fun s43 x44 =>
        bI (f_X9_thrown fu s43 l2) fun s45 x46 =>
        if x46 = x40 then
          if x40 = 0 then
            if l3 = 0 then none else
            if inb 0 (gL s45 11 l3) = false then none else
            if (lg_cmp (gJ s45 11 l3 (ix 0)) (Int32.toInt64 x44)) = 0 then
              f_L_law_b282 fu (f_L_law_b23 fu n) s45 1 l1 l2 l3 l4
            else
              some (s45, 0)
          else
            f_L_law_b282 fu (f_L_law_b23 fu n) s45 1 l1 l2 l3 l4
        else
          some (s45, 0)
      else
      if x18 = 2 then
        if inb (l4 + 1) L = false then none else
        bI (f_L_batch fu s l1 (xs (ix (l4 + 1))) l3) fun s54 x55 =>
        if inb (l4 + 1) L = false then none else
        if l2 = 0 then none else
        bI (f_X9_batch fu s54 l2 (xs (ix (l4 + 1)))) fun s58 x59 =>
        bI (f_X9_thrown fu s58 l2) fun s60 x61 =>
        if x61 = x55 then
          if x55 = 0 then
            if l3 = 0 then none else
            if inb 0 (gL s60 11 l3) = false then none else
            if (lg_cmp (gJ s60 11 l3 (ix 0)) (Int32.toInt64 x59)) = 0 then
              f_L_law_b338 fu (f_L_law_b23 fu n) s60 1 l1 l2 l3 l4
            else
              some (s60, 0)
          else
            f_L_law_b338 fu (f_L_law_b23 fu n) s60 1 l1 l2 l3 l4
        else
          some (s60, 0)
      else
      if x18 = 3 then
        if l1 = 0 then none else
        bI (f_X8_fault fu s l1) fun s69 x70 =>
        if l2 = 0 then none else
        bI (f_X9_fault fu s69 l2) fun s72 x73 =>
        if x70 = x73 then
          f_L_law_b1839 fu (f_L_law_b23 fu n) s72 1 l1 l2 l3 l4
        else
          some (s72, 0)
      else
      if x18 = 4 then
        if inb (l4 + 1) L = false then none else
        if inb (l4 + 2) L = false then none else
        if inb (l4 + 3) L = false then none else
        if l1 = 0 then none else
        bI (f_X8_put fu s l1 (xs (ix (l4 + 1))) (xs (ix (l4 + 2))) (xs (ix (l4 + 3)))) fun s80 x81 =>
        if inb (l4 + 1) L = false then none else
        if inb (l4 + 2) L = false then none else
        if inb (l4 + 3) L = false then none else
        if l2 = 0 then none else
        bI (f_X9_put fu s80 l2 (xs (ix (l4 + 1))) (xs (ix (l4 + 2))) (xs (ix (l4 + 3)))) fun s86 x87 =>
        if x81 = x87 then
          f_L_law_b1839 fu (f_L_law_b23 fu n) s86 1 l1 l2 l3 l4
        else
          some (s86, 0)
      else
      if x18 = 5 then
        if inb (l4 + 1) L = false then none else
        if inb (l4 + 2) L = false then none else
        if l1 = 0 then none else
        bI (f_X8_tick fu s l1 (xs (ix (l4 + 1))) (xs (ix (l4 + 2)))) fun s93 x94 =>
        if inb (l4 + 1) L = false then none else
        if inb (l4 + 2) L = false then none else
        if l2 = 0 then none else
        bI (f_X9_tick fu s93 l2 (xs (ix (l4 + 1))) (xs (ix (l4 + 2)))) fun s98 x99 =>
        if x94 = x99 then
          f_L_law_b1839 fu (f_L_law_b23 fu n) s98 1 l1 l2 l3 l4
        else
          some (s98, 0)
      else
      if x18 = 6 then
        if inb (l4 + 1) L = false then none else
        if l1 = 0 then none else
        bI (f_X8_drop fu s l1 (xs (ix (l4 + 1)))) fun s104 x105 =>
        if inb (l4 + 1) L = false then none else
        if l2 = 0 then none else
        bI (f_X9_drop fu s104 l2 (xs (ix (l4 + 1)))) fun s108 x109 =>
        if x105 = x109 then
          f_L_law_b1839 fu (f_L_law_b23 fu n) s108 1 l1 l2 l3 l4
        else
          some (s108, 0)
      else
      if x18 = 7 then
        if inb (l4 + 1) L = false then none else
        if inb (l4 + 2) L = false then none else
        if inb (l4 + 3) L = false then none else
        if inb (l4 + 4) L = false then none else
        if inb (l4 + 5) L = false then none else
        if inb (l4 + 6) L = false then none else
        if l1 = 0 then none else
        bI (f_X8_sheet fu s l1 (xs (ix (l4 + 1))) (xs (ix (l4 + 2))) (xs (ix (l4 + 3))) (xs (ix (l4 + 4))) (xs (ix (l4 + 5))) (xs (ix (l4 + 6)))) fun s119 x120 =>
        if inb (l4 + 1) L = false then none else
        if inb (l4 + 2) L = false then none else
        if inb (l4 + 3) L = false then none else
        if inb (l4 + 4) L = false then none else
        if inb (l4 + 5) L = false then none else
        if inb (l4 + 6) L = false then none else
        if l2 = 0 then none else
        bI (f_X9_sheet fu s119 l2 (xs (ix (l4 + 1))) (xs (ix (l4 + 2))) (xs (ix (l4 + 3))) (xs (ix (l4 + 4))) (xs (ix (l4 + 5))) (xs (ix (l4 + 6)))) fun s128 x129 =>
        if x120 = x129 then
          f_L_law_b1839 fu (f_L_law_b23 fu n) s128 1 l1 l2 l3 l4
        else
          some (s128, 0)
      else
      if x18 = 8 then
        if inb (l4 + 1) L = false then none else
        bI (f_L_why fu s l1 (xs (ix (l4 + 1))) l3) fun s133 x134 =>
        if inb (l4 + 1) L = false then none else
        if l2 = 0 then none else
        bI (f_X9_why fu s133 l2 (xs (ix (l4 + 1)))) fun s137 x138 =>
        bI (f_X9_thrown fu s137 l2) fun s139 x140 =>
        if x140 = x134 then
          if x134 = 0 then
            if l3 = 0 then none else
            if inb 0 (gL s139 11 l3) = false then none else
            if (lg_cmp (gJ s139 11 l3 (ix 0)) (Int32.toInt64 x138)) = 0 then
              f_L_law_b605 fu (f_L_law_b23 fu n) s139 1 l1 l2 l3 l4
            else
              some (s139, 0)
          else
            f_L_law_b605 fu (f_L_law_b23 fu n) s139 1 l1 l2 l3 l4
        else
          some (s139, 0)
      else
      if x18 = 9 then
        if inb (l4 + 1) L = false then none else
        bI (f_L_count fu s l1 (xs (ix (l4 + 1))) l3) fun s148 x149 =>
        if inb (l4 + 1) L = false then none else
        if l2 = 0 then none else
        bI (f_X9_count fu s148 l2 (xs (ix (l4 + 1)))) fun s152 x153 =>
        bI (f_X9_thrown fu s152 l2) fun s154 x155 =>
        if x155 = x149 then
          if x149 = 0 then
            if l3 = 0 then none else
            if inb 0 (gL s154 11 l3) = false then none else
            if (lg_cmp (gJ s154 11 l3 (ix 0)) (Int32.toInt64 x153)) = 0 then
              f_L_law_b661 fu (f_L_law_b23 fu n) s154 1 l1 l2 l3 l4
            else
              some (s154, 0)
          else
            f_L_law_b661 fu (f_L_law_b23 fu n) s154 1 l1 l2 l3 l4
        else
          some (s154, 0)
      else
      if x18 = 10 then
        if inb (l4 + 1) L = false then none else
        if inb (l4 + 2) L = false then none else
        bI (f_L_tier fu s l1 (xs (ix (l4 + 1))) (xs (ix (l4 + 2))) l3) fun s164 x165 =>
        if inb (l4 + 1) L = false then none else
        if inb (l4 + 2) L = false then none else
        if l2 = 0 then none else
        bI (f_X9_tier fu s164 l2 (xs (ix (l4 + 1))) (xs (ix (l4 + 2)))) fun s169 x170 =>
        bI (f_X9_thrown fu s169 l2) fun s171 x172 =>
        if x172 = x165 then
          if x165 = 0 then
            if l3 = 0 then none else
            if inb 0 (gL s171 11 l3) = false then none else
            if (lg_cmp (gJ s171 11 l3 (ix 0)) (Int32.toInt64 x170)) = 0 then
              f_L_law_b729 fu (f_L_law_b23 fu n) s171 1 l1 l2 l3 l4
            else
              some (s171, 0)
          else
            f_L_law_b729 fu (f_L_law_b23 fu n) s171 1 l1 l2 l3 l4
        else
          some (s171, 0)
      else
      if x18 = 11 then
        if inb (l4 + 1) L = false then none else
        bI (f_L_used fu s l1 (xs (ix (l4 + 1))) l3) fun s180 x181 =>
        if inb (l4 + 1) L = false then none else
        if l2 = 0 then none else
        bI (f_X9_used fu s180 l2 (xs (ix (l4 + 1)))) fun s184 x185 =>
        bI (f_X9_thrown fu s184 l2) fun s186 x187 =>
        if x187 = x181 then
          if x181 = 0 then
            if l3 = 0 then none else
            if inb 0 (gL s186 11 l3) = false then none else
            if (lg_cmp (gJ s186 11 l3 (ix 0)) (Int32.toInt64 x185)) = 0 then
              f_L_law_b785 fu (f_L_law_b23 fu n) s186 1 l1 l2 l3 l4
            else
              some (s186, 0)
          else
            f_L_law_b785 fu (f_L_law_b23 fu n) s186 1 l1 l2 l3 l4
        else
          some (s186, 0)
      else
      if x18 = 12 then
        if inb (l4 + 1) L = false then none else
        if inb (l4 + 2) L = false then none else
        bI (f_L_of fu s l1 (xs (ix (l4 + 1))) (xs (ix (l4 + 2))) l3) fun s196 x197 =>
        if inb (l4 + 1) L = false then none else
        if inb (l4 + 2) L = false then none else
        if l2 = 0 then none else
        bI (f_X9_of fu s196 l2 (xs (ix (l4 + 1))) (xs (ix (l4 + 2)))) fun s201 x202 =>
        bI (f_X9_thrown fu s201 l2) fun s203 x204 =>
        if x204 = x197 then
          if x197 = 0 then
            if l3 = 0 then none else
            if inb 0 (gL s203 11 l3) = false then none else
            if (lg_cmp (gJ s203 11 l3 (ix 0)) x202) = 0 then
              f_L_law_b852 fu (f_L_law_b23 fu n) s203 1 l1 l2 l3 l4
            else
              some (s203, 0)
          else
            f_L_law_b852 fu (f_L_law_b23 fu n) s203 1 l1 l2 l3 l4
        else
          some (s203, 0)
      else
      if x18 = 13 then
        if inb (l4 + 1) L = false then none else
        if inb (l4 + 2) L = false then none else
        bI (f_L_seam fu s l1 (xs (ix (l4 + 1))) (xs (ix (l4 + 2))) l3) fun s213 x214 =>
        if inb (l4 + 1) L = false then none else
        if inb (l4 + 2) L = false then none else
        if l2 = 0 then none else
        bI (f_X9_seam fu s213 l2 (xs (ix (l4 + 1))) (xs (ix (l4 + 2)))) fun s218 x219 =>
        bI (f_X9_thrown fu s218 l2) fun s220 x221 =>
        if x221 = x214 then
          if x214 = 0 then
            if l3 = 0 then none else
            if inb 0 (gL s220 11 l3) = false then none else
            if (lg_cmp (gJ s220 11 l3 (ix 0)) (Int32.toInt64 x219)) = 0 then
              f_L_law_b920 fu (f_L_law_b23 fu n) s220 1 l1 l2 l3 l4
            else
              some (s220, 0)
          else
            f_L_law_b920 fu (f_L_law_b23 fu n) s220 1 l1 l2 l3 l4
        else
          some (s220, 0)
      else
      if x18 = 14 then
        if inb (l4 + 1) L = false then none else
        if inb (l4 + 2) L = false then none else
        bI (f_L_buckets fu s l1 (xs (ix (l4 + 1))) (xs (ix (l4 + 2))) l3) fun s230 x231 =>
        if inb (l4 + 1) L = false then none else
        if inb (l4 + 2) L = false then none else
        if l2 = 0 then none else
        bI (f_X9_buckets fu s230 l2 (xs (ix (l4 + 1))) (xs (ix (l4 + 2)))) fun s235 x236 =>
        bI (f_X9_thrown fu s235 l2) fun s237 x238 =>
        if x238 = x231 then
          if x231 = 0 then
            if l3 = 0 then none else
            if inb 0 (gL s237 11 l3) = false then none else
            if (lg_cmp (gJ s237 11 l3 (ix 0)) (Int32.toInt64 x236)) = 0 then
              f_L_law_b988 fu (f_L_law_b23 fu n) s237 1 l1 l2 l3 l4
            else
              some (s237, 0)
          else
            f_L_law_b988 fu (f_L_law_b23 fu n) s237 1 l1 l2 l3 l4
        else
          some (s237, 0)
      else
      if x18 = 15 then
        if inb (l4 + 1) L = false then none else
        if inb (l4 + 2) L = false then none else
        if inb (l4 + 3) L = false then none else
        if inb (l4 + 4) L = false then none else
        bI (f_L_bucket fu s l1 (xs (ix (l4 + 1))) (xs (ix (l4 + 2))) (xs (ix (l4 + 3))) (xs (ix (l4 + 4))) l3) fun s249 x250 =>
        if inb (l4 + 1) L = false then none else
        if inb (l4 + 2) L = false then none else
        if inb (l4 + 3) L = false then none else
        if inb (l4 + 4) L = false then none else
        if l2 = 0 then none else
        bI (f_X9_bucket fu s249 l2 (xs (ix (l4 + 1))) (xs (ix (l4 + 2))) (xs (ix (l4 + 3))) (xs (ix (l4 + 4)))) fun s256 x257 =>
        bI (f_X9_thrown fu s256 l2) fun s258 x259 =>
        if x259 = x250 then
          if x250 = 0 then
            if l3 = 0 then none else
            if inb 0 (gL s258 11 l3) = false then none else
            if (lg_cmp (gJ s258 11 l3 (ix 0)) x257) = 0 then
              f_L_law_b1079 fu (f_L_law_b23 fu n) s258 1 l1 l2 l3 l4
            else
              some (s258, 0)
          else
            f_L_law_b1079 fu (f_L_law_b23 fu n) s258 1 l1 l2 l3 l4
        else
          some (s258, 0)
      else
      if x18 = 16 then
        if inb (l4 + 1) L = false then none else
        if inb (l4 + 2) L = false then none else
        if inb (l4 + 3) L = false then none else
        bI (f_L_at fu s l1 (xs (ix (l4 + 1))) (xs (ix (l4 + 2))) (xs (ix (l4 + 3))) l3) fun s269 x270 =>
        if inb (l4 + 1) L = false then none else
        if inb (l4 + 2) L = false then none else
        if inb (l4 + 3) L = false then none else
        if l2 = 0 then none else
        bI (f_X9_at fu s269 l2 (xs (ix (l4 + 1))) (xs (ix (l4 + 2))) (xs (ix (l4 + 3)))) fun s275 x276 =>
        bI (f_X9_thrown fu s275 l2) fun s277 x278 =>
        if x278 = x270 then
          if x270 = 0 then
            if l3 = 0 then none else
            if inb 0 (gL s277 11 l3) = false then none else
            if (lg_cmp (gJ s277 11 l3 (ix 0)) (Int32.toInt64 x276)) = 0 then
              f_L_law_b1159 fu (f_L_law_b23 fu n) s277 1 l1 l2 l3 l4
            else
              some (s277, 0)
          else
            f_L_law_b1159 fu (f_L_law_b23 fu n) s277 1 l1 l2 l3 l4
        else
          some (s277, 0)
      else
      if x18 = 17 then
        if inb (l4 + 1) L = false then none else
        if inb (l4 + 2) L = false then none else
        if inb (l4 + 3) L = false then none else
        if inb (l4 + 4) L = false then none else
        bI (f_L_total fu s l1 (xs (ix (l4 + 1))) (xs (ix (l4 + 2))) (xs (ix (l4 + 3))) (xs (ix (l4 + 4))) l3) fun s289 x290 =>
        if inb (l4 + 1) L = false then none else
        if inb (l4 + 2) L = false then none else
        if inb (l4 + 3) L = false then none else
        if inb (l4 + 4) L = false then none else
        if l2 = 0 then none else
        bI (f_X9_total fu s289 l2 (xs (ix (l4 + 1))) (xs (ix (l4 + 2))) (xs (ix (l4 + 3))) (xs (ix (l4 + 4)))) fun s296 x297 =>
        bI (f_X9_thrown fu s296 l2) fun s298 x299 =>
        if x299 = x290 then
          if x290 = 0 then
            if l3 = 0 then none else
            if inb 0 (gL s298 11 l3) = false then none else
            if (lg_cmp (gJ s298 11 l3 (ix 0)) x297) = 0 then
              f_L_law_b1250 fu (f_L_law_b23 fu n) s298 1 l1 l2 l3 l4
            else
              some (s298, 0)
          else
            f_L_law_b1250 fu (f_L_law_b23 fu n) s298 1 l1 l2 l3 l4
        else
          some (s298, 0)
      else
      if x18 = 18 then
        if inb (l4 + 1) L = false then none else
        if inb (l4 + 2) L = false then none else
        if inb (l4 + 3) L = false then none else
        if inb (l4 + 4) L = false then none else
        if (xs (ix (l4 + 4))) = 0 then
          f_L_law_b1286 fu (f_L_law_b23 fu n) s 1 l1 l2 l3 l4 0 (xs (ix (l4 + 3))) (xs (ix (l4 + 2))) (xs (ix (l4 + 1))) l1
        else
          f_L_law_b1286 fu (f_L_law_b23 fu n) s 1 l1 l2 l3 l4 1 (xs (ix (l4 + 3))) (xs (ix (l4 + 2))) (xs (ix (l4 + 1))) l1
      else
      if x18 = 19 then
        if inb (l4 + 1) L = false then none else
        if inb (l4 + 2) L = false then none else
        if inb (l4 + 3) L = false then none else
        if inb (l4 + 4) L = false then none else
        bI (f_L_bar fu s l1 (xs (ix (l4 + 1))) (xs (ix (l4 + 2))) (xs (ix (l4 + 3))) (xs (ix (l4 + 4))) l3) fun s316 x317 =>
        if inb (l4 + 1) L = false then none else
        if inb (l4 + 2) L = false then none else
        if inb (l4 + 3) L = false then none else
        if inb (l4 + 4) L = false then none else
        if l2 = 0 then none else
        bI (f_X9_bar fu s316 l2 (xs (ix (l4 + 1))) (xs (ix (l4 + 2))) (xs (ix (l4 + 3))) (xs (ix (l4 + 4)))) fun s323 x324 =>
        bI (f_X9_thrown fu s323 l2) fun s325 x326 =>
        if x326 = x317 then
          if x317 = 0 then
            if l3 = 0 then none else
            if inb 0 (gL s325 11 l3) = false then none else
            if (lg_cmp (gJ s325 11 l3 (ix 0)) x324) = 0 then
              f_L_law_b1449 fu (f_L_law_b23 fu n) s325 1 l1 l2 l3 l4
            else
              some (s325, 0)
          else
            f_L_law_b1449 fu (f_L_law_b23 fu n) s325 1 l1 l2 l3 l4
        else
          some (s325, 0)
      else
      if x18 = 20 then
        if inb (l4 + 1) L = false then none else
        if inb (l4 + 2) L = false then none else
        bI (f_L_alarms fu s l1 (xs (ix (l4 + 1))) (xs (ix (l4 + 2))) l3) fun s335 x336 =>
        if inb (l4 + 1) L = false then none else
        if inb (l4 + 2) L = false then none else
        if l2 = 0 then none else
        bI (f_X9_alarms fu s335 l2 (xs (ix (l4 + 1))) (xs (ix (l4 + 2)))) fun s340 x341 =>
        bI (f_X9_thrown fu s340 l2) fun s342 x343 =>
        if x343 = x336 then
          if x336 = 0 then
            if l3 = 0 then none else
            if inb 0 (gL s342 11 l3) = false then none else
            if (lg_cmp (gJ s342 11 l3 (ix 0)) (Int32.toInt64 x341)) = 0 then
              f_L_law_b1517 fu (f_L_law_b23 fu n) s342 1 l1 l2 l3 l4
            else
              some (s342, 0)
          else
            f_L_law_b1517 fu (f_L_law_b23 fu n) s342 1 l1 l2 l3 l4
        else
          some (s342, 0)
      else
      if x18 = 21 then
        if inb (l4 + 1) L = false then none else
        if inb (l4 + 2) L = false then none else
        if inb (l4 + 3) L = false then none else
        bI (f_L_would fu s l1 (xs (ix (l4 + 1))) (xs (ix (l4 + 2))) (xs (ix (l4 + 3))) l3) fun s353 x354 =>
        if inb (l4 + 1) L = false then none else
        if inb (l4 + 2) L = false then none else
        if inb (l4 + 3) L = false then none else
        if l2 = 0 then none else
        bI (f_X9_would fu s353 l2 (xs (ix (l4 + 1))) (xs (ix (l4 + 2))) (xs (ix (l4 + 3)))) fun s359 x360 =>
        bI (f_X9_thrown fu s359 l2) fun s361 x362 =>
        if x362 = x354 then
          if x354 = 0 then
            if l3 = 0 then none else
            if inb 0 (gL s361 11 l3) = false then none else
            if (lg_cmp (gJ s361 11 l3 (ix 0)) (Int32.toInt64 x360)) = 0 then
              f_L_law_b1597 fu (f_L_law_b23 fu n) s361 1 l1 l2 l3 l4
            else
              some (s361, 0)
          else
            f_L_law_b1597 fu (f_L_law_b23 fu n) s361 1 l1 l2 l3 l4
        else
          some (s361, 0)
      else
      if x18 = 22 then
        if inb (l4 + 1) L = false then none else
        if inb (l4 + 2) L = false then none else
        if inb (l4 + 3) L = false then none else
        bI (f_L_until fu s l1 (xs (ix (l4 + 1))) (xs (ix (l4 + 2))) (xs (ix (l4 + 3))) l3) fun s372 x373 =>
        if inb (l4 + 1) L = false then none else
        if inb (l4 + 2) L = false then none else
        if inb (l4 + 3) L = false then none else
        if l2 = 0 then none else
        bI (f_X9_until fu s372 l2 (xs (ix (l4 + 1))) (xs (ix (l4 + 2))) (xs (ix (l4 + 3)))) fun s378 x379 =>
        bI (f_X9_thrown fu s378 l2) fun s380 x381 =>
        if x381 = x373 then
          if x373 = 0 then
            if l3 = 0 then none else
            if inb 0 (gL s380 11 l3) = false then none else
            if (lg_cmp (gJ s380 11 l3 (ix 0)) (Int32.toInt64 x379)) = 0 then
              f_L_law_b1677 fu (f_L_law_b23 fu n) s380 1 l1 l2 l3 l4
            else
              some (s380, 0)
          else
            f_L_law_b1677 fu (f_L_law_b23 fu n) s380 1 l1 l2 l3 l4
        else
          some (s380, 0)
      else
      if x18 = 23 then
        if inb (l4 + 1) L = false then none else
        if inb (l4 + 2) L = false then none else
        if inb (l4 + 3) L = false then none else
        bI (f_L_trend fu s l1 (xs (ix (l4 + 1))) (xs (ix (l4 + 2))) (xs (ix (l4 + 3))) l3) fun s391 x392 =>
        if inb (l4 + 1) L = false then none else
        if inb (l4 + 2) L = false then none else
        if inb (l4 + 3) L = false then none else
        if l2 = 0 then none else
        bI (f_X9_trend fu s391 l2 (xs (ix (l4 + 1))) (xs (ix (l4 + 2))) (xs (ix (l4 + 3)))) fun s397 x398 =>
        bI (f_X9_thrown fu s397 l2) fun s399 x400 =>
        if x400 = x392 then
          if x392 = 0 then
            if l3 = 0 then none else
            if inb 0 (gL s399 11 l3) = false then none else
            if (lg_cmp (gJ s399 11 l3 (ix 0)) x398) = 0 then
              f_L_law_b1756 fu (f_L_law_b23 fu n) s399 1 l1 l2 l3 l4
            else
              some (s399, 0)
          else
            f_L_law_b1756 fu (f_L_law_b23 fu n) s399 1 l1 l2 l3 l4
        else
          some (s399, 0)
      else
      if x18 = 24 then
        if inb (l4 + 1) L = false then none else
        if inb (l4 + 2) L = false then none else
        if inb (l4 + 3) L = false then none else
        bI (f_L_both fu s l1 (xs (ix (l4 + 1))) (xs (ix (l4 + 2))) (xs (ix (l4 + 3))) l3) fun s410 x411 =>
        if inb (l4 + 1) L = false then none else
        if inb (l4 + 2) L = false then none else
        if inb (l4 + 3) L = false then none else
        if l2 = 0 then none else
        bI (f_X9_both fu s410 l2 (xs (ix (l4 + 1))) (xs (ix (l4 + 2))) (xs (ix (l4 + 3)))) fun s416 x417 =>
        bI (f_X9_thrown fu s416 l2) fun s418 x419 =>
        if x419 = x411 then
          if x411 = 0 then
            if l3 = 0 then none else
            if inb 0 (gL s418 11 l3) = false then none else
            if (lg_cmp (gJ s418 11 l3 (ix 0)) (Int32.toInt64 x417)) = 0 then
              f_L_law_b1836 fu (f_L_law_b23 fu n) s418 1 l1 l2 l3 l4
            else
              some (s418, 0)
          else
            f_L_law_b1836 fu (f_L_law_b23 fu n) s418 1 l1 l2 l3 l4
        else
          some (s418, 0)
      else
      f_L_law_b1839 fu (f_L_law_b23 fu n) s 1 l1 l2 l3 l4
def f_L_law (fu : Nat) (xs : Nat → Int32) (L : Nat) (s : St) : Option (St × Int32) :=
  lt (nW s 8 0 19 : St) fun s1 =>
  if rmb s1 = false then none else
  bV (f_X8_init fu s1 (gN s 8 + 1)) fun s3 =>
  lt (gN s 8 + 1 : Nat) fun x4 =>
  lt (nW s3 9 0 69 : St) fun s6 =>
  if rmb s6 = false then none else
  bV (f_X9_init fu s6 (gN s3 9 + 1)) fun s8 =>
  lt (gN s3 9 + 1 : Nat) fun x9 =>
  if szb 1 = false then none else
  lt (nW s8 11 (ix 1) (ix 1) : St) fun s12 =>
  if rmb s12 = false then none else
  lt (gN s8 11 + 1 : Nat) fun x14 =>
  f_L_law_b23 fu fu s12 1 x4 x9 x14 0
