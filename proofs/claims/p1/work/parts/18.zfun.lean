def f_L_alarms (fu : Nat) (s : St) (a0 : Nat) (a1 : Int32) (a2 : Int32) (a3 : Nat) : Option (St × Int32) :=
  if a0 = 0 then none else
  bX (f_X8_alarms fu s a0 a1 a2) (fun s2 e3 =>
    if e3 = 1 then
      some (s2, 1)
    else
    none
    ) fun s2 x4 =>
  if a3 = 0 then none else
  if inb 0 (gL s2 11 a3) = false then none else
  lt (sJ s2 11 a3 (ix 0) (Int32.toInt64 x4) : St) fun s8 =>
  some (s8, 0)
def f_L_at (fu : Nat) (s : St) (a0 : Nat) (a1 : Int32) (a2 : Int32) (a3 : Int32) (a4 : Nat) : Option (St × Int32) :=
  if a0 = 0 then none else
  bX (f_X8_at fu s a0 a1 a2 a3) (fun s2 e3 =>
    if e3 = 1 then
      some (s2, 1)
    else
    none
    ) fun s2 x4 =>
  if a4 = 0 then none else
  if inb 0 (gL s2 11 a4) = false then none else
  lt (sJ s2 11 a4 (ix 0) (Int32.toInt64 x4) : St) fun s8 =>
  some (s8, 0)
def f_L_bar (fu : Nat) (s : St) (a0 : Nat) (a1 : Int32) (a2 : Int32) (a3 : Int32) (a4 : Int32) (a5 : Nat) : Option (St × Int32) :=
  if a0 = 0 then none else
  bX (f_X8_bar fu s a0 a1 a2 a3 a4) (fun s2 e3 =>
    if e3 = 1 then
      some (s2, 1)
    else
    if e3 = 2 then
      some (s2, 2)
    else
    none
    ) fun s2 x4 =>
  if a5 = 0 then none else
  if inb 0 (gL s2 11 a5) = false then none else
  lt (sJ s2 11 a5 (ix 0) x4 : St) fun s9 =>
  some (s9, 0)
def f_L_batch (fu : Nat) (s : St) (a0 : Nat) (a1 : Int32) (a2 : Nat) : Option (St × Int32) :=
  if a0 = 0 then none else
  bX (f_X8_batch fu s a0 a1) (fun s2 e3 =>
    if e3 = 2 then
      some (s2, 1)
    else
    none
    ) fun s2 x4 =>
  if a2 = 0 then none else
  if inb 0 (gL s2 11 a2) = false then none else
  lt (sJ s2 11 a2 (ix 0) (Int32.toInt64 x4) : St) fun s8 =>
  some (s8, 0)
def f_L_both (fu : Nat) (s : St) (a0 : Nat) (a1 : Int32) (a2 : Int32) (a3 : Int32) (a4 : Nat) : Option (St × Int32) :=
  if a0 = 0 then none else
  bX (f_X8_both fu s a0 a1 a2 a3) (fun s2 e3 =>
    if e3 = 1 then
      some (s2, 1)
    else
    none
    ) fun s2 x4 =>
  if a4 = 0 then none else
  if inb 0 (gL s2 11 a4) = false then none else
  lt (sJ s2 11 a4 (ix 0) (Int32.toInt64 x4) : St) fun s8 =>
  some (s8, 0)
def f_L_bucket (fu : Nat) (s : St) (a0 : Nat) (a1 : Int32) (a2 : Int32) (a3 : Int32) (a4 : Int32) (a5 : Nat) : Option (St × Int32) :=
  if a0 = 0 then none else
  bX (f_X8_bucket fu s a0 a1 a2 a3 a4) (fun s2 e3 =>
    if e3 = 1 then
      some (s2, 1)
    else
    none
    ) fun s2 x4 =>
  if a5 = 0 then none else
  if inb 0 (gL s2 11 a5) = false then none else
  lt (sJ s2 11 a5 (ix 0) x4 : St) fun s8 =>
  some (s8, 0)
def f_L_buckets (fu : Nat) (s : St) (a0 : Nat) (a1 : Int32) (a2 : Int32) (a3 : Nat) : Option (St × Int32) :=
  if a0 = 0 then none else
  bX (f_X8_buckets fu s a0 a1 a2) (fun s2 e3 =>
    if e3 = 1 then
      some (s2, 1)
    else
    none
    ) fun s2 x4 =>
  if a3 = 0 then none else
  if inb 0 (gL s2 11 a3) = false then none else
  lt (sJ s2 11 a3 (ix 0) (Int32.toInt64 x4) : St) fun s8 =>
  some (s8, 0)
def f_L_count (fu : Nat) (s : St) (a0 : Nat) (a1 : Int32) (a2 : Nat) : Option (St × Int32) :=
  if a0 = 0 then none else
  bX (f_X8_count fu s a0 a1) (fun s2 e3 =>
    if e3 = 1 then
      some (s2, 1)
    else
    none
    ) fun s2 x4 =>
  if a2 = 0 then none else
  if inb 0 (gL s2 11 a2) = false then none else
  lt (sJ s2 11 a2 (ix 0) (Int32.toInt64 x4) : St) fun s8 =>
  some (s8, 0)
def f_L_gap (fu : Nat) (s : St) (a0 : Nat) (a1 : Int32) (a2 : Int32) (a3 : Int32) (a4 : Int32) (a5 : Nat) : Option (St × Int32) :=
  if a0 = 0 then none else
  bX (f_X8_gap fu s a0 a1 a2 a3 a4) (fun s2 e3 =>
    if e3 = 1 then
      some (s2, 1)
    else
    none
    ) fun s2 x4 =>
  if a5 = 0 then none else
  if inb 0 (gL s2 11 a5) = false then none else
  lt (sJ s2 11 a5 (ix 0) (Int32.toInt64 x4) : St) fun s8 =>
  some (s8, 0)
def f_L_of (fu : Nat) (s : St) (a0 : Nat) (a1 : Int32) (a2 : Int32) (a3 : Nat) : Option (St × Int32) :=
  if a0 = 0 then none else
  bX (f_X8_of fu s a0 a1 a2) (fun s2 e3 =>
    if e3 = 1 then
      some (s2, 1)
    else
    none
    ) fun s2 x4 =>
  if a3 = 0 then none else
  if inb 0 (gL s2 11 a3) = false then none else
  lt (sJ s2 11 a3 (ix 0) x4 : St) fun s8 =>
  some (s8, 0)
def f_L_seam (fu : Nat) (s : St) (a0 : Nat) (a1 : Int32) (a2 : Int32) (a3 : Nat) : Option (St × Int32) :=
  if a0 = 0 then none else
  bX (f_X8_seam fu s a0 a1 a2) (fun s2 e3 =>
    if e3 = 1 then
      some (s2, 1)
    else
    none
    ) fun s2 x4 =>
  if a3 = 0 then none else
  if inb 0 (gL s2 11 a3) = false then none else
  lt (sJ s2 11 a3 (ix 0) (Int32.toInt64 x4) : St) fun s8 =>
  some (s8, 0)
def f_L_tell (fu : Nat) (s : St) (a0 : Nat) (a1 : Int32) (a2 : Nat) : Option (St × Int32) :=
  if a0 = 0 then none else
  bX (f_X8_tell fu s a0 a1) (fun s2 e3 =>
    if e3 = 2 then
      some (s2, 1)
    else
    none
    ) fun s2 x4 =>
  if a2 = 0 then none else
  if inb 0 (gL s2 11 a2) = false then none else
  lt (sJ s2 11 a2 (ix 0) (Int32.toInt64 x4) : St) fun s8 =>
  some (s8, 0)
def f_L_tier (fu : Nat) (s : St) (a0 : Nat) (a1 : Int32) (a2 : Int32) (a3 : Nat) : Option (St × Int32) :=
  if a0 = 0 then none else
  bX (f_X8_tier fu s a0 a1 a2) (fun s2 e3 =>
    if e3 = 1 then
      some (s2, 1)
    else
    none
    ) fun s2 x4 =>
  if a3 = 0 then none else
  if inb 0 (gL s2 11 a3) = false then none else
  lt (sJ s2 11 a3 (ix 0) (Int32.toInt64 x4) : St) fun s8 =>
  some (s8, 0)
def f_L_total (fu : Nat) (s : St) (a0 : Nat) (a1 : Int32) (a2 : Int32) (a3 : Int32) (a4 : Int32) (a5 : Nat) : Option (St × Int32) :=
  if a0 = 0 then none else
  bX (f_X8_total fu s a0 a1 a2 a3 a4) (fun s2 e3 =>
    if e3 = 1 then
      some (s2, 1)
    else
    if e3 = 2 then
      some (s2, 2)
    else
    none
    ) fun s2 x4 =>
  if a5 = 0 then none else
  if inb 0 (gL s2 11 a5) = false then none else
  lt (sJ s2 11 a5 (ix 0) x4 : St) fun s9 =>
  some (s9, 0)
def f_L_trend (fu : Nat) (s : St) (a0 : Nat) (a1 : Int32) (a2 : Int32) (a3 : Int32) (a4 : Nat) : Option (St × Int32) :=
  if a0 = 0 then none else
  bX (f_X8_trend fu s a0 a1 a2 a3) (fun s2 e3 =>
    if e3 = 1 then
      some (s2, 1)
    else
    none
    ) fun s2 x4 =>
  if a4 = 0 then none else
  if inb 0 (gL s2 11 a4) = false then none else
  lt (sJ s2 11 a4 (ix 0) x4 : St) fun s8 =>
  some (s8, 0)
def f_L_until (fu : Nat) (s : St) (a0 : Nat) (a1 : Int32) (a2 : Int32) (a3 : Int32) (a4 : Nat) : Option (St × Int32) :=
  if a0 = 0 then none else
  bX (f_X8_until fu s a0 a1 a2 a3) (fun s2 e3 =>
    if e3 = 1 then
      some (s2, 1)
    else
    if e3 = 2 then
      some (s2, 2)
    else
    none
    ) fun s2 x4 =>
  if a4 = 0 then none else
  if inb 0 (gL s2 11 a4) = false then none else
  lt (sJ s2 11 a4 (ix 0) (Int32.toInt64 x4) : St) fun s9 =>
  some (s9, 0)
def f_L_used (fu : Nat) (s : St) (a0 : Nat) (a1 : Int32) (a2 : Nat) : Option (St × Int32) :=
  if a0 = 0 then none else
  bX (f_X8_used fu s a0 a1) (fun s2 e3 =>
    if e3 = 1 then
      some (s2, 1)
    else
    none
    ) fun s2 x4 =>
  if a2 = 0 then none else
  if inb 0 (gL s2 11 a2) = false then none else
  lt (sJ s2 11 a2 (ix 0) (Int32.toInt64 x4) : St) fun s8 =>
  some (s8, 0)
def f_L_why (fu : Nat) (s : St) (a0 : Nat) (a1 : Int32) (a2 : Nat) : Option (St × Int32) :=
  if a0 = 0 then none else
  bX (f_X8_why fu s a0 a1) (fun s2 e3 =>
    if e3 = 1 then
      some (s2, 1)
    else
    none
    ) fun s2 x4 =>
  if a2 = 0 then none else
  if inb 0 (gL s2 11 a2) = false then none else
  lt (sJ s2 11 a2 (ix 0) (Int32.toInt64 x4) : St) fun s8 =>
  some (s8, 0)
def f_L_would (fu : Nat) (s : St) (a0 : Nat) (a1 : Int32) (a2 : Int32) (a3 : Int32) (a4 : Nat) : Option (St × Int32) :=
  if a0 = 0 then none else
  bX (f_X8_would fu s a0 a1 a2 a3) (fun s2 e3 =>
    if e3 = 1 then
      some (s2, 1)
    else
    if e3 = 2 then
      some (s2, 2)
    else
    none
    ) fun s2 x4 =>
  if a4 = 0 then none else
  if inb 0 (gL s2 11 a4) = false then none else
  lt (sJ s2 11 a4 (ix 0) (Int32.toInt64 x4) : St) fun s9 =>
  some (s9, 0)
def f_L_law_b1839 (fu : Nat) (xs : Nat → Int32) (L : Nat) (k23 : St → Nat → Nat → Nat → Int32 → Option (St × Int32)) (s : St) (l1 : Nat) (l2 : Nat) (l3 : Nat) (l4 : Int32) : Option (St × Int32) :=
  lt (l4 + 7 : Int32) fun x443 =>
  k23 s l1 l2 l3 x443
def f_L_law_b156 (fu : Nat) (xs : Nat → Int32) (L : Nat) (k23 : St → Nat → Nat → Nat → Int32 → Option (St × Int32)) (s : St) (l1 : Nat) (l2 : Nat) (l3 : Nat) (l4 : Int32) : Option (St × Int32) :=
  if inb (l4 + 1) L = false then none else
  if inb (l4 + 2) L = false then none else
  if inb (l4 + 3) L = false then none else
  if inb (l4 + 4) L = false then none else
  if inb (l4 + 5) L = false then none else
  if l1 = 0 then none else
  bI (f_X8_feed fu s l1 (xs (ix (l4 + 1))) (xs (ix (l4 + 2))) (xs (ix (l4 + 3))) (xs (ix (l4 + 4))) (xs (ix (l4 + 5)))) fun s50 x51 =>
  if inb (l4 + 1) L = false then none else
  if inb (l4 + 2) L = false then none else
  if inb (l4 + 3) L = false then none else
  if inb (l4 + 4) L = false then none else
  if inb (l4 + 5) L = false then none else
  if l2 = 0 then none else
  bI (f_X9_feed fu s50 l2 (xs (ix (l4 + 1))) (xs (ix (l4 + 2))) (xs (ix (l4 + 3))) (xs (ix (l4 + 4))) (xs (ix (l4 + 5)))) fun s58 x59 =>
  if x51 = x59 then
    f_L_law_b1839 fu xs L k23 s58 l1 l2 l3 l4
  else
    some (s58, 0)
def f_L_law_b282 (fu : Nat) (xs : Nat → Int32) (L : Nat) (k23 : St → Nat → Nat → Nat → Int32 → Option (St × Int32)) (s : St) (l1 : Nat) (l2 : Nat) (l3 : Nat) (l4 : Int32) : Option (St × Int32) :=
  f_L_law_b1839 fu xs L k23 s l1 l2 l3 l4
def f_L_law_b229 (fu : Nat) (xs : Nat → Int32) (L : Nat) (k23 : St → Nat → Nat → Nat → Int32 → Option (St × Int32)) (s : St) (l1 : Nat) (l2 : Nat) (l3 : Nat) (l4 : Int32) : Option (St × Int32) :=
  if inb (l4 + 1) L = false then none else
  bI (f_L_tell fu s l1 (xs (ix (l4 + 1))) l3) fun s62 x63 =>
  if inb (l4 + 1) L = false then none else
  if l2 = 0 then none else
  bI (f_X9_tell fu s62 l2 (xs (ix (l4 + 1)))) fun s66 x67 =>
  bI (f_X9_thrown fu s66 l2) fun s68 x69 =>
  if x69 = x63 then
    if x63 = 0 then
      if l3 = 0 then none else
      if inb 0 (gL s68 11 l3) = false then none else
      if (lg_cmp (gJ s68 11 l3 (ix 0)) (Int32.toInt64 x67)) = 0 then
        f_L_law_b282 fu xs L k23 s68 l1 l2 l3 l4
      else
        some (s68, 0)
    else
      f_L_law_b282 fu xs L k23 s68 l1 l2 l3 l4
  else
    some (s68, 0)
def f_L_law_b338 (fu : Nat) (xs : Nat → Int32) (L : Nat) (k23 : St → Nat → Nat → Nat → Int32 → Option (St × Int32)) (s : St) (l1 : Nat) (l2 : Nat) (l3 : Nat) (l4 : Int32) : Option (St × Int32) :=
  f_L_law_b1839 fu xs L k23 s l1 l2 l3 l4
def f_L_law_b285 (fu : Nat) (xs : Nat → Int32) (L : Nat) (k23 : St → Nat → Nat → Nat → Int32 → Option (St × Int32)) (s : St) (l1 : Nat) (l2 : Nat) (l3 : Nat) (l4 : Int32) : Option (St × Int32) :=
  if inb (l4 + 1) L = false then none else
  bI (f_L_batch fu s l1 (xs (ix (l4 + 1))) l3) fun s76 x77 =>
  if inb (l4 + 1) L = false then none else
  if l2 = 0 then none else
  bI (f_X9_batch fu s76 l2 (xs (ix (l4 + 1)))) fun s80 x81 =>
  bI (f_X9_thrown fu s80 l2) fun s82 x83 =>
  if x83 = x77 then
    if x77 = 0 then
      if l3 = 0 then none else
      if inb 0 (gL s82 11 l3) = false then none else
      if (lg_cmp (gJ s82 11 l3 (ix 0)) (Int32.toInt64 x81)) = 0 then
        f_L_law_b338 fu xs L k23 s82 l1 l2 l3 l4
      else
        some (s82, 0)
    else
      f_L_law_b338 fu xs L k23 s82 l1 l2 l3 l4
  else
    some (s82, 0)
def f_L_law_b341 (fu : Nat) (xs : Nat → Int32) (L : Nat) (k23 : St → Nat → Nat → Nat → Int32 → Option (St × Int32)) (s : St) (l1 : Nat) (l2 : Nat) (l3 : Nat) (l4 : Int32) : Option (St × Int32) :=
  if l1 = 0 then none else
  bI (f_X8_fault fu s l1) fun s90 x91 =>
  if l2 = 0 then none else
  bI (f_X9_fault fu s90 l2) fun s93 x94 =>
  if x91 = x94 then
    f_L_law_b1839 fu xs L k23 s93 l1 l2 l3 l4
  else
    some (s93, 0)
def f_L_law_b354 (fu : Nat) (xs : Nat → Int32) (L : Nat) (k23 : St → Nat → Nat → Nat → Int32 → Option (St × Int32)) (s : St) (l1 : Nat) (l2 : Nat) (l3 : Nat) (l4 : Int32) : Option (St × Int32) :=
  if inb (l4 + 1) L = false then none else
  if inb (l4 + 2) L = false then none else
  if inb (l4 + 3) L = false then none else
  if l1 = 0 then none else
  bI (f_X8_put fu s l1 (xs (ix (l4 + 1))) (xs (ix (l4 + 2))) (xs (ix (l4 + 3)))) fun s100 x101 =>
  if inb (l4 + 1) L = false then none else
  if inb (l4 + 2) L = false then none else
  if inb (l4 + 3) L = false then none else
  if l2 = 0 then none else
  bI (f_X9_put fu s100 l2 (xs (ix (l4 + 1))) (xs (ix (l4 + 2))) (xs (ix (l4 + 3)))) fun s106 x107 =>
  if x101 = x107 then
    f_L_law_b1839 fu xs L k23 s106 l1 l2 l3 l4
  else
    some (s106, 0)
def f_L_law_b403 (fu : Nat) (xs : Nat → Int32) (L : Nat) (k23 : St → Nat → Nat → Nat → Int32 → Option (St × Int32)) (s : St) (l1 : Nat) (l2 : Nat) (l3 : Nat) (l4 : Int32) : Option (St × Int32) :=
  if inb (l4 + 1) L = false then none else
  if inb (l4 + 2) L = false then none else
  if l1 = 0 then none else
  bI (f_X8_tick fu s l1 (xs (ix (l4 + 1))) (xs (ix (l4 + 2)))) fun s112 x113 =>
  if inb (l4 + 1) L = false then none else
  if inb (l4 + 2) L = false then none else
  if l2 = 0 then none else
  bI (f_X9_tick fu s112 l2 (xs (ix (l4 + 1))) (xs (ix (l4 + 2)))) fun s117 x118 =>
  if x113 = x118 then
    f_L_law_b1839 fu xs L k23 s117 l1 l2 l3 l4
  else
    some (s117, 0)
def f_L_law_b440 (fu : Nat) (xs : Nat → Int32) (L : Nat) (k23 : St → Nat → Nat → Nat → Int32 → Option (St × Int32)) (s : St) (l1 : Nat) (l2 : Nat) (l3 : Nat) (l4 : Int32) : Option (St × Int32) :=
  if inb (l4 + 1) L = false then none else
  if l1 = 0 then none else
  bI (f_X8_drop fu s l1 (xs (ix (l4 + 1)))) fun s122 x123 =>
  if inb (l4 + 1) L = false then none else
  if l2 = 0 then none else
  bI (f_X9_drop fu s122 l2 (xs (ix (l4 + 1)))) fun s126 x127 =>
  if x123 = x127 then
    f_L_law_b1839 fu xs L k23 s126 l1 l2 l3 l4
  else
    some (s126, 0)
def f_L_law_b465 (fu : Nat) (xs : Nat → Int32) (L : Nat) (k23 : St → Nat → Nat → Nat → Int32 → Option (St × Int32)) (s : St) (l1 : Nat) (l2 : Nat) (l3 : Nat) (l4 : Int32) : Option (St × Int32) :=
  if inb (l4 + 1) L = false then none else
  if inb (l4 + 2) L = false then none else
  if inb (l4 + 3) L = false then none else
  if inb (l4 + 4) L = false then none else
  if inb (l4 + 5) L = false then none else
  if inb (l4 + 6) L = false then none else
  if l1 = 0 then none else
  bI (f_X8_sheet fu s l1 (xs (ix (l4 + 1))) (xs (ix (l4 + 2))) (xs (ix (l4 + 3))) (xs (ix (l4 + 4))) (xs (ix (l4 + 5))) (xs (ix (l4 + 6)))) fun s136 x137 =>
  if inb (l4 + 1) L = false then none else
  if inb (l4 + 2) L = false then none else
  if inb (l4 + 3) L = false then none else
  if inb (l4 + 4) L = false then none else
  if inb (l4 + 5) L = false then none else
  if inb (l4 + 6) L = false then none else
  if l2 = 0 then none else
  bI (f_X9_sheet fu s136 l2 (xs (ix (l4 + 1))) (xs (ix (l4 + 2))) (xs (ix (l4 + 3))) (xs (ix (l4 + 4))) (xs (ix (l4 + 5))) (xs (ix (l4 + 6)))) fun s145 x146 =>
  if x137 = x146 then
    f_L_law_b1839 fu xs L k23 s145 l1 l2 l3 l4
  else
    some (s145, 0)
def f_L_law_b605 (fu : Nat) (xs : Nat → Int32) (L : Nat) (k23 : St → Nat → Nat → Nat → Int32 → Option (St × Int32)) (s : St) (l1 : Nat) (l2 : Nat) (l3 : Nat) (l4 : Int32) : Option (St × Int32) :=
  f_L_law_b1839 fu xs L k23 s l1 l2 l3 l4
def f_L_law_b552 (fu : Nat) (xs : Nat → Int32) (L : Nat) (k23 : St → Nat → Nat → Nat → Int32 → Option (St × Int32)) (s : St) (l1 : Nat) (l2 : Nat) (l3 : Nat) (l4 : Int32) : Option (St × Int32) :=
  if inb (l4 + 1) L = false then none else
  bI (f_L_why fu s l1 (xs (ix (l4 + 1))) l3) fun s149 x150 =>
  if inb (l4 + 1) L = false then none else
  if l2 = 0 then none else
  bI (f_X9_why fu s149 l2 (xs (ix (l4 + 1)))) fun s153 x154 =>
  bI (f_X9_thrown fu s153 l2) fun s155 x156 =>
  if x156 = x150 then
    if x150 = 0 then
      if l3 = 0 then none else
      if inb 0 (gL s155 11 l3) = false then none else
      if (lg_cmp (gJ s155 11 l3 (ix 0)) (Int32.toInt64 x154)) = 0 then
        f_L_law_b605 fu xs L k23 s155 l1 l2 l3 l4
      else
        some (s155, 0)
    else
      f_L_law_b605 fu xs L k23 s155 l1 l2 l3 l4
  else
    some (s155, 0)
def f_L_law_b661 (fu : Nat) (xs : Nat → Int32) (L : Nat) (k23 : St → Nat → Nat → Nat → Int32 → Option (St × Int32)) (s : St) (l1 : Nat) (l2 : Nat) (l3 : Nat) (l4 : Int32) : Option (St × Int32) :=
  f_L_law_b1839 fu xs L k23 s l1 l2 l3 l4
def f_L_law_b608 (fu : Nat) (xs : Nat → Int32) (L : Nat) (k23 : St → Nat → Nat → Nat → Int32 → Option (St × Int32)) (s : St) (l1 : Nat) (l2 : Nat) (l3 : Nat) (l4 : Int32) : Option (St × Int32) :=
  if inb (l4 + 1) L = false then none else
  bI (f_L_count fu s l1 (xs (ix (l4 + 1))) l3) fun s163 x164 =>
  if inb (l4 + 1) L = false then none else
  if l2 = 0 then none else
  bI (f_X9_count fu s163 l2 (xs (ix (l4 + 1)))) fun s167 x168 =>
  bI (f_X9_thrown fu s167 l2) fun s169 x170 =>
  if x170 = x164 then
    if x164 = 0 then
      if l3 = 0 then none else
      if inb 0 (gL s169 11 l3) = false then none else
      if (lg_cmp (gJ s169 11 l3 (ix 0)) (Int32.toInt64 x168)) = 0 then
        f_L_law_b661 fu xs L k23 s169 l1 l2 l3 l4
      else
        some (s169, 0)
    else
      f_L_law_b661 fu xs L k23 s169 l1 l2 l3 l4
  else
    some (s169, 0)
def f_L_law_b729 (fu : Nat) (xs : Nat → Int32) (L : Nat) (k23 : St → Nat → Nat → Nat → Int32 → Option (St × Int32)) (s : St) (l1 : Nat) (l2 : Nat) (l3 : Nat) (l4 : Int32) : Option (St × Int32) :=
  f_L_law_b1839 fu xs L k23 s l1 l2 l3 l4
def f_L_law_b664 (fu : Nat) (xs : Nat → Int32) (L : Nat) (k23 : St → Nat → Nat → Nat → Int32 → Option (St × Int32)) (s : St) (l1 : Nat) (l2 : Nat) (l3 : Nat) (l4 : Int32) : Option (St × Int32) :=
  if inb (l4 + 1) L = false then none else
  if inb (l4 + 2) L = false then none else
  bI (f_L_tier fu s l1 (xs (ix (l4 + 1))) (xs (ix (l4 + 2))) l3) fun s178 x179 =>
  if inb (l4 + 1) L = false then none else
  if inb (l4 + 2) L = false then none else
  if l2 = 0 then none else
  bI (f_X9_tier fu s178 l2 (xs (ix (l4 + 1))) (xs (ix (l4 + 2)))) fun s183 x184 =>
  bI (f_X9_thrown fu s183 l2) fun s185 x186 =>
  if x186 = x179 then
    if x179 = 0 then
      if l3 = 0 then none else
      if inb 0 (gL s185 11 l3) = false then none else
      if (lg_cmp (gJ s185 11 l3 (ix 0)) (Int32.toInt64 x184)) = 0 then
        f_L_law_b729 fu xs L k23 s185 l1 l2 l3 l4
      else
        some (s185, 0)
    else
      f_L_law_b729 fu xs L k23 s185 l1 l2 l3 l4
  else
    some (s185, 0)
def f_L_law_b785 (fu : Nat) (xs : Nat → Int32) (L : Nat) (k23 : St → Nat → Nat → Nat → Int32 → Option (St × Int32)) (s : St) (l1 : Nat) (l2 : Nat) (l3 : Nat) (l4 : Int32) : Option (St × Int32) :=
  f_L_law_b1839 fu xs L k23 s l1 l2 l3 l4
def f_L_law_b732 (fu : Nat) (xs : Nat → Int32) (L : Nat) (k23 : St → Nat → Nat → Nat → Int32 → Option (St × Int32)) (s : St) (l1 : Nat) (l2 : Nat) (l3 : Nat) (l4 : Int32) : Option (St × Int32) :=
  if inb (l4 + 1) L = false then none else
  bI (f_L_used fu s l1 (xs (ix (l4 + 1))) l3) fun s193 x194 =>
  if inb (l4 + 1) L = false then none else
  if l2 = 0 then none else
  bI (f_X9_used fu s193 l2 (xs (ix (l4 + 1)))) fun s197 x198 =>
  bI (f_X9_thrown fu s197 l2) fun s199 x200 =>
  if x200 = x194 then
    if x194 = 0 then
      if l3 = 0 then none else
      if inb 0 (gL s199 11 l3) = false then none else
      if (lg_cmp (gJ s199 11 l3 (ix 0)) (Int32.toInt64 x198)) = 0 then
        f_L_law_b785 fu xs L k23 s199 l1 l2 l3 l4
      else
        some (s199, 0)
    else
      f_L_law_b785 fu xs L k23 s199 l1 l2 l3 l4
  else
    some (s199, 0)
def f_L_law_b852 (fu : Nat) (xs : Nat → Int32) (L : Nat) (k23 : St → Nat → Nat → Nat → Int32 → Option (St × Int32)) (s : St) (l1 : Nat) (l2 : Nat) (l3 : Nat) (l4 : Int32) : Option (St × Int32) :=
  f_L_law_b1839 fu xs L k23 s l1 l2 l3 l4
def f_L_law_b788 (fu : Nat) (xs : Nat → Int32) (L : Nat) (k23 : St → Nat → Nat → Nat → Int32 → Option (St × Int32)) (s : St) (l1 : Nat) (l2 : Nat) (l3 : Nat) (l4 : Int32) : Option (St × Int32) :=
  if inb (l4 + 1) L = false then none else
  if inb (l4 + 2) L = false then none else
  bI (f_L_of fu s l1 (xs (ix (l4 + 1))) (xs (ix (l4 + 2))) l3) fun s208 x209 =>
  if inb (l4 + 1) L = false then none else
  if inb (l4 + 2) L = false then none else
  if l2 = 0 then none else
  bI (f_X9_of fu s208 l2 (xs (ix (l4 + 1))) (xs (ix (l4 + 2)))) fun s213 x214 =>
  bI (f_X9_thrown fu s213 l2) fun s215 x216 =>
  if x216 = x209 then
    if x209 = 0 then
      if l3 = 0 then none else
      if inb 0 (gL s215 11 l3) = false then none else
      if (lg_cmp (gJ s215 11 l3 (ix 0)) x214) = 0 then
        f_L_law_b852 fu xs L k23 s215 l1 l2 l3 l4
      else
        some (s215, 0)
    else
      f_L_law_b852 fu xs L k23 s215 l1 l2 l3 l4
  else
    some (s215, 0)
def f_L_law_b920 (fu : Nat) (xs : Nat → Int32) (L : Nat) (k23 : St → Nat → Nat → Nat → Int32 → Option (St × Int32)) (s : St) (l1 : Nat) (l2 : Nat) (l3 : Nat) (l4 : Int32) : Option (St × Int32) :=
  f_L_law_b1839 fu xs L k23 s l1 l2 l3 l4
def f_L_law_b855 (fu : Nat) (xs : Nat → Int32) (L : Nat) (k23 : St → Nat → Nat → Nat → Int32 → Option (St × Int32)) (s : St) (l1 : Nat) (l2 : Nat) (l3 : Nat) (l4 : Int32) : Option (St × Int32) :=
  if inb (l4 + 1) L = false then none else
  if inb (l4 + 2) L = false then none else
  bI (f_L_seam fu s l1 (xs (ix (l4 + 1))) (xs (ix (l4 + 2))) l3) fun s224 x225 =>
  if inb (l4 + 1) L = false then none else
  if inb (l4 + 2) L = false then none else
  if l2 = 0 then none else
  bI (f_X9_seam fu s224 l2 (xs (ix (l4 + 1))) (xs (ix (l4 + 2)))) fun s229 x230 =>
  bI (f_X9_thrown fu s229 l2) fun s231 x232 =>
  if x232 = x225 then
    if x225 = 0 then
      if l3 = 0 then none else
      if inb 0 (gL s231 11 l3) = false then none else
      if (lg_cmp (gJ s231 11 l3 (ix 0)) (Int32.toInt64 x230)) = 0 then
        f_L_law_b920 fu xs L k23 s231 l1 l2 l3 l4
      else
        some (s231, 0)
    else
      f_L_law_b920 fu xs L k23 s231 l1 l2 l3 l4
  else
    some (s231, 0)
def f_L_law_b988 (fu : Nat) (xs : Nat → Int32) (L : Nat) (k23 : St → Nat → Nat → Nat → Int32 → Option (St × Int32)) (s : St) (l1 : Nat) (l2 : Nat) (l3 : Nat) (l4 : Int32) : Option (St × Int32) :=
  f_L_law_b1839 fu xs L k23 s l1 l2 l3 l4
def f_L_law_b923 (fu : Nat) (xs : Nat → Int32) (L : Nat) (k23 : St → Nat → Nat → Nat → Int32 → Option (St × Int32)) (s : St) (l1 : Nat) (l2 : Nat) (l3 : Nat) (l4 : Int32) : Option (St × Int32) :=
  if inb (l4 + 1) L = false then none else
  if inb (l4 + 2) L = false then none else
  bI (f_L_buckets fu s l1 (xs (ix (l4 + 1))) (xs (ix (l4 + 2))) l3) fun s240 x241 =>
  if inb (l4 + 1) L = false then none else
  if inb (l4 + 2) L = false then none else
  if l2 = 0 then none else
  bI (f_X9_buckets fu s240 l2 (xs (ix (l4 + 1))) (xs (ix (l4 + 2)))) fun s245 x246 =>
  bI (f_X9_thrown fu s245 l2) fun s247 x248 =>
  if x248 = x241 then
    if x241 = 0 then
      if l3 = 0 then none else
      if inb 0 (gL s247 11 l3) = false then none else
      if (lg_cmp (gJ s247 11 l3 (ix 0)) (Int32.toInt64 x246)) = 0 then
        f_L_law_b988 fu xs L k23 s247 l1 l2 l3 l4
      else
        some (s247, 0)
    else
      f_L_law_b988 fu xs L k23 s247 l1 l2 l3 l4
  else
    some (s247, 0)
def f_L_law_b1079 (fu : Nat) (xs : Nat → Int32) (L : Nat) (k23 : St → Nat → Nat → Nat → Int32 → Option (St × Int32)) (s : St) (l1 : Nat) (l2 : Nat) (l3 : Nat) (l4 : Int32) : Option (St × Int32) :=
  f_L_law_b1839 fu xs L k23 s l1 l2 l3 l4
def f_L_law_b991 (fu : Nat) (xs : Nat → Int32) (L : Nat) (k23 : St → Nat → Nat → Nat → Int32 → Option (St × Int32)) (s : St) (l1 : Nat) (l2 : Nat) (l3 : Nat) (l4 : Int32) : Option (St × Int32) :=
  if inb (l4 + 1) L = false then none else
  if inb (l4 + 2) L = false then none else
  if inb (l4 + 3) L = false then none else
  if inb (l4 + 4) L = false then none else
  bI (f_L_bucket fu s l1 (xs (ix (l4 + 1))) (xs (ix (l4 + 2))) (xs (ix (l4 + 3))) (xs (ix (l4 + 4))) l3) fun s258 x259 =>
  if inb (l4 + 1) L = false then none else
  if inb (l4 + 2) L = false then none else
  if inb (l4 + 3) L = false then none else
  if inb (l4 + 4) L = false then none else
  if l2 = 0 then none else
  bI (f_X9_bucket fu s258 l2 (xs (ix (l4 + 1))) (xs (ix (l4 + 2))) (xs (ix (l4 + 3))) (xs (ix (l4 + 4)))) fun s265 x266 =>
  bI (f_X9_thrown fu s265 l2) fun s267 x268 =>
  if x268 = x259 then
    if x259 = 0 then
      if l3 = 0 then none else
      if inb 0 (gL s267 11 l3) = false then none else
      if (lg_cmp (gJ s267 11 l3 (ix 0)) x266) = 0 then
        f_L_law_b1079 fu xs L k23 s267 l1 l2 l3 l4
      else
        some (s267, 0)
    else
      f_L_law_b1079 fu xs L k23 s267 l1 l2 l3 l4
  else
    some (s267, 0)
def f_L_law_b1159 (fu : Nat) (xs : Nat → Int32) (L : Nat) (k23 : St → Nat → Nat → Nat → Int32 → Option (St × Int32)) (s : St) (l1 : Nat) (l2 : Nat) (l3 : Nat) (l4 : Int32) : Option (St × Int32) :=
  f_L_law_b1839 fu xs L k23 s l1 l2 l3 l4
def f_L_law_b1082 (fu : Nat) (xs : Nat → Int32) (L : Nat) (k23 : St → Nat → Nat → Nat → Int32 → Option (St × Int32)) (s : St) (l1 : Nat) (l2 : Nat) (l3 : Nat) (l4 : Int32) : Option (St × Int32) :=
  if inb (l4 + 1) L = false then none else
  if inb (l4 + 2) L = false then none else
  if inb (l4 + 3) L = false then none else
  bI (f_L_at fu s l1 (xs (ix (l4 + 1))) (xs (ix (l4 + 2))) (xs (ix (l4 + 3))) l3) fun s277 x278 =>
  if inb (l4 + 1) L = false then none else
  if inb (l4 + 2) L = false then none else
  if inb (l4 + 3) L = false then none else
  if l2 = 0 then none else
  bI (f_X9_at fu s277 l2 (xs (ix (l4 + 1))) (xs (ix (l4 + 2))) (xs (ix (l4 + 3)))) fun s283 x284 =>
  bI (f_X9_thrown fu s283 l2) fun s285 x286 =>
  if x286 = x278 then
    if x278 = 0 then
      if l3 = 0 then none else
      if inb 0 (gL s285 11 l3) = false then none else
      if (lg_cmp (gJ s285 11 l3 (ix 0)) (Int32.toInt64 x284)) = 0 then
        f_L_law_b1159 fu xs L k23 s285 l1 l2 l3 l4
      else
        some (s285, 0)
    else
      f_L_law_b1159 fu xs L k23 s285 l1 l2 l3 l4
  else
    some (s285, 0)
def f_L_law_b1250 (fu : Nat) (xs : Nat → Int32) (L : Nat) (k23 : St → Nat → Nat → Nat → Int32 → Option (St × Int32)) (s : St) (l1 : Nat) (l2 : Nat) (l3 : Nat) (l4 : Int32) : Option (St × Int32) :=
  f_L_law_b1839 fu xs L k23 s l1 l2 l3 l4
def f_L_law_b1162 (fu : Nat) (xs : Nat → Int32) (L : Nat) (k23 : St → Nat → Nat → Nat → Int32 → Option (St × Int32)) (s : St) (l1 : Nat) (l2 : Nat) (l3 : Nat) (l4 : Int32) : Option (St × Int32) :=
  if inb (l4 + 1) L = false then none else
  if inb (l4 + 2) L = false then none else
  if inb (l4 + 3) L = false then none else
  if inb (l4 + 4) L = false then none else
  bI (f_L_total fu s l1 (xs (ix (l4 + 1))) (xs (ix (l4 + 2))) (xs (ix (l4 + 3))) (xs (ix (l4 + 4))) l3) fun s296 x297 =>
  if inb (l4 + 1) L = false then none else
  if inb (l4 + 2) L = false then none else
  if inb (l4 + 3) L = false then none else
  if inb (l4 + 4) L = false then none else
  if l2 = 0 then none else
  bI (f_X9_total fu s296 l2 (xs (ix (l4 + 1))) (xs (ix (l4 + 2))) (xs (ix (l4 + 3))) (xs (ix (l4 + 4)))) fun s303 x304 =>
  bI (f_X9_thrown fu s303 l2) fun s305 x306 =>
  if x306 = x297 then
    if x297 = 0 then
      if l3 = 0 then none else
      if inb 0 (gL s305 11 l3) = false then none else
      if (lg_cmp (gJ s305 11 l3 (ix 0)) x304) = 0 then
        f_L_law_b1250 fu xs L k23 s305 l1 l2 l3 l4
      else
        some (s305, 0)
    else
      f_L_law_b1250 fu xs L k23 s305 l1 l2 l3 l4
  else
    some (s305, 0)
def f_L_law_b1358 (fu : Nat) (xs : Nat → Int32) (L : Nat) (k23 : St → Nat → Nat → Nat → Int32 → Option (St × Int32)) (s : St) (l1 : Nat) (l2 : Nat) (l3 : Nat) (l4 : Int32) : Option (St × Int32) :=
  f_L_law_b1839 fu xs L k23 s l1 l2 l3 l4
def f_L_law_b1325 (fu : Nat) (xs : Nat → Int32) (L : Nat) (k23 : St → Nat → Nat → Nat → Int32 → Option (St × Int32)) (s : St) (l1 : Nat) (l2 : Nat) (l3 : Nat) (l4 : Int32) (l5 : Int32) (t0 : Int32) (t1 : Int32) (t2 : Int32) (t3 : Int32) (t4 : Nat) : Option (St × Int32) :=
  if t4 = 0 then none else
  bI (f_X9_gap fu s t4 t3 t2 t1 t0) fun s325 x326 =>
  if l2 = 0 then none else
  bI (f_X9_thrown fu s325 l2) fun s328 x329 =>
  if x329 = l5 then
    if l5 = 0 then
      if l3 = 0 then none else
      if inb 0 (gL s328 11 l3) = false then none else
      if (lg_cmp (gJ s328 11 l3 (ix 0)) (Int32.toInt64 x326)) = 0 then
        f_L_law_b1358 fu xs L k23 s328 l1 l2 l3 l4
      else
        some (s328, 0)
    else
      f_L_law_b1358 fu xs L k23 s328 l1 l2 l3 l4
  else
    some (s328, 0)
def f_L_law_b1286 (fu : Nat) (xs : Nat → Int32) (L : Nat) (k23 : St → Nat → Nat → Nat → Int32 → Option (St × Int32)) (s : St) (l1 : Nat) (l2 : Nat) (l3 : Nat) (l4 : Int32) (t0 : Int32) (t1 : Int32) (t2 : Int32) (t3 : Int32) (t4 : Nat) : Option (St × Int32) :=
  bI (f_L_gap fu s t4 t3 t2 t1 t0 l3) fun s317 x318 =>
  if inb (l4 + 1) L = false then none else
  if inb (l4 + 2) L = false then none else
  if inb (l4 + 3) L = false then none else
  if inb (l4 + 4) L = false then none else
  if (xs (ix (l4 + 4))) = 0 then
    f_L_law_b1325 fu xs L k23 s317 l1 l2 l3 l4 x318 0 (xs (ix (l4 + 3))) (xs (ix (l4 + 2))) (xs (ix (l4 + 1))) l2
  else
    f_L_law_b1325 fu xs L k23 s317 l1 l2 l3 l4 x318 1 (xs (ix (l4 + 3))) (xs (ix (l4 + 2))) (xs (ix (l4 + 1))) l2
def f_L_law_b1253 (fu : Nat) (xs : Nat → Int32) (L : Nat) (k23 : St → Nat → Nat → Nat → Int32 → Option (St × Int32)) (s : St) (l1 : Nat) (l2 : Nat) (l3 : Nat) (l4 : Int32) : Option (St × Int32) :=
  if inb (l4 + 1) L = false then none else
  if inb (l4 + 2) L = false then none else
  if inb (l4 + 3) L = false then none else
  if inb (l4 + 4) L = false then none else
  if (xs (ix (l4 + 4))) = 0 then
    f_L_law_b1286 fu xs L k23 s l1 l2 l3 l4 0 (xs (ix (l4 + 3))) (xs (ix (l4 + 2))) (xs (ix (l4 + 1))) l1
  else
    f_L_law_b1286 fu xs L k23 s l1 l2 l3 l4 1 (xs (ix (l4 + 3))) (xs (ix (l4 + 2))) (xs (ix (l4 + 1))) l1
def f_L_law_b1449 (fu : Nat) (xs : Nat → Int32) (L : Nat) (k23 : St → Nat → Nat → Nat → Int32 → Option (St × Int32)) (s : St) (l1 : Nat) (l2 : Nat) (l3 : Nat) (l4 : Int32) : Option (St × Int32) :=
  f_L_law_b1839 fu xs L k23 s l1 l2 l3 l4
def f_L_law_b1361 (fu : Nat) (xs : Nat → Int32) (L : Nat) (k23 : St → Nat → Nat → Nat → Int32 → Option (St × Int32)) (s : St) (l1 : Nat) (l2 : Nat) (l3 : Nat) (l4 : Int32) : Option (St × Int32) :=
  if inb (l4 + 1) L = false then none else
  if inb (l4 + 2) L = false then none else
  if inb (l4 + 3) L = false then none else
  if inb (l4 + 4) L = false then none else
  bI (f_L_bar fu s l1 (xs (ix (l4 + 1))) (xs (ix (l4 + 2))) (xs (ix (l4 + 3))) (xs (ix (l4 + 4))) l3) fun s339 x340 =>
  if inb (l4 + 1) L = false then none else
  if inb (l4 + 2) L = false then none else
  if inb (l4 + 3) L = false then none else
  if inb (l4 + 4) L = false then none else
  if l2 = 0 then none else
  bI (f_X9_bar fu s339 l2 (xs (ix (l4 + 1))) (xs (ix (l4 + 2))) (xs (ix (l4 + 3))) (xs (ix (l4 + 4)))) fun s346 x347 =>
  bI (f_X9_thrown fu s346 l2) fun s348 x349 =>
  if x349 = x340 then
    if x340 = 0 then
      if l3 = 0 then none else
      if inb 0 (gL s348 11 l3) = false then none else
      if (lg_cmp (gJ s348 11 l3 (ix 0)) x347) = 0 then
        f_L_law_b1449 fu xs L k23 s348 l1 l2 l3 l4
      else
        some (s348, 0)
    else
      f_L_law_b1449 fu xs L k23 s348 l1 l2 l3 l4
  else
    some (s348, 0)
def f_L_law_b1517 (fu : Nat) (xs : Nat → Int32) (L : Nat) (k23 : St → Nat → Nat → Nat → Int32 → Option (St × Int32)) (s : St) (l1 : Nat) (l2 : Nat) (l3 : Nat) (l4 : Int32) : Option (St × Int32) :=
  f_L_law_b1839 fu xs L k23 s l1 l2 l3 l4
def f_L_law_b1452 (fu : Nat) (xs : Nat → Int32) (L : Nat) (k23 : St → Nat → Nat → Nat → Int32 → Option (St × Int32)) (s : St) (l1 : Nat) (l2 : Nat) (l3 : Nat) (l4 : Int32) : Option (St × Int32) :=
  if inb (l4 + 1) L = false then none else
  if inb (l4 + 2) L = false then none else
  bI (f_L_alarms fu s l1 (xs (ix (l4 + 1))) (xs (ix (l4 + 2))) l3) fun s357 x358 =>
  if inb (l4 + 1) L = false then none else
  if inb (l4 + 2) L = false then none else
  if l2 = 0 then none else
  bI (f_X9_alarms fu s357 l2 (xs (ix (l4 + 1))) (xs (ix (l4 + 2)))) fun s362 x363 =>
  bI (f_X9_thrown fu s362 l2) fun s364 x365 =>
  if x365 = x358 then
    if x358 = 0 then
      if l3 = 0 then none else
      if inb 0 (gL s364 11 l3) = false then none else
      if (lg_cmp (gJ s364 11 l3 (ix 0)) (Int32.toInt64 x363)) = 0 then
        f_L_law_b1517 fu xs L k23 s364 l1 l2 l3 l4
      else
        some (s364, 0)
    else
      f_L_law_b1517 fu xs L k23 s364 l1 l2 l3 l4
  else
    some (s364, 0)
def f_L_law_b1597 (fu : Nat) (xs : Nat → Int32) (L : Nat) (k23 : St → Nat → Nat → Nat → Int32 → Option (St × Int32)) (s : St) (l1 : Nat) (l2 : Nat) (l3 : Nat) (l4 : Int32) : Option (St × Int32) :=
  f_L_law_b1839 fu xs L k23 s l1 l2 l3 l4
def f_L_law_b1520 (fu : Nat) (xs : Nat → Int32) (L : Nat) (k23 : St → Nat → Nat → Nat → Int32 → Option (St × Int32)) (s : St) (l1 : Nat) (l2 : Nat) (l3 : Nat) (l4 : Int32) : Option (St × Int32) :=
  if inb (l4 + 1) L = false then none else
  if inb (l4 + 2) L = false then none else
  if inb (l4 + 3) L = false then none else
  bI (f_L_would fu s l1 (xs (ix (l4 + 1))) (xs (ix (l4 + 2))) (xs (ix (l4 + 3))) l3) fun s374 x375 =>
  if inb (l4 + 1) L = false then none else
  if inb (l4 + 2) L = false then none else
  if inb (l4 + 3) L = false then none else
  if l2 = 0 then none else
  bI (f_X9_would fu s374 l2 (xs (ix (l4 + 1))) (xs (ix (l4 + 2))) (xs (ix (l4 + 3)))) fun s380 x381 =>
  bI (f_X9_thrown fu s380 l2) fun s382 x383 =>
  if x383 = x375 then
    if x375 = 0 then
      if l3 = 0 then none else
      if inb 0 (gL s382 11 l3) = false then none else
      if (lg_cmp (gJ s382 11 l3 (ix 0)) (Int32.toInt64 x381)) = 0 then
        f_L_law_b1597 fu xs L k23 s382 l1 l2 l3 l4
      else
        some (s382, 0)
    else
      f_L_law_b1597 fu xs L k23 s382 l1 l2 l3 l4
  else
    some (s382, 0)
def f_L_law_b1677 (fu : Nat) (xs : Nat → Int32) (L : Nat) (k23 : St → Nat → Nat → Nat → Int32 → Option (St × Int32)) (s : St) (l1 : Nat) (l2 : Nat) (l3 : Nat) (l4 : Int32) : Option (St × Int32) :=
  f_L_law_b1839 fu xs L k23 s l1 l2 l3 l4
def f_L_law_b1600 (fu : Nat) (xs : Nat → Int32) (L : Nat) (k23 : St → Nat → Nat → Nat → Int32 → Option (St × Int32)) (s : St) (l1 : Nat) (l2 : Nat) (l3 : Nat) (l4 : Int32) : Option (St × Int32) :=
  if inb (l4 + 1) L = false then none else
  if inb (l4 + 2) L = false then none else
  if inb (l4 + 3) L = false then none else
  bI (f_L_until fu s l1 (xs (ix (l4 + 1))) (xs (ix (l4 + 2))) (xs (ix (l4 + 3))) l3) fun s392 x393 =>
  if inb (l4 + 1) L = false then none else
  if inb (l4 + 2) L = false then none else
  if inb (l4 + 3) L = false then none else
  if l2 = 0 then none else
  bI (f_X9_until fu s392 l2 (xs (ix (l4 + 1))) (xs (ix (l4 + 2))) (xs (ix (l4 + 3)))) fun s398 x399 =>
  bI (f_X9_thrown fu s398 l2) fun s400 x401 =>
  if x401 = x393 then
    if x393 = 0 then
      if l3 = 0 then none else
      if inb 0 (gL s400 11 l3) = false then none else
      if (lg_cmp (gJ s400 11 l3 (ix 0)) (Int32.toInt64 x399)) = 0 then
        f_L_law_b1677 fu xs L k23 s400 l1 l2 l3 l4
      else
        some (s400, 0)
    else
      f_L_law_b1677 fu xs L k23 s400 l1 l2 l3 l4
  else
    some (s400, 0)
def f_L_law_b1756 (fu : Nat) (xs : Nat → Int32) (L : Nat) (k23 : St → Nat → Nat → Nat → Int32 → Option (St × Int32)) (s : St) (l1 : Nat) (l2 : Nat) (l3 : Nat) (l4 : Int32) : Option (St × Int32) :=
  f_L_law_b1839 fu xs L k23 s l1 l2 l3 l4
def f_L_law_b1680 (fu : Nat) (xs : Nat → Int32) (L : Nat) (k23 : St → Nat → Nat → Nat → Int32 → Option (St × Int32)) (s : St) (l1 : Nat) (l2 : Nat) (l3 : Nat) (l4 : Int32) : Option (St × Int32) :=
  if inb (l4 + 1) L = false then none else
  if inb (l4 + 2) L = false then none else
  if inb (l4 + 3) L = false then none else
  bI (f_L_trend fu s l1 (xs (ix (l4 + 1))) (xs (ix (l4 + 2))) (xs (ix (l4 + 3))) l3) fun s410 x411 =>
  if inb (l4 + 1) L = false then none else
  if inb (l4 + 2) L = false then none else
  if inb (l4 + 3) L = false then none else
  if l2 = 0 then none else
  bI (f_X9_trend fu s410 l2 (xs (ix (l4 + 1))) (xs (ix (l4 + 2))) (xs (ix (l4 + 3)))) fun s416 x417 =>
  bI (f_X9_thrown fu s416 l2) fun s418 x419 =>
  if x419 = x411 then
    if x411 = 0 then
      if l3 = 0 then none else
      if inb 0 (gL s418 11 l3) = false then none else
      if (lg_cmp (gJ s418 11 l3 (ix 0)) x417) = 0 then
        f_L_law_b1756 fu xs L k23 s418 l1 l2 l3 l4
      else
        some (s418, 0)
    else
      f_L_law_b1756 fu xs L k23 s418 l1 l2 l3 l4
  else
    some (s418, 0)
def f_L_law_b1836 (fu : Nat) (xs : Nat → Int32) (L : Nat) (k23 : St → Nat → Nat → Nat → Int32 → Option (St × Int32)) (s : St) (l1 : Nat) (l2 : Nat) (l3 : Nat) (l4 : Int32) : Option (St × Int32) :=
  f_L_law_b1839 fu xs L k23 s l1 l2 l3 l4
def f_L_law_b1759 (fu : Nat) (xs : Nat → Int32) (L : Nat) (k23 : St → Nat → Nat → Nat → Int32 → Option (St × Int32)) (s : St) (l1 : Nat) (l2 : Nat) (l3 : Nat) (l4 : Int32) : Option (St × Int32) :=
  if inb (l4 + 1) L = false then none else
  if inb (l4 + 2) L = false then none else
  if inb (l4 + 3) L = false then none else
  bI (f_L_both fu s l1 (xs (ix (l4 + 1))) (xs (ix (l4 + 2))) (xs (ix (l4 + 3))) l3) fun s428 x429 =>
  if inb (l4 + 1) L = false then none else
  if inb (l4 + 2) L = false then none else
  if inb (l4 + 3) L = false then none else
  if l2 = 0 then none else
  bI (f_X9_both fu s428 l2 (xs (ix (l4 + 1))) (xs (ix (l4 + 2))) (xs (ix (l4 + 3)))) fun s434 x435 =>
  bI (f_X9_thrown fu s434 l2) fun s436 x437 =>
  if x437 = x429 then
    if x429 = 0 then
      if l3 = 0 then none else
      if inb 0 (gL s436 11 l3) = false then none else
      if (lg_cmp (gJ s436 11 l3 (ix 0)) (Int32.toInt64 x435)) = 0 then
        f_L_law_b1836 fu xs L k23 s436 l1 l2 l3 l4
      else
        some (s436, 0)
    else
      f_L_law_b1836 fu xs L k23 s436 l1 l2 l3 l4
  else
    some (s436, 0)
def f_L_law_b23 (fu : Nat) (xs : Nat → Int32) (L : Nat) : Nat → St → Nat → Nat → Nat → Int32 → Option (St × Int32)
  | 0, _, _, _, _, _ => none
  | n + 1, s, l1, l2, l3, l4 =>
    if ((nI L) - 7) < l4 then
      some (s, 1)
    else
      if inb l4 L = false then none else
      lt ((xs (ix l4)) &&& 31 : Int32) fun x18 =>
      if x18 = 0 then
        f_L_law_b156 fu xs L (f_L_law_b23 fu xs L n) s l1 l2 l3 l4
      else
      if x18 = 1 then
        f_L_law_b229 fu xs L (f_L_law_b23 fu xs L n) s l1 l2 l3 l4
      else
      if x18 = 2 then
        f_L_law_b285 fu xs L (f_L_law_b23 fu xs L n) s l1 l2 l3 l4
      else
      if x18 = 3 then
        f_L_law_b341 fu xs L (f_L_law_b23 fu xs L n) s l1 l2 l3 l4
      else
      if x18 = 4 then
        f_L_law_b354 fu xs L (f_L_law_b23 fu xs L n) s l1 l2 l3 l4
      else
      if x18 = 5 then
        f_L_law_b403 fu xs L (f_L_law_b23 fu xs L n) s l1 l2 l3 l4
      else
      if x18 = 6 then
        f_L_law_b440 fu xs L (f_L_law_b23 fu xs L n) s l1 l2 l3 l4
      else
      if x18 = 7 then
        f_L_law_b465 fu xs L (f_L_law_b23 fu xs L n) s l1 l2 l3 l4
      else
      if x18 = 8 then
        f_L_law_b552 fu xs L (f_L_law_b23 fu xs L n) s l1 l2 l3 l4
      else
      if x18 = 9 then
        f_L_law_b608 fu xs L (f_L_law_b23 fu xs L n) s l1 l2 l3 l4
      else
      if x18 = 10 then
        f_L_law_b664 fu xs L (f_L_law_b23 fu xs L n) s l1 l2 l3 l4
      else
      if x18 = 11 then
        f_L_law_b732 fu xs L (f_L_law_b23 fu xs L n) s l1 l2 l3 l4
      else
      if x18 = 12 then
        f_L_law_b788 fu xs L (f_L_law_b23 fu xs L n) s l1 l2 l3 l4
      else
      if x18 = 13 then
        f_L_law_b855 fu xs L (f_L_law_b23 fu xs L n) s l1 l2 l3 l4
      else
      if x18 = 14 then
        f_L_law_b923 fu xs L (f_L_law_b23 fu xs L n) s l1 l2 l3 l4
      else
      if x18 = 15 then
        f_L_law_b991 fu xs L (f_L_law_b23 fu xs L n) s l1 l2 l3 l4
      else
      if x18 = 16 then
        f_L_law_b1082 fu xs L (f_L_law_b23 fu xs L n) s l1 l2 l3 l4
      else
      if x18 = 17 then
        f_L_law_b1162 fu xs L (f_L_law_b23 fu xs L n) s l1 l2 l3 l4
      else
      if x18 = 18 then
        f_L_law_b1253 fu xs L (f_L_law_b23 fu xs L n) s l1 l2 l3 l4
      else
      if x18 = 19 then
        f_L_law_b1361 fu xs L (f_L_law_b23 fu xs L n) s l1 l2 l3 l4
      else
      if x18 = 20 then
        f_L_law_b1452 fu xs L (f_L_law_b23 fu xs L n) s l1 l2 l3 l4
      else
      if x18 = 21 then
        f_L_law_b1520 fu xs L (f_L_law_b23 fu xs L n) s l1 l2 l3 l4
      else
      if x18 = 22 then
        f_L_law_b1600 fu xs L (f_L_law_b23 fu xs L n) s l1 l2 l3 l4
      else
      if x18 = 23 then
        f_L_law_b1680 fu xs L (f_L_law_b23 fu xs L n) s l1 l2 l3 l4
      else
      if x18 = 24 then
        f_L_law_b1759 fu xs L (f_L_law_b23 fu xs L n) s l1 l2 l3 l4
      else
      f_L_law_b1839 fu xs L (f_L_law_b23 fu xs L n) s l1 l2 l3 l4
def f_L_law (fu : Nat) (xs : Nat → Int32) (L : Nat) (s : St) : Option (St × Int32) :=
  lt (nW s 8 0 19 : St) fun s1 =>
  if rmb s1 = false then none else
  bV (f_X8_init fu s1 (gN s 8 + 1)) fun s3 =>
  lt (gN s 8 + 1 : Nat) fun x4 =>
  lt (nW s3 9 0 69 : St) fun s6 =>
  if rmb s6 = false then none else
  bV (f_X9_init fu s6 (gN s3 9 + 1)) fun s8 =>
  lt (gN s3 9 + 1 : Nat) fun x9 =>
  if szb 1 = false then none else
  lt (nW s8 11 (ix 1) (ix 1) : St) fun s12 =>
  if rmb s12 = false then none else
  lt (gN s8 11 + 1 : Nat) fun x14 =>
  f_L_law_b23 fu xs L fu s12 x4 x9 x14 0
