/-! ===== the law: what a call comes to ===== -/
theorem bI_s {α β : Type} (s : St) (x : α) (k : St → α → Option β) : bI (some (s, x)) k = k s x := rfl
def wI1 (o : Option (St × (Nat ⊕ Int32))) : Option (St × Int32) := bX o (fun s2 e3 => if e3 = 1 then some (s2, 1) else none) fun s2 x4 =>
  if inb 0 (gL s2 11 1) = false then none else lt (sJ s2 11 1 (ix 0) (Int32.toInt64 x4) : St) fun s8 => some (s8, 0)
def wI2 (o : Option (St × (Nat ⊕ Int32))) : Option (St × Int32) := bX o (fun s2 e3 => if e3 = 1 then some (s2, 1) else if e3 = 2 then some (s2, 2) else none) fun s2 x4 =>
  if inb 0 (gL s2 11 1) = false then none else lt (sJ s2 11 1 (ix 0) (Int32.toInt64 x4) : St) fun s8 => some (s8, 0)
def wI3 (o : Option (St × (Nat ⊕ Int32))) : Option (St × Int32) := bX o (fun s2 e3 => if e3 = 2 then some (s2, 1) else none) fun s2 x4 =>
  if inb 0 (gL s2 11 1) = false then none else lt (sJ s2 11 1 (ix 0) (Int32.toInt64 x4) : St) fun s8 => some (s8, 0)
def wJ1 (o : Option (St × (Nat ⊕ Int64))) : Option (St × Int32) := bX o (fun s2 e3 => if e3 = 1 then some (s2, 1) else none) fun s2 x4 =>
  if inb 0 (gL s2 11 1) = false then none else lt (sJ s2 11 1 (ix 0) x4 : St) fun s8 => some (s8, 0)
def wJ2 (o : Option (St × (Nat ⊕ Int64))) : Option (St × Int32) := bX o (fun s2 e3 => if e3 = 1 then some (s2, 1) else if e3 = 2 then some (s2, 2) else none) fun s2 x4 =>
  if inb 0 (gL s2 11 1) = false then none else lt (sJ s2 11 1 (ix 0) x4 : St) fun s8 => some (s8, 0)
def blkI (fu : Nat) (fm : Option (St × Int32)) (k : Int32) (K : St → Option (St × Int32)) : Option (St × Int32) := bI fm fun s3 x4 => bI (f_X9_thrown fu s3 1) fun s5 x6 =>
  if x6 = k then (if k = 0 then (if inb 0 (gL s5 11 1) = false then none else if lg_cmp (gJ s5 11 1 (ix 0)) (Int32.toInt64 x4) = 0 then K s5 else some (s5, 0)) else K s5) else some (s5, 0)
def blkJ (fu : Nat) (fm : Option (St × Int64)) (k : Int32) (K : St → Option (St × Int32)) : Option (St × Int32) := bI fm fun s3 x4 => bI (f_X9_thrown fu s3 1) fun s5 x6 =>
  if x6 = k then (if k = 0 then (if inb 0 (gL s5 11 1) = false then none else if lg_cmp (gJ s5 11 1 (ix 0)) x4 = 0 then K s5 else some (s5, 0)) else K s5) else some (s5, 0)
theorem X9_thr (fu : Nat) (s : St) : f_X9_thrown fu s 1 = some (s, gI s 9 1 3) := rfl
theorem inb_o : inb 0 1 = true := by decide
theorem blkI_ok {fu : Nat} {fm : Option (St × Int32)} {k : Int32} {K : St → Option (St × Int32)} {s2 : St} {v : Int32} (hL : Lay s2) (hm : fm = some (s2, v)) (hk : gI s2 9 1 3 = k) (hv : k = 0 → gJ s2 11 1 0 = Int32.toInt64 v) : blkI fu fm k K = K s2 := by
  unfold blkI
  rw [hm, bI_s, X9_thr, bI_s, hk, if_pos rfl]
  by_cases c : k = 0
  · rw [if_pos c, ll_11_1 hL, if_neg (by rw [inb_o]; decide), show ix 0 = 0 from rfl, if_pos (lg_z.mpr (hv c))]
  · rw [if_neg c]
theorem blkJ_ok {fu : Nat} {fm : Option (St × Int64)} {k : Int32} {K : St → Option (St × Int32)} {s2 : St} {v : Int64} (hL : Lay s2) (hm : fm = some (s2, v)) (hk : gI s2 9 1 3 = k) (hv : k = 0 → gJ s2 11 1 0 = v) : blkJ fu fm k K = K s2 := by
  unfold blkJ
  rw [hm, bI_s, X9_thr, bI_s, hk, if_pos rfl]
  by_cases c : k = 0
  · rw [if_pos c, ll_11_1 hL, if_neg (by rw [inb_o]; decide), show ix 0 = 0 from rfl, if_pos (lg_z.mpr (hv c))]
  · rw [if_neg c]
/-- both sides hold; c calls are done -/
def IV (s : St) (c : Nat) : Prop := ∃ p n S K mo x u l L y, INV s p n S K mo x u l L y (20000 + 6 * c) ∧ off (xP x) 10 + l ≤ 60 * c ∧ u ≤ 100 * c
section LWK
variable {s s1 : St} {p n mo u l g c : Nat} {S K : Nat → Int} {x : Ab} {L : List AO} {y : Q4}
theorem CS.out (h : CS s s1) (v : Int64) : CS (outS s v) (outS s1 v) := by
  obtain ⟨h1, h2, h3, h4, h5⟩ := h
  refine ⟨h1, h2, h3, fun k i j hk => ?_, h5⟩
  rw [gJ_sJ, gJ_sJ, h4 k i j hk]
theorem INV.lk (h : INV s p n S K mo x u l L y g) (c : CS s s1) : MI s1 n S K mo x u ∧ AlM s1 L ∧ WhM s1 y ∧ Lay s1 := by
  obtain ⟨⟨hC, hM, hD, hA⟩, ⟨a1, a2, a3⟩, ⟨w1, w2⟩, -⟩ := h
  have hF := CF.cs c
  obtain ⟨z1, z2, z3, z4⟩ := w2
  exact ⟨hM.cf hF hC.1.1.2 hD, a2.cf hC.1 hF, ⟨by rw [CF.c9 hF]; exact z1, by rw [CF.c9 hF]; exact z2, by rw [CF.c9 hF]; exact z3, by rw [CF.c9 hF]; exact z4⟩, hC.1.1.1.cf hF⟩
theorem ms_out {s2 : St} {v : Int64} (h : MS (outS s1 v) s2) : gJ s2 11 1 0 = v := by rw [h.2.2.2.1 11 1 0 (by decide), gJ_sJ, if_pos ⟨rfl, rfl, rfl⟩]
theorem look_I2 (h : INV s p n S K mo x u l L y g) (hg : g + 6 ≤ 100000) {o : Option (St × (Nat ⊕ Int32))} {fm : St → Option (St × Int32)} (hq : ∃ s1 w, o = some (s1, w) ∧ CS s s1 ∧ ∀ s', MI s' n S K mo x u → AlM s' L → WhM s' y → ∃ s2 v, fm s' = some (s2, v) ∧ MS s' s2 ∧ cmpI w v (gI s2 9 1 3)) :
    ∃ s1 k s2 v, wI2 o = some (s1, k) ∧ fm s1 = some (s2, v) ∧ gI s2 9 1 3 = k ∧ (k = 0 → gJ s2 11 1 0 = Int32.toInt64 v) ∧ INV s2 p n S K mo x u l L y (g + 6) := by
  obtain ⟨s1, w, q1, q2, q3⟩ := hq
  obtain ⟨m1, m2, m3, m4⟩ := h.lk q2
  cases w with
  | inl e =>
    obtain ⟨s2, v, z1, z2, z3, z4⟩ := q3 s1 m1 m2 m3
    rcases z4 with rfl | rfl
    · exact ⟨s1, 1, s2, v, by rw [q1]; rfl, z1, z3, fun w => absurd w (by decide), h.look hg q2 z2⟩
    · exact ⟨s1, 2, s2, v, by rw [q1]; rfl, z1, z3, fun w => absurd w (by decide), h.look hg q2 z2⟩
  | inr r =>
    obtain ⟨s2, v, z1, z2, z3, z4⟩ := q3 (outS s1 (Int32.toInt64 r)) m1 m2 m3
    refine ⟨outS s1 (Int32.toInt64 r), 0, s2, v, ?_, z1, z3, fun _ => by rw [← z4]; exact ms_out z2, (h.out _).look hg (q2.out _) z2⟩
    rw [q1]
    show (if inb 0 (gL s1 11 1) = false then none else _) = _
    rw [ll_11_1 m4, if_neg (by rw [inb_o]; decide)]
    rfl
theorem look_I1 (h : INV s p n S K mo x u l L y g) (hg : g + 6 ≤ 100000) {o : Option (St × (Nat ⊕ Int32))} {fm : St → Option (St × Int32)} (hq : ∃ s1 w, o = some (s1, w) ∧ CS s s1 ∧ ∀ s', MI s' n S K mo x u → AlM s' L → WhM s' y → ∃ s2 v, fm s' = some (s2, v) ∧ MS s' s2 ∧ cmpI1 w v (gI s2 9 1 3)) :
    ∃ s1 k s2 v, wI1 o = some (s1, k) ∧ fm s1 = some (s2, v) ∧ gI s2 9 1 3 = k ∧ (k = 0 → gJ s2 11 1 0 = Int32.toInt64 v) ∧ INV s2 p n S K mo x u l L y (g + 6) := by
  obtain ⟨s1, w, q1, q2, q3⟩ := hq
  obtain ⟨m1, m2, m3, m4⟩ := h.lk q2
  cases w with
  | inl e =>
    obtain ⟨s2, v, z1, z2, z3, z4⟩ := q3 s1 m1 m2 m3
    subst z4
    exact ⟨s1, 1, s2, v, by rw [q1]; rfl, z1, z3, fun w => absurd w (by decide), h.look hg q2 z2⟩
  | inr r =>
    obtain ⟨s2, v, z1, z2, z3, z4⟩ := q3 (outS s1 (Int32.toInt64 r)) m1 m2 m3
    refine ⟨outS s1 (Int32.toInt64 r), 0, s2, v, ?_, z1, z3, fun _ => by rw [← z4]; exact ms_out z2, (h.out _).look hg (q2.out _) z2⟩
    rw [q1]
    show (if inb 0 (gL s1 11 1) = false then none else _) = _
    rw [ll_11_1 m4, if_neg (by rw [inb_o]; decide)]
    rfl
theorem look_J2 (h : INV s p n S K mo x u l L y g) (hg : g + 6 ≤ 100000) {o : Option (St × (Nat ⊕ Int64))} {fm : St → Option (St × Int64)} (hq : ∃ s1 w, o = some (s1, w) ∧ CS s s1 ∧ ∀ s', MI s' n S K mo x u → AlM s' L → WhM s' y → ∃ s2 v, fm s' = some (s2, v) ∧ MS s' s2 ∧ cmpJ w v (gI s2 9 1 3)) :
    ∃ s1 k s2 v, wJ2 o = some (s1, k) ∧ fm s1 = some (s2, v) ∧ gI s2 9 1 3 = k ∧ (k = 0 → gJ s2 11 1 0 = v) ∧ INV s2 p n S K mo x u l L y (g + 6) := by
  obtain ⟨s1, w, q1, q2, q3⟩ := hq
  obtain ⟨m1, m2, m3, m4⟩ := h.lk q2
  cases w with
  | inl e =>
    obtain ⟨s2, v, z1, z2, z3, z4⟩ := q3 s1 m1 m2 m3
    rcases z4 with rfl | rfl
    · exact ⟨s1, 1, s2, v, by rw [q1]; rfl, z1, z3, fun w => absurd w (by decide), h.look hg q2 z2⟩
    · exact ⟨s1, 2, s2, v, by rw [q1]; rfl, z1, z3, fun w => absurd w (by decide), h.look hg q2 z2⟩
  | inr r =>
    obtain ⟨s2, v, z1, z2, z3, z4⟩ := q3 (outS s1 r) m1 m2 m3
    refine ⟨outS s1 r, 0, s2, v, ?_, z1, z3, fun _ => by rw [← z4]; exact ms_out z2, (h.out _).look hg (q2.out _) z2⟩
    rw [q1]
    show (if inb 0 (gL s1 11 1) = false then none else _) = _
    rw [ll_11_1 m4, if_neg (by rw [inb_o]; decide)]
    rfl
theorem look_J1 (h : INV s p n S K mo x u l L y g) (hg : g + 6 ≤ 100000) {o : Option (St × (Nat ⊕ Int64))} {fm : St → Option (St × Int64)} (hq : ∃ s1 w, o = some (s1, w) ∧ CS s s1 ∧ ∀ s', MI s' n S K mo x u → AlM s' L → WhM s' y → ∃ s2 v, fm s' = some (s2, v) ∧ MS s' s2 ∧ cmpJ1 w v (gI s2 9 1 3)) :
    ∃ s1 k s2 v, wJ1 o = some (s1, k) ∧ fm s1 = some (s2, v) ∧ gI s2 9 1 3 = k ∧ (k = 0 → gJ s2 11 1 0 = v) ∧ INV s2 p n S K mo x u l L y (g + 6) := by
  obtain ⟨s1, w, q1, q2, q3⟩ := hq
  obtain ⟨m1, m2, m3, m4⟩ := h.lk q2
  cases w with
  | inl e =>
    obtain ⟨s2, v, z1, z2, z3, z4⟩ := q3 s1 m1 m2 m3
    subst z4
    exact ⟨s1, 1, s2, v, by rw [q1]; rfl, z1, z3, fun w => absurd w (by decide), h.look hg q2 z2⟩
  | inr r =>
    obtain ⟨s2, v, z1, z2, z3, z4⟩ := q3 (outS s1 r) m1 m2 m3
    refine ⟨outS s1 r, 0, s2, v, ?_, z1, z3, fun _ => by rw [← z4]; exact ms_out z2, (h.out _).look hg (q2.out _) z2⟩
    rw [q1]
    show (if inb 0 (gL s1 11 1) = false then none else _) = _
    rw [ll_11_1 m4, if_neg (by rw [inb_o]; decide)]
    rfl
theorem thw_ok (h : INV s p n S K mo x u l L y (20000 + 6 * c)) (ho : off (xP x) 10 + l ≤ 60 * c) (hu : u ≤ 100 * c) {o : Option (St × (Nat ⊕ Int32))} {fm : St → Option (St × Int32)} (hq : Thw s p n S K mo x u l L y (20000 + 6 * c + 6) o fm) :
    ∃ s1 k s2 v, wI3 o = some (s1, k) ∧ fm s1 = some (s2, v) ∧ gI s2 9 1 3 = k ∧ (k = 0 → gJ s2 11 1 0 = Int32.toInt64 v) ∧ Lay s2 ∧ IV s2 (c + 1) := by
  rcases hq with ⟨s1, s2, v, q1, q2, q3, q4⟩ | ⟨s1, w, q1, hLs, q2⟩
  · refine ⟨s1, 1, s2, v, by rw [q1]; rfl, q2, q3, fun w => absurd w (by decide), q4.1.1.1.1.1, p, n, S, K, mo, x, u, l, L, y, ?_, by omega, by omega⟩
    have e : 20000 + 6 * (c + 1) = 20000 + 6 * c + 6 := by omega
    rw [e]; exact q4
  · obtain ⟨s2, p', n', S', K', mo', x', u', L', y', z1, z2, z3, z4, z5, z6⟩ := q2 (Int32.toInt64 w)
    have hL2 := z4.1.1.1.1.1
    refine ⟨outS s1 (Int32.toInt64 w), 0, s2, w, ?_, z1, z2, fun _ => z3, hL2, p', n', S', K', mo', x', u', 0, L', y', ?_, by omega, by omega⟩
    · rw [q1]
      show (if inb 0 (gL s1 11 1) = false then none else _) = _
      rw [ll_11_1 hLs, if_neg (by rw [inb_o]; decide)]
      rfl
    · have e : 20000 + 6 * (c + 1) = 20000 + 6 * c + 6 := by omega
      rw [e]; exact z4
end LWK
