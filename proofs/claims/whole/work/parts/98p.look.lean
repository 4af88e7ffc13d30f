/-! ===== calls that only look leave all as it is ===== -/
section LOO
variable {s s1 s2 : St} {p n mo u l g : Nat} {S K : Nat → Int} {x : Ab} {L : List AO} {y : Q4}
theorem CI.cs (h : CI s p n S K mo x) (c : CS s s1) : CI s1 p n S K mo x := by
  have hq := h.cq.cs c
  obtain ⟨hB, -, -, hLt, ⟨k1, k2, k3, k4, k5⟩⟩ := h
  obtain ⟨⟨c1, c2, c3⟩, c4, -⟩ := c
  obtain ⟨q1, q2, q3, q4⟩ := hq
  refine ⟨⟨q1, q2, ?_⟩, q3, q4, fun i hi => ?_, ⟨by rw [c4 2 p 4 (by decide) (by decide)]; exact k1, by rw [c4 8 1 14 (by decide) (by decide)]; exact k2, by rw [c4 8 1 16 (by decide) (by decide)]; exact k3, by rw [c4 8 1 17 (by decide) (by decide)]; exact k4, by rw [c4 8 1 18 (by decide) (by decide)]; exact k5⟩⟩
  · unfold OwnA OwnC
    rw [c1, c2, c3]
    exact hB.2.2
  · rw [c1, c4 5 _ 9 (by decide) (by decide), c4 5 _ 10 (by decide) (by decide)]
    exact hLt i hi
theorem INV.look (h : INV s p n S K mo x u l L y g) (hg : g + 6 ≤ 100000) (c : CS s s1) (m : MS s1 s2) : INV s2 p n S K mo x u l L y (g + 6) := by
  obtain ⟨⟨hC, hM, hD, hA⟩, ⟨a1, a2, a3⟩, ⟨w1, w2⟩, hf, ⟨t1, t2, t3⟩, hb⟩ := h
  have hF := CF.cs c
  have hL := hC.1.1.1
  have hS := hC.1.1.2
  have hO := hM.2.2.2.2
  have hC1 := hC.cs c
  have hM1 := hM.cf hF hS hD
  have hD1 := hD.cf hF hO
  have hO1 := hM1.2.2.2.2
  have hP := FP.ms m
  have hL1 := hC1.1.1.1
  have c5 := c.2.2.1
  refine ⟨⟨hC1.fp hP hO1 hD1, hM1.ms m, hD1.fp hP hC1.1.2.2, hA⟩, ⟨(a1.cf hC.1 hF).fp hC1.1 hP hO1, (a2.cf hC.1 hF).fp hL1 hP hO1, a3⟩, ⟨fun w hw => ?_, WhM.ms ?_ m⟩, ⟨?_, by rw [m.1.1, c.1.1]; exact hf.2⟩, ⟨t1, t2, fun j hj => ?_⟩, hb.eq ⟨m.1.1.trans c.1.1, m.1.2.1.trans c.1.2.1, m.1.2.2.trans c.1.2.2⟩ (c := 6) ?_ ?_ hg⟩
  · rw [m.2.1 10 11 w (by decide) (by omega), c5 11 w (hS.lo (by omega) (by omega) (by omega))]; exact w1 w hw
  · obtain ⟨z1, z2, z3, z4⟩ := w2
    exact ⟨by rw [CF.c9 hF]; exact z1, by rw [CF.c9 hF]; exact z2, by rw [CF.c9 hF]; exact z3, by rw [CF.c9 hF]; exact z4⟩
  · rw [m.2.1 8 1 15 (by decide) (by omega), m.2.2.1 33 (by omega) (by omega), CF.c9 hF, c.2.1 8 1 15 (by decide) (by decide)]; exact hf.1
  · obtain ⟨b, v1, v2, v3⟩ := t3 j hj
    exact ⟨b, v1, by rw [m.2.1 10 30 j (by decide) (by omega), c5 30 j (hS.lo (by omega) (by omega) (by omega))]; exact v2, by rw [m.2.1 12 1 j (by decide) (by omega), c.2.1 12 1 j (by decide) (by decide)]; exact v3⟩
  · rw [m.2.2.2.2.1]; have := c.2.2.2.2.2.1; omega
  · rw [m.2.2.2.2.2]; have := c.2.2.2.2.2.2; omega
theorem INV.rmb (h : INV s p n S K mo x u l L y g) (hg : g + 6 ≤ 100000) : rmb (nX s) = true := by
  have h1 := h.half (CF.rf s) h.1.1 (Rmc.rf s)
  have h2 := h1.2.2.2.rm h1.1.2.2.2.2
  exact rmb_of (by rw [cn_nX]; omega) (by rw [sn_nX]; omega)
theorem INV.thc (h : INV s p n S K mo x u l L y g) : ThC s := fun i hi h0 => by
  obtain ⟨c, e, h1, -, -, -, h2⟩ := h.1.1.1.2.2.1 i hi h0
  rw [h1.2.2.2.2.1 2 jn2, h2]
/-- a call that changes, closed -/
theorem INV.chg (h : INV s p n S K mo x u l L y g) {fc : Option (St × Int32)} {fm : St → Option (St × Int32)} {up uu : Nat} (c : Chg s p n S K mo x u fc fm up uu) : ∃ s1 s2 w x' u' y', fc = some (s1, w) ∧ fm s1 = some (s2, w) ∧ INV s2 p n S K mo x' u' l L y' g ∧ off (xP x') 10 ≤ off (xP x) 10 + up ∧ u' ≤ u + uu := by
  obtain ⟨s1, w, x', y', u', c1, c2, c3, c4, c5, c6, c7, c8, c9, c10⟩ := c
  obtain ⟨m1, m2, m3, m4⟩ := h.half c3 c2 c4
  obtain ⟨s2, r1, r2, r3, r4, r5⟩ := c10 s1 m1 m4
  exact ⟨s1, s2, w, x', u', y', c1, r1, h.step c3 c2 c4 c5 r2 r3 r4 r5 c6 c7, c8, c9⟩
end LOO
