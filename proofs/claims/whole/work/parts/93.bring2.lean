/-! ===== the class: bring of a new series; place ===== -/
section BR2
variable {s s' : St} {p n mo fu : Nat} {S K : Nat → Int} {x : Ab}
theorem Bas.rows (h : Bas s p n S K) {id : Nat} (hid : id < 10) (hr1 : cn s + 8 ≤ 601024) (hr2 : sn s + 99 ≤ 7293034) :
    ∃ s', f_X8_rowsOf fu s 1 (nI id) = some (s', gR s' 14 1 id) ∧ ¬ gR s' 14 1 id = 0 ∧ Bas s' p n S K ∧ CF s s' ∧ (∀ h0 L i, i < 10 → SerI s p n S K h0 L i → SerI s' p n S K h0 L i) ∧ (∀ i, i < 10 → ¬ gR s 14 1 i = 0 → gR s' 14 1 i = gR s 14 1 i) ∧ (∀ i j, i < 10 → ¬ gR s 14 1 i = 0 → gI s' 5 (gR s 14 1 i) j = gI s 5 (gR s 14 1 i) j) ∧ Rmc s s' ∧ (∀ k i j, ¬ k = 5 → ¬ k = 10 → ¬ k = 11 → gI s' k i j = gI s k i j) ∧ (∀ a j, a ≤ gN s 10 → gI s' 10 a j = gI s 10 a j) := by
  by_cases h0 : gR s 14 1 id = 0
  · exact h.new hid h0 hr1 hr2
  · exact ⟨s, X8_rows h.1.1 hid h0 fu, h0, h, CF.rf s, fun _ _ _ _ q => q, fun _ _ _ => rfl, fun _ _ _ _ => rfl, Rmc.rf s, fun _ _ _ _ _ _ => rfl, fun _ _ _ => rfl⟩
theorem X8_b47n (hB : Bas s p n S K) {id : Nat} (hid : id < 10) {t : Int32} (hR : Ros s 1 (id :: xR x) (uph (xH x) id t)) (hRW : RW (id :: xR x)) (hSer : ∀ i ∈ xR x, SerI s p n S K (xH x i).toInt (xP x i) i) (hPe : xP x id = []) (hLt : LtC s (xR x) (xT x) (xS x)) (hC : CsC s p (nI mo) (xC x))
    (h1 : -1000000 ≤ t.toInt) (h2 : t.toInt ≤ 1000000) (hr1 : cn s + 8 ≤ 601024) (hr2 : sn s + 99 ≤ 7293034) (hfu : 50000 ≤ fu) :
    ∃ s', f_X8_bring_b47 fu s 1 (nI id) t 1 = some (s', gR s' 14 1 id) ∧ CI s' p n S K mo (riN x id t) ∧ CF s s' ∧ Rmc s s' ∧ (∀ j, gI s' 10 11 j = gI s 10 11 j) := by
  have e10 : ¬ (1 = 0) := by decide
  have hnot : ¬ id ∈ xR x := (List.nodup_cons.mp hRW.1).1
  have hL := hB.1.1
  have hp := hB.2.1.1
  obtain ⟨s1, y1, y2, hB1, y4, y5, y6, y7, y8, y9, y10⟩ := hB.rows (fu := fu) hid hr1 hr2
  have hL1 := hB1.1.1
  have hS1 := hB1.1.2
  have hN := ln_10 hL
  obtain ⟨c, e0, hO, hc, he, hc1, hc2⟩ := hB1.2.2.1 id hid y2
  obtain ⟨w1, w2, w3⟩ := X5_begin (fu := fu) hB1.2.1.2.2.2 hB1.2.1.2.2.1 hO hc (b5_le hL1 hp) hc1 (t := t) h1 h2 hfu
  have hSf := beS_sf s1 (gR s1 14 1 id) p n S K t.toInt
  have hO2 := beS_own (p := p) (n := n) (S := S) (K := K) hO (h := t.toInt)
  obtain ⟨f1, f2, f3, f4, f5, f6, f7, f8, f9⟩ := beS_r s1 (gR s1 14 1 id) p n S K t.toInt
  generalize beS s1 (gR s1 14 1 id) p n S K t.toInt = s2 at w1 w2 hSf hO2 f1 f2 f3 f4 f5 f6 f7 f8 f9
  obtain ⟨hB2, hk2, r14, hf2, hkS⟩ := hB1.sfr hid y2 hSf hO2 hc he hc1 hc2
  have hC2 := CF.sfr hid y2 hSf
  obtain ⟨low1, low2⟩ := Sfr.low hS1 hL1 hid y2 hSf
  obtain ⟨k1, k2, k3, k4, k5⟩ := hC
  refine ⟨s2, ?_, ⟨hB2, ⟨?_, hRW⟩, fun i hi => ?_, fun i hi => ?_, ⟨?_, ?_, ?_, ?_, ?_⟩⟩, y4.tr hC2, y8.tr ?_, fun j => by rw [low2 11 j (by omega), y10 11 j (by omega)]⟩
  · unfold f_X8_bring_b47
    rw [if_neg e10, y1]
    simp only [bI, show ¬ (1 : Int32) = 0 from by decide, reduceIte, y2]
    rw [hB1.2.1.2.1, w1]
    show some (s2, gR s1 14 1 id) = _
    rw [r14 id hid]
  · exact hR.cong hL hB2.1.1 (by rw [low1 4 1 2 (by decide) (by decide) (by decide), y9 4 1 2 (by decide) (by decide) (by decide)]) (fun j => by rw [low2 5 j (by omega), y10 5 j (by omega)]) (fun j => by rw [low2 6 j (by omega), y10 6 j (by omega)])
  · show SerI s2 p n S K (uph (xH x) id t i).toInt (xP x i) i
    by_cases c0 : i = id
    · rw [c0, uph_at, hPe]
      exact ⟨by rw [r14 id hid]; exact y2, [], rfl, w3, by rw [r14 id hid]; exact w2⟩
    · rw [uph_ne _ _ c0]
      have hi' : i ∈ xR x := (List.mem_cons.mp hi).elim (fun q => absurd q c0) (fun q => q)
      have hi10 := hRW.2.1 i hi
      exact hk2 _ _ i hi10 c0 (y5 _ _ i hi10 (hSer i hi'))
  · show gI s2 5 (gR s2 14 1 i) 9 = uph (xT x) id 0 i ∧ gI s2 5 (gR s2 14 1 i) 10 = uph (xS x) id 0 i
    have hi10 := hRW.2.1 i hi
    rw [r14 i hi10]
    by_cases c0 : i = id
    · rw [c0, uph_at, uph_at]; exact ⟨f8, f9⟩
    · have hi' : i ∈ xR x := (List.mem_cons.mp hi).elim (fun q => absurd q c0) (fun q => q)
      have oi := (hSer i hi').1
      have r1 := y6 i hi10 oi
      rw [uph_ne _ _ c0, uph_ne _ _ c0, hf2 i 9 hi10 c0 (by rw [r1]; exact oi), hf2 i 10 hi10 c0 (by rw [r1]; exact oi), r1, y7 i 9 hi10 oi, y7 i 10 hi10 oi]
      exact hLt i hi'
  · rw [low1 2 p 4 (by decide) (by decide) (by decide), y9 2 p 4 (by decide) (by decide) (by decide)]; exact k1
  · rw [low1 8 1 14 (by decide) (by decide) (by decide), y9 8 1 14 (by decide) (by decide) (by decide)]; exact k2
  · rw [low1 8 1 16 (by decide) (by decide) (by decide), y9 8 1 16 (by decide) (by decide) (by decide)]; exact k3
  · rw [low1 8 1 17 (by decide) (by decide) (by decide), y9 8 1 17 (by decide) (by decide) (by decide)]; exact k4
  · rw [low1 8 1 18 (by decide) (by decide) (by decide), y9 8 1 18 (by decide) (by decide) (by decide)]; exact k5
  · have q1 : kS s2 id = kS s1 id := by
      unfold kS
      rw [r14 id hid, f1 3 (by decide), f3]
    have q2 : skn s2 10 = skn s1 10 := skn_eq (fun i hi => by
      by_cases c0 : i = id
      · rw [c0]; exact q1
      · exact hkS i hi c0) 10 (Nat.le_refl _)
    unfold Rmc
    rw [q2, f5, f6]
    exact ⟨Nat.le_refl _, Nat.le_refl _⟩
theorem X8_bring (h : CI s p n S K mo x) (hA : AbW mo x) {id : Nat} (hid : id < 10) {t : Int32} (h1 : -1000000 ≤ t.toInt) (h2 : t.toInt ≤ 1000000) (hr1 : cn s + 8 ≤ 601024) (hr2 : sn s + 99 ≤ 7293034) (hfu : 50000 ≤ fu) :
    ∃ s', f_X8_bring fu s 1 (nI id) t = some (s', gR s' 14 1 id) ∧ CI s' p n S K mo (rise n S K mo x id t) ∧ CF s s' ∧ Rmc s s' ∧ (∀ j, gI s' 10 11 j = gI s 10 11 j) := by
  have e10 : ¬ (1 = 0) := by decide
  unfold rise
  by_cases hin : id ∈ xR x
  · rw [if_pos hin]
    exact X8_bring_k h hA hin h1 h2 hfu
  · rw [if_neg hin]
    obtain ⟨hB, ⟨hR, hRW⟩, hSer, hLt, ⟨k1, k2, k3, k4, k5⟩⟩ := h
    obtain ⟨-, hE, hl, hm1, hm6⟩ := hA
    have hL := hB.1.1
    have hp := hB.2.1.1
    have hp12 := hB.2.1.2.1
    have hp0 : ¬ p = 0 := by omega
    have hne : ¬ gR s 4 1 1 = gR s 4 1 0 := by rw [lr_4_1_0 hL, lr_4_1_1 hL]; decide
    have hkx := X4_kx (fu := fu) hR hRW (a := nI id) (ni_ne hRW hid hin) (by omega)
    have q84 := lr_8_1_4 hL
    -- what use leaves as it was
    have keep : ∀ s1, RF s s1 1 → Bas s1 p n S K ∧ (∀ i ∈ xR x, SerI s1 p n S K (xH x i).toInt (xP x i) i) ∧ LtC s1 (xR x) (xT x) (xS x) ∧ CsC s1 p (nI mo) (xC x) ∧ CF s s1 ∧ Rmc s s1 ∧ (∀ j, gI s1 10 11 j = gI s 10 11 j) ∧ cn s1 = cn s ∧ sn s1 = sn s := fun s1 f => by
      obtain ⟨a1, a2, a3⟩ := hB.use f
      have g8 : ∀ j, gI s1 8 1 j = gI s 8 1 j := fun j => f.2 8 1 j (by omega) (by omega)
      refine ⟨a1, fun i hi => a2 _ _ i (hRW.2.1 i hi) (hSer i hi), fun i hi => ?_, ⟨by rw [f.2 2 p 4 (by omega) (by omega)]; exact k1, by rw [g8]; exact k2, by rw [g8]; exact k3, by rw [g8]; exact k4, by rw [g8]; exact k5⟩, CF.use hL f, Rmc.eq f.1.1 f.1.2.1 f.1.2.2.2.1 f.1.2.2.2.2.1, fun j => f.2 10 11 j (by omega) (fun q => by rw [lr_4_1_0 hL, lr_4_1_1 hL] at q; omega), f.1.2.2.2.1, f.1.2.2.2.2.1⟩
      rw [f.1.1, a3, a3]
      exact hLt i hi
    by_cases hf : (xR x).length = mo
    · rw [if_pos hf]
      have hcut := last_cut (R := xR x) (by omega)
      have hy : (xR x).getLastD 0 ∈ xR x := last_mem (by omega)
      generalize (xR x).getLastD 0 = y at hcut hy
      have hy10 := hRW.2.1 y hy
      have her : (xR x).erase y = (xR x).dropLast := by
        have hnd := hRW.1
        generalize (xR x).dropLast = R0 at hcut
        rw [hcut] at hnd ⊢
        have := er_cut (A := R0) (B := []) (id := y) hnd
        rw [List.append_nil] at this
        exact this
      obtain ⟨s1, y1, y2, y3⟩ := X4_full (fu := fu) hR hne hRW hcut hid hin (by omega) hm6 t (by omega)
      obtain ⟨a1, a2, a3, a4, a5, a6, a7, a8, a9⟩ := keep s1 y3
      let s2 := sI s1 8 1 16 (gI s1 8 1 16 + 1)
      have G : ∀ k i j, ¬ (k = 8 ∧ i = 1 ∧ j = 16) → gI s2 k i j = gI s1 k i j := fun k i j hk => by show gI (sI s1 8 1 16 _) k i j = _; rw [gI_sI, if_neg hk]
      have hC2 : CF s1 s2 := CF.f8 s1 (by omega) (by omega) _
      have hB2 : Bas s2 p n S K := a1.keep ⟨rfl, rfl, rfl⟩ hC2
      have hR2 : Ros s2 1 (id :: xR (puA (leA x y))) (uph (xH (puA (leA x y))) id t) := by
        show Ros s2 1 (id :: (xR x).erase y) (uph (xH x) id t)
        rw [her]
        exact y2.cong a1.1.1 hB2.1.1 (G 4 1 2 (by omega)) (fun j => G 10 5 j (by omega)) (fun j => G 10 6 j (by omega))
      have hRW2 : RW (id :: xR (puA (leA x y))) := by
        have w := hRW.er y
        refine ⟨List.nodup_cons.mpr ⟨fun q => hin (List.mem_of_mem_erase q), w.1⟩, fun i hi => (List.mem_cons.mp hi).elim (fun q => by rw [q]; exact hid) (w.2.1 i), ?_⟩
        have := List.erase_sublist (a := y) (l := xR x) |>.length_le
        show (id :: (xR x).erase y).length ≤ 10
        rw [List.length_cons]; omega
      have hmem : ∀ i ∈ xR (puA (leA x y)), i ∈ xR x ∧ ¬ i = y := fun i hi => by
        have := (nd_er hRW y i).mp hi
        exact ⟨this.2, this.1⟩
      obtain ⟨s3, z1, z2, z3, z4, z5⟩ := X8_b47n (fu := fu) (x := puA (leA x y)) hB2 hid (t := t) hR2 hRW2 (fun i hi => by
          obtain ⟨m1, m2⟩ := hmem i hi
          show SerI s2 p n S K (xH x i).toInt (upP (xP x) y [] i) i
          rw [upP_ne _ _ m2]
          exact (a2 i m1).keep hB2.2.1.2.2.1 ⟨rfl, rfl⟩ (G 5 _ 8 (by omega)) (fun j m _ => G 10 _ m (by omega)) (fun _ => rfl)) (by
          show upP (xP x) y [] id = []
          rw [upP_ne _ _ (fun q => hin (by rw [q]; exact hy))]
          exact hE id hid hin) (fun i hi => by
          have r : gR s2 = gR s1 := rfl
          rw [r, G 5 _ 9 (by omega), G 5 _ 10 (by omega)]
          exact a3 i (hmem i hi).1) (mo := mo) ⟨by rw [G 2 p 4 (by omega)]; exact a4.1, by rw [G 8 1 14 (by omega)]; exact a4.2.1, by
            show gI (sI s1 8 1 16 (gI s1 8 1 16 + 1)) 8 1 16 = (xC x).2.1 + 1
            rw [gI_sI, if_pos ⟨rfl, rfl, rfl⟩, a4.2.2.1], by rw [G 8 1 17 (by omega)]; exact a4.2.2.2.1, by rw [G 8 1 18 (by omega)]; exact a4.2.2.2.2⟩ h1 h2 (by show cn s1 + 8 ≤ _; omega) (by show sn s1 + 99 ≤ _; omega) hfu
      refine ⟨s3, ?_, z2, (a5.tr hC2).tr z3, (a6.tr (Rmc.eq rfl rfl rfl rfl)).tr z4, fun j => by rw [z5, G 10 11 j (by omega), a7]⟩
      unfold f_X8_bring
      rw [if_neg e10, q84, if_neg e10, hkx]
      simp only [bI, reduceIte]
      unfold f_X8_bring_b16
      rw [if_neg e10, hp12, if_neg hp0, q84, if_neg e10, k1, y1]
      simp only [bI, ni_m1 (show y < 2147483648 by omega), reduceIte, lt]
      exact z1
    · rw [if_neg hf]
      obtain ⟨s1, y1, y2, y3⟩ := X4_free (fu := fu) hR hne hRW hid hin (mo := mo) (by omega) hm6 t (by omega)
      obtain ⟨a1, a2, a3, a4, a5, a6, a7, a8, a9⟩ := keep s1 y3
      have hRW2 : RW (id :: xR x) := ⟨List.nodup_cons.mpr ⟨hin, hRW.1⟩, fun i hi => (List.mem_cons.mp hi).elim (fun q => by rw [q]; exact hid) (hRW.2.1 i), by rw [List.length_cons]; omega⟩
      obtain ⟨s3, z1, z2, z3, z4, z5⟩ := X8_b47n (fu := fu) (x := x) (mo := mo) a1 hid (t := t) y2 hRW2 a2 (hE id hid hin) a3 a4 h1 h2 (by omega) (by omega) hfu
      refine ⟨s3, ?_, z2, a5.tr z3, a6.tr z4, fun j => by rw [z5, a7]⟩
      unfold f_X8_bring
      rw [if_neg e10, q84, if_neg e10, hkx]
      simp only [bI, reduceIte]
      unfold f_X8_bring_b16
      rw [if_neg e10, hp12, if_neg hp0, q84, if_neg e10, k1, y1]
      simp only [bI, reduceIte]
      exact z1
end BR2
