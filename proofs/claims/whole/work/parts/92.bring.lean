/-! ===== the class: bring, place ===== -/
def CI (s : St) (p n : Nat) (S K : Nat → Int) (mo : Nat) (x : Ab) : Prop :=
  Bas s p n S K ∧ (Ros s 1 (xR x) (xH x) ∧ RW (xR x)) ∧ (∀ i ∈ xR x, SerI s p n S K (xH x i).toInt (xP x i) i) ∧ LtC s (xR x) (xT x) (xS x) ∧ CsC s p (nI mo) (xC x)
theorem CI.cq {s : St} {p n mo : Nat} {S K : Nat → Int} {x : Ab} (h : CI s p n S K mo x) : CQ s p n S K (xR x) (xH x) (xP x) := ⟨h.1.1, h.1.2.1, h.2.1, h.2.2.1⟩
theorem er_cut {A B : List Nat} {id : Nat} (h : (A ++ id :: B).Nodup) : (A ++ id :: B).erase id = A ++ B := by
  have h1 := (List.nodup_append.mp h).2.2
  rw [List.erase_append_right _ (fun q => h1 id q id List.mem_cons_self rfl), List.erase_cons_head]
section BRI
variable {s s' : St} {p n mo fu : Nat} {S K : Nat → Int} {x : Ab}
theorem Ros.cong {R : List Nat} {H : Nat → Int32} (h : Ros s 1 R H) (hL : Lay s) (hL' : Lay s') (h4 : gI s' 4 1 2 = gI s 4 1 2) (h5 : ∀ j, gI s' 10 5 j = gI s 10 5 j) (h6 : ∀ j, gI s' 10 6 j = gI s 10 6 j) : Ros s' 1 R H := by
  obtain ⟨r1, r2, r3, r4, r5⟩ := h
  rw [lr_4_1_0 hL] at r4
  rw [lr_4_1_1 hL] at r5
  refine ⟨by rw [lr_4_1_0 hL', lr_4_1_1 hL']; decide, by rw [lr_4_1_0 hL', lr_4_1_1 hL', ll_10_5 hL', ll_10_6 hL']; decide, by rw [h4]; exact r3, fun j i hj => ?_, fun i hi => ?_⟩
  · rw [lr_4_1_0 hL', h5]; exact r4 j i hj
  · rw [lr_4_1_1 hL', h6]; exact r5 i hi
theorem Sfr.low {id : Nat} (hS : Sep s) (hL : Lay s) (hid : id < 10) (ho : ¬ gR s 14 1 id = 0) (f : Sfr s s' (gR s 14 1 id)) : (∀ k i j, ¬ k = 5 → ¬ k = 10 → ¬ k = 11 → gI s' k i j = gI s k i j) ∧ ∀ a j, a ≤ 38 → gI s' 10 a j = gI s 10 a j := by
  have hN := ln_10 hL
  refine ⟨fun k i j k5 k10 k11 => f.2.2.2.1 k i j (fun q => by omega) (fun q => k5 q.1) (fun q => k10 q.1), fun a j ha => f.2.2.2.1 10 a j (fun _ => by omega) (fun q => absurd q.1 (by decide)) (fun q => ?_)⟩
  obtain ⟨-, j', hj', e⟩ := q
  have := hS.1 id j' hid ho hj'
  omega
theorem b5_le {s : St} (hL : Lay s) {p : Nat} (hp : p = 1 ∨ p = 2) : gR s 2 p 0 ≤ 38 ∧ gR s 2 p 1 ≤ 38 := by have := pl_lo hL hp; omega
/-- the series is there -/
theorem X8_bring_k (h : CI s p n S K mo x) (hA : AbW mo x) {id : Nat} (hin : id ∈ xR x) {t : Int32} (h1 : -1000000 ≤ t.toInt) (h2 : t.toInt ≤ 1000000) (hfu : 50000 ≤ fu) :
    ∃ s', f_X8_bring fu s 1 (nI id) t = some (s', gR s' 14 1 id) ∧ CI s' p n S K mo (riK n S K x id t) ∧ CF s s' ∧ Rmc s s' ∧ (∀ j, gI s' 10 11 j = gI s 10 11 j) := by
  have e10 : ¬ (1 = 0) := by decide
  obtain ⟨hB, ⟨hR, hRW⟩, hSer, hLt, ⟨k1, k2, k3, k4, k5⟩⟩ := h
  have hL := hB.1.1
  have hid := hRW.2.1 id hin
  have b : inb (nI id) 10 = true := nu_inbn (by omega) (by omega)
  have hp := hB.2.1.1
  have hp12 := hB.2.1.2.1
  have hp0 : ¬ p = 0 := by omega
  have hb := hA.1 id hin
  have hmx := mx_i (xH x id) t
  obtain ⟨A, B, e⟩ := List.append_of_mem hin
  have her : (xR x).erase id = A ++ B := by rw [e]; exact er_cut (by rw [← e]; exact hRW.1)
  have hne : ¬ gR s 4 1 1 = gR s 4 1 0 := by rw [lr_4_1_0 hL, lr_4_1_1 hL]; decide
  obtain ⟨s1, y1, y2, y3⟩ := X4_hit (fu := fu) hR hne hRW e t (nI mo) (by omega)
  obtain ⟨hB1, hk1, hf1⟩ := hB.use y3
  have hC1 := CF.use hL y3
  have hL1 := hB1.1.1
  have hS1 := hB1.1.2
  obtain ⟨o1, GG, g1, g2, g3⟩ := hk1 _ _ id hid (hSer id hin)
  obtain ⟨c, e0, hO, hc, he, hc1, hc2⟩ := hB1.2.2.1 id hid o1
  have h16 : 16 * 2 ^ e0 ≤ 65536 := by
    have : 2 ^ e0 ≤ 2 ^ 11 := Nat.pow_le_pow_right (by decide) he
    have : (2 : Nat) ^ 11 = 2048 := by decide
    omega
  obtain ⟨s2, GG', w1, w2, w3, w4, w5, w6, w7⟩ := X5_move (fu := fu) hB1.2.1.2.2.2 g2 g3 hO hc h16 (b5_le hL1 hp) hc1 hc2 (t := mx (xH x id) t) (by omega) (by omega) hfu
  rw [← g1] at w1 w2 w7
  have hSf := w5.sf
  have hO2 := w5.own hO
  obtain ⟨hB2, hk2, r14, hf2, -⟩ := hB1.sfr hid o1 hSf hO2 hc he hc1 hc2
  have hC2 := CF.sfr hid o1 hSf
  obtain ⟨low1, low2⟩ := Sfr.low hS1 hL1 hid o1 hSf
  generalize hcl : cl (xP x id) (sm n S K (mx (xH x id) t).toInt (n - 1)) = cc at w1 w2 w7
  let s3 := sI s2 8 1 18 (gI s1 8 1 18 + nI cc)
  have G : ∀ k i j, ¬ (k = 8 ∧ i = 1 ∧ j = 18) → gI s3 k i j = gI s2 k i j := fun k i j hk => by show gI (sI s2 8 1 18 _) k i j = _; rw [gI_sI, if_neg hk]
  have hC3 : CF s2 s3 := CF.f8 s2 (by omega) (by omega) _
  have hB3 : Bas s3 p n S K := hB2.keep ⟨rfl, rfl, rfl⟩ hC3
  have r14' : ∀ i, i < 10 → gR s3 14 1 i = gR s 14 1 i := fun i hi => by show gR s2 14 1 i = _; rw [r14 i hi, y3.1.1]
  have o0 : ¬ gR s 14 1 id = 0 := by rw [y3.1.1] at o1; exact o1
  have g8 : ∀ j, gI s1 8 1 j = gI s 8 1 j := fun j => y3.2 8 1 j (by omega) (by omega)
  have g2p : ∀ i j, gI s1 2 i j = gI s 2 i j := fun i j => y3.2 2 i j (by omega) (by omega)
  have g11 : ∀ j, gI s1 10 11 j = gI s 10 11 j := fun j => y3.2 10 11 j (by omega) (fun q => by rw [lr_4_1_0 hL, lr_4_1_1 hL] at q; omega)
  refine ⟨s3, ?_, ⟨hB3, ⟨?_, ?_⟩, fun i hi => ?_, fun i hi => ?_, ⟨?_, ?_, ?_, ?_, ?_⟩⟩, (hC1.tr hC2).tr hC3, ?_, fun j => by rw [G 10 11 j (by omega), low2 11 j (by omega), g11]⟩
  · have hkn := X4_kn (fu := fu) hR hRW hin (by omega)
    have q84 := lr_8_1_4 hL
    have z6 : gI s1 10 6 id = mx (xH x id) t := by
      have := y2.2.2.2.2 id List.mem_cons_self
      rw [lr_4_1_1 hL1, uph_at] at this
      exact this
    unfold f_X8_bring
    rw [if_neg e10, q84, if_neg e10, hkn]
    simp only [bI, show ¬ (1 : Int32) = 0 from by decide, reduceIte]
    unfold f_X8_bring_b16
    rw [if_neg e10, hp12, if_neg hp0, q84, if_neg e10, k1, y1]
    simp only [bI, reduceIte]
    unfold f_X8_bring_b47
    rw [if_neg e10, X8_rows hL1 hid o1 fu]
    simp only [bI, reduceIte, lr_8_1_4 hL1, e10, lr_4_1_1 hL1, show ¬ (6 = 0) from by decide, ll_10_6 hL1, b, Bool.true_eq_false, o1, nu_ixn (show id < 2147483648 by omega), z6, w1, lt]
    show some (s3, gR s1 14 1 id) = some (s3, gR s3 14 1 id)
    rw [r14' id hid, y3.1.1]
  · show Ros s3 1 (id :: (xR x).erase id) (uph (xH x) id (mx (xH x id) t))
    rw [her]
    exact y2.cong hL1 hB3.1.1 (by rw [G 4 1 2 (by omega), low1 4 1 2 (by decide) (by decide) (by decide)]) (fun j => by rw [G 10 5 j (by omega), low2 5 j (by omega)]) (fun j => by rw [G 10 6 j (by omega), low2 6 j (by omega)])
  · exact hRW.up hid (by have := hA.2.2.1; have := hA.2.2.2.2; omega)
  · show SerI s3 p n S K (uph (xH x) id (mx (xH x id) t) i).toInt (upP (xP x) id ((xP x id).drop (cl (xP x id) (sm n S K (mx (xH x id) t).toInt (n - 1)))) i) i
    rw [hcl]
    have hPl3 := hB3.2.1.2.2.1
    by_cases c0 : i = id
    · rw [c0, uph_at, upP_at]
      have : SerI s2 p n S K (mx (xH x id) t).toInt ((xP x id).drop cc) id := ⟨by rw [r14 id hid]; exact o1, GG', w2.symm, w3, by rw [r14 id hid]; exact w4⟩
      exact this.keep hPl3 ⟨rfl, rfl⟩ (G 5 _ 8 (by omega)) (fun j m _ => G 10 _ m (by omega)) (fun _ => rfl)
    · rw [uph_ne _ _ c0, upP_ne _ _ c0]
      have hi' : i ∈ xR x := (List.mem_cons.mp hi).elim (fun q => absurd q c0) (fun q => List.mem_of_mem_erase q)
      have hi10 := hRW.2.1 i hi'
      exact (hk2 _ _ i hi10 c0 (hk1 _ _ i hi10 (hSer i hi'))).keep hPl3 ⟨rfl, rfl⟩ (G 5 _ 8 (by omega)) (fun j m _ => G 10 _ m (by omega)) (fun _ => rfl)
  · show gI s3 5 (gR s3 14 1 i) 9 = xT x i ∧ gI s3 5 (gR s3 14 1 i) 10 = uph (xS x) id (xS x id + nI (cl (xP x id) (sm n S K (mx (xH x id) t).toInt (n - 1)))) i
    rw [hcl]
    by_cases c0 : i = id
    · have hl := hLt id hin
      rw [c0, uph_at, r14' id hid, G 5 _ 9 (by omega), G 5 _ 10 (by omega)]
      rw [y3.1.1] at w6 w7
      rw [w6, w7, hf1, hf1]
      rw [hl.1, hl.2]
      exact ⟨rfl, rfl⟩
    · have hi' : i ∈ xR x := (List.mem_cons.mp hi).elim (fun q => absurd q c0) (fun q => List.mem_of_mem_erase q)
      have hi10 := hRW.2.1 i hi'
      have oi : ¬ gR s1 14 1 i = 0 := by rw [y3.1.1]; exact (hSer i hi').1
      rw [uph_ne _ _ c0, r14' i hi10, G 5 _ 9 (by omega), G 5 _ 10 (by omega)]
      have q9 := hf2 i 9 hi10 c0 oi
      have q10 := hf2 i 10 hi10 c0 oi
      rw [y3.1.1] at q9 q10
      rw [q9, q10, hf1, hf1]
      exact hLt i hi'
  · rw [G 2 p 4 (by omega), low1 2 p 4 (by decide) (by decide) (by decide), g2p]; exact k1
  · rw [G 8 1 14 (by omega), low1 8 1 14 (by decide) (by decide) (by decide), g8]; exact k2
  · rw [G 8 1 16 (by omega), low1 8 1 16 (by decide) (by decide) (by decide), g8]; exact k3
  · rw [G 8 1 17 (by omega), low1 8 1 17 (by decide) (by decide) (by decide), g8]; exact k4
  · show gI (sI s2 8 1 18 (gI s1 8 1 18 + nI cc)) 8 1 18 = (xC x).2.2.2 + nI (cl (xP x id) (sm n S K (mx (xH x id) t).toInt (n - 1)))
    rw [gI_sI, if_pos ⟨rfl, rfl, rfl⟩, g8, k5, hcl]
  · refine ((Rmc.eq y3.1.1 y3.1.2.1 y3.1.2.2.2.1 y3.1.2.2.2.2.1).tr (Rmc.eq w5.1.1 w5.1.2.1 w5.1.2.2.2.1 w5.1.2.2.2.2)).tr (Rmc.eq rfl rfl rfl rfl)
end BRI
