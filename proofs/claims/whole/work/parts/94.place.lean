/-! ===== the class: place ===== -/
def Bdg (s : St) (d d' : Nat) : Prop := (cn s ≤ d + skn s 10 ∧ sn s ≤ d' + 10 * skn s 10) ∧ d ≤ 270000 ∧ d' ≤ 3500000
theorem Bdg.rmc {s s' : St} {d d' : Nat} (h : Bdg s d d') (f : Rmc s s') : Bdg s' d d' := by
  obtain ⟨⟨a1, a2⟩, a3⟩ := h
  obtain ⟨b1, b2⟩ := f
  exact ⟨⟨by omega, by omega⟩, a3⟩
theorem kS_le {s : St} (h : OwnA s) {i : Nat} (hi : i < 10) : kS s i ≤ 32768 := by
  unfold kS
  by_cases h0 : gR s 14 1 i = 0
  · rw [if_pos h0]; omega
  · obtain ⟨c, e, h1, h2, h3, -⟩ := h.1 i hi h0
    rw [if_neg h0, h1.2.2.2.2.1 3 jn3, h2.1]
    have : 2 ^ e ≤ 2 ^ 11 := Nat.pow_le_pow_right (by decide) h3
    have : (2 : Nat) ^ 11 = 2048 := by decide
    omega
theorem skn_le {s : St} (h : OwnA s) : ∀ m, m ≤ 10 → skn s m ≤ 32768 * m := by
  intro m
  induction m with
  | zero => intro _; exact Nat.le_refl _
  | succ m ih => intro hm; have := ih (by omega); have := kS_le h (i := m) (by omega); rw [skn_s]; omega
theorem Bdg.rm {s : St} {d d' : Nat} (h : Bdg s d d') (hO : OwnA s) : cn s ≤ 597680 ∧ sn s ≤ 6776800 := by
  have := skn_le hO 10 (Nat.le_refl _)
  obtain ⟨⟨a1, a2⟩, a3, a4⟩ := h
  omega
theorem len_off (P : Nat → List Pt) {i : Nat} (hi : i < 10) : (P i).length ≤ off P 10 := by
  have : off P (i + 1) ≤ off P 10 := off_mono P (by omega)
  rw [off_s] at this
  omega
section PLA
variable {s s' : St} {p n mo fu d d' : Nat} {S K : Nat → Int} {x : Ab}
theorem X8_place (h : CI s p n S K mo x) (hA : AbW mo x) {id : Nat} (hid : id < 10) {t v : Int32} (h1 : -1000000 ≤ t.toInt) (h2 : t.toInt ≤ 1000000) (h3 : -10000 ≤ v.toInt ∧ v.toInt ≤ 10000) (hlate : sm n S K (xH (rise n S K mo x id t) id).toInt (n - 1) ≤ t.toInt) (hN : off (xP (rise n S K mo x id t)) 10 < 32768) (hb : Bdg s d d') (hfu : 50000 ≤ fu) :
    ∃ s', f_X8_place fu s 1 (nI id) t v = some (s', tc (tq (sm n S K (xH (rise n S K mo x id t) id).toInt) n t.toInt)) ∧ CI s' p n S K mo (putA n S K mo x id t v) ∧ CF s s' ∧ Rmc s s' ∧ (∀ j, gI s' 10 11 j = gI s 10 11 j) := by
  have e10 : ¬ (1 = 0) := by decide
  have hrm := hb.rm h.1.2.2
  obtain ⟨s1, y1, y2, y3, y4, y5⟩ := X8_bring (fu := fu) h hA hid h1 h2 (by omega) (by omega) hfu
  obtain ⟨-, hin, hth⟩ := rise_w (n := n) (S := S) (K := K) h.2.1.2 hA hid h1 h2
  unfold putA
  generalize rise n S K mo x id t = x' at y2 hlate hN hin hth
  have hb1 := hb.rmc y4
  have hrm1 := hb1.rm y2.1.2.2
  obtain ⟨hB, ⟨hR, hRW⟩, hSer, hLt, ⟨k1, k2, k3, k4, k5⟩⟩ := y2
  have hL := hB.1.1
  have hS := hB.1.2
  have hp := hB.2.1.1
  obtain ⟨o1, GG, g1, g2, g3⟩ := hSer id hin
  obtain ⟨c, e, hO, hc, he, hc1, hc2⟩ := hB.2.2.1 id hid o1
  have h2e : 2 ^ e ≤ 2 ^ 11 := Nat.pow_le_pow_right (by decide) he
  have h11 : (2 : Nat) ^ 11 = 2048 := by decide
  have h2p : 1 ≤ 2 ^ e := Nat.one_le_two_pow
  have hlen := len_off (xP x') hid
  rw [g1] at hlen
  obtain ⟨s2, c', k', GG', w1, w2, w3, w4, w5, w6, w7, w8, w9, w10, w11⟩ := X5_add (fu := fu) hB.2.1.2.2.2 g2 g3 hO hc (b5_le hL hp) (t := t) (v := v) hlate hth h3 (by omega) (by omega) (by omega) (by omega) (by omega) hfu
  have hke : ∃ e', k' = 16 * 2 ^ e' ∧ e' ≤ 11 := by
    rcases w11 with q | q
    · exact ⟨e, q.1, he⟩
    · refine ⟨e + 1, by rw [q.1, Nat.pow_succ]; omega, ?_⟩
      have : ¬ e = 11 := fun w => by rw [w, h11] at q; omega
      omega
  obtain ⟨e', hk', he'⟩ := hke
  rw [hk'] at w6
  obtain ⟨hB2, hk2, r14, hf2, hkS⟩ := hB.sfr hid o1 w9 w5 w6 he' (w7.trans hc1) (w8.trans hc2)
  have hC2 := CF.sfr hid o1 w9
  obtain ⟨low1, low2⟩ := Sfr.low hS hL hid o1 w9
  refine ⟨s2, ?_, ⟨hB2, ⟨?_, hRW⟩, fun i hi => ?_, fun i hi => ?_, ⟨?_, ?_, ?_, ?_, ?_⟩⟩, y3.tr hC2, y4.tr ?_, fun j => by rw [low2 11 j (by omega), y5]⟩
  · unfold f_X8_place
    rw [if_neg e10, y1]
    simp only [bI, o1, reduceIte]
    rw [w1]
    simp only [bV]
    rw [X5_to hB.2.1.2.2.2 w3 w4 t (by omega)]
  · exact hR.cong hL hB2.1.1 (low1 4 1 2 (by decide) (by decide) (by decide)) (fun j => low2 5 j (by omega)) (fun j => low2 6 j (by omega))
  · show SerI s2 p n S K (xH x' i).toInt (upP (xP x') id (ins (t, v) (xP x' id)) i) i
    by_cases c0 : i = id
    · rw [c0, upP_at, g1, ← w2]
      exact ⟨by rw [r14 id hid]; exact o1, GG', rfl, w3, by rw [r14 id hid]; exact w4⟩
    · rw [upP_ne _ _ c0]
      exact hk2 _ _ i (hRW.2.1 i hi) c0 (hSer i hi)
  · show gI s2 5 (gR s2 14 1 i) 9 = xT x' i ∧ gI s2 5 (gR s2 14 1 i) 10 = xS x' i
    have hi10 := hRW.2.1 i hi
    rw [r14 i hi10]
    by_cases c0 : i = id
    · rw [c0, w10.1, w10.2]; exact hLt id hin
    · rw [hf2 i 9 hi10 c0 (hSer i hi).1, hf2 i 10 hi10 c0 (hSer i hi).1]; exact hLt i hi
  · rw [low1 2 p 4 (by decide) (by decide) (by decide)]; exact k1
  · rw [low1 8 1 14 (by decide) (by decide) (by decide)]; exact k2
  · rw [low1 8 1 16 (by decide) (by decide) (by decide)]; exact k3
  · rw [low1 8 1 17 (by decide) (by decide) (by decide)]; exact k4
  · rw [low1 8 1 18 (by decide) (by decide) (by decide)]; exact k5
  · have q1 : kS s1 id = 16 * 2 ^ e := by unfold kS; rw [if_neg o1, hO.2.2.2.2.1 3 jn3, hc.1]
    have q2 : kS s2 id = k' := by unfold kS; rw [r14 id hid, if_neg o1, w5.2.2.2.2.1 3 jn3, w6.1, hk']
    have q3 := (skn_one hkS 10 (Nat.le_refl _)).2 hid
    unfold Rmc
    omega
/-- what isn't late isn't late when it has come -/
theorem not_late (V : VP n S K) {id : Nat} {t : Int32} (hl : id ∈ xR x → sm n S K (xH x id).toInt (n - 1) ≤ t.toInt) : sm n S K (xH (rise n S K mo x id t) id).toInt (n - 1) ≤ t.toInt := by
  have hn := V.1
  have hself : sm n S K t.toInt (n - 1) ≤ t.toInt := Int.le_trans (sm_anti V t.toInt (i := 0) (j := n - 1) (by omega) (by omega)) (sm_hd V t.toInt)
  unfold rise
  by_cases hin : id ∈ xR x
  · rw [if_pos hin]
    show sm n S K (uph (xH x) id (mx (xH x id) t) id).toInt (n - 1) ≤ t.toInt
    rw [uph_at]
    unfold mx
    by_cases c : xH x id < t
    · rw [if_pos c]; exact hself
    · rw [if_neg c]; exact hl hin
  · rw [if_neg hin]
    by_cases hf : (xR x).length = mo
    · rw [if_pos hf]
      show sm n S K (uph (xH x) id t id).toInt (n - 1) ≤ t.toInt
      rw [uph_at]; exact hself
    · rw [if_neg hf]
      show sm n S K (uph (xH x) id t id).toInt (n - 1) ≤ t.toInt
      rw [uph_at]; exact hself
/-- points that come and go -/
theorem rise_off {id : Nat} (hid : id < 10) (hRW : RW (xR x)) (t : Int32) : off (xP (rise n S K mo x id t)) 10 ≤ off (xP x) 10 := by
  unfold rise
  by_cases hin : id ∈ xR x
  · rw [if_pos hin]
    exact off_up_le (xP x) hid (by rw [List.length_drop]; omega)
  · rw [if_neg hin]
    by_cases hf : (xR x).length = mo
    · rw [if_pos hf]
      by_cases hne : 1 ≤ (xR x).length
      · exact off_up_le (xP x) (hRW.2.1 _ (last_mem hne)) (Nat.zero_le _)
      · have : xR x = [] := List.eq_nil_of_length_eq_zero (by omega)
        show off (upP (xP x) ((xR x).getLastD 0) []) 10 ≤ _
        rw [this]
        exact off_up_le (xP x) (by decide) (Nat.zero_le _)
    · rw [if_neg hf]; exact Nat.le_refl _
theorem putA_off {id : Nat} (hid : id < 10) (hRW : RW (xR x)) (t v : Int32) : off (xP (putA n S K mo x id t v)) 10 ≤ off (xP x) 10 + 1 := by
  have h1 := rise_off (n := n) (S := S) (K := K) (mo := mo) hid hRW t
  have h2 := off_hi (xP (rise n S K mo x id t)) id (ins (t, v) (xP (rise n S K mo x id t) id)) 10 hid
  rw [ins_len] at h2
  show off (upP (xP (rise n S K mo x id t)) id (ins (t, v) (xP (rise n S K mo x id t) id))) 10 ≤ _
  omega
theorem putA_w {id : Nat} (hRW : RW (xR x)) (hA : AbW mo x) (hid : id < 10) {t : Int32} (h1 : -1000000 ≤ t.toInt) (h2 : t.toInt ≤ 1000000) (v : Int32) : AbW mo (putA n S K mo x id t v) := by
  obtain ⟨⟨a1, a2, a3⟩, hin, -⟩ := rise_w (n := n) (S := S) (K := K) hRW hA hid h1 h2
  refine ⟨a1, fun i hi hn => ?_, a3⟩
  show upP _ id _ i = []
  rw [upP_ne _ _ (fun q => hn (by rw [q]; exact hin))]
  exact a2 i hi hn
end PLA
