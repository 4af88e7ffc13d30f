/-! ===== makeRoom, openAt, add ===== -/
def eqC (c : Nat → Nat) (k : Nat) : Prop := c 3 = k ∧ c 4 = k ∧ c 5 = k ∧ c 6 = k ∧ c 7 = k
def cpS (s : St) (o f m : Nat) : St := wI (nW s 10 m m) 10 (gN s 10 + 1) (va_cpy (gI s 10 (gR s 5 o f)) (fun _ => 0) 0 0 (gL s 10 (gR s 5 o f)))
def cpJ (s : St) (o m : Nat) : St := wJ (nW s 11 m m) 11 (gN s 11 + 1) (va_cpy (gJ s 11 (gR s 5 o 5)) (fun _ => 0) 0 0 (gL s 11 (gR s 5 o 5)))
theorem cpS_g (s : St) (o f m : Nat) : sR (cpS s o f m) 5 o f (gN s 10 + 1) = grI s o f m := rfl
theorem cpJ_g (s : St) (o m : Nat) : sR (cpJ s o m) 5 o 5 (gN s 11 + 1) = grJ s o m := rfl
theorem jn1 : Jn 1 := Or.inl rfl
theorem jn2 : Jn 2 := Or.inr (Or.inl rfl)
theorem jn3 : Jn 3 := Or.inr (Or.inr (Or.inl rfl))
theorem jn4 : Jn 4 := Or.inr (Or.inr (Or.inr (Or.inl rfl)))
theorem jn6 : Jn 6 := Or.inr (Or.inr (Or.inr (Or.inr (Or.inl rfl))))
theorem jn7 : Jn 7 := Or.inr (Or.inr (Or.inr (Or.inr (Or.inr rfl))))
theorem mn_nI {a b : Nat} (h : a ≤ b) (hb : b < 2147483648) : mn (nI a) (nI b) = nI a := nu_ext (by rw [mn_i, nu_nI (by omega), nu_nI hb]; omega)
theorem szb_nI {m : Nat} (h : m ≤ 16777216) : szb (nI m) = true := decide_eq_true (p := 0 ≤ (nI m).toInt ∧ (nI m).toInt ≤ 16777216) (by rw [nu_nI (by omega)]; omega)
theorem cpb_nI {p m z : Nat} (h : p + m ≤ z) (hz : z < 2147483648) : cpb (nI p) (nI m) z = true := decide_eq_true (p := 0 ≤ (nI p).toInt ∧ 0 ≤ (nI m).toInt ∧ (nI p).toInt + (nI m).toInt ≤ (z : Int)) (by rw [nu_nI (by omega), nu_nI (by omega)]; omega)
theorem rmb_of {s : St} (h1 : cn s ≤ 601024) (h2 : sn s ≤ 7293034) : rmb s = true := decide_eq_true (p := cn s ≤ 601024 ∧ sn s ≤ 7293034) ⟨h1, h2⟩
section ROOM
variable {s : St} {o p n : Nat} {S K : Nat → Int} {fu : Nat} {c : Nat → Nat}
theorem J_cpI (hO : OwnC s o c) {f : Nat} (hf : Jn f) {k : Nat} (hk : c f = k) (h1 : 1 ≤ k) (h2 : k ≤ 32768) (hr1 : cn s + 1 ≤ 601024) (hr2 : sn s + 2 * k ≤ 7293034) : f_J7_copyOf_59c91 fu s (gR s 5 o f) (nI (2 * k)) = some (cpS s o f (2 * k), gN s 10 + 1) := by
  obtain ⟨-, h3, -, -, h6, -⟩ := hO
  have a1 := h3 f hf
  have a2 := h6 f hf
  rw [hk] at a2
  have e1 : gL (nW s 10 (2 * k) (2 * k)) 10 (gR s 5 o f) = k := by rw [gL_nW, if_neg (fun q => by omega)]; exact a2
  have e2 : gL (nW s 10 (2 * k) (2 * k)) 10 (gN s 10 + 1) = 2 * k := by rw [gL_nW, if_pos ⟨rfl, rfl⟩]
  have e3 : gI (nW s 10 (2 * k) (2 * k)) 10 (gR s 5 o f) = gI s 10 (gR s 5 o f) := by funext j; rw [gI_nW, if_neg (fun q => by omega)]
  have e4 : gI (nW s 10 (2 * k) (2 * k)) 10 (gN s 10 + 1) = fun _ => 0 := by funext j; rw [gI_nW, if_pos ⟨rfl, rfl⟩]
  have r : rmb (nW s 10 (2 * k) (2 * k)) = true := rmb_of (by rw [cn_nW]; omega) (by rw [sn_nW]; omega)
  have c1 : cpb 0 (nI k) k = true := cpb_nI (p := 0) (by omega) (by omega)
  have c2 : cpb 0 (nI k) (2 * k) = true := cpb_nI (p := 0) (by omega) (by omega)
  unfold f_J7_copyOf_59c91
  rw [if_neg (by omega), a2, if_neg (fun q => by have := (ni_eq (by omega) (by omega)).mp q; omega)]
  simp only [szb_nI (show 2 * k ≤ 16777216 by omega), Bool.true_eq_false, reduceIte, lt, nu_ixn (show 2 * k < 2147483648 by omega), r, e1, J_min, bI, mn_nI (show k ≤ 2 * k by omega) (by omega), c1, c2, e2, e3, e4, nu_ixn (show k < 2147483648 by omega)]
  unfold cpS
  rw [a2]
  rfl
theorem J_cpJ (hO : OwnC s o c) {k : Nat} (hk : c 5 = k) (h1 : 1 ≤ k) (h2 : k ≤ 32768) (hr1 : cn s + 1 ≤ 601024) (hr2 : sn s + 2 * k ≤ 7293034) : f_J7_copyOf_c38d5 fu s (gR s 5 o 5) (nI (2 * k)) = some (cpJ s o (2 * k), gN s 11 + 1) := by
  obtain ⟨-, -, a1, -, -, a2⟩ := hO
  rw [hk] at a2
  have e1 : gL (nW s 11 (2 * k) (2 * k)) 11 (gR s 5 o 5) = k := by rw [gL_nW, if_neg (fun q => by omega)]; exact a2
  have e2 : gL (nW s 11 (2 * k) (2 * k)) 11 (gN s 11 + 1) = 2 * k := by rw [gL_nW, if_pos ⟨rfl, rfl⟩]
  have e3 : gJ (nW s 11 (2 * k) (2 * k)) 11 (gR s 5 o 5) = gJ s 11 (gR s 5 o 5) := by funext j; rw [gJ_nW, if_neg (fun q => by omega)]
  have e4 : gJ (nW s 11 (2 * k) (2 * k)) 11 (gN s 11 + 1) = fun _ => 0 := by funext j; rw [gJ_nW, if_pos ⟨rfl, rfl⟩]
  have r : rmb (nW s 11 (2 * k) (2 * k)) = true := rmb_of (by rw [cn_nW]; omega) (by rw [sn_nW]; omega)
  have c1 : cpb 0 (nI k) k = true := cpb_nI (p := 0) (by omega) (by omega)
  have c2 : cpb 0 (nI k) (2 * k) = true := cpb_nI (p := 0) (by omega) (by omega)
  unfold f_J7_copyOf_c38d5
  rw [if_neg (by omega), a2, if_neg (fun q => by have := (ni_eq (by omega) (by omega)).mp q; omega)]
  simp only [szb_nI (show 2 * k ≤ 16777216 by omega), Bool.true_eq_false, reduceIte, lt, nu_ixn (show 2 * k < 2147483648 by omega), r, e1, J_min, bI, mn_nI (show k ≤ 2 * k by omega) (by omega), c1, c2, e2, e3, e4, nu_ixn (show k < 2147483648 by omega)]
  unfold cpJ
  rw [a2]
  rfl
theorem X5_mr (hO : OwnC s o c) {k sz : Nat} (hc : eqC c k) (hsz : gI s 5 o 8 = nI sz) (h0 : sz ≤ k) (h1 : 1 ≤ k) (h2 : sz < 32768) (h3 : k ≤ 32768) (hr1 : cn s + 5 ≤ 601024) (hr2 : sn s + 10 * k ≤ 7293034) :
    ∃ s' c' k', f_X5_makeRoom fu s o = some (s', 1) ∧ OwnC s' o c' ∧ Sfr s s' o ∧ DC s s' o c ∧ eqC c' k' ∧ sz < k' ∧ (∀ j, c j ≤ c' j) ∧ (∀ j, j < 3 → c' j = c j) ∧ ((k' = k ∧ s' = s) ∨ (k' = 2 * k ∧ k < 32768 ∧ sz = k ∧ cn s' = cn s + 5 ∧ sn s' = sn s + 10 * k)) := by
  obtain ⟨c3, c4, c5, c6, c7⟩ := hc
  have a3 := (hO.2.1 3 jn3).1
  have l3 := hO.2.2.2.2.1 3 jn3
  rw [c3] at l3
  by_cases hz : sz < k
  · refine ⟨s, c, k, ?_, hO, Sfr.rf s o, ⟨fun _ _ _ _ => rfl, fun _ _ => rfl, fun _ => rfl, rfl⟩, ⟨c3, c4, c5, c6, c7⟩, hz, fun _ => Nat.le_refl _, fun _ _ => rfl, Or.inl ⟨rfl, rfl⟩⟩
    unfold f_X5_makeRoom
    rw [if_neg hO.1.1, if_neg (by omega), l3, hsz, if_neg (fun q => by have := (ni_le (by omega) (by omega)).mp q; omega)]
    rfl
  · have hzk : sz = k := by omega
    obtain ⟨o1, f1, d1, x1, y1⟩ := grI_own hO jn3 (m := 2 * k) (by omega)
    obtain ⟨o2, f2, d2, x2, y2⟩ := grI_own o1 jn4 (m := 2 * k) (by unfold upf; rw [if_neg (by decide)]; omega)
    obtain ⟨o3, f3, d3, x3, y3⟩ := grJ_own o2 (m := 2 * k) (by unfold upf; rw [if_neg (by decide), if_neg (by decide)]; omega)
    obtain ⟨o4, f4, d4, x4, y4⟩ := grI_own o3 jn6 (m := 2 * k) (by unfold upf; rw [if_neg (by decide), if_neg (by decide), if_neg (by decide)]; omega)
    obtain ⟨o5, f5, d5, x5, y5⟩ := grI_own o4 jn7 (m := 2 * k) (by unfold upf; rw [if_neg (by decide), if_neg (by decide), if_neg (by decide), if_neg (by decide)]; omega)
    have g1 := J_cpI (fu := fu) hO jn3 c3 h1 h3 (by omega) (by omega)
    have g2 := J_cpI (fu := fu) o1 jn4 (k := k) (by unfold upf; rw [if_neg (by decide)]; exact c4) h1 h3 (by omega) (by omega)
    have g3 := J_cpJ (fu := fu) o2 (k := k) (by unfold upf; rw [if_neg (by decide), if_neg (by decide)]; exact c5) h1 h3 (by omega) (by omega)
    have g4 := J_cpI (fu := fu) o3 jn6 (k := k) (by unfold upf; rw [if_neg (by decide), if_neg (by decide), if_neg (by decide)]; exact c6) h1 h3 (by omega) (by omega)
    have g5 := J_cpI (fu := fu) o4 jn7 (k := k) (by unfold upf; rw [if_neg (by decide), if_neg (by decide), if_neg (by decide), if_neg (by decide)]; exact c7) h1 h3 (by omega) (by omega)
    have up : ∀ (c : Nat → Nat) (f : Nat), c f ≤ 2 * k → ∀ j, c j ≤ upf c f (2 * k) j := fun c f h j => by
      unfold upf
      split
      · rename_i q; rw [q]; exact h
      · exact Nat.le_refl _
    have u1 := up c 3 (by omega)
    have u2 := up (upf c 3 (2 * k)) 4 (by unfold upf; rw [if_neg (by decide)]; omega)
    have u3 := up (upf (upf c 3 (2 * k)) 4 (2 * k)) 5 (by unfold upf; rw [if_neg (by decide), if_neg (by decide)]; omega)
    have u4 := up (upf (upf (upf c 3 (2 * k)) 4 (2 * k)) 5 (2 * k)) 6 (by unfold upf; rw [if_neg (by decide), if_neg (by decide), if_neg (by decide)]; omega)
    have u5 := up (upf (upf (upf (upf c 3 (2 * k)) 4 (2 * k)) 5 (2 * k)) 6 (2 * k)) 7 (by unfold upf; rw [if_neg (by decide), if_neg (by decide), if_neg (by decide), if_neg (by decide)]; omega)
    have t2 : (2 : Int32).toInt = 2 := rfl
    have e2k : nI k * 2 = nI (2 * k) := nu_ext (by rw [nu_mul (by rw [nu_nI (by omega), t2]; omega) (by rw [nu_nI (by omega), t2]; omega), nu_nI (by omega), nu_nI (by omega), t2]; omega)
    have hq : eqC (upf (upf (upf (upf (upf c 3 (2 * k)) 4 (2 * k)) 5 (2 * k)) 6 (2 * k)) 7 (2 * k)) (2 * k) := ⟨rfl, rfl, rfl, rfl, rfl⟩
    have hsf := (((f1.tr f2).tr f3).tr f4).tr f5
    have hdc := d1.tr u1 (d2.tr u2 (d3.tr u3 (d4.tr u4 d5)))
    refine ⟨_, _, 2 * k, ?_, o5, hsf, hdc, hq, by omega, fun j => ?_, fun j hj => by unfold upf; rw [if_neg (by omega), if_neg (by omega), if_neg (by omega), if_neg (by omega), if_neg (by omega)], Or.inr ⟨rfl, by omega, hzk, by omega, by omega⟩⟩
    · unfold f_X5_makeRoom
      rw [if_neg hO.1.1, if_neg (by omega), l3, hsz, if_pos ((ni_le (by omega) (by omega)).mpr (by omega)), if_pos (show nI k < (32768 : Int32) from (ni_lt (b := 32768) (by omega) (by omega)).mpr (by omega)), e2k]
      simp only [lt, g1, bI, cpS_g, g2, g3, cpJ_g, g4, g5, zb1, Bool.true_eq_false, reduceIte]
    · have := u1 j; have := u2 j; have := u3 j; have := u4 j; have := u5 j; omega
end ROOM
