/-! ===== put ===== -/
section PUT
variable {s : St} {p n mo fu d d' u : Nat} {S K : Nat → Int} {x : Ab}
/-- the reference is refused -/
theorem X9_refused {s2 : St} (h : MI s2 n S K mo x u) (k : Int32) : MI (sI (fiS (sI s2 9 1 3 0)) 9 1 40 k) n S K mo x u ∧ FP s2 (sI (fiS (sI s2 9 1 3 0)) 9 1 40 k) ∧ Rmm s2 (sI (fiS (sI s2 9 1 3 0)) 9 1 40 k) ∧ WhM (sI (fiS (sI s2 9 1 3 0)) 9 1 40 k) (k, 0, -1, -1) := by
  refine ⟨((h.f9 wh3 0).fine).f9 wh40 k, ((Fx.f9 (dyw wh3) 0).tr (fiS_fp _)).tr (Fx.f9 (dyw wh40) k), Rmm.eq rfl rfl rfl rfl, ?_⟩
  obtain ⟨-, a2, a3, a4⟩ := fiS_w (sI s2 9 1 3 0)
  refine ⟨by rw [gI_sI, if_pos ⟨rfl, rfl, rfl⟩], ?_, ?_, ?_⟩
  · rw [gI_sI, if_neg (by omega)]; exact a2
  · rw [gI_sI, if_neg (by omega)]; exact a3
  · rw [gI_sI, if_neg (by omega)]; exact a4
theorem i64_id (a : Int32) : (Int32.toInt64 a).toInt = a.toInt := nj_up a
/-- a call that changes: what both sides do -/
abbrev Chg (s : St) (p n : Nat) (S K : Nat → Int) (mo : Nat) (x : Ab) (u : Nat) (fc : Option (St × Int32)) (fm : St → Option (St × Int32)) (up uu : Nat) : Prop :=
  ∃ s1 w x' y' u', fc = some (s1, w) ∧ CI s1 p n S K mo x' ∧ CF s s1 ∧ Rmc s s1 ∧ WhC s1 y' ∧ AbW mo x' ∧ (xC x').1 = (xC x).1 ∧ off (xP x') 10 ≤ off (xP x) 10 + up ∧ u' ≤ u + uu ∧
    ∀ s2, MI s2 n S K mo x u → Rmo s2 → ∃ s3, fm s2 = some (s3, w) ∧ FP s2 s3 ∧ MI s3 n S K mo x' u' ∧ Rmm s2 s3 ∧ WhM s3 y'
theorem ab_id {a : Int32} (h : 0 ≤ a.toInt ∧ a.toInt ≤ 9) : ∃ id, id < 10 ∧ a = nI id := ⟨a.toInt.toNat, by omega, nu_toN (by omega)⟩
theorem P_put (h : CI s p n S K mo x) (hA : AbW mo x) (hoff : off (xP x) 10 < 32768) (hb : Bdg s d d') (hu : u < 1000000) (hfu : 50000 ≤ fu) (a b c : Int32) :
    Chg s p n S K mo x u (f_X8_put fu s 1 a b c) (fun s2 => f_X9_put fu s2 1 a b c) 1 1 := by
  have e10 : ¬ (1 = 0) := by decide
  have hL := h.1.1.1
  have hRW := h.2.1.2
  have hV := h.1.2.1.2.2.2
  by_cases hv : (0 ≤ a.toInt ∧ a.toInt ≤ 9) ∧ (-1000000 ≤ b.toInt ∧ b.toInt ≤ 1000000) ∧ (-10000 ≤ c.toInt ∧ c.toInt ≤ 10000)
  · obtain ⟨ha, hbt, hcv⟩ := hv
    obtain ⟨id, hid, rfl⟩ := ab_id ha
    have q84 := lr_8_1_4 hL
    by_cases hlt : id ∈ xR x ∧ b.toInt < sm n S K (xH x id).toInt (n - 1)
    · -- too late
      obtain ⟨hin, hlt⟩ := hlt
      have hhd := hA.1 id hin
      obtain ⟨z1, z2, z3⟩ := lat_z hV hhd.1 hhd.2 hbt.1 hbt.2
      obtain ⟨w1, w2, w3, w4⟩ := h.w10 (fsF s 10 n S K (xH x id).toInt n)
      obtain ⟨s4, v1, v2, v3, v4, v5⟩ := X8_nl (fu := fu) w1 hin
      obtain ⟨e1, e2, e3⟩ := v2.ex (2, 0, lat n S K (xH x id) b, -1)
      refine ⟨exS s4 (2, 0, lat n S K (xH x id) b, -1), -1, ltA x id, (2, 0, lat n S K (xH x id) b, -1), u, ?_, e1, (w2.tr v3).tr e2, (w3.tr v4).tr e3, exS_w _ _, ltA_w hA id, rfl, by show off (xP x) 10 ≤ _; omega, by omega, fun s2 hM hrm2 => ?_⟩
      · unfold f_X8_put
        rw [X8_isId]
        simp only [bI, bt_z, ha, not_true_eq_false, and_self, reduceIte]
        rw [X8_isTime]
        simp only [bI, bt_z, i64_id, hbt, not_true_eq_false, and_self, reduceIte]
        rw [X8_isValue]
        simp only [bI, bt_z, i64_id, hcv, not_true_eq_false, and_self, reduceIte, e10]
        rw [q84, X8_lt (Or.inl rfl) h.1 h.2.1.1 hRW hin hhd.1 hhd.2 b (by omega)]
        simp only [bI]
        rw [if_neg (fun q => by have := z1.mp q; omega), v1]
        simp only [bV]
        rw [X8_ex v2.1.1.1]
      · have hM0 := (hM.f9 wh3 0).fine
        generalize hs0 : fiS (sI s2 9 1 3 0) = s0 at hM0
        have hF0 : FP s2 s0 := by rw [← hs0]; exact (Fx.f9 (dyw wh3) 0).tr (fiS_fp _)
        obtain ⟨hM1, hF1, hg1⟩ := X9_nl hM0 hin
        have hL0 := hM0.1.1
        have b10 : inb (nI id) 10 = true := nu_inbn (by omega) (by omega)
        have hls := X9_ls (R := xR x) (P := xP x) (fu := fu) hM1.1.1 hM1.1.2.1.1 hV hM1.1.2.2.2.1 hid hhd.1 hhd.2 (by omega)
        have hfw : WhM s0 (0, 0, -1, -1) := by rw [← hs0]; exact fiS_w _
        refine ⟨sI (sI (nlS s0 id) 9 1 42 (Int32.ofInt (sm n S K (xH x id).toInt (n - 1)) - b)) 9 1 40 2, ?_, ((hF0.tr hF1).tr (Fx.f9 (dyw wh42) _)).tr (Fx.f9 (dyw wh40) 2), (hM1.f9 wh42 _).f9 wh40 2, ?_, ?_⟩
        · show f_X9_put fu s2 1 (nI id) b c = _
          unfold f_X9_put
          rw [if_neg e10]
          simp only [lt]
          rw [X9_fine, hs0]
          simp only [bV]
          rw [X9_isId]
          simp only [bI, bt_z, ha, not_true_eq_false, and_self, reduceIte]
          rw [X9_isTime]
          simp only [bI, bt_z, i64_id, hbt, not_true_eq_false, and_self, reduceIte]
          rw [X9_isValue]
          simp only [bI, bt_z, i64_id, hcv, not_true_eq_false, and_self, reduceIte]
          rw [X9_islate hM0 hA hid b (by omega)]
          simp only [bI, bt_z, hin, hlt, not_true_eq_false, and_self, reduceIte, lr_9_1_12 hL0, ll_10_24 hL0, b10, Bool.true_eq_false, show ¬ (24 = 0) from by decide, nu_ixn (show id < 2147483648 by omega)]
          have : gI (sI s0 10 24 id (gI s0 10 24 id + 1)) 9 1 17 = gI s0 9 1 17 := by rw [gI_sI, if_neg (by omega)]
          rw [this]
          show bV (f_X9_isLateBy fu (nlS s0 id) 1 (nI id) b) _ = _
          unfold f_X9_isLateBy
          rw [if_neg e10, hls]
          rfl
        · refine Rmm.eq ?_ ?_ ?_ ?_
          · show gR s0 = _; rw [← hs0]; rfl
          · show gL s0 = _; rw [← hs0]; rfl
          · show cn s0 = _; rw [← hs0]; rfl
          · show sn s0 = _; rw [← hs0]; rfl
        · obtain ⟨y1, y2, y3, y4⟩ := hfw
          refine ⟨by rw [gI_sI, if_pos ⟨rfl, rfl, rfl⟩], ?_, ?_, ?_⟩
          · rw [gI_sI, if_neg (by omega), gI_sI, if_neg (by omega), hg1 41 (by omega)]; exact y2
          · rw [gI_sI, if_neg (by omega), gI_sI, if_pos ⟨rfl, rfl, rfl⟩]; exact (z2 hlt).symm
          · rw [gI_sI, if_neg (by omega), gI_sI, if_neg (by omega), hg1 43 (by omega)]; exact y4
    · -- it goes
      have hnl : sm n S K (xH (rise n S K mo x id b) id).toInt (n - 1) ≤ b.toInt := not_late hV (fun hin => by
        rcases Int.lt_or_le b.toInt (sm n S K (xH x id).toInt (n - 1)) with q | q
        · exact absurd ⟨hin, q⟩ hlt
        · exact q)
      have hro := rise_off (n := n) (S := S) (K := K) (mo := mo) hid hRW b
      obtain ⟨sa, za, hl8, hCa, hFa, hRa⟩ : ∃ sa za, f_X8_latenessIn fu s 1 1 (nI id) b = some (sa, za) ∧ CI sa p n S K mo x ∧ CF s sa ∧ Rmc s sa ∧ za ≤ 0 := by
        by_cases hin : id ∈ xR x
        · have hhd := hA.1 id hin
          obtain ⟨z1, -, -⟩ := lat_z hV hhd.1 hhd.2 hbt.1 hbt.2
          obtain ⟨w1, w2, w3, w4⟩ := h.w10 (fsF s 10 n S K (xH x id).toInt n)
          refine ⟨_, _, X8_lt (Or.inl rfl) h.1 h.2.1.1 hRW hin hhd.1 hhd.2 b (by omega), w1, w2, w3, z1.mpr ?_⟩
          rcases Int.lt_or_le b.toInt (sm n S K (xH x id).toInt (n - 1)) with q | q
          · exact absurd ⟨hin, q⟩ hlt
          · exact q
        · exact ⟨s, 0, X8_ltx h.2.1.1 hRW hid hin b (by omega), h, CF.rf s, Rmc.rf s, by decide⟩
      obtain ⟨hRa, hza⟩ := hRa
      obtain ⟨e1, e2, e3⟩ := hCa.ex (0, 0, -1, -1)
      have hb2 := (hb.rmc hRa).rmc e3
      obtain ⟨s1, y1, y2, y3, y4, y5⟩ := X8_place (fu := fu) e1 hA hid (v := c) hbt.1 hbt.2 hcv hnl (by omega) hb2 hfu
      refine ⟨s1, tc (tq (sm n S K (xH (rise n S K mo x id b) id).toInt) n b.toInt), putA n S K mo x id b c, (0, 0, -1, -1), u + 1, ?_, y2, (hFa.tr e2).tr y3, (hRa.tr e3).tr y4, fun w hw => by rw [y5]; exact exS_w _ _ w hw, putA_w hRW hA hid hbt.1 hbt.2 c, ?_, putA_off hid hRW b c, Nat.le_refl _, fun s2 hM hrm2 => ?_⟩
      · unfold f_X8_put
        rw [X8_isId]
        simp only [bI, bt_z, ha, not_true_eq_false, and_self, reduceIte]
        rw [X8_isTime]
        simp only [bI, bt_z, i64_id, hbt, not_true_eq_false, and_self, reduceIte]
        rw [X8_isValue]
        simp only [bI, bt_z, i64_id, hcv, not_true_eq_false, and_self, reduceIte, e10]
        rw [q84, hl8]
        simp only [bI]
        rw [if_pos hza, X8_ex hCa.1.1.1]
        simp only [bV]
        rw [y1]
      · show (xC (rise n S K mo x id b)).1 = (xC x).1
        unfold rise
        by_cases hin : id ∈ xR x
        · rw [if_pos hin]; rfl
        · rw [if_neg hin]
          by_cases hf : (xR x).length = mo
          · rw [if_pos hf]; rfl
          · rw [if_neg hf]; rfl
      · have hM0 := (hM.f9 wh3 0).fine
        generalize hs0 : fiS (sI s2 9 1 3 0) = s0 at hM0
        have hF0 : FP s2 s0 := by rw [← hs0]; exact (Fx.f9 (dyw wh3) 0).tr (fiS_fp _)
        have hfw : WhM s0 (0, 0, -1, -1) := by rw [← hs0]; exact fiS_w _
        obtain ⟨r1, r2⟩ := hrm2.rm hM.2.2.2.2
        have hc0 : cn s0 = cn s2 := by rw [← hs0]; rfl
        have hs0' : sn s0 = sn s2 := by rw [← hs0]; rfl
        obtain ⟨s3, v1, v2, v3, v4, v5⟩ := X9_puts (fu := fu) hM0 hA hid hbt.1 hbt.2 c hu (by omega) (by omega) (by omega) hfu
        have hL3 := v2.1.1
        have hrw := rise_w (n := n) (S := S) (K := K) hRW hA hid hbt.1 hbt.2
        have hh3 := hrw.1.1 id hrw.2.1
        have b10 : inb (nI id) 10 = true := nu_inbn (by omega) (by omega)
        have hHd := v2.1.2.2.2.1.2.2 id hid
        rw [lr_9_1_11 hL3] at hHd
        have htb := X9_tb (fu := fu) hV v2.1.2.1.1 (h := xH (rise n S K mo x id b) id) (t := b) hh3.1 hh3.2 (by omega)
        refine ⟨s3, ?_, hF0.tr v3, v2, ?_, hfw.eq v5⟩
        · show f_X9_put fu s2 1 (nI id) b c = _
          unfold f_X9_put
          rw [if_neg e10]
          simp only [lt]
          rw [X9_fine, hs0]
          simp only [bV]
          rw [X9_isId]
          simp only [bI, bt_z, ha, not_true_eq_false, and_self, reduceIte]
          rw [X9_isTime]
          simp only [bI, bt_z, i64_id, hbt, not_true_eq_false, and_self, reduceIte]
          rw [X9_isValue]
          simp only [bI, bt_z, i64_id, hcv, not_true_eq_false, and_self, reduceIte]
          rw [X9_islate hM0 hA hid b (by omega), bt_f hlt]
          simp only [bI, reduceIte]
          rw [v1]
          simp only [lr_9_1_11 hL3, ll_10_23 hL3, b10, Bool.true_eq_false, show ¬ (23 = 0) from by decide, reduceIte, nu_ixn (show id < 2147483648 by omega), hHd]
          have htb' : f_X9_tierBy fu s3 1 (xH (putA n S K mo x id b c) id) b = some (s3, tc (tq (sm n S K (xH (rise n S K mo x id b) id).toInt) n b.toInt)) := htb
          rw [htb']
        · refine Rmm.tr (Rmm.eq ?_ ?_ hc0 hs0') v4
          · rw [← hs0]; rfl
          · rw [← hs0]; rfl
  · -- it can't be
    obtain ⟨e1, e2, e3⟩ := h.ex (1, 0, -1, -1)
    refine ⟨exS s (1, 0, -1, -1), -1, x, (1, 0, -1, -1), u, ?_, e1, e2, e3, exS_w _ _, hA, rfl, by omega, by omega, fun s2 hM hrm2 => ?_⟩
    · have hb23 : f_X8_put_b23 fu s 1 = some (exS s (1, 0, -1, -1), -1) := by
        unfold f_X8_put_b23
        rw [if_neg e10, X8_ex hL]
        rfl
      unfold f_X8_put
      rw [X8_isId]
      simp only [bI, bt_z]
      by_cases ha : 0 ≤ a.toInt ∧ a.toInt ≤ 9
      · rw [if_neg (fun q => q ha), X8_isTime]
        simp only [bI, bt_z, i64_id]
        by_cases hbt : -1000000 ≤ b.toInt ∧ b.toInt ≤ 1000000
        · rw [if_neg (fun q => q hbt), X8_isValue]
          simp only [bI, bt_z, i64_id]
          rw [if_pos (fun q => hv ⟨ha, hbt, q⟩)]
          exact hb23
        · rw [if_pos hbt]; exact hb23
      · rw [if_pos ha]; exact hb23
    · obtain ⟨q1, q2, q3, q4⟩ := X9_refused hM 1
      refine ⟨_, ?_, q2, q1, q3, q4⟩
      show f_X9_put fu s2 1 a b c = _
      have hb32 : f_X9_put_b32 fu (fiS (sI s2 9 1 3 0)) 1 = some (sI (fiS (sI s2 9 1 3 0)) 9 1 40 1, -1) := by
        unfold f_X9_put_b32
        rw [if_neg e10, X9_ref]
        rfl
      unfold f_X9_put
      rw [if_neg e10]
      simp only [lt]
      rw [X9_fine]
      simp only [bV]
      rw [X9_isId]
      simp only [bI, bt_z]
      by_cases ha : 0 ≤ a.toInt ∧ a.toInt ≤ 9
      · rw [if_neg (fun q => q ha), X9_isTime]
        simp only [bI, bt_z, i64_id]
        by_cases hbt : -1000000 ≤ b.toInt ∧ b.toInt ≤ 1000000
        · rw [if_neg (fun q => q hbt), X9_isValue]
          simp only [bI, bt_z, i64_id]
          rw [if_pos (fun q => hv ⟨ha, hbt, q⟩)]
          exact hb32
        · rw [if_pos hbt]; exact hb32
      · rw [if_pos ha]; exact hb32
end PUT
