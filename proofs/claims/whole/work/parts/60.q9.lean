/-! ===== would ===== -/
abbrev F4 : Type := Int32 × Int32 × Int32 × Int32
def foS (n : Nat) (S K : Nat → Int) (h h' : Int) (q : F4) (g : List Pt) : F4 := match tq (sm n S K h') n (ky (ka n S K h) g) with
  | none => (q.1, q.2.1 + nI g.length, (if tq (sm n S K h') n (ky (ka n S K h) g) = tq (sm n S K h) n (ky (ka n S K h) g) then q.2.2.1 else q.2.2.1 + 1), q.2.2.2)
  | some i => ((if q.1 = 0 then q.1 + 1 else if Int32.ofInt (al (ky (ka n S K h) g) (S i)) = q.2.2.2 then q.1 else q.1 + 1), q.2.1, (if tq (sm n S K h') n (ky (ka n S K h) g) = tq (sm n S K h) n (ky (ka n S K h) g) then q.2.2.1 else q.2.2.1 + 1), Int32.ofInt (al (ky (ka n S K h) g) (S i)))
def oc (n : Nat) (S K : Nat → Int) (h h' : Int) : List (List Pt) → Nat
  | [] => 0
  | g :: L => (if tq (sm n S K h') n (ky (ka n S K h) g) = tq (sm n S K h) n (ky (ka n S K h) g) then 0 else 1) + oc n S K h h' L
/-- how many runs of one start then -/
def kc (n : Nat) (S K : Nat → Int) (h h' : Int) : Int → List (List Pt) → Nat
  | _, [] => 0
  | l, g :: L => (if ka n S K h' (ky (ka n S K h) g) = l then 0 else 1) + kc n S K h h' (ka n S K h' (ky (ka n S K h) g)) L
def kn (n : Nat) (S K : Nat → Int) (h h' : Int) (L : List (List Pt)) : Nat := match L with
  | [] => 0
  | g :: L => 1 + kc n S K h h' (ka n S K h' (ky (ka n S K h) g)) L
theorem oc_c (n : Nat) (S K : Nat → Int) (h h' : Int) (g : List Pt) (L : List (List Pt)) : oc n S K h h' (g :: L) = (if tq (sm n S K h') n (ky (ka n S K h) g) = tq (sm n S K h) n (ky (ka n S K h) g) then 0 else 1) + oc n S K h h' L := rfl
theorem kc_c (n : Nat) (S K : Nat → Int) (h h' l : Int) (g : List Pt) (L : List (List Pt)) : kc n S K h h' l (g :: L) = (if ka n S K h' (ky (ka n S K h) g) = l then 0 else 1) + kc n S K h h' (ka n S K h' (ky (ka n S K h) g)) L := rfl
theorem kn_c (n : Nat) (S K : Nat → Int) (h h' : Int) (g : List Pt) (L : List (List Pt)) : kn n S K h h' (g :: L) = 1 + kc n S K h h' (ka n S K h' (ky (ka n S K h) g)) L := rfl
section Q9
variable {s : St} {p n : Nat} {S K : Nat → Int} {R : List Nat} {H : Nat → Int32} {P : Nat → List Pt} {fu : Nat}
theorem oc_le {h h' : Int} (L : List (List Pt)) : oc n S K h h' L ≤ L.length := by
  induction L with
  | nil => exact Nat.le_refl _
  | cons g L ih =>
    rw [oc_c, List.length_cons]
    split <;> omega
theorem kc_le {h h' : Int} (L : List (List Pt)) : ∀ l, kc n S K h h' l L ≤ L.length := by
  induction L with
  | nil => intro l; exact Nat.le_refl _
  | cons g L ih =>
    intro l
    have := ih (ka n S K h' (ky (ka n S K h) g))
    rw [kc_c, List.length_cons]
    split <;> omega
/-- what the fold tells: gone ones first, then the rest -/
theorem fo_gone {h h' : Int} : ∀ (A : List (List Pt)) (q : F4), (∀ g ∈ A, tq (sm n S K h') n (ky (ka n S K h) g) = none) → ∃ (o : Int32), A.foldl (foS n S K h h') q = (q.1, q.2.1 + nI A.flatten.length, o, q.2.2.2) ∧ o = q.2.2.1 + nI (oc n S K h h' A) := by
  intro A
  induction A with
  | nil =>
    intro q _
    refine ⟨q.2.2.1, ?_, (Int32.add_zero _).symm⟩
    show q = _
    rw [show q.2.1 + nI ([] : List (List Pt)).flatten.length = q.2.1 from Int32.add_zero _]
  | cons g A ih =>
    intro q hA
    have hg := hA g List.mem_cons_self
    obtain ⟨o, h1, h2⟩ := ih (foS n S K h h' q g) (fun b hb => hA b (List.mem_cons_of_mem _ hb))
    have hst : foS n S K h h' q g = (q.1, q.2.1 + nI g.length, (if tq (sm n S K h') n (ky (ka n S K h) g) = tq (sm n S K h) n (ky (ka n S K h) g) then q.2.2.1 else q.2.2.1 + 1), q.2.2.2) := by
      unfold foS
      rw [hg]
    rw [hst] at h1 h2
    refine ⟨o, ?_, ?_⟩
    · rw [List.foldl_cons, hst, h1]
      show (q.1, q.2.1 + nI g.length + nI A.flatten.length, o, q.2.2.2) = _
      rw [Int32.add_assoc, fl_cons]
      unfold nI
      rw [Int32.ofNat_add]
    · rw [h2, oc_c]
      show (if tq (sm n S K h') n (ky (ka n S K h) g) = tq (sm n S K h) n (ky (ka n S K h) g) then q.2.2.1 else q.2.2.1 + 1) + nI (oc n S K h h' A) = _
      split
      · rw [Nat.zero_add]
      · rw [Int32.add_assoc]
        unfold nI
        rw [Int32.ofNat_add]
        rfl
theorem fo_all {h h' : Int} {GG A B : List (List Pt)} (V : VP n S K) (W : WfG n S K h GG) (hh : h ≤ h') (hh' : h' ≤ 1000000) (e : GG = A ++ B) (hA : ∀ g ∈ A, tq (sm n S K h') n (ky (ka n S K h) g) = none) (hB : ∀ g ∈ B, ∃ i, TI (sm n S K h') n (ky (ka n S K h) g) i) :
    ∃ l', GG.foldl (foS n S K h h') (0, 0, 0, 0) = (nI (kn n S K h h' B), nI A.flatten.length, nI (oc n S K h h' GG), l') := by
  have hl := wf_len W
  have hBG : ∀ g ∈ B, g ∈ GG := fun g hg => by rw [e]; exact List.mem_append_right _ hg
  have e3 : ∀ a b : Nat, nI a + nI b = nI (a + b) := fun a b => by unfold nI; rw [Int32.ofNat_add]
  have z : ∀ x : Int32, 0 + x = x := Int32.zero_add
  have oc_app : ∀ (X Y : List (List Pt)), oc n S K h h' (X ++ Y) = oc n S K h h' X + oc n S K h h' Y := by
    intro X Y
    induction X with
    | nil => rw [List.nil_append]; exact (Nat.zero_add _).symm
    | cons g X ih => rw [List.cons_append, oc_c, oc_c, ih, Nat.add_assoc]
  obtain ⟨o, h1, h2⟩ := fo_gone A (0, 0, 0, 0) hA
  rw [e, List.foldl_append, h1, h2, oc_app]
  show ∃ l', List.foldl _ (0, 0 + nI A.flatten.length, 0 + nI (oc n S K h h' A), 0) B = _
  rw [z, z]
  cases hBc : B with
  | nil =>
    refine ⟨0, ?_⟩
    show (0, nI A.flatten.length, nI (oc n S K h h' A), 0) = (nI 0, nI A.flatten.length, nI (oc n S K h h' A + 0), 0)
    rw [Nat.add_zero]
    rfl
  | cons g B' =>
    obtain ⟨i, hi⟩ := hB g (by rw [hBc]; exact List.mem_cons_self)
    have hbd : ∀ (b : List Pt), b ∈ B → ∀ j, TI (sm n S K h') n (ky (ka n S K h) b) j → -10000000 ≤ al (ky (ka n S K h) b) (S j) ∧ al (ky (ka n S K h) b) (S j) ≤ 10000000 := by
      intro b hb j hj
      obtain ⟨-, -, -, bb, -⟩ := wf_g V W (hBG b hb)
      have hs := V.sp hj.1
      have q1 := al_le (x := ky (ka n S K h) b) hs.1
      have q2 := al_lt (x := ky (ka n S K h) b) hs.1
      omega
    have hbg := hbd g (by rw [hBc]; exact List.mem_cons_self) i hi
    rw [List.foldl_cons]
    have hstep : foS n S K h h' (0, nI A.flatten.length, nI (oc n S K h h' A), 0) g = (nI 1, nI A.flatten.length, nI (oc n S K h h' A) + nI (if tq (sm n S K h') n (ky (ka n S K h) g) = tq (sm n S K h) n (ky (ka n S K h) g) then 0 else 1), Int32.ofInt (al (ky (ka n S K h) g) (S i))) := by
      unfold foS
      rw [tq_some.mpr hi]
      show ((if (0 : Int32) = 0 then (0 : Int32) + 1 else _), nI A.flatten.length, (if some i = tq (sm n S K h) n (ky (ka n S K h) g) then nI (oc n S K h h' A) else nI (oc n S K h h' A) + 1), Int32.ofInt (al (ky (ka n S K h) g) (S i))) = _
      rw [if_pos rfl]
      have e2 : (if some i = tq (sm n S K h) n (ky (ka n S K h) g) then nI (oc n S K h h' A) else nI (oc n S K h h' A) + 1) = nI (oc n S K h h' A) + nI (if some i = tq (sm n S K h) n (ky (ka n S K h) g) then 0 else 1) := by
        by_cases c : some i = tq (sm n S K h) n (ky (ka n S K h) g)
        · rw [if_pos c, if_pos c]; exact (Int32.add_zero _).symm
        · rw [if_neg c, if_neg c]; rfl
      rw [e2]
      rfl
    rw [hstep]
    -- the bound for all groups: only those of B' are met
    have hgen : ∀ (B : List (List Pt)) (k : Nat) (gn o : Int32) (l : Int), 0 < k → k + B.length < 1000000 → -10000000 ≤ l → l ≤ 10000000 → (∀ g ∈ B, ∃ i, TI (sm n S K h') n (ky (ka n S K h) g) i ∧ -10000000 ≤ al (ky (ka n S K h) g) (S i) ∧ al (ky (ka n S K h) g) (S i) ≤ 10000000) → ∃ l', B.foldl (foS n S K h h') (nI k, gn, o, Int32.ofInt l) = (nI (k + kc n S K h h' l B), gn, o + nI (oc n S K h h' B), l') := by
      intro B
      induction B with
      | nil =>
        intro k gn o l hk hl l1 l2 _
        refine ⟨Int32.ofInt l, ?_⟩
        show (nI k, gn, o, Int32.ofInt l) = (nI (k + 0), gn, o + nI 0, Int32.ofInt l)
        rw [show o + nI 0 = o from Int32.add_zero _]
        rfl
      | cons g B ih =>
        intro k gn o l hk hl l1 l2 hB
        obtain ⟨i, hi, hbg⟩ := hB g List.mem_cons_self
        rw [List.length_cons] at hl
        have hB2 := fun b hb => hB b (List.mem_cons_of_mem g hb)
        have eka : ka n S K h' (ky (ka n S K h) g) = al (ky (ka n S K h) g) (S i) := kp_of hi
        have eq1 : (Int32.ofInt (al (ky (ka n S K h) g) (S i)) = Int32.ofInt l) ↔ al (ky (ka n S K h) g) (S i) = l := by
          rw [nu_eq, nu_of (by omega) (by omega), nu_of (by omega) (by omega)]
        have hk0 : ¬ nI k = 0 := fun q => by have := (ni_eq (b := 0) (by omega) (by omega)).mp q; omega
        rw [List.foldl_cons]
        have hstep : foS n S K h h' (nI k, gn, o, Int32.ofInt l) g = (nI (k + if ka n S K h' (ky (ka n S K h) g) = l then 0 else 1), gn, o + nI (if tq (sm n S K h') n (ky (ka n S K h) g) = tq (sm n S K h) n (ky (ka n S K h) g) then 0 else 1), Int32.ofInt (al (ky (ka n S K h) g) (S i))) := by
          unfold foS
          rw [tq_some.mpr hi, eka]
          show ((if nI k = 0 then nI k + 1 else if Int32.ofInt (al (ky (ka n S K h) g) (S i)) = Int32.ofInt l then nI k else nI k + 1), gn, (if some i = tq (sm n S K h) n (ky (ka n S K h) g) then o else o + 1), Int32.ofInt (al (ky (ka n S K h) g) (S i))) = _
          rw [if_neg hk0]
          have e1 : (if Int32.ofInt (al (ky (ka n S K h) g) (S i)) = Int32.ofInt l then nI k else nI k + 1) = nI (k + if al (ky (ka n S K h) g) (S i) = l then 0 else 1) := by
            by_cases c : al (ky (ka n S K h) g) (S i) = l
            · rw [if_pos (eq1.mpr c), if_pos c]; rfl
            · rw [if_neg (fun q => c (eq1.mp q)), if_neg c, nu_nIa]
          have e2 : (if some i = tq (sm n S K h) n (ky (ka n S K h) g) then o else o + 1) = o + nI (if some i = tq (sm n S K h) n (ky (ka n S K h) g) then 0 else 1) := by
            by_cases c : some i = tq (sm n S K h) n (ky (ka n S K h) g)
            · rw [if_pos c, if_pos c]; exact (Int32.add_zero _).symm
            · rw [if_neg c, if_neg c]; rfl
          rw [e1, e2]
        rw [hstep]
        obtain ⟨l', h1⟩ := ih (k + if ka n S K h' (ky (ka n S K h) g) = l then 0 else 1) gn (o + nI (if tq (sm n S K h') n (ky (ka n S K h) g) = tq (sm n S K h) n (ky (ka n S K h) g) then 0 else 1)) (al (ky (ka n S K h) g) (S i)) (by omega) (by split <;> omega) hbg.1 hbg.2 hB2
        refine ⟨l', ?_⟩
        rw [h1, kc_c, oc_c, eka, Int32.add_assoc, e3, Nat.add_assoc]
    have hBl : B.length ≤ GG.length := by rw [e, List.length_append]; omega
    rw [hBc, List.length_cons] at hBl
    obtain ⟨l', h3⟩ := hgen B' 1 (nI A.flatten.length) (nI (oc n S K h h' A) + nI (if tq (sm n S K h') n (ky (ka n S K h) g) = tq (sm n S K h) n (ky (ka n S K h) g) then 0 else 1)) (al (ky (ka n S K h) g) (S i)) (by omega) (by omega) hbg.1 hbg.2 (fun b hb => by
      obtain ⟨j, hj⟩ := hB b (by rw [hBc]; exact List.mem_cons_of_mem _ hb)
      exact ⟨j, hj, hbd b (by rw [hBc]; exact List.mem_cons_of_mem _ hb) j hj⟩)
    refine ⟨l', ?_⟩
    rw [h3, kn_c, show ka n S K h' (ky (ka n S K h) g) = al (ky (ka n S K h) g) (S i) from kp_of hi, Int32.add_assoc, e3, e3, oc_c]
end Q9
