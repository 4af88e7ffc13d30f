set_option maxRecDepth 20000 in
theorem t_L_law_b1839 {E : ET} {fu : Nat} {s' : St} {Q : State → Prop} {xs : Nat → Int32} {L : Nat} (g : GX E "ThinSeriesLaw" cL_law 8 51) (hX : va_X (E.G.2.2.2 19 1) L xs E.s E.s.heap) (hb0 : E.G.2.2.2 19 1 < E.G.1) (hlr : law_end E Q s') {k23 : St → Nat → Nat → Nat → Nat → Int32 → Option (St × Int32)} (hk23 : ∀ (s : St) (l1 : Nat) (l2 : Nat) (l3 : Nat) (l4 : Int32), k23 s l1 l2 l3 l4 = some (s', 1) → V E 8 Q s 23 [(0, vR 19 1), (1, vR 8 l1), (2, vR 9 l2), (3, vR 11 l3), (4, vI l4)] []) {s : St} {l1 : Nat} {l2 : Nat} {l3 : Nat} {l4 : Int32} (hf : f_L_law_b1839 fu xs L k23 s l1 l2 l3 l4 = some (s', 1)) : V E 8 Q s 1839 [(0, vR 19 1), (1, vR 8 l1), (2, vR 9 l2), (3, vR 11 l3), (4, vI l4)] [] := by
  unfold f_L_law_b1839 at hf
  obtain ⟨x443, ex443, hf⟩ := lt_some hf
  refine V_iinc g 4 [(4, vI x443), (0, vR 19 1), (1, vR 8 l1), (2, vR 9 l2), (3, vR 11 l3)] dL_law_1839 rfl (by rw [ex443]; rfl) (by decide) rfl ?_
  refine V_goto g 23 dL_law_1842 (by decide) ?_
  refine V_sub [(0, vR 19 1), (1, vR 8 l1), (2, vR 9 l2), (3, vR 11 l3), (4, vI x443)] [1, 2, 3, 4, 0] rfl ?_
  exact hk23 s 1 l1 l2 l3 x443 hf
set_option maxRecDepth 20000 in
theorem t_L_law_b282 {E : ET} {fu : Nat} {s' : St} {Q : State → Prop} {xs : Nat → Int32} {L : Nat} (g : GX E "ThinSeriesLaw" cL_law 8 51) (hX : va_X (E.G.2.2.2 19 1) L xs E.s E.s.heap) (hb0 : E.G.2.2.2 19 1 < E.G.1) (hlr : law_end E Q s') {k23 : St → Nat → Nat → Nat → Nat → Int32 → Option (St × Int32)} (hk23 : ∀ (s : St) (l1 : Nat) (l2 : Nat) (l3 : Nat) (l4 : Int32), k23 s l1 l2 l3 l4 = some (s', 1) → V E 8 Q s 23 [(0, vR 19 1), (1, vR 8 l1), (2, vR 9 l2), (3, vR 11 l3), (4, vI l4)] []) {s : St} {l1 : Nat} {l2 : Nat} {l3 : Nat} {l4 : Int32} (hf : f_L_law_b282 fu xs L k23 s l1 l2 l3 l4 = some (s', 1)) : V E 8 Q s 282 [(0, vR 19 1), (1, vR 8 l1), (2, vR 9 l2), (3, vR 11 l3), (4, vI l4)] [] := by
  unfold f_L_law_b282 at hf
  refine V_goto g 1839 dL_law_282 (by decide) ?_
  exact t_L_law_b1839 g f hk23 hf
set_option maxRecDepth 20000 in
theorem t_L_law_b338 {E : ET} {fu : Nat} {s' : St} {Q : State → Prop} {xs : Nat → Int32} {L : Nat} (g : GX E "ThinSeriesLaw" cL_law 8 51) (hX : va_X (E.G.2.2.2 19 1) L xs E.s E.s.heap) (hb0 : E.G.2.2.2 19 1 < E.G.1) (hlr : law_end E Q s') {k23 : St → Nat → Nat → Nat → Nat → Int32 → Option (St × Int32)} (hk23 : ∀ (s : St) (l1 : Nat) (l2 : Nat) (l3 : Nat) (l4 : Int32), k23 s l1 l2 l3 l4 = some (s', 1) → V E 8 Q s 23 [(0, vR 19 1), (1, vR 8 l1), (2, vR 9 l2), (3, vR 11 l3), (4, vI l4)] []) {s : St} {l1 : Nat} {l2 : Nat} {l3 : Nat} {l4 : Int32} (hf : f_L_law_b338 fu xs L k23 s l1 l2 l3 l4 = some (s', 1)) : V E 8 Q s 338 [(0, vR 19 1), (1, vR 8 l1), (2, vR 9 l2), (3, vR 11 l3), (4, vI l4)] [] := by
  unfold f_L_law_b338 at hf
  refine V_goto g 1839 dL_law_338 (by decide) ?_
  exact t_L_law_b1839 g f hk23 hf
set_option maxRecDepth 20000 in
theorem t_L_law_b605 {E : ET} {fu : Nat} {s' : St} {Q : State → Prop} {xs : Nat → Int32} {L : Nat} (g : GX E "ThinSeriesLaw" cL_law 8 51) (hX : va_X (E.G.2.2.2 19 1) L xs E.s E.s.heap) (hb0 : E.G.2.2.2 19 1 < E.G.1) (hlr : law_end E Q s') {k23 : St → Nat → Nat → Nat → Nat → Int32 → Option (St × Int32)} (hk23 : ∀ (s : St) (l1 : Nat) (l2 : Nat) (l3 : Nat) (l4 : Int32), k23 s l1 l2 l3 l4 = some (s', 1) → V E 8 Q s 23 [(0, vR 19 1), (1, vR 8 l1), (2, vR 9 l2), (3, vR 11 l3), (4, vI l4)] []) {s : St} {l1 : Nat} {l2 : Nat} {l3 : Nat} {l4 : Int32} (hf : f_L_law_b605 fu xs L k23 s l1 l2 l3 l4 = some (s', 1)) : V E 8 Q s 605 [(0, vR 19 1), (1, vR 8 l1), (2, vR 9 l2), (3, vR 11 l3), (4, vI l4)] [] := by
  unfold f_L_law_b605 at hf
  refine V_goto g 1839 dL_law_605 (by decide) ?_
  exact t_L_law_b1839 g f hk23 hf
set_option maxRecDepth 20000 in
theorem t_L_law_b661 {E : ET} {fu : Nat} {s' : St} {Q : State → Prop} {xs : Nat → Int32} {L : Nat} (g : GX E "ThinSeriesLaw" cL_law 8 51) (hX : va_X (E.G.2.2.2 19 1) L xs E.s E.s.heap) (hb0 : E.G.2.2.2 19 1 < E.G.1) (hlr : law_end E Q s') {k23 : St → Nat → Nat → Nat → Nat → Int32 → Option (St × Int32)} (hk23 : ∀ (s : St) (l1 : Nat) (l2 : Nat) (l3 : Nat) (l4 : Int32), k23 s l1 l2 l3 l4 = some (s', 1) → V E 8 Q s 23 [(0, vR 19 1), (1, vR 8 l1), (2, vR 9 l2), (3, vR 11 l3), (4, vI l4)] []) {s : St} {l1 : Nat} {l2 : Nat} {l3 : Nat} {l4 : Int32} (hf : f_L_law_b661 fu xs L k23 s l1 l2 l3 l4 = some (s', 1)) : V E 8 Q s 661 [(0, vR 19 1), (1, vR 8 l1), (2, vR 9 l2), (3, vR 11 l3), (4, vI l4)] [] := by
  unfold f_L_law_b661 at hf
  refine V_goto g 1839 dL_law_661 (by decide) ?_
  exact t_L_law_b1839 g f hk23 hf
set_option maxRecDepth 20000 in
theorem t_L_law_b729 {E : ET} {fu : Nat} {s' : St} {Q : State → Prop} {xs : Nat → Int32} {L : Nat} (g : GX E "ThinSeriesLaw" cL_law 8 51) (hX : va_X (E.G.2.2.2 19 1) L xs E.s E.s.heap) (hb0 : E.G.2.2.2 19 1 < E.G.1) (hlr : law_end E Q s') {k23 : St → Nat → Nat → Nat → Nat → Int32 → Option (St × Int32)} (hk23 : ∀ (s : St) (l1 : Nat) (l2 : Nat) (l3 : Nat) (l4 : Int32), k23 s l1 l2 l3 l4 = some (s', 1) → V E 8 Q s 23 [(0, vR 19 1), (1, vR 8 l1), (2, vR 9 l2), (3, vR 11 l3), (4, vI l4)] []) {s : St} {l1 : Nat} {l2 : Nat} {l3 : Nat} {l4 : Int32} (hf : f_L_law_b729 fu xs L k23 s l1 l2 l3 l4 = some (s', 1)) : V E 8 Q s 729 [(0, vR 19 1), (1, vR 8 l1), (2, vR 9 l2), (3, vR 11 l3), (4, vI l4)] [] := by
  unfold f_L_law_b729 at hf
  refine V_goto g 1839 dL_law_729 (by decide) ?_
  exact t_L_law_b1839 g f hk23 hf
set_option maxRecDepth 20000 in
theorem t_L_law_b785 {E : ET} {fu : Nat} {s' : St} {Q : State → Prop} {xs : Nat → Int32} {L : Nat} (g : GX E "ThinSeriesLaw" cL_law 8 51) (hX : va_X (E.G.2.2.2 19 1) L xs E.s E.s.heap) (hb0 : E.G.2.2.2 19 1 < E.G.1) (hlr : law_end E Q s') {k23 : St → Nat → Nat → Nat → Nat → Int32 → Option (St × Int32)} (hk23 : ∀ (s : St) (l1 : Nat) (l2 : Nat) (l3 : Nat) (l4 : Int32), k23 s l1 l2 l3 l4 = some (s', 1) → V E 8 Q s 23 [(0, vR 19 1), (1, vR 8 l1), (2, vR 9 l2), (3, vR 11 l3), (4, vI l4)] []) {s : St} {l1 : Nat} {l2 : Nat} {l3 : Nat} {l4 : Int32} (hf : f_L_law_b785 fu xs L k23 s l1 l2 l3 l4 = some (s', 1)) : V E 8 Q s 785 [(0, vR 19 1), (1, vR 8 l1), (2, vR 9 l2), (3, vR 11 l3), (4, vI l4)] [] := by
  unfold f_L_law_b785 at hf
  refine V_goto g 1839 dL_law_785 (by decide) ?_
  exact t_L_law_b1839 g f hk23 hf
set_option maxRecDepth 20000 in
theorem t_L_law_b852 {E : ET} {fu : Nat} {s' : St} {Q : State → Prop} {xs : Nat → Int32} {L : Nat} (g : GX E "ThinSeriesLaw" cL_law 8 51) (hX : va_X (E.G.2.2.2 19 1) L xs E.s E.s.heap) (hb0 : E.G.2.2.2 19 1 < E.G.1) (hlr : law_end E Q s') {k23 : St → Nat → Nat → Nat → Nat → Int32 → Option (St × Int32)} (hk23 : ∀ (s : St) (l1 : Nat) (l2 : Nat) (l3 : Nat) (l4 : Int32), k23 s l1 l2 l3 l4 = some (s', 1) → V E 8 Q s 23 [(0, vR 19 1), (1, vR 8 l1), (2, vR 9 l2), (3, vR 11 l3), (4, vI l4)] []) {s : St} {l1 : Nat} {l2 : Nat} {l3 : Nat} {l4 : Int32} (hf : f_L_law_b852 fu xs L k23 s l1 l2 l3 l4 = some (s', 1)) : V E 8 Q s 852 [(0, vR 19 1), (1, vR 8 l1), (2, vR 9 l2), (3, vR 11 l3), (4, vI l4)] [] := by
  unfold f_L_law_b852 at hf
  refine V_goto g 1839 dL_law_852 (by decide) ?_
  exact t_L_law_b1839 g f hk23 hf
set_option maxRecDepth 20000 in
theorem t_L_law_b920 {E : ET} {fu : Nat} {s' : St} {Q : State → Prop} {xs : Nat → Int32} {L : Nat} (g : GX E "ThinSeriesLaw" cL_law 8 51) (hX : va_X (E.G.2.2.2 19 1) L xs E.s E.s.heap) (hb0 : E.G.2.2.2 19 1 < E.G.1) (hlr : law_end E Q s') {k23 : St → Nat → Nat → Nat → Nat → Int32 → Option (St × Int32)} (hk23 : ∀ (s : St) (l1 : Nat) (l2 : Nat) (l3 : Nat) (l4 : Int32), k23 s l1 l2 l3 l4 = some (s', 1) → V E 8 Q s 23 [(0, vR 19 1), (1, vR 8 l1), (2, vR 9 l2), (3, vR 11 l3), (4, vI l4)] []) {s : St} {l1 : Nat} {l2 : Nat} {l3 : Nat} {l4 : Int32} (hf : f_L_law_b920 fu xs L k23 s l1 l2 l3 l4 = some (s', 1)) : V E 8 Q s 920 [(0, vR 19 1), (1, vR 8 l1), (2, vR 9 l2), (3, vR 11 l3), (4, vI l4)] [] := by
  unfold f_L_law_b920 at hf
  refine V_goto g 1839 dL_law_920 (by decide) ?_
  exact t_L_law_b1839 g f hk23 hf
set_option maxRecDepth 20000 in
theorem t_L_law_b988 {E : ET} {fu : Nat} {s' : St} {Q : State → Prop} {xs : Nat → Int32} {L : Nat} (g : GX E "ThinSeriesLaw" cL_law 8 51) (hX : va_X (E.G.2.2.2 19 1) L xs E.s E.s.heap) (hb0 : E.G.2.2.2 19 1 < E.G.1) (hlr : law_end E Q s') {k23 : St → Nat → Nat → Nat → Nat → Int32 → Option (St × Int32)} (hk23 : ∀ (s : St) (l1 : Nat) (l2 : Nat) (l3 : Nat) (l4 : Int32), k23 s l1 l2 l3 l4 = some (s', 1) → V E 8 Q s 23 [(0, vR 19 1), (1, vR 8 l1), (2, vR 9 l2), (3, vR 11 l3), (4, vI l4)] []) {s : St} {l1 : Nat} {l2 : Nat} {l3 : Nat} {l4 : Int32} (hf : f_L_law_b988 fu xs L k23 s l1 l2 l3 l4 = some (s', 1)) : V E 8 Q s 988 [(0, vR 19 1), (1, vR 8 l1), (2, vR 9 l2), (3, vR 11 l3), (4, vI l4)] [] := by
  unfold f_L_law_b988 at hf
  refine V_goto g 1839 dL_law_988 (by decide) ?_
  exact t_L_law_b1839 g f hk23 hf
set_option maxRecDepth 20000 in
theorem t_L_law_b1079 {E : ET} {fu : Nat} {s' : St} {Q : State → Prop} {xs : Nat → Int32} {L : Nat} (g : GX E "ThinSeriesLaw" cL_law 8 51) (hX : va_X (E.G.2.2.2 19 1) L xs E.s E.s.heap) (hb0 : E.G.2.2.2 19 1 < E.G.1) (hlr : law_end E Q s') {k23 : St → Nat → Nat → Nat → Nat → Int32 → Option (St × Int32)} (hk23 : ∀ (s : St) (l1 : Nat) (l2 : Nat) (l3 : Nat) (l4 : Int32), k23 s l1 l2 l3 l4 = some (s', 1) → V E 8 Q s 23 [(0, vR 19 1), (1, vR 8 l1), (2, vR 9 l2), (3, vR 11 l3), (4, vI l4)] []) {s : St} {l1 : Nat} {l2 : Nat} {l3 : Nat} {l4 : Int32} (hf : f_L_law_b1079 fu xs L k23 s l1 l2 l3 l4 = some (s', 1)) : V E 8 Q s 1079 [(0, vR 19 1), (1, vR 8 l1), (2, vR 9 l2), (3, vR 11 l3), (4, vI l4)] [] := by
  unfold f_L_law_b1079 at hf
  refine V_goto g 1839 dL_law_1079 (by decide) ?_
  exact t_L_law_b1839 g f hk23 hf
set_option maxRecDepth 20000 in
theorem t_L_law_b1159 {E : ET} {fu : Nat} {s' : St} {Q : State → Prop} {xs : Nat → Int32} {L : Nat} (g : GX E "ThinSeriesLaw" cL_law 8 51) (hX : va_X (E.G.2.2.2 19 1) L xs E.s E.s.heap) (hb0 : E.G.2.2.2 19 1 < E.G.1) (hlr : law_end E Q s') {k23 : St → Nat → Nat → Nat → Nat → Int32 → Option (St × Int32)} (hk23 : ∀ (s : St) (l1 : Nat) (l2 : Nat) (l3 : Nat) (l4 : Int32), k23 s l1 l2 l3 l4 = some (s', 1) → V E 8 Q s 23 [(0, vR 19 1), (1, vR 8 l1), (2, vR 9 l2), (3, vR 11 l3), (4, vI l4)] []) {s : St} {l1 : Nat} {l2 : Nat} {l3 : Nat} {l4 : Int32} (hf : f_L_law_b1159 fu xs L k23 s l1 l2 l3 l4 = some (s', 1)) : V E 8 Q s 1159 [(0, vR 19 1), (1, vR 8 l1), (2, vR 9 l2), (3, vR 11 l3), (4, vI l4)] [] := by
  unfold f_L_law_b1159 at hf
  refine V_goto g 1839 dL_law_1159 (by decide) ?_
  exact t_L_law_b1839 g f hk23 hf
set_option maxRecDepth 20000 in
theorem t_L_law_b1250 {E : ET} {fu : Nat} {s' : St} {Q : State → Prop} {xs : Nat → Int32} {L : Nat} (g : GX E "ThinSeriesLaw" cL_law 8 51) (hX : va_X (E.G.2.2.2 19 1) L xs E.s E.s.heap) (hb0 : E.G.2.2.2 19 1 < E.G.1) (hlr : law_end E Q s') {k23 : St → Nat → Nat → Nat → Nat → Int32 → Option (St × Int32)} (hk23 : ∀ (s : St) (l1 : Nat) (l2 : Nat) (l3 : Nat) (l4 : Int32), k23 s l1 l2 l3 l4 = some (s', 1) → V E 8 Q s 23 [(0, vR 19 1), (1, vR 8 l1), (2, vR 9 l2), (3, vR 11 l3), (4, vI l4)] []) {s : St} {l1 : Nat} {l2 : Nat} {l3 : Nat} {l4 : Int32} (hf : f_L_law_b1250 fu xs L k23 s l1 l2 l3 l4 = some (s', 1)) : V E 8 Q s 1250 [(0, vR 19 1), (1, vR 8 l1), (2, vR 9 l2), (3, vR 11 l3), (4, vI l4)] [] := by
  unfold f_L_law_b1250 at hf
  refine V_goto g 1839 dL_law_1250 (by decide) ?_
  exact t_L_law_b1839 g f hk23 hf
set_option maxRecDepth 20000 in
theorem t_L_law_b1358 {E : ET} {fu : Nat} {s' : St} {Q : State → Prop} {xs : Nat → Int32} {L : Nat} (g : GX E "ThinSeriesLaw" cL_law 8 51) (hX : va_X (E.G.2.2.2 19 1) L xs E.s E.s.heap) (hb0 : E.G.2.2.2 19 1 < E.G.1) (hlr : law_end E Q s') {k23 : St → Nat → Nat → Nat → Nat → Int32 → Option (St × Int32)} (hk23 : ∀ (s : St) (l1 : Nat) (l2 : Nat) (l3 : Nat) (l4 : Int32), k23 s l1 l2 l3 l4 = some (s', 1) → V E 8 Q s 23 [(0, vR 19 1), (1, vR 8 l1), (2, vR 9 l2), (3, vR 11 l3), (4, vI l4)] []) {s : St} {l1 : Nat} {l2 : Nat} {l3 : Nat} {l4 : Int32} (hf : f_L_law_b1358 fu xs L k23 s l1 l2 l3 l4 = some (s', 1)) : V E 8 Q s 1358 [(0, vR 19 1), (1, vR 8 l1), (2, vR 9 l2), (3, vR 11 l3), (4, vI l4)] [] := by
  unfold f_L_law_b1358 at hf
  refine V_goto g 1839 dL_law_1358 (by decide) ?_
  exact t_L_law_b1839 g f hk23 hf
set_option maxRecDepth 20000 in
theorem t_L_law_b1325 {E : ET} {fu : Nat} {s' : St} {Q : State → Prop} {xs : Nat → Int32} {L : Nat} (g : GX E "ThinSeriesLaw" cL_law 8 51) (hX : va_X (E.G.2.2.2 19 1) L xs E.s E.s.heap) (hb0 : E.G.2.2.2 19 1 < E.G.1) (hlr : law_end E Q s') {k23 : St → Nat → Nat → Nat → Nat → Int32 → Option (St × Int32)} (hk23 : ∀ (s : St) (l1 : Nat) (l2 : Nat) (l3 : Nat) (l4 : Int32), k23 s l1 l2 l3 l4 = some (s', 1) → V E 8 Q s 23 [(0, vR 19 1), (1, vR 8 l1), (2, vR 9 l2), (3, vR 11 l3), (4, vI l4)] []) {s : St} {l1 : Nat} {l2 : Nat} {l3 : Nat} {l4 : Int32} {l5 : Int32} {t0 : Int32} {t1 : Int32} {t2 : Int32} {t3 : Int32} {t4 : Nat} (hf : f_L_law_b1325 fu xs L k23 s l1 l2 l3 l4 l5 t0 t1 t2 t3 t4 = some (s', 1)) : V E 8 Q s 1325 [(0, vR 19 1), (1, vR 8 l1), (2, vR 9 l2), (3, vR 11 l3), (4, vI l4), (5, vI l5)] [vI t0, vI t1, vI t2, vI t3, vR 9 t4] := by
  unfold f_L_law_b1325 at hf
  obtain ⟨z432, hf⟩ := nz_some hf
  obtain ⟨s433, x434, hc, hf⟩ := bI_some hf
  refine cV1 g [vI t3, vI t2, vI t1, vI t0] [] s433 (vI x434) cf_X9_gap (t_X9_gap g.2.2.2.2.2.2.1 hc) (RC_own g rfl z432) z432 (by decide) q_1792 (Nat.le_of_ble_eq_true rfl) dL_law_1325 ?_ rfl
  refine V_istore g [(6, vI x434), (0, vR 19 1), (1, vR 8 l1), (2, vR 9 l2), (3, vR 11 l3), (4, vI l4), (5, vI l5)] dL_law_1328 rfl (by decide) rfl ?_
  refine V_aload_n g 3 dL_law_1330 rfl ?_
  obtain ⟨z435, hf⟩ := nz_some hf
  obtain ⟨s436, x437, hc, hf⟩ := bI_some hf
  refine cV1 g [] [] s436 (vI x437) cf_X9_thrown (t_X9_thrown g.2.2.2.2.2.2.1 hc) (RC_own g rfl z435) z435 (by decide) q_1442 (Nat.le_of_ble_eq_true rfl) dL_law_1331 ?_ rfl
  refine V_iload g 6 dL_law_1334 rfl ?_
  refine V_icmp_eq g 1341 dL_law_1336 (by decide) (fun c438 => ?_) (fun c438 => ?_)
  · have hf := it_t hf c438
    refine V_iload g 6 dL_law_1341 rfl ?_
    refine V_if_ne g 1358 dL_law_1343 (by decide) (fun c439 => ?_) (fun c439 => ?_)
    · have hf := it_f hf c439
      refine V_sub [(0, vR 19 1), (1, vR 8 l1), (2, vR 9 l2), (3, vR 11 l3), (4, vI l4)] [1, 2, 3, 4, 5] rfl ?_
      exact t_L_law_b1358 g f hk23 hf
    · have hf := it_t hf c439
      refine V_aload_n g 4 dL_law_1346 rfl ?_
      refine V_iconst (v := 0) g dL_law_1347 (by decide) ?_
      obtain ⟨z440, hf⟩ := nz_some hf
      obtain ⟨h441, hf⟩ := ckf hf
      refine V_lald g z440 h441 dL_law_1348 ?_
      refine V_iload g 0 dL_law_1349 rfl ?_
      refine V_i2l g dL_law_1351 ?_
      refine V_lcmp g dL_law_1352 ?_
      refine V_if_eq g 1358 dL_law_1353 (by decide) (fun c442 => ?_) (fun c442 => ?_)
      · have hf := it_t hf c442
        refine V_sub [(0, vR 19 1), (1, vR 8 l1), (2, vR 9 l2), (3, vR 11 l3), (4, vI l4)] [1, 2, 3, 4, 5] rfl ?_
        exact t_L_law_b1358 g f hk23 hf
      · have hf := it_f hf c442
        refine V_iconst (v := 0) g dL_law_1356 (by decide) ?_
        exact law_ret g hlr hf dL_law_1357
  · have hf := it_f hf c438
    refine V_iconst (v := 0) g dL_law_1339 (by decide) ?_
    exact law_ret g hlr hf dL_law_1340
set_option maxRecDepth 20000 in
theorem t_L_law_b1286 {E : ET} {fu : Nat} {s' : St} {Q : State → Prop} {xs : Nat → Int32} {L : Nat} (g : GX E "ThinSeriesLaw" cL_law 8 51) (hX : va_X (E.G.2.2.2 19 1) L xs E.s E.s.heap) (hb0 : E.G.2.2.2 19 1 < E.G.1) (hlr : law_end E Q s') {k23 : St → Nat → Nat → Nat → Nat → Int32 → Option (St × Int32)} (hk23 : ∀ (s : St) (l1 : Nat) (l2 : Nat) (l3 : Nat) (l4 : Int32), k23 s l1 l2 l3 l4 = some (s', 1) → V E 8 Q s 23 [(0, vR 19 1), (1, vR 8 l1), (2, vR 9 l2), (3, vR 11 l3), (4, vI l4)] []) {s : St} {l1 : Nat} {l2 : Nat} {l3 : Nat} {l4 : Int32} {t0 : Int32} {t1 : Int32} {t2 : Int32} {t3 : Int32} {t4 : Nat} (hf : f_L_law_b1286 fu xs L k23 s l1 l2 l3 l4 t0 t1 t2 t3 t4 = some (s', 1)) : V E 8 Q s 1286 [(0, vR 19 1), (1, vR 8 l1), (2, vR 9 l2), (3, vR 11 l3), (4, vI l4)] [vI t0, vI t1, vI t2, vI t3, vR 8 t4] := by
  unfold f_L_law_b1286 at hf
  refine V_aload_n g 3 dL_law_1286 rfl ?_
  obtain ⟨s425, x426, hc, hf⟩ := bI_some hf
  refine cW1 g [vR 8 t4, vI t3, vI t2, vI t1, vI t0, vR 11 l3] [] s425 (vI x426) cf_L_gap (t_L_gap g.2.2.2.2.2.2.1 hc) (by decide) q_1106 (Nat.le_of_ble_eq_true rfl) dL_law_1287 ?_ rfl
  refine V_istore g [(5, vI x426), (0, vR 19 1), (1, vR 8 l1), (2, vR 9 l2), (3, vR 11 l3), (4, vI l4)] dL_law_1290 rfl (by decide) rfl ?_
  refine V_aload_n g 3 dL_law_1292 rfl ?_
  refine V_aload_n g 1 dL_law_1293 rfl ?_
  refine V_iload g 5 dL_law_1294 rfl ?_
  refine V_iconst (v := 1) g dL_law_1296 (by decide) ?_
  refine V_iadd g dL_law_1297 ?_
  obtain ⟨h427, hf⟩ := ckf hf
  refine V_sld g hX hb0 h427 dL_law_1298 ?_
  refine V_aload_n g 1 dL_law_1299 rfl ?_
  refine V_iload g 5 dL_law_1300 rfl ?_
  refine V_iconst (v := 2) g dL_law_1302 (by decide) ?_
  refine V_iadd g dL_law_1303 ?_
  obtain ⟨h428, hf⟩ := ckf hf
  refine V_sld g hX hb0 h428 dL_law_1304 ?_
  refine V_aload_n g 1 dL_law_1305 rfl ?_
  refine V_iload g 5 dL_law_1306 rfl ?_
  refine V_iconst (v := 3) g dL_law_1308 (by decide) ?_
  refine V_iadd g dL_law_1309 ?_
  obtain ⟨h429, hf⟩ := ckf hf
  refine V_sld g hX hb0 h429 dL_law_1310 ?_
  refine V_aload_n g 1 dL_law_1311 rfl ?_
  refine V_iload g 5 dL_law_1312 rfl ?_
  refine V_iconst (v := 4) g dL_law_1314 (by decide) ?_
  refine V_iadd g dL_law_1315 ?_
  obtain ⟨h430, hf⟩ := ckf hf
  refine V_sld g hX hb0 h430 dL_law_1316 ?_
  refine V_if_eq g 1324 dL_law_1317 (by decide) (fun c431 => ?_) (fun c431 => ?_)
  · have hf := it_t hf c431
    refine V_iconst (v := 0) g dL_law_1324 (by decide) ?_
    refine V_sub [(0, vR 19 1), (1, vR 8 l1), (2, vR 9 l2), (3, vR 11 l3), (4, vI l4), (5, vI x426)] [1, 2, 3, 4, 5, 0] rfl ?_
    exact t_L_law_b1325 g f hk23 hf
  · have hf := it_f hf c431
    refine V_iconst (v := 1) g dL_law_1320 (by decide) ?_
    refine V_goto g 1325 dL_law_1321 (by decide) ?_
    refine V_sub [(0, vR 19 1), (1, vR 8 l1), (2, vR 9 l2), (3, vR 11 l3), (4, vI l4), (5, vI x426)] [1, 2, 3, 4, 5, 0] rfl ?_
    exact t_L_law_b1325 g f hk23 hf
set_option maxRecDepth 20000 in
theorem t_L_law_b1449 {E : ET} {fu : Nat} {s' : St} {Q : State → Prop} {xs : Nat → Int32} {L : Nat} (g : GX E "ThinSeriesLaw" cL_law 8 51) (hX : va_X (E.G.2.2.2 19 1) L xs E.s E.s.heap) (hb0 : E.G.2.2.2 19 1 < E.G.1) (hlr : law_end E Q s') {k23 : St → Nat → Nat → Nat → Nat → Int32 → Option (St × Int32)} (hk23 : ∀ (s : St) (l1 : Nat) (l2 : Nat) (l3 : Nat) (l4 : Int32), k23 s l1 l2 l3 l4 = some (s', 1) → V E 8 Q s 23 [(0, vR 19 1), (1, vR 8 l1), (2, vR 9 l2), (3, vR 11 l3), (4, vI l4)] []) {s : St} {l1 : Nat} {l2 : Nat} {l3 : Nat} {l4 : Int32} (hf : f_L_law_b1449 fu xs L k23 s l1 l2 l3 l4 = some (s', 1)) : V E 8 Q s 1449 [(0, vR 19 1), (1, vR 8 l1), (2, vR 9 l2), (3, vR 11 l3), (4, vI l4)] [] := by
  unfold f_L_law_b1449 at hf
  refine V_goto g 1839 dL_law_1449 (by decide) ?_
  exact t_L_law_b1839 g f hk23 hf
set_option maxRecDepth 20000 in
theorem t_L_law_b1517 {E : ET} {fu : Nat} {s' : St} {Q : State → Prop} {xs : Nat → Int32} {L : Nat} (g : GX E "ThinSeriesLaw" cL_law 8 51) (hX : va_X (E.G.2.2.2 19 1) L xs E.s E.s.heap) (hb0 : E.G.2.2.2 19 1 < E.G.1) (hlr : law_end E Q s') {k23 : St → Nat → Nat → Nat → Nat → Int32 → Option (St × Int32)} (hk23 : ∀ (s : St) (l1 : Nat) (l2 : Nat) (l3 : Nat) (l4 : Int32), k23 s l1 l2 l3 l4 = some (s', 1) → V E 8 Q s 23 [(0, vR 19 1), (1, vR 8 l1), (2, vR 9 l2), (3, vR 11 l3), (4, vI l4)] []) {s : St} {l1 : Nat} {l2 : Nat} {l3 : Nat} {l4 : Int32} (hf : f_L_law_b1517 fu xs L k23 s l1 l2 l3 l4 = some (s', 1)) : V E 8 Q s 1517 [(0, vR 19 1), (1, vR 8 l1), (2, vR 9 l2), (3, vR 11 l3), (4, vI l4)] [] := by
  unfold f_L_law_b1517 at hf
  refine V_goto g 1839 dL_law_1517 (by decide) ?_
  exact t_L_law_b1839 g f hk23 hf
set_option maxRecDepth 20000 in
theorem t_L_law_b1597 {E : ET} {fu : Nat} {s' : St} {Q : State → Prop} {xs : Nat → Int32} {L : Nat} (g : GX E "ThinSeriesLaw" cL_law 8 51) (hX : va_X (E.G.2.2.2 19 1) L xs E.s E.s.heap) (hb0 : E.G.2.2.2 19 1 < E.G.1) (hlr : law_end E Q s') {k23 : St → Nat → Nat → Nat → Nat → Int32 → Option (St × Int32)} (hk23 : ∀ (s : St) (l1 : Nat) (l2 : Nat) (l3 : Nat) (l4 : Int32), k23 s l1 l2 l3 l4 = some (s', 1) → V E 8 Q s 23 [(0, vR 19 1), (1, vR 8 l1), (2, vR 9 l2), (3, vR 11 l3), (4, vI l4)] []) {s : St} {l1 : Nat} {l2 : Nat} {l3 : Nat} {l4 : Int32} (hf : f_L_law_b1597 fu xs L k23 s l1 l2 l3 l4 = some (s', 1)) : V E 8 Q s 1597 [(0, vR 19 1), (1, vR 8 l1), (2, vR 9 l2), (3, vR 11 l3), (4, vI l4)] [] := by
  unfold f_L_law_b1597 at hf
  refine V_goto g 1839 dL_law_1597 (by decide) ?_
  exact t_L_law_b1839 g f hk23 hf
set_option maxRecDepth 20000 in
theorem t_L_law_b1677 {E : ET} {fu : Nat} {s' : St} {Q : State → Prop} {xs : Nat → Int32} {L : Nat} (g : GX E "ThinSeriesLaw" cL_law 8 51) (hX : va_X (E.G.2.2.2 19 1) L xs E.s E.s.heap) (hb0 : E.G.2.2.2 19 1 < E.G.1) (hlr : law_end E Q s') {k23 : St → Nat → Nat → Nat → Nat → Int32 → Option (St × Int32)} (hk23 : ∀ (s : St) (l1 : Nat) (l2 : Nat) (l3 : Nat) (l4 : Int32), k23 s l1 l2 l3 l4 = some (s', 1) → V E 8 Q s 23 [(0, vR 19 1), (1, vR 8 l1), (2, vR 9 l2), (3, vR 11 l3), (4, vI l4)] []) {s : St} {l1 : Nat} {l2 : Nat} {l3 : Nat} {l4 : Int32} (hf : f_L_law_b1677 fu xs L k23 s l1 l2 l3 l4 = some (s', 1)) : V E 8 Q s 1677 [(0, vR 19 1), (1, vR 8 l1), (2, vR 9 l2), (3, vR 11 l3), (4, vI l4)] [] := by
  unfold f_L_law_b1677 at hf
  refine V_goto g 1839 dL_law_1677 (by decide) ?_
  exact t_L_law_b1839 g f hk23 hf
set_option maxRecDepth 20000 in
theorem t_L_law_b1756 {E : ET} {fu : Nat} {s' : St} {Q : State → Prop} {xs : Nat → Int32} {L : Nat} (g : GX E "ThinSeriesLaw" cL_law 8 51) (hX : va_X (E.G.2.2.2 19 1) L xs E.s E.s.heap) (hb0 : E.G.2.2.2 19 1 < E.G.1) (hlr : law_end E Q s') {k23 : St → Nat → Nat → Nat → Nat → Int32 → Option (St × Int32)} (hk23 : ∀ (s : St) (l1 : Nat) (l2 : Nat) (l3 : Nat) (l4 : Int32), k23 s l1 l2 l3 l4 = some (s', 1) → V E 8 Q s 23 [(0, vR 19 1), (1, vR 8 l1), (2, vR 9 l2), (3, vR 11 l3), (4, vI l4)] []) {s : St} {l1 : Nat} {l2 : Nat} {l3 : Nat} {l4 : Int32} (hf : f_L_law_b1756 fu xs L k23 s l1 l2 l3 l4 = some (s', 1)) : V E 8 Q s 1756 [(0, vR 19 1), (1, vR 8 l1), (2, vR 9 l2), (3, vR 11 l3), (4, vI l4)] [] := by
  unfold f_L_law_b1756 at hf
  refine V_goto g 1839 dL_law_1756 (by decide) ?_
  exact t_L_law_b1839 g f hk23 hf
set_option maxRecDepth 20000 in
theorem t_L_law_b1836 {E : ET} {fu : Nat} {s' : St} {Q : State → Prop} {xs : Nat → Int32} {L : Nat} (g : GX E "ThinSeriesLaw" cL_law 8 51) (hX : va_X (E.G.2.2.2 19 1) L xs E.s E.s.heap) (hb0 : E.G.2.2.2 19 1 < E.G.1) (hlr : law_end E Q s') {k23 : St → Nat → Nat → Nat → Nat → Int32 → Option (St × Int32)} (hk23 : ∀ (s : St) (l1 : Nat) (l2 : Nat) (l3 : Nat) (l4 : Int32), k23 s l1 l2 l3 l4 = some (s', 1) → V E 8 Q s 23 [(0, vR 19 1), (1, vR 8 l1), (2, vR 9 l2), (3, vR 11 l3), (4, vI l4)] []) {s : St} {l1 : Nat} {l2 : Nat} {l3 : Nat} {l4 : Int32} (hf : f_L_law_b1836 fu xs L k23 s l1 l2 l3 l4 = some (s', 1)) : V E 8 Q s 1836 [(0, vR 19 1), (1, vR 8 l1), (2, vR 9 l2), (3, vR 11 l3), (4, vI l4)] [] := by
  unfold f_L_law_b1836 at hf
  refine V_goto g 1839 dL_law_1836 (by decide) ?_
  exact t_L_law_b1839 g f hk23 hf
set_option maxRecDepth 20000 in
theorem t_L_law_b23 {E : ET} {fu : Nat} {s' : St} {Q : State → Prop} {xs : Nat → Int32} {L : Nat} (g : GX E "ThinSeriesLaw" cL_law 8 51) (hX : va_X (E.G.2.2.2 19 1) L xs E.s E.s.heap) (hb0 : E.G.2.2.2 19 1 < E.G.1) (hlr : law_end E Q s') : ∀ (n : Nat) (s : St) (l1 : Nat) (l2 : Nat) (l3 : Nat) (l4 : Int32), f_L_law_b23 fu xs L n s l1 l2 l3 l4 = some (s', 1) → V E 8 Q s 23 [(0, vR 19 1), (1, vR 8 l1), (2, vR 9 l2), (3, vR 11 l3), (4, vI l4)] [] := by
  intro n
  induction n with
  | zero =>
    intro s l1 l2 l3 l4 hf
    unfold f_L_law_b23 at hf
    exact nomatch hf
  | succ n ih =>
    intro s l1 l2 l3 l4 hf
    unfold f_L_law_b23 at hf
    refine V_iload g 4 dL_law_23 rfl ?_
    refine V_aload_n g 0 dL_law_25 rfl ?_
    refine V_slen g hX hb0 dL_law_26 ?_
    refine V_bipush (v := 7) g dL_law_27 (by decide) ?_
    refine V_isub g dL_law_29 ?_
    refine V_icmp_gt g 1845 dL_law_30 (by decide) (fun c16 => ?_) (fun c16 => ?_)
    · have hf := it_t hf c16
      refine V_iconst (v := 1) g dL_law_1845 (by decide) ?_
      exact law_ret g hlr hf dL_law_1846
    · have hf := it_f hf c16
      refine V_aload_n g 0 dL_law_33 rfl ?_
      refine V_iload g 4 dL_law_34 rfl ?_
      obtain ⟨h17, hf⟩ := ckf hf
      refine V_sld g hX hb0 h17 dL_law_36 ?_
      refine V_bipush (v := 31) g dL_law_37 (by decide) ?_
      refine V_iand g dL_law_39 ?_
      obtain ⟨x18, ex18, hf⟩ := lt_some hf
      refine V_eqI ex18 ?_
      by_cases c19 : x18 = 0
      · have hf := it_t hf c19
        subst c19
        refine V_tableIn g 156 dL_law_40 (by decide) (by decide) rfl (by decide) ?_
        refine V_aload_n g 1 dL_law_156 rfl ?_
        refine V_aload_n g 0 dL_law_157 rfl ?_
        refine V_iload g 4 dL_law_158 rfl ?_
        refine V_iconst (v := 1) g dL_law_160 (by decide) ?_
        refine V_iadd g dL_law_161 ?_
        obtain ⟨h20, hf⟩ := ckf hf
        refine V_sld g hX hb0 h20 dL_law_162 ?_
        refine V_aload_n g 0 dL_law_163 rfl ?_
        refine V_iload g 4 dL_law_164 rfl ?_
        refine V_iconst (v := 2) g dL_law_166 (by decide) ?_
        refine V_iadd g dL_law_167 ?_
        obtain ⟨h21, hf⟩ := ckf hf
        refine V_sld g hX hb0 h21 dL_law_168 ?_
        refine V_aload_n g 0 dL_law_169 rfl ?_
        refine V_iload g 4 dL_law_170 rfl ?_
        refine V_iconst (v := 3) g dL_law_172 (by decide) ?_
        refine V_iadd g dL_law_173 ?_
        obtain ⟨h22, hf⟩ := ckf hf
        refine V_sld g hX hb0 h22 dL_law_174 ?_
        refine V_aload_n g 0 dL_law_175 rfl ?_
        refine V_iload g 4 dL_law_176 rfl ?_
        refine V_iconst (v := 4) g dL_law_178 (by decide) ?_
        refine V_iadd g dL_law_179 ?_
        obtain ⟨h23, hf⟩ := ckf hf
        refine V_sld g hX hb0 h23 dL_law_180 ?_
        refine V_aload_n g 0 dL_law_181 rfl ?_
        refine V_iload g 4 dL_law_182 rfl ?_
        refine V_iconst (v := 5) g dL_law_184 (by decide) ?_
        refine V_iadd g dL_law_185 ?_
        obtain ⟨h24, hf⟩ := ckf hf
        refine V_sld g hX hb0 h24 dL_law_186 ?_
        obtain ⟨z25, hf⟩ := nz_some hf
        obtain ⟨s26, x27, hc, hf⟩ := bI_some hf
        refine cV1 g [vI (xs (ix (l4 + 1))), vI (xs (ix (l4 + 2))), vI (xs (ix (l4 + 3))), vI (xs (ix (l4 + 4))), vI (xs (ix (l4 + 5)))] [] s26 (vI x27) cf_X8_feed (t_X8_feed g.2.2.2.2.2.2.1 hc) (RC_own g rfl z25) z25 (by decide) q_370 (Nat.le_of_ble_eq_true rfl) dL_law_187 ?_ rfl
        refine V_aload_n g 2 dL_law_190 rfl ?_
        refine V_aload_n g 0 dL_law_191 rfl ?_
        refine V_iload g 4 dL_law_192 rfl ?_
        refine V_iconst (v := 1) g dL_law_194 (by decide) ?_
        refine V_iadd g dL_law_195 ?_
        obtain ⟨h28, hf⟩ := ckf hf
        refine V_sld g hX hb0 h28 dL_law_196 ?_
        refine V_aload_n g 0 dL_law_197 rfl ?_
        refine V_iload g 4 dL_law_198 rfl ?_
        refine V_iconst (v := 2) g dL_law_200 (by decide) ?_
        refine V_iadd g dL_law_201 ?_
        obtain ⟨h29, hf⟩ := ckf hf
        refine V_sld g hX hb0 h29 dL_law_202 ?_
        refine V_aload_n g 0 dL_law_203 rfl ?_
        refine V_iload g 4 dL_law_204 rfl ?_
        refine V_iconst (v := 3) g dL_law_206 (by decide) ?_
        refine V_iadd g dL_law_207 ?_
        obtain ⟨h30, hf⟩ := ckf hf
        refine V_sld g hX hb0 h30 dL_law_208 ?_
        refine V_aload_n g 0 dL_law_209 rfl ?_
        refine V_iload g 4 dL_law_210 rfl ?_
        refine V_iconst (v := 4) g dL_law_212 (by decide) ?_
        refine V_iadd g dL_law_213 ?_
        obtain ⟨h31, hf⟩ := ckf hf
        refine V_sld g hX hb0 h31 dL_law_214 ?_
        refine V_aload_n g 0 dL_law_215 rfl ?_
        refine V_iload g 4 dL_law_216 rfl ?_
        refine V_iconst (v := 5) g dL_law_218 (by decide) ?_
        refine V_iadd g dL_law_219 ?_
        obtain ⟨h32, hf⟩ := ckf hf
        refine V_sld g hX hb0 h32 dL_law_220 ?_
        obtain ⟨z33, hf⟩ := nz_some hf
        obtain ⟨s34, x35, hc, hf⟩ := bI_some hf
        refine cV1 g [vI (xs (ix (l4 + 1))), vI (xs (ix (l4 + 2))), vI (xs (ix (l4 + 3))), vI (xs (ix (l4 + 4))), vI (xs (ix (l4 + 5)))] [vI x27] s34 (vI x35) cf_X9_feed (t_X9_feed g.2.2.2.2.2.2.1 hc) (RC_own g rfl z33) z33 (by decide) q_1446 (Nat.le_of_ble_eq_true rfl) dL_law_221 ?_ rfl
        refine V_icmp_eq g 1839 dL_law_224 (by decide) (fun c36 => ?_) (fun c36 => ?_)
        · have hf := it_t hf c36
          exact t_L_law_b1839 g f ih hf
        · have hf := it_f hf c36
          refine V_iconst (v := 0) g dL_law_227 (by decide) ?_
          exact law_ret g hlr hf dL_law_228
      · have hf := it_f hf c19
        by_cases c37 : x18 = 1
        · have hf := it_t hf c37
          subst c37
          refine V_tableIn g 229 dL_law_40 (by decide) (by decide) rfl (by decide) ?_
          refine V_aload_n g 1 dL_law_229 rfl ?_
          refine V_aload_n g 0 dL_law_230 rfl ?_
          refine V_iload g 4 dL_law_231 rfl ?_
          refine V_iconst (v := 1) g dL_law_233 (by decide) ?_
          refine V_iadd g dL_law_234 ?_
          obtain ⟨h38, hf⟩ := ckf hf
          refine V_sld g hX hb0 h38 dL_law_235 ?_
          refine V_aload_n g 3 dL_law_236 rfl ?_
          obtain ⟨s39, x40, hc, hf⟩ := bI_some hf
          refine cW1 g [vR 8 l1, vI (xs (ix (l4 + 1))), vR 11 l3] [] s39 (vI x40) cf_L_tell (t_L_tell g.2.2.2.2.2.2.1 hc) (by decide) q_608 (Nat.le_of_ble_eq_true rfl) dL_law_237 ?_ rfl
          refine V_istore g [(5, vI x40), (0, vR 19 1), (1, vR 8 l1), (2, vR 9 l2), (3, vR 11 l3), (4, vI l4)] dL_law_240 rfl (by decide) rfl ?_
          refine V_aload_n g 3 dL_law_242 rfl ?_
          refine V_aload_n g 1 dL_law_243 rfl ?_
          refine V_iload g 5 dL_law_244 rfl ?_
          refine V_iconst (v := 1) g dL_law_246 (by decide) ?_
          refine V_iadd g dL_law_247 ?_
          obtain ⟨h41, hf⟩ := ckf hf
          refine V_sld g hX hb0 h41 dL_law_248 ?_
          obtain ⟨z42, hf⟩ := nz_some hf
          obtain ⟨s43, x44, hc, hf⟩ := bI_some hf
          refine cV1 g [vI (xs (ix (l4 + 1)))] [] s43 (vI x44) cf_X9_tell (t_X9_tell g.2.2.2.2.2.2.1 hc) (RC_own g rfl z42) z42 (by decide) q_1450 (Nat.le_of_ble_eq_true rfl) dL_law_249 ?_ rfl
          refine V_istore g [(6, vI x44), (5, vI x40), (0, vR 19 1), (1, vR 8 l1), (2, vR 9 l2), (3, vR 11 l3), (4, vI l4)] dL_law_252 rfl (by decide) rfl ?_
          refine V_aload_n g 4 dL_law_254 rfl ?_
          obtain ⟨s45, x46, hc, hf⟩ := bI_some hf
          refine cV1 g [] [] s45 (vI x46) cf_X9_thrown (t_X9_thrown g.2.2.2.2.2.2.1 hc) (RC_own g rfl z42) z42 (by decide) q_1442 (Nat.le_of_ble_eq_true rfl) dL_law_255 ?_ rfl
          refine V_iload g 1 dL_law_258 rfl ?_
          refine V_icmp_eq g 265 dL_law_260 (by decide) (fun c47 => ?_) (fun c47 => ?_)
          · have hf := it_t hf c47
            refine V_iload g 1 dL_law_265 rfl ?_
            refine V_if_ne g 282 dL_law_267 (by decide) (fun c48 => ?_) (fun c48 => ?_)
            · have hf := it_f hf c48
              refine V_sub [(0, vR 19 1), (1, vR 8 l1), (2, vR 9 l2), (3, vR 11 l3), (4, vI l4)] [2, 3, 4, 5, 6] rfl ?_
              exact t_L_law_b282 g f ih hf
            · have hf := it_t hf c48
              refine V_aload_n g 5 dL_law_270 rfl ?_
              refine V_iconst (v := 0) g dL_law_271 (by decide) ?_
              obtain ⟨z49, hf⟩ := nz_some hf
              obtain ⟨h50, hf⟩ := ckf hf
              refine V_lald g z49 h50 dL_law_272 ?_
              refine V_iload g 0 dL_law_273 rfl ?_
              refine V_i2l g dL_law_275 ?_
              refine V_lcmp g dL_law_276 ?_
              refine V_if_eq g 282 dL_law_277 (by decide) (fun c51 => ?_) (fun c51 => ?_)
              · have hf := it_t hf c51
                refine V_sub [(0, vR 19 1), (1, vR 8 l1), (2, vR 9 l2), (3, vR 11 l3), (4, vI l4)] [2, 3, 4, 5, 6] rfl ?_
                exact t_L_law_b282 g f ih hf
              · have hf := it_f hf c51
                refine V_iconst (v := 0) g dL_law_280 (by decide) ?_
                exact law_ret g hlr hf dL_law_281
          · have hf := it_f hf c47
            refine V_iconst (v := 0) g dL_law_263 (by decide) ?_
            exact law_ret g hlr hf dL_law_264
        · have hf := it_f hf c37
          by_cases c52 : x18 = 2
          · have hf := it_t hf c52
            subst c52
            refine V_tableIn g 285 dL_law_40 (by decide) (by decide) rfl (by decide) ?_
            refine V_aload_n g 1 dL_law_285 rfl ?_
            refine V_aload_n g 0 dL_law_286 rfl ?_
            refine V_iload g 4 dL_law_287 rfl ?_
            refine V_iconst (v := 1) g dL_law_289 (by decide) ?_
            refine V_iadd g dL_law_290 ?_
            obtain ⟨h53, hf⟩ := ckf hf
            refine V_sld g hX hb0 h53 dL_law_291 ?_
            refine V_aload_n g 3 dL_law_292 rfl ?_
            obtain ⟨s54, x55, hc, hf⟩ := bI_some hf
            refine cW1 g [vR 8 l1, vI (xs (ix (l4 + 1))), vR 11 l3] [] s54 (vI x55) cf_L_batch (t_L_batch g.2.2.2.2.2.2.1 hc) (by decide) q_917 (Nat.le_of_ble_eq_true rfl) dL_law_293 ?_ rfl
            refine V_istore g [(5, vI x55), (0, vR 19 1), (1, vR 8 l1), (2, vR 9 l2), (3, vR 11 l3), (4, vI l4)] dL_law_296 rfl (by decide) rfl ?_
            refine V_aload_n g 3 dL_law_298 rfl ?_
            refine V_aload_n g 1 dL_law_299 rfl ?_
            refine V_iload g 5 dL_law_300 rfl ?_
            refine V_iconst (v := 1) g dL_law_302 (by decide) ?_
            refine V_iadd g dL_law_303 ?_
            obtain ⟨h56, hf⟩ := ckf hf
            refine V_sld g hX hb0 h56 dL_law_304 ?_
            obtain ⟨z57, hf⟩ := nz_some hf
            obtain ⟨s58, x59, hc, hf⟩ := bI_some hf
            refine cV1 g [vI (xs (ix (l4 + 1)))] [] s58 (vI x59) cf_X9_batch (t_X9_batch g.2.2.2.2.2.2.1 hc) (RC_own g rfl z57) z57 (by decide) q_1682 (Nat.le_of_ble_eq_true rfl) dL_law_305 ?_ rfl
            refine V_istore g [(6, vI x59), (5, vI x55), (0, vR 19 1), (1, vR 8 l1), (2, vR 9 l2), (3, vR 11 l3), (4, vI l4)] dL_law_308 rfl (by decide) rfl ?_
            refine V_aload_n g 4 dL_law_310 rfl ?_
            obtain ⟨s60, x61, hc, hf⟩ := bI_some hf
            refine cV1 g [] [] s60 (vI x61) cf_X9_thrown (t_X9_thrown g.2.2.2.2.2.2.1 hc) (RC_own g rfl z57) z57 (by decide) q_1442 (Nat.le_of_ble_eq_true rfl) dL_law_311 ?_ rfl
            refine V_iload g 1 dL_law_314 rfl ?_
            refine V_icmp_eq g 321 dL_law_316 (by decide) (fun c62 => ?_) (fun c62 => ?_)
            · have hf := it_t hf c62
              refine V_iload g 1 dL_law_321 rfl ?_
              refine V_if_ne g 338 dL_law_323 (by decide) (fun c63 => ?_) (fun c63 => ?_)
              · have hf := it_f hf c63
                refine V_sub [(0, vR 19 1), (1, vR 8 l1), (2, vR 9 l2), (3, vR 11 l3), (4, vI l4)] [2, 3, 4, 5, 6] rfl ?_
                exact t_L_law_b338 g f ih hf
              · have hf := it_t hf c63
                refine V_aload_n g 5 dL_law_326 rfl ?_
                refine V_iconst (v := 0) g dL_law_327 (by decide) ?_
                obtain ⟨z64, hf⟩ := nz_some hf
                obtain ⟨h65, hf⟩ := ckf hf
                refine V_lald g z64 h65 dL_law_328 ?_
                refine V_iload g 0 dL_law_329 rfl ?_
                refine V_i2l g dL_law_331 ?_
                refine V_lcmp g dL_law_332 ?_
                refine V_if_eq g 338 dL_law_333 (by decide) (fun c66 => ?_) (fun c66 => ?_)
                · have hf := it_t hf c66
                  refine V_sub [(0, vR 19 1), (1, vR 8 l1), (2, vR 9 l2), (3, vR 11 l3), (4, vI l4)] [2, 3, 4, 5, 6] rfl ?_
                  exact t_L_law_b338 g f ih hf
                · have hf := it_f hf c66
                  refine V_iconst (v := 0) g dL_law_336 (by decide) ?_
                  exact law_ret g hlr hf dL_law_337
            · have hf := it_f hf c62
              refine V_iconst (v := 0) g dL_law_319 (by decide) ?_
              exact law_ret g hlr hf dL_law_320
          · have hf := it_f hf c52
            by_cases c67 : x18 = 3
            · have hf := it_t hf c67
              subst c67
              refine V_tableIn g 341 dL_law_40 (by decide) (by decide) rfl (by decide) ?_
              refine V_aload_n g 1 dL_law_341 rfl ?_
              obtain ⟨z68, hf⟩ := nz_some hf
              obtain ⟨s69, x70, hc, hf⟩ := bI_some hf
              refine cV1 g [] [] s69 (vI x70) cf_X8_fault (t_X8_fault g.2.2.2.2.2.2.1 hc) (RC_own g rfl z68) z68 (by decide) q_378 (Nat.le_of_ble_eq_true rfl) dL_law_342 ?_ rfl
              refine V_aload_n g 2 dL_law_345 rfl ?_
              obtain ⟨z71, hf⟩ := nz_some hf
              obtain ⟨s72, x73, hc, hf⟩ := bI_some hf
              refine cV1 g [] [vI x70] s72 (vI x73) cf_X9_fault (t_X9_fault g.2.2.2.2.2.2.1 hc) (RC_own g rfl z71) z71 (by decide) q_1555 (Nat.le_of_ble_eq_true rfl) dL_law_346 ?_ rfl
              refine V_icmp_eq g 1839 dL_law_349 (by decide) (fun c74 => ?_) (fun c74 => ?_)
              · have hf := it_t hf c74
                exact t_L_law_b1839 g f ih hf
              · have hf := it_f hf c74
                refine V_iconst (v := 0) g dL_law_352 (by decide) ?_
                exact law_ret g hlr hf dL_law_353
            · have hf := it_f hf c67
              by_cases c75 : x18 = 4
              · have hf := it_t hf c75
                subst c75
                refine V_tableIn g 354 dL_law_40 (by decide) (by decide) rfl (by decide) ?_
                refine V_aload_n g 1 dL_law_354 rfl ?_
                refine V_aload_n g 0 dL_law_355 rfl ?_
                refine V_iload g 4 dL_law_356 rfl ?_
                refine V_iconst (v := 1) g dL_law_358 (by decide) ?_
                refine V_iadd g dL_law_359 ?_
                obtain ⟨h76, hf⟩ := ckf hf
                refine V_sld g hX hb0 h76 dL_law_360 ?_
                refine V_aload_n g 0 dL_law_361 rfl ?_
                refine V_iload g 4 dL_law_362 rfl ?_
                refine V_iconst (v := 2) g dL_law_364 (by decide) ?_
                refine V_iadd g dL_law_365 ?_
                obtain ⟨h77, hf⟩ := ckf hf
                refine V_sld g hX hb0 h77 dL_law_366 ?_
                refine V_aload_n g 0 dL_law_367 rfl ?_
                refine V_iload g 4 dL_law_368 rfl ?_
                refine V_iconst (v := 3) g dL_law_370 (by decide) ?_
                refine V_iadd g dL_law_371 ?_
                obtain ⟨h78, hf⟩ := ckf hf
                refine V_sld g hX hb0 h78 dL_law_372 ?_
                obtain ⟨z79, hf⟩ := nz_some hf
                obtain ⟨s80, x81, hc, hf⟩ := bI_some hf
                refine cV1 g [vI (xs (ix (l4 + 1))), vI (xs (ix (l4 + 2))), vI (xs (ix (l4 + 3)))] [] s80 (vI x81) cf_X8_put (t_X8_put g.2.2.2.2.2.2.1 hc) (RC_own g rfl z79) z79 (by decide) q_382 (Nat.le_of_ble_eq_true rfl) dL_law_373 ?_ rfl
                refine V_aload_n g 2 dL_law_376 rfl ?_
                refine V_aload_n g 0 dL_law_377 rfl ?_
                refine V_iload g 4 dL_law_378 rfl ?_
                refine V_iconst (v := 1) g dL_law_380 (by decide) ?_
                refine V_iadd g dL_law_381 ?_
                obtain ⟨h82, hf⟩ := ckf hf
                refine V_sld g hX hb0 h82 dL_law_382 ?_
                refine V_aload_n g 0 dL_law_383 rfl ?_
                refine V_iload g 4 dL_law_384 rfl ?_
                refine V_iconst (v := 2) g dL_law_386 (by decide) ?_
                refine V_iadd g dL_law_387 ?_
                obtain ⟨h83, hf⟩ := ckf hf
                refine V_sld g hX hb0 h83 dL_law_388 ?_
                refine V_aload_n g 0 dL_law_389 rfl ?_
                refine V_iload g 4 dL_law_390 rfl ?_
                refine V_iconst (v := 3) g dL_law_392 (by decide) ?_
                refine V_iadd g dL_law_393 ?_
                obtain ⟨h84, hf⟩ := ckf hf
                refine V_sld g hX hb0 h84 dL_law_394 ?_
                obtain ⟨z85, hf⟩ := nz_some hf
                obtain ⟨s86, x87, hc, hf⟩ := bI_some hf
                refine cV1 g [vI (xs (ix (l4 + 1))), vI (xs (ix (l4 + 2))), vI (xs (ix (l4 + 3)))] [vI x81] s86 (vI x87) cf_X9_put (t_X9_put g.2.2.2.2.2.2.1 hc) (RC_own g rfl z85) z85 (by decide) q_1559 (Nat.le_of_ble_eq_true rfl) dL_law_395 ?_ rfl
                refine V_icmp_eq g 1839 dL_law_398 (by decide) (fun c88 => ?_) (fun c88 => ?_)
                · have hf := it_t hf c88
                  exact t_L_law_b1839 g f ih hf
                · have hf := it_f hf c88
                  refine V_iconst (v := 0) g dL_law_401 (by decide) ?_
                  exact law_ret g hlr hf dL_law_402
              · have hf := it_f hf c75
                by_cases c89 : x18 = 5
                · have hf := it_t hf c89
                  subst c89
                  refine V_tableIn g 403 dL_law_40 (by decide) (by decide) rfl (by decide) ?_
                  refine V_aload_n g 1 dL_law_403 rfl ?_
                  refine V_aload_n g 0 dL_law_404 rfl ?_
                  refine V_iload g 4 dL_law_405 rfl ?_
                  refine V_iconst (v := 1) g dL_law_407 (by decide) ?_
                  refine V_iadd g dL_law_408 ?_
                  obtain ⟨h90, hf⟩ := ckf hf
                  refine V_sld g hX hb0 h90 dL_law_409 ?_
                  refine V_aload_n g 0 dL_law_410 rfl ?_
                  refine V_iload g 4 dL_law_411 rfl ?_
                  refine V_iconst (v := 2) g dL_law_413 (by decide) ?_
                  refine V_iadd g dL_law_414 ?_
                  obtain ⟨h91, hf⟩ := ckf hf
                  refine V_sld g hX hb0 h91 dL_law_415 ?_
                  obtain ⟨z92, hf⟩ := nz_some hf
                  obtain ⟨s93, x94, hc, hf⟩ := bI_some hf
                  refine cV1 g [vI (xs (ix (l4 + 1))), vI (xs (ix (l4 + 2)))] [] s93 (vI x94) cf_X8_tick (t_X8_tick g.2.2.2.2.2.2.1 hc) (RC_own g rfl z92) z92 (by decide) q_574 (Nat.le_of_ble_eq_true rfl) dL_law_416 ?_ rfl
                  refine V_aload_n g 2 dL_law_419 rfl ?_
                  refine V_aload_n g 0 dL_law_420 rfl ?_
                  refine V_iload g 4 dL_law_421 rfl ?_
                  refine V_iconst (v := 1) g dL_law_423 (by decide) ?_
                  refine V_iadd g dL_law_424 ?_
                  obtain ⟨h95, hf⟩ := ckf hf
                  refine V_sld g hX hb0 h95 dL_law_425 ?_
                  refine V_aload_n g 0 dL_law_426 rfl ?_
                  refine V_iload g 4 dL_law_427 rfl ?_
                  refine V_iconst (v := 2) g dL_law_429 (by decide) ?_
                  refine V_iadd g dL_law_430 ?_
                  obtain ⟨h96, hf⟩ := ckf hf
                  refine V_sld g hX hb0 h96 dL_law_431 ?_
                  obtain ⟨z97, hf⟩ := nz_some hf
                  obtain ⟨s98, x99, hc, hf⟩ := bI_some hf
                  refine cV1 g [vI (xs (ix (l4 + 1))), vI (xs (ix (l4 + 2)))] [vI x94] s98 (vI x99) cf_X9_tick (t_X9_tick g.2.2.2.2.2.2.1 hc) (RC_own g rfl z97) z97 (by decide) q_1657 (Nat.le_of_ble_eq_true rfl) dL_law_432 ?_ rfl
                  refine V_icmp_eq g 1839 dL_law_435 (by decide) (fun c100 => ?_) (fun c100 => ?_)
                  · have hf := it_t hf c100
                    exact t_L_law_b1839 g f ih hf
                  · have hf := it_f hf c100
                    refine V_iconst (v := 0) g dL_law_438 (by decide) ?_
                    exact law_ret g hlr hf dL_law_439
                · have hf := it_f hf c89
                  by_cases c101 : x18 = 6
                  · have hf := it_t hf c101
                    subst c101
                    refine V_tableIn g 440 dL_law_40 (by decide) (by decide) rfl (by decide) ?_
                    refine V_aload_n g 1 dL_law_440 rfl ?_
                    refine V_aload_n g 0 dL_law_441 rfl ?_
                    refine V_iload g 4 dL_law_442 rfl ?_
                    refine V_iconst (v := 1) g dL_law_444 (by decide) ?_
                    refine V_iadd g dL_law_445 ?_
                    obtain ⟨h102, hf⟩ := ckf hf
                    refine V_sld g hX hb0 h102 dL_law_446 ?_
                    obtain ⟨z103, hf⟩ := nz_some hf
                    obtain ⟨s104, x105, hc, hf⟩ := bI_some hf
                    refine cV1 g [vI (xs (ix (l4 + 1)))] [] s104 (vI x105) cf_X8_drop (t_X8_drop g.2.2.2.2.2.2.1 hc) (RC_own g rfl z103) z103 (by decide) q_578 (Nat.le_of_ble_eq_true rfl) dL_law_447 ?_ rfl
                    refine V_aload_n g 2 dL_law_450 rfl ?_
                    refine V_aload_n g 0 dL_law_451 rfl ?_
                    refine V_iload g 4 dL_law_452 rfl ?_
                    refine V_iconst (v := 1) g dL_law_454 (by decide) ?_
                    refine V_iadd g dL_law_455 ?_
                    obtain ⟨h106, hf⟩ := ckf hf
                    refine V_sld g hX hb0 h106 dL_law_456 ?_
                    obtain ⟨z107, hf⟩ := nz_some hf
                    obtain ⟨s108, x109, hc, hf⟩ := bI_some hf
                    refine cV1 g [vI (xs (ix (l4 + 1)))] [vI x105] s108 (vI x109) cf_X9_drop (t_X9_drop g.2.2.2.2.2.2.1 hc) (RC_own g rfl z107) z107 (by decide) q_1669 (Nat.le_of_ble_eq_true rfl) dL_law_457 ?_ rfl
                    refine V_icmp_eq g 1839 dL_law_460 (by decide) (fun c110 => ?_) (fun c110 => ?_)
                    · have hf := it_t hf c110
                      exact t_L_law_b1839 g f ih hf
                    · have hf := it_f hf c110
                      refine V_iconst (v := 0) g dL_law_463 (by decide) ?_
                      exact law_ret g hlr hf dL_law_464
                  · have hf := it_f hf c101
                    by_cases c111 : x18 = 7
                    · have hf := it_t hf c111
                      subst c111
                      refine V_tableIn g 465 dL_law_40 (by decide) (by decide) rfl (by decide) ?_
                      refine V_aload_n g 1 dL_law_465 rfl ?_
                      refine V_aload_n g 0 dL_law_466 rfl ?_
                      refine V_iload g 4 dL_law_467 rfl ?_
                      refine V_iconst (v := 1) g dL_law_469 (by decide) ?_
                      refine V_iadd g dL_law_470 ?_
                      obtain ⟨h112, hf⟩ := ckf hf
                      refine V_sld g hX hb0 h112 dL_law_471 ?_
                      refine V_aload_n g 0 dL_law_472 rfl ?_
                      refine V_iload g 4 dL_law_473 rfl ?_
                      refine V_iconst (v := 2) g dL_law_475 (by decide) ?_
                      refine V_iadd g dL_law_476 ?_
                      obtain ⟨h113, hf⟩ := ckf hf
                      refine V_sld g hX hb0 h113 dL_law_477 ?_
                      refine V_aload_n g 0 dL_law_478 rfl ?_
                      refine V_iload g 4 dL_law_479 rfl ?_
                      refine V_iconst (v := 3) g dL_law_481 (by decide) ?_
                      refine V_iadd g dL_law_482 ?_
                      obtain ⟨h114, hf⟩ := ckf hf
                      refine V_sld g hX hb0 h114 dL_law_483 ?_
                      refine V_aload_n g 0 dL_law_484 rfl ?_
                      refine V_iload g 4 dL_law_485 rfl ?_
                      refine V_iconst (v := 4) g dL_law_487 (by decide) ?_
                      refine V_iadd g dL_law_488 ?_
                      obtain ⟨h115, hf⟩ := ckf hf
                      refine V_sld g hX hb0 h115 dL_law_489 ?_
                      refine V_aload_n g 0 dL_law_490 rfl ?_
                      refine V_iload g 4 dL_law_491 rfl ?_
                      refine V_iconst (v := 5) g dL_law_493 (by decide) ?_
                      refine V_iadd g dL_law_494 ?_
                      obtain ⟨h116, hf⟩ := ckf hf
                      refine V_sld g hX hb0 h116 dL_law_495 ?_
                      refine V_aload_n g 0 dL_law_496 rfl ?_
                      refine V_iload g 4 dL_law_497 rfl ?_
                      refine V_bipush (v := 6) g dL_law_499 (by decide) ?_
                      refine V_iadd g dL_law_501 ?_
                      obtain ⟨h117, hf⟩ := ckf hf
                      refine V_sld g hX hb0 h117 dL_law_502 ?_
                      obtain ⟨z118, hf⟩ := nz_some hf
                      obtain ⟨s119, x120, hc, hf⟩ := bI_some hf
                      refine cV1 g [vI (xs (ix (l4 + 1))), vI (xs (ix (l4 + 2))), vI (xs (ix (l4 + 3))), vI (xs (ix (l4 + 4))), vI (xs (ix (l4 + 5))), vI (xs (ix (l4 + 6)))] [] s119 (vI x120) cf_X8_sheet (t_X8_sheet g.2.2.2.2.2.2.1 hc) (RC_own g rfl z118) z118 (by decide) q_600 (Nat.le_of_ble_eq_true rfl) dL_law_503 ?_ rfl
                      refine V_aload_n g 2 dL_law_506 rfl ?_
                      refine V_aload_n g 0 dL_law_507 rfl ?_
                      refine V_iload g 4 dL_law_508 rfl ?_
                      refine V_iconst (v := 1) g dL_law_510 (by decide) ?_
                      refine V_iadd g dL_law_511 ?_
                      obtain ⟨h121, hf⟩ := ckf hf
                      refine V_sld g hX hb0 h121 dL_law_512 ?_
                      refine V_aload_n g 0 dL_law_513 rfl ?_
                      refine V_iload g 4 dL_law_514 rfl ?_
                      refine V_iconst (v := 2) g dL_law_516 (by decide) ?_
                      refine V_iadd g dL_law_517 ?_
                      obtain ⟨h122, hf⟩ := ckf hf
                      refine V_sld g hX hb0 h122 dL_law_518 ?_
                      refine V_aload_n g 0 dL_law_519 rfl ?_
                      refine V_iload g 4 dL_law_520 rfl ?_
                      refine V_iconst (v := 3) g dL_law_522 (by decide) ?_
                      refine V_iadd g dL_law_523 ?_
                      obtain ⟨h123, hf⟩ := ckf hf
                      refine V_sld g hX hb0 h123 dL_law_524 ?_
                      refine V_aload_n g 0 dL_law_525 rfl ?_
                      refine V_iload g 4 dL_law_526 rfl ?_
                      refine V_iconst (v := 4) g dL_law_528 (by decide) ?_
                      refine V_iadd g dL_law_529 ?_
                      obtain ⟨h124, hf⟩ := ckf hf
                      refine V_sld g hX hb0 h124 dL_law_530 ?_
                      refine V_aload_n g 0 dL_law_531 rfl ?_
                      refine V_iload g 4 dL_law_532 rfl ?_
                      refine V_iconst (v := 5) g dL_law_534 (by decide) ?_
                      refine V_iadd g dL_law_535 ?_
                      obtain ⟨h125, hf⟩ := ckf hf
                      refine V_sld g hX hb0 h125 dL_law_536 ?_
                      refine V_aload_n g 0 dL_law_537 rfl ?_
                      refine V_iload g 4 dL_law_538 rfl ?_
                      refine V_bipush (v := 6) g dL_law_540 (by decide) ?_
                      refine V_iadd g dL_law_542 ?_
                      obtain ⟨h126, hf⟩ := ckf hf
                      refine V_sld g hX hb0 h126 dL_law_543 ?_
                      obtain ⟨z127, hf⟩ := nz_some hf
                      obtain ⟨s128, x129, hc, hf⟩ := bI_some hf
                      refine cV1 g [vI (xs (ix (l4 + 1))), vI (xs (ix (l4 + 2))), vI (xs (ix (l4 + 3))), vI (xs (ix (l4 + 4))), vI (xs (ix (l4 + 5))), vI (xs (ix (l4 + 6)))] [vI x120] s128 (vI x129) cf_X9_sheet (t_X9_sheet g.2.2.2.2.2.2.1 hc) (RC_own g rfl z127) z127 (by decide) q_1673 (Nat.le_of_ble_eq_true rfl) dL_law_544 ?_ rfl
                      refine V_icmp_eq g 1839 dL_law_547 (by decide) (fun c130 => ?_) (fun c130 => ?_)
                      · have hf := it_t hf c130
                        exact t_L_law_b1839 g f ih hf
                      · have hf := it_f hf c130
                        refine V_iconst (v := 0) g dL_law_550 (by decide) ?_
                        exact law_ret g hlr hf dL_law_551
                    · have hf := it_f hf c111
                      by_cases c131 : x18 = 8
                      · have hf := it_t hf c131
                        subst c131
                        refine V_tableIn g 552 dL_law_40 (by decide) (by decide) rfl (by decide) ?_
                        refine V_aload_n g 1 dL_law_552 rfl ?_
                        refine V_aload_n g 0 dL_law_553 rfl ?_
                        refine V_iload g 4 dL_law_554 rfl ?_
                        refine V_iconst (v := 1) g dL_law_556 (by decide) ?_
                        refine V_iadd g dL_law_557 ?_
                        obtain ⟨h132, hf⟩ := ckf hf
                        refine V_sld g hX hb0 h132 dL_law_558 ?_
                        refine V_aload_n g 3 dL_law_559 rfl ?_
                        obtain ⟨s133, x134, hc, hf⟩ := bI_some hf
                        refine cW1 g [vR 8 l1, vI (xs (ix (l4 + 1))), vR 11 l3] [] s133 (vI x134) cf_L_why (t_L_why g.2.2.2.2.2.2.1 hc) (by decide) q_959 (Nat.le_of_ble_eq_true rfl) dL_law_560 ?_ rfl
                        refine V_istore g [(5, vI x134), (0, vR 19 1), (1, vR 8 l1), (2, vR 9 l2), (3, vR 11 l3), (4, vI l4)] dL_law_563 rfl (by decide) rfl ?_
                        refine V_aload_n g 3 dL_law_565 rfl ?_
                        refine V_aload_n g 1 dL_law_566 rfl ?_
                        refine V_iload g 5 dL_law_567 rfl ?_
                        refine V_iconst (v := 1) g dL_law_569 (by decide) ?_
                        refine V_iadd g dL_law_570 ?_
                        obtain ⟨h135, hf⟩ := ckf hf
                        refine V_sld g hX hb0 h135 dL_law_571 ?_
                        obtain ⟨z136, hf⟩ := nz_some hf
                        obtain ⟨s137, x138, hc, hf⟩ := bI_some hf
                        refine cV1 g [vI (xs (ix (l4 + 1)))] [] s137 (vI x138) cf_X9_why (t_X9_why g.2.2.2.2.2.2.1 hc) (RC_own g rfl z136) z136 (by decide) q_1678 (Nat.le_of_ble_eq_true rfl) dL_law_572 ?_ rfl
                        refine V_istore g [(6, vI x138), (5, vI x134), (0, vR 19 1), (1, vR 8 l1), (2, vR 9 l2), (3, vR 11 l3), (4, vI l4)] dL_law_575 rfl (by decide) rfl ?_
                        refine V_aload_n g 4 dL_law_577 rfl ?_
                        obtain ⟨s139, x140, hc, hf⟩ := bI_some hf
                        refine cV1 g [] [] s139 (vI x140) cf_X9_thrown (t_X9_thrown g.2.2.2.2.2.2.1 hc) (RC_own g rfl z136) z136 (by decide) q_1442 (Nat.le_of_ble_eq_true rfl) dL_law_578 ?_ rfl
                        refine V_iload g 1 dL_law_581 rfl ?_
                        refine V_icmp_eq g 588 dL_law_583 (by decide) (fun c141 => ?_) (fun c141 => ?_)
                        · have hf := it_t hf c141
                          refine V_iload g 1 dL_law_588 rfl ?_
                          refine V_if_ne g 605 dL_law_590 (by decide) (fun c142 => ?_) (fun c142 => ?_)
                          · have hf := it_f hf c142
                            refine V_sub [(0, vR 19 1), (1, vR 8 l1), (2, vR 9 l2), (3, vR 11 l3), (4, vI l4)] [2, 3, 4, 5, 6] rfl ?_
                            exact t_L_law_b605 g f ih hf
                          · have hf := it_t hf c142
                            refine V_aload_n g 5 dL_law_593 rfl ?_
                            refine V_iconst (v := 0) g dL_law_594 (by decide) ?_
                            obtain ⟨z143, hf⟩ := nz_some hf
                            obtain ⟨h144, hf⟩ := ckf hf
                            refine V_lald g z143 h144 dL_law_595 ?_
                            refine V_iload g 0 dL_law_596 rfl ?_
                            refine V_i2l g dL_law_598 ?_
                            refine V_lcmp g dL_law_599 ?_
                            refine V_if_eq g 605 dL_law_600 (by decide) (fun c145 => ?_) (fun c145 => ?_)
                            · have hf := it_t hf c145
                              refine V_sub [(0, vR 19 1), (1, vR 8 l1), (2, vR 9 l2), (3, vR 11 l3), (4, vI l4)] [2, 3, 4, 5, 6] rfl ?_
                              exact t_L_law_b605 g f ih hf
                            · have hf := it_f hf c145
                              refine V_iconst (v := 0) g dL_law_603 (by decide) ?_
                              exact law_ret g hlr hf dL_law_604
                        · have hf := it_f hf c141
                          refine V_iconst (v := 0) g dL_law_586 (by decide) ?_
                          exact law_ret g hlr hf dL_law_587
                      · have hf := it_f hf c131
                        by_cases c146 : x18 = 9
                        · have hf := it_t hf c146
                          subst c146
                          refine V_tableIn g 608 dL_law_40 (by decide) (by decide) rfl (by decide) ?_
                          refine V_aload_n g 1 dL_law_608 rfl ?_
                          refine V_aload_n g 0 dL_law_609 rfl ?_
                          refine V_iload g 4 dL_law_610 rfl ?_
                          refine V_iconst (v := 1) g dL_law_612 (by decide) ?_
                          refine V_iadd g dL_law_613 ?_
                          obtain ⟨h147, hf⟩ := ckf hf
                          refine V_sld g hX hb0 h147 dL_law_614 ?_
                          refine V_aload_n g 3 dL_law_615 rfl ?_
                          obtain ⟨s148, x149, hc, hf⟩ := bI_some hf
                          refine cW1 g [vR 8 l1, vI (xs (ix (l4 + 1))), vR 11 l3] [] s148 (vI x149) cf_L_count (t_L_count g.2.2.2.2.2.2.1 hc) (by decide) q_986 (Nat.le_of_ble_eq_true rfl) dL_law_616 ?_ rfl
                          refine V_istore g [(5, vI x149), (0, vR 19 1), (1, vR 8 l1), (2, vR 9 l2), (3, vR 11 l3), (4, vI l4)] dL_law_619 rfl (by decide) rfl ?_
                          refine V_aload_n g 3 dL_law_621 rfl ?_
                          refine V_aload_n g 1 dL_law_622 rfl ?_
                          refine V_iload g 5 dL_law_623 rfl ?_
                          refine V_iconst (v := 1) g dL_law_625 (by decide) ?_
                          refine V_iadd g dL_law_626 ?_
                          obtain ⟨h150, hf⟩ := ckf hf
                          refine V_sld g hX hb0 h150 dL_law_627 ?_
                          obtain ⟨z151, hf⟩ := nz_some hf
                          obtain ⟨s152, x153, hc, hf⟩ := bI_some hf
                          refine cV1 g [vI (xs (ix (l4 + 1)))] [] s152 (vI x153) cf_X9_count (t_X9_count g.2.2.2.2.2.2.1 hc) (RC_own g rfl z151) z151 (by decide) q_1707 (Nat.le_of_ble_eq_true rfl) dL_law_628 ?_ rfl
                          refine V_istore g [(6, vI x153), (5, vI x149), (0, vR 19 1), (1, vR 8 l1), (2, vR 9 l2), (3, vR 11 l3), (4, vI l4)] dL_law_631 rfl (by decide) rfl ?_
                          refine V_aload_n g 4 dL_law_633 rfl ?_
                          obtain ⟨s154, x155, hc, hf⟩ := bI_some hf
                          refine cV1 g [] [] s154 (vI x155) cf_X9_thrown (t_X9_thrown g.2.2.2.2.2.2.1 hc) (RC_own g rfl z151) z151 (by decide) q_1442 (Nat.le_of_ble_eq_true rfl) dL_law_634 ?_ rfl
                          refine V_iload g 1 dL_law_637 rfl ?_
                          refine V_icmp_eq g 644 dL_law_639 (by decide) (fun c156 => ?_) (fun c156 => ?_)
                          · have hf := it_t hf c156
                            refine V_iload g 1 dL_law_644 rfl ?_
                            refine V_if_ne g 661 dL_law_646 (by decide) (fun c157 => ?_) (fun c157 => ?_)
                            · have hf := it_f hf c157
                              refine V_sub [(0, vR 19 1), (1, vR 8 l1), (2, vR 9 l2), (3, vR 11 l3), (4, vI l4)] [2, 3, 4, 5, 6] rfl ?_
                              exact t_L_law_b661 g f ih hf
                            · have hf := it_t hf c157
                              refine V_aload_n g 5 dL_law_649 rfl ?_
                              refine V_iconst (v := 0) g dL_law_650 (by decide) ?_
                              obtain ⟨z158, hf⟩ := nz_some hf
                              obtain ⟨h159, hf⟩ := ckf hf
                              refine V_lald g z158 h159 dL_law_651 ?_
                              refine V_iload g 0 dL_law_652 rfl ?_
                              refine V_i2l g dL_law_654 ?_
                              refine V_lcmp g dL_law_655 ?_
                              refine V_if_eq g 661 dL_law_656 (by decide) (fun c160 => ?_) (fun c160 => ?_)
                              · have hf := it_t hf c160
                                refine V_sub [(0, vR 19 1), (1, vR 8 l1), (2, vR 9 l2), (3, vR 11 l3), (4, vI l4)] [2, 3, 4, 5, 6] rfl ?_
                                exact t_L_law_b661 g f ih hf
                              · have hf := it_f hf c160
                                refine V_iconst (v := 0) g dL_law_659 (by decide) ?_
                                exact law_ret g hlr hf dL_law_660
                          · have hf := it_f hf c156
                            refine V_iconst (v := 0) g dL_law_642 (by decide) ?_
                            exact law_ret g hlr hf dL_law_643
                        · have hf := it_f hf c146
                          by_cases c161 : x18 = 10
                          · have hf := it_t hf c161
                            subst c161
                            refine V_tableIn g 664 dL_law_40 (by decide) (by decide) rfl (by decide) ?_
                            refine V_aload_n g 1 dL_law_664 rfl ?_
                            refine V_aload_n g 0 dL_law_665 rfl ?_
                            refine V_iload g 4 dL_law_666 rfl ?_
                            refine V_iconst (v := 1) g dL_law_668 (by decide) ?_
                            refine V_iadd g dL_law_669 ?_
                            obtain ⟨h162, hf⟩ := ckf hf
                            refine V_sld g hX hb0 h162 dL_law_670 ?_
                            refine V_aload_n g 0 dL_law_671 rfl ?_
                            refine V_iload g 4 dL_law_672 rfl ?_
                            refine V_iconst (v := 2) g dL_law_674 (by decide) ?_
                            refine V_iadd g dL_law_675 ?_
                            obtain ⟨h163, hf⟩ := ckf hf
                            refine V_sld g hX hb0 h163 dL_law_676 ?_
                            refine V_aload_n g 3 dL_law_677 rfl ?_
                            obtain ⟨s164, x165, hc, hf⟩ := bI_some hf
                            refine cW1 g [vR 8 l1, vI (xs (ix (l4 + 1))), vI (xs (ix (l4 + 2))), vR 11 l3] [] s164 (vI x165) cf_L_tier (t_L_tier g.2.2.2.2.2.2.1 hc) (by decide) q_997 (Nat.le_of_ble_eq_true rfl) dL_law_678 ?_ rfl
                            refine V_istore g [(5, vI x165), (0, vR 19 1), (1, vR 8 l1), (2, vR 9 l2), (3, vR 11 l3), (4, vI l4)] dL_law_681 rfl (by decide) rfl ?_
                            refine V_aload_n g 3 dL_law_683 rfl ?_
                            refine V_aload_n g 1 dL_law_684 rfl ?_
                            refine V_iload g 5 dL_law_685 rfl ?_
                            refine V_iconst (v := 1) g dL_law_687 (by decide) ?_
                            refine V_iadd g dL_law_688 ?_
                            obtain ⟨h166, hf⟩ := ckf hf
                            refine V_sld g hX hb0 h166 dL_law_689 ?_
                            refine V_aload_n g 1 dL_law_690 rfl ?_
                            refine V_iload g 5 dL_law_691 rfl ?_
                            refine V_iconst (v := 2) g dL_law_693 (by decide) ?_
                            refine V_iadd g dL_law_694 ?_
                            obtain ⟨h167, hf⟩ := ckf hf
                            refine V_sld g hX hb0 h167 dL_law_695 ?_
                            obtain ⟨z168, hf⟩ := nz_some hf
                            obtain ⟨s169, x170, hc, hf⟩ := bI_some hf
                            refine cV1 g [vI (xs (ix (l4 + 1))), vI (xs (ix (l4 + 2)))] [] s169 (vI x170) cf_X9_tier (t_X9_tier g.2.2.2.2.2.2.1 hc) (RC_own g rfl z168) z168 (by decide) q_1711 (Nat.le_of_ble_eq_true rfl) dL_law_696 ?_ rfl
                            refine V_istore g [(6, vI x170), (5, vI x165), (0, vR 19 1), (1, vR 8 l1), (2, vR 9 l2), (3, vR 11 l3), (4, vI l4)] dL_law_699 rfl (by decide) rfl ?_
                            refine V_aload_n g 4 dL_law_701 rfl ?_
                            obtain ⟨s171, x172, hc, hf⟩ := bI_some hf
                            refine cV1 g [] [] s171 (vI x172) cf_X9_thrown (t_X9_thrown g.2.2.2.2.2.2.1 hc) (RC_own g rfl z168) z168 (by decide) q_1442 (Nat.le_of_ble_eq_true rfl) dL_law_702 ?_ rfl
                            refine V_iload g 1 dL_law_705 rfl ?_
                            refine V_icmp_eq g 712 dL_law_707 (by decide) (fun c173 => ?_) (fun c173 => ?_)
                            · have hf := it_t hf c173
                              refine V_iload g 1 dL_law_712 rfl ?_
                              refine V_if_ne g 729 dL_law_714 (by decide) (fun c174 => ?_) (fun c174 => ?_)
                              · have hf := it_f hf c174
                                refine V_sub [(0, vR 19 1), (1, vR 8 l1), (2, vR 9 l2), (3, vR 11 l3), (4, vI l4)] [2, 3, 4, 5, 6] rfl ?_
                                exact t_L_law_b729 g f ih hf
                              · have hf := it_t hf c174
                                refine V_aload_n g 5 dL_law_717 rfl ?_
                                refine V_iconst (v := 0) g dL_law_718 (by decide) ?_
                                obtain ⟨z175, hf⟩ := nz_some hf
                                obtain ⟨h176, hf⟩ := ckf hf
                                refine V_lald g z175 h176 dL_law_719 ?_
                                refine V_iload g 0 dL_law_720 rfl ?_
                                refine V_i2l g dL_law_722 ?_
                                refine V_lcmp g dL_law_723 ?_
                                refine V_if_eq g 729 dL_law_724 (by decide) (fun c177 => ?_) (fun c177 => ?_)
                                · have hf := it_t hf c177
                                  refine V_sub [(0, vR 19 1), (1, vR 8 l1), (2, vR 9 l2), (3, vR 11 l3), (4, vI l4)] [2, 3, 4, 5, 6] rfl ?_
                                  exact t_L_law_b729 g f ih hf
                                · have hf := it_f hf c177
                                  refine V_iconst (v := 0) g dL_law_727 (by decide) ?_
                                  exact law_ret g hlr hf dL_law_728
                            · have hf := it_f hf c173
                              refine V_iconst (v := 0) g dL_law_710 (by decide) ?_
                              exact law_ret g hlr hf dL_law_711
                          · have hf := it_f hf c161
                            by_cases c178 : x18 = 11
                            · have hf := it_t hf c178
                              subst c178
                              refine V_tableIn g 732 dL_law_40 (by decide) (by decide) rfl (by decide) ?_
                              refine V_aload_n g 1 dL_law_732 rfl ?_
                              refine V_aload_n g 0 dL_law_733 rfl ?_
                              refine V_iload g 4 dL_law_734 rfl ?_
                              refine V_iconst (v := 1) g dL_law_736 (by decide) ?_
                              refine V_iadd g dL_law_737 ?_
                              obtain ⟨h179, hf⟩ := ckf hf
                              refine V_sld g hX hb0 h179 dL_law_738 ?_
                              refine V_aload_n g 3 dL_law_739 rfl ?_
                              obtain ⟨s180, x181, hc, hf⟩ := bI_some hf
                              refine cW1 g [vR 8 l1, vI (xs (ix (l4 + 1))), vR 11 l3] [] s180 (vI x181) cf_L_used (t_L_used g.2.2.2.2.2.2.1 hc) (by decide) q_1009 (Nat.le_of_ble_eq_true rfl) dL_law_740 ?_ rfl
                              refine V_istore g [(5, vI x181), (0, vR 19 1), (1, vR 8 l1), (2, vR 9 l2), (3, vR 11 l3), (4, vI l4)] dL_law_743 rfl (by decide) rfl ?_
                              refine V_aload_n g 3 dL_law_745 rfl ?_
                              refine V_aload_n g 1 dL_law_746 rfl ?_
                              refine V_iload g 5 dL_law_747 rfl ?_
                              refine V_iconst (v := 1) g dL_law_749 (by decide) ?_
                              refine V_iadd g dL_law_750 ?_
                              obtain ⟨h182, hf⟩ := ckf hf
                              refine V_sld g hX hb0 h182 dL_law_751 ?_
                              obtain ⟨z183, hf⟩ := nz_some hf
                              obtain ⟨s184, x185, hc, hf⟩ := bI_some hf
                              refine cV1 g [vI (xs (ix (l4 + 1)))] [] s184 (vI x185) cf_X9_used (t_X9_used g.2.2.2.2.2.2.1 hc) (RC_own g rfl z183) z183 (by decide) q_1719 (Nat.le_of_ble_eq_true rfl) dL_law_752 ?_ rfl
                              refine V_istore g [(6, vI x185), (5, vI x181), (0, vR 19 1), (1, vR 8 l1), (2, vR 9 l2), (3, vR 11 l3), (4, vI l4)] dL_law_755 rfl (by decide) rfl ?_
                              refine V_aload_n g 4 dL_law_757 rfl ?_
                              obtain ⟨s186, x187, hc, hf⟩ := bI_some hf
                              refine cV1 g [] [] s186 (vI x187) cf_X9_thrown (t_X9_thrown g.2.2.2.2.2.2.1 hc) (RC_own g rfl z183) z183 (by decide) q_1442 (Nat.le_of_ble_eq_true rfl) dL_law_758 ?_ rfl
                              refine V_iload g 1 dL_law_761 rfl ?_
                              refine V_icmp_eq g 768 dL_law_763 (by decide) (fun c188 => ?_) (fun c188 => ?_)
                              · have hf := it_t hf c188
                                refine V_iload g 1 dL_law_768 rfl ?_
                                refine V_if_ne g 785 dL_law_770 (by decide) (fun c189 => ?_) (fun c189 => ?_)
                                · have hf := it_f hf c189
                                  refine V_sub [(0, vR 19 1), (1, vR 8 l1), (2, vR 9 l2), (3, vR 11 l3), (4, vI l4)] [2, 3, 4, 5, 6] rfl ?_
                                  exact t_L_law_b785 g f ih hf
                                · have hf := it_t hf c189
                                  refine V_aload_n g 5 dL_law_773 rfl ?_
                                  refine V_iconst (v := 0) g dL_law_774 (by decide) ?_
                                  obtain ⟨z190, hf⟩ := nz_some hf
                                  obtain ⟨h191, hf⟩ := ckf hf
                                  refine V_lald g z190 h191 dL_law_775 ?_
                                  refine V_iload g 0 dL_law_776 rfl ?_
                                  refine V_i2l g dL_law_778 ?_
                                  refine V_lcmp g dL_law_779 ?_
                                  refine V_if_eq g 785 dL_law_780 (by decide) (fun c192 => ?_) (fun c192 => ?_)
                                  · have hf := it_t hf c192
                                    refine V_sub [(0, vR 19 1), (1, vR 8 l1), (2, vR 9 l2), (3, vR 11 l3), (4, vI l4)] [2, 3, 4, 5, 6] rfl ?_
                                    exact t_L_law_b785 g f ih hf
                                  · have hf := it_f hf c192
                                    refine V_iconst (v := 0) g dL_law_783 (by decide) ?_
                                    exact law_ret g hlr hf dL_law_784
                              · have hf := it_f hf c188
                                refine V_iconst (v := 0) g dL_law_766 (by decide) ?_
                                exact law_ret g hlr hf dL_law_767
                            · have hf := it_f hf c178
                              by_cases c193 : x18 = 12
                              · have hf := it_t hf c193
                                subst c193
                                refine V_tableIn g 788 dL_law_40 (by decide) (by decide) rfl (by decide) ?_
                                refine V_aload_n g 1 dL_law_788 rfl ?_
                                refine V_aload_n g 0 dL_law_789 rfl ?_
                                refine V_iload g 4 dL_law_790 rfl ?_
                                refine V_iconst (v := 1) g dL_law_792 (by decide) ?_
                                refine V_iadd g dL_law_793 ?_
                                obtain ⟨h194, hf⟩ := ckf hf
                                refine V_sld g hX hb0 h194 dL_law_794 ?_
                                refine V_aload_n g 0 dL_law_795 rfl ?_
                                refine V_iload g 4 dL_law_796 rfl ?_
                                refine V_iconst (v := 2) g dL_law_798 (by decide) ?_
                                refine V_iadd g dL_law_799 ?_
                                obtain ⟨h195, hf⟩ := ckf hf
                                refine V_sld g hX hb0 h195 dL_law_800 ?_
                                refine V_aload_n g 3 dL_law_801 rfl ?_
                                obtain ⟨s196, x197, hc, hf⟩ := bI_some hf
                                refine cW1 g [vR 8 l1, vI (xs (ix (l4 + 1))), vI (xs (ix (l4 + 2))), vR 11 l3] [] s196 (vI x197) cf_L_of (t_L_of g.2.2.2.2.2.2.1 hc) (by decide) q_1017 (Nat.le_of_ble_eq_true rfl) dL_law_802 ?_ rfl
                                refine V_istore g [(5, vI x197), (0, vR 19 1), (1, vR 8 l1), (2, vR 9 l2), (3, vR 11 l3), (4, vI l4)] dL_law_805 rfl (by decide) rfl ?_
                                refine V_aload_n g 3 dL_law_807 rfl ?_
                                refine V_aload_n g 1 dL_law_808 rfl ?_
                                refine V_iload g 5 dL_law_809 rfl ?_
                                refine V_iconst (v := 1) g dL_law_811 (by decide) ?_
                                refine V_iadd g dL_law_812 ?_
                                obtain ⟨h198, hf⟩ := ckf hf
                                refine V_sld g hX hb0 h198 dL_law_813 ?_
                                refine V_aload_n g 1 dL_law_814 rfl ?_
                                refine V_iload g 5 dL_law_815 rfl ?_
                                refine V_iconst (v := 2) g dL_law_817 (by decide) ?_
                                refine V_iadd g dL_law_818 ?_
                                obtain ⟨h199, hf⟩ := ckf hf
                                refine V_sld g hX hb0 h199 dL_law_819 ?_
                                obtain ⟨z200, hf⟩ := nz_some hf
                                obtain ⟨s201, x202, hc, hf⟩ := bI_some hf
                                refine cV1 g [vI (xs (ix (l4 + 1))), vI (xs (ix (l4 + 2)))] [] s201 (vJ x202) cf_X9_of (t_X9_of g.2.2.2.2.2.2.1 hc) (RC_own g rfl z200) z200 (by decide) q_1723 (Nat.le_of_ble_eq_true rfl) dL_law_820 ?_ rfl
                                refine V_lstore g [(6, vJ x202), (5, vI x197), (0, vR 19 1), (1, vR 8 l1), (2, vR 9 l2), (3, vR 11 l3), (4, vI l4)] dL_law_823 rfl (by decide) rfl ?_
                                refine V_aload_n g 4 dL_law_825 rfl ?_
                                obtain ⟨s203, x204, hc, hf⟩ := bI_some hf
                                refine cV1 g [] [] s203 (vI x204) cf_X9_thrown (t_X9_thrown g.2.2.2.2.2.2.1 hc) (RC_own g rfl z200) z200 (by decide) q_1442 (Nat.le_of_ble_eq_true rfl) dL_law_826 ?_ rfl
                                refine V_iload g 1 dL_law_829 rfl ?_
                                refine V_icmp_eq g 836 dL_law_831 (by decide) (fun c205 => ?_) (fun c205 => ?_)
                                · have hf := it_t hf c205
                                  refine V_iload g 1 dL_law_836 rfl ?_
                                  refine V_if_ne g 852 dL_law_838 (by decide) (fun c206 => ?_) (fun c206 => ?_)
                                  · have hf := it_f hf c206
                                    refine V_sub [(0, vR 19 1), (1, vR 8 l1), (2, vR 9 l2), (3, vR 11 l3), (4, vI l4)] [2, 3, 4, 5, 6] rfl ?_
                                    exact t_L_law_b852 g f ih hf
                                  · have hf := it_t hf c206
                                    refine V_aload_n g 5 dL_law_841 rfl ?_
                                    refine V_iconst (v := 0) g dL_law_842 (by decide) ?_
                                    obtain ⟨z207, hf⟩ := nz_some hf
                                    obtain ⟨h208, hf⟩ := ckf hf
                                    refine V_lald g z207 h208 dL_law_843 ?_
                                    refine V_lload g 0 dL_law_844 rfl ?_
                                    refine V_lcmp g dL_law_846 ?_
                                    refine V_if_eq g 852 dL_law_847 (by decide) (fun c209 => ?_) (fun c209 => ?_)
                                    · have hf := it_t hf c209
                                      refine V_sub [(0, vR 19 1), (1, vR 8 l1), (2, vR 9 l2), (3, vR 11 l3), (4, vI l4)] [2, 3, 4, 5, 6] rfl ?_
                                      exact t_L_law_b852 g f ih hf
                                    · have hf := it_f hf c209
                                      refine V_iconst (v := 0) g dL_law_850 (by decide) ?_
                                      exact law_ret g hlr hf dL_law_851
                                · have hf := it_f hf c205
                                  refine V_iconst (v := 0) g dL_law_834 (by decide) ?_
                                  exact law_ret g hlr hf dL_law_835
                              · have hf := it_f hf c193
                                by_cases c210 : x18 = 13
                                · have hf := it_t hf c210
                                  subst c210
                                  refine V_tableIn g 855 dL_law_40 (by decide) (by decide) rfl (by decide) ?_
                                  refine V_aload_n g 1 dL_law_855 rfl ?_
                                  refine V_aload_n g 0 dL_law_856 rfl ?_
                                  refine V_iload g 4 dL_law_857 rfl ?_
                                  refine V_iconst (v := 1) g dL_law_859 (by decide) ?_
                                  refine V_iadd g dL_law_860 ?_
                                  obtain ⟨h211, hf⟩ := ckf hf
                                  refine V_sld g hX hb0 h211 dL_law_861 ?_
                                  refine V_aload_n g 0 dL_law_862 rfl ?_
                                  refine V_iload g 4 dL_law_863 rfl ?_
                                  refine V_iconst (v := 2) g dL_law_865 (by decide) ?_
                                  refine V_iadd g dL_law_866 ?_
                                  obtain ⟨h212, hf⟩ := ckf hf
                                  refine V_sld g hX hb0 h212 dL_law_867 ?_
                                  refine V_aload_n g 3 dL_law_868 rfl ?_
                                  obtain ⟨s213, x214, hc, hf⟩ := bI_some hf
                                  refine cW1 g [vR 8 l1, vI (xs (ix (l4 + 1))), vI (xs (ix (l4 + 2))), vR 11 l3] [] s213 (vI x214) cf_L_seam (t_L_seam g.2.2.2.2.2.2.1 hc) (by decide) q_1028 (Nat.le_of_ble_eq_true rfl) dL_law_869 ?_ rfl
                                  refine V_istore g [(5, vI x214), (0, vR 19 1), (1, vR 8 l1), (2, vR 9 l2), (3, vR 11 l3), (4, vI l4)] dL_law_872 rfl (by decide) rfl ?_
                                  refine V_aload_n g 3 dL_law_874 rfl ?_
                                  refine V_aload_n g 1 dL_law_875 rfl ?_
                                  refine V_iload g 5 dL_law_876 rfl ?_
                                  refine V_iconst (v := 1) g dL_law_878 (by decide) ?_
                                  refine V_iadd g dL_law_879 ?_
                                  obtain ⟨h215, hf⟩ := ckf hf
                                  refine V_sld g hX hb0 h215 dL_law_880 ?_
                                  refine V_aload_n g 1 dL_law_881 rfl ?_
                                  refine V_iload g 5 dL_law_882 rfl ?_
                                  refine V_iconst (v := 2) g dL_law_884 (by decide) ?_
                                  refine V_iadd g dL_law_885 ?_
                                  obtain ⟨h216, hf⟩ := ckf hf
                                  refine V_sld g hX hb0 h216 dL_law_886 ?_
                                  obtain ⟨z217, hf⟩ := nz_some hf
                                  obtain ⟨s218, x219, hc, hf⟩ := bI_some hf
                                  refine cV1 g [vI (xs (ix (l4 + 1))), vI (xs (ix (l4 + 2)))] [] s218 (vI x219) cf_X9_seam (t_X9_seam g.2.2.2.2.2.2.1 hc) (RC_own g rfl z217) z217 (by decide) q_1742 (Nat.le_of_ble_eq_true rfl) dL_law_887 ?_ rfl
                                  refine V_istore g [(6, vI x219), (5, vI x214), (0, vR 19 1), (1, vR 8 l1), (2, vR 9 l2), (3, vR 11 l3), (4, vI l4)] dL_law_890 rfl (by decide) rfl ?_
                                  refine V_aload_n g 4 dL_law_892 rfl ?_
                                  obtain ⟨s220, x221, hc, hf⟩ := bI_some hf
                                  refine cV1 g [] [] s220 (vI x221) cf_X9_thrown (t_X9_thrown g.2.2.2.2.2.2.1 hc) (RC_own g rfl z217) z217 (by decide) q_1442 (Nat.le_of_ble_eq_true rfl) dL_law_893 ?_ rfl
                                  refine V_iload g 1 dL_law_896 rfl ?_
                                  refine V_icmp_eq g 903 dL_law_898 (by decide) (fun c222 => ?_) (fun c222 => ?_)
                                  · have hf := it_t hf c222
                                    refine V_iload g 1 dL_law_903 rfl ?_
                                    refine V_if_ne g 920 dL_law_905 (by decide) (fun c223 => ?_) (fun c223 => ?_)
                                    · have hf := it_f hf c223
                                      refine V_sub [(0, vR 19 1), (1, vR 8 l1), (2, vR 9 l2), (3, vR 11 l3), (4, vI l4)] [2, 3, 4, 5, 6] rfl ?_
                                      exact t_L_law_b920 g f ih hf
                                    · have hf := it_t hf c223
                                      refine V_aload_n g 5 dL_law_908 rfl ?_
                                      refine V_iconst (v := 0) g dL_law_909 (by decide) ?_
                                      obtain ⟨z224, hf⟩ := nz_some hf
                                      obtain ⟨h225, hf⟩ := ckf hf
                                      refine V_lald g z224 h225 dL_law_910 ?_
                                      refine V_iload g 0 dL_law_911 rfl ?_
                                      refine V_i2l g dL_law_913 ?_
                                      refine V_lcmp g dL_law_914 ?_
                                      refine V_if_eq g 920 dL_law_915 (by decide) (fun c226 => ?_) (fun c226 => ?_)
                                      · have hf := it_t hf c226
                                        refine V_sub [(0, vR 19 1), (1, vR 8 l1), (2, vR 9 l2), (3, vR 11 l3), (4, vI l4)] [2, 3, 4, 5, 6] rfl ?_
                                        exact t_L_law_b920 g f ih hf
                                      · have hf := it_f hf c226
                                        refine V_iconst (v := 0) g dL_law_918 (by decide) ?_
                                        exact law_ret g hlr hf dL_law_919
                                  · have hf := it_f hf c222
                                    refine V_iconst (v := 0) g dL_law_901 (by decide) ?_
                                    exact law_ret g hlr hf dL_law_902
                                · have hf := it_f hf c210
                                  by_cases c227 : x18 = 14
                                  · have hf := it_t hf c227
                                    subst c227
                                    refine V_tableIn g 923 dL_law_40 (by decide) (by decide) rfl (by decide) ?_
                                    refine V_aload_n g 1 dL_law_923 rfl ?_
                                    refine V_aload_n g 0 dL_law_924 rfl ?_
                                    refine V_iload g 4 dL_law_925 rfl ?_
                                    refine V_iconst (v := 1) g dL_law_927 (by decide) ?_
                                    refine V_iadd g dL_law_928 ?_
                                    obtain ⟨h228, hf⟩ := ckf hf
                                    refine V_sld g hX hb0 h228 dL_law_929 ?_
                                    refine V_aload_n g 0 dL_law_930 rfl ?_
                                    refine V_iload g 4 dL_law_931 rfl ?_
                                    refine V_iconst (v := 2) g dL_law_933 (by decide) ?_
                                    refine V_iadd g dL_law_934 ?_
                                    obtain ⟨h229, hf⟩ := ckf hf
                                    refine V_sld g hX hb0 h229 dL_law_935 ?_
                                    refine V_aload_n g 3 dL_law_936 rfl ?_
                                    obtain ⟨s230, x231, hc, hf⟩ := bI_some hf
                                    refine cW1 g [vR 8 l1, vI (xs (ix (l4 + 1))), vI (xs (ix (l4 + 2))), vR 11 l3] [] s230 (vI x231) cf_L_buckets (t_L_buckets g.2.2.2.2.2.2.1 hc) (by decide) q_1035 (Nat.le_of_ble_eq_true rfl) dL_law_937 ?_ rfl
                                    refine V_istore g [(5, vI x231), (0, vR 19 1), (1, vR 8 l1), (2, vR 9 l2), (3, vR 11 l3), (4, vI l4)] dL_law_940 rfl (by decide) rfl ?_
                                    refine V_aload_n g 3 dL_law_942 rfl ?_
                                    refine V_aload_n g 1 dL_law_943 rfl ?_
                                    refine V_iload g 5 dL_law_944 rfl ?_
                                    refine V_iconst (v := 1) g dL_law_946 (by decide) ?_
                                    refine V_iadd g dL_law_947 ?_
                                    obtain ⟨h232, hf⟩ := ckf hf
                                    refine V_sld g hX hb0 h232 dL_law_948 ?_
                                    refine V_aload_n g 1 dL_law_949 rfl ?_
                                    refine V_iload g 5 dL_law_950 rfl ?_
                                    refine V_iconst (v := 2) g dL_law_952 (by decide) ?_
                                    refine V_iadd g dL_law_953 ?_
                                    obtain ⟨h233, hf⟩ := ckf hf
                                    refine V_sld g hX hb0 h233 dL_law_954 ?_
                                    obtain ⟨z234, hf⟩ := nz_some hf
                                    obtain ⟨s235, x236, hc, hf⟩ := bI_some hf
                                    refine cV1 g [vI (xs (ix (l4 + 1))), vI (xs (ix (l4 + 2)))] [] s235 (vI x236) cf_X9_buckets (t_X9_buckets g.2.2.2.2.2.2.1 hc) (RC_own g rfl z234) z234 (by decide) q_1746 (Nat.le_of_ble_eq_true rfl) dL_law_955 ?_ rfl
                                    refine V_istore g [(6, vI x236), (5, vI x231), (0, vR 19 1), (1, vR 8 l1), (2, vR 9 l2), (3, vR 11 l3), (4, vI l4)] dL_law_958 rfl (by decide) rfl ?_
                                    refine V_aload_n g 4 dL_law_960 rfl ?_
                                    obtain ⟨s237, x238, hc, hf⟩ := bI_some hf
                                    refine cV1 g [] [] s237 (vI x238) cf_X9_thrown (t_X9_thrown g.2.2.2.2.2.2.1 hc) (RC_own g rfl z234) z234 (by decide) q_1442 (Nat.le_of_ble_eq_true rfl) dL_law_961 ?_ rfl
                                    refine V_iload g 1 dL_law_964 rfl ?_
                                    refine V_icmp_eq g 971 dL_law_966 (by decide) (fun c239 => ?_) (fun c239 => ?_)
                                    · have hf := it_t hf c239
                                      refine V_iload g 1 dL_law_971 rfl ?_
                                      refine V_if_ne g 988 dL_law_973 (by decide) (fun c240 => ?_) (fun c240 => ?_)
                                      · have hf := it_f hf c240
                                        refine V_sub [(0, vR 19 1), (1, vR 8 l1), (2, vR 9 l2), (3, vR 11 l3), (4, vI l4)] [2, 3, 4, 5, 6] rfl ?_
                                        exact t_L_law_b988 g f ih hf
                                      · have hf := it_t hf c240
                                        refine V_aload_n g 5 dL_law_976 rfl ?_
                                        refine V_iconst (v := 0) g dL_law_977 (by decide) ?_
                                        obtain ⟨z241, hf⟩ := nz_some hf
                                        obtain ⟨h242, hf⟩ := ckf hf
                                        refine V_lald g z241 h242 dL_law_978 ?_
                                        refine V_iload g 0 dL_law_979 rfl ?_
                                        refine V_i2l g dL_law_981 ?_
                                        refine V_lcmp g dL_law_982 ?_
                                        refine V_if_eq g 988 dL_law_983 (by decide) (fun c243 => ?_) (fun c243 => ?_)
                                        · have hf := it_t hf c243
                                          refine V_sub [(0, vR 19 1), (1, vR 8 l1), (2, vR 9 l2), (3, vR 11 l3), (4, vI l4)] [2, 3, 4, 5, 6] rfl ?_
                                          exact t_L_law_b988 g f ih hf
                                        · have hf := it_f hf c243
                                          refine V_iconst (v := 0) g dL_law_986 (by decide) ?_
                                          exact law_ret g hlr hf dL_law_987
                                    · have hf := it_f hf c239
                                      refine V_iconst (v := 0) g dL_law_969 (by decide) ?_
                                      exact law_ret g hlr hf dL_law_970
                                  · have hf := it_f hf c227
                                    by_cases c244 : x18 = 15
                                    · have hf := it_t hf c244
                                      subst c244
                                      refine V_tableIn g 991 dL_law_40 (by decide) (by decide) rfl (by decide) ?_
                                      refine V_aload_n g 1 dL_law_991 rfl ?_
                                      refine V_aload_n g 0 dL_law_992 rfl ?_
                                      refine V_iload g 4 dL_law_993 rfl ?_
                                      refine V_iconst (v := 1) g dL_law_995 (by decide) ?_
                                      refine V_iadd g dL_law_996 ?_
                                      obtain ⟨h245, hf⟩ := ckf hf
                                      refine V_sld g hX hb0 h245 dL_law_997 ?_
                                      refine V_aload_n g 0 dL_law_998 rfl ?_
                                      refine V_iload g 4 dL_law_999 rfl ?_
                                      refine V_iconst (v := 2) g dL_law_1001 (by decide) ?_
                                      refine V_iadd g dL_law_1002 ?_
                                      obtain ⟨h246, hf⟩ := ckf hf
                                      refine V_sld g hX hb0 h246 dL_law_1003 ?_
                                      refine V_aload_n g 0 dL_law_1004 rfl ?_
                                      refine V_iload g 4 dL_law_1005 rfl ?_
                                      refine V_iconst (v := 3) g dL_law_1007 (by decide) ?_
                                      refine V_iadd g dL_law_1008 ?_
                                      obtain ⟨h247, hf⟩ := ckf hf
                                      refine V_sld g hX hb0 h247 dL_law_1009 ?_
                                      refine V_aload_n g 0 dL_law_1010 rfl ?_
                                      refine V_iload g 4 dL_law_1011 rfl ?_
                                      refine V_iconst (v := 4) g dL_law_1013 (by decide) ?_
                                      refine V_iadd g dL_law_1014 ?_
                                      obtain ⟨h248, hf⟩ := ckf hf
                                      refine V_sld g hX hb0 h248 dL_law_1015 ?_
                                      refine V_aload_n g 3 dL_law_1016 rfl ?_
                                      obtain ⟨s249, x250, hc, hf⟩ := bI_some hf
                                      refine cW1 g [vR 8 l1, vI (xs (ix (l4 + 1))), vI (xs (ix (l4 + 2))), vI (xs (ix (l4 + 3))), vI (xs (ix (l4 + 4))), vR 11 l3] [] s249 (vI x250) cf_L_bucket (t_L_bucket g.2.2.2.2.2.2.1 hc) (by decide) q_1050 (Nat.le_of_ble_eq_true rfl) dL_law_1017 ?_ rfl
                                      refine V_istore g [(5, vI x250), (0, vR 19 1), (1, vR 8 l1), (2, vR 9 l2), (3, vR 11 l3), (4, vI l4)] dL_law_1020 rfl (by decide) rfl ?_
                                      refine V_aload_n g 3 dL_law_1022 rfl ?_
                                      refine V_aload_n g 1 dL_law_1023 rfl ?_
                                      refine V_iload g 5 dL_law_1024 rfl ?_
                                      refine V_iconst (v := 1) g dL_law_1026 (by decide) ?_
                                      refine V_iadd g dL_law_1027 ?_
                                      obtain ⟨h251, hf⟩ := ckf hf
                                      refine V_sld g hX hb0 h251 dL_law_1028 ?_
                                      refine V_aload_n g 1 dL_law_1029 rfl ?_
                                      refine V_iload g 5 dL_law_1030 rfl ?_
                                      refine V_iconst (v := 2) g dL_law_1032 (by decide) ?_
                                      refine V_iadd g dL_law_1033 ?_
                                      obtain ⟨h252, hf⟩ := ckf hf
                                      refine V_sld g hX hb0 h252 dL_law_1034 ?_
                                      refine V_aload_n g 1 dL_law_1035 rfl ?_
                                      refine V_iload g 5 dL_law_1036 rfl ?_
                                      refine V_iconst (v := 3) g dL_law_1038 (by decide) ?_
                                      refine V_iadd g dL_law_1039 ?_
                                      obtain ⟨h253, hf⟩ := ckf hf
                                      refine V_sld g hX hb0 h253 dL_law_1040 ?_
                                      refine V_aload_n g 1 dL_law_1041 rfl ?_
                                      refine V_iload g 5 dL_law_1042 rfl ?_
                                      refine V_iconst (v := 4) g dL_law_1044 (by decide) ?_
                                      refine V_iadd g dL_law_1045 ?_
                                      obtain ⟨h254, hf⟩ := ckf hf
                                      refine V_sld g hX hb0 h254 dL_law_1046 ?_
                                      obtain ⟨z255, hf⟩ := nz_some hf
                                      obtain ⟨s256, x257, hc, hf⟩ := bI_some hf
                                      refine cV1 g [vI (xs (ix (l4 + 1))), vI (xs (ix (l4 + 2))), vI (xs (ix (l4 + 3))), vI (xs (ix (l4 + 4)))] [] s256 (vJ x257) cf_X9_bucket (t_X9_bucket g.2.2.2.2.2.2.1 hc) (RC_own g rfl z255) z255 (by decide) q_1762 (Nat.le_of_ble_eq_true rfl) dL_law_1047 ?_ rfl
                                      refine V_lstore g [(6, vJ x257), (5, vI x250), (0, vR 19 1), (1, vR 8 l1), (2, vR 9 l2), (3, vR 11 l3), (4, vI l4)] dL_law_1050 rfl (by decide) rfl ?_
                                      refine V_aload_n g 4 dL_law_1052 rfl ?_
                                      obtain ⟨s258, x259, hc, hf⟩ := bI_some hf
                                      refine cV1 g [] [] s258 (vI x259) cf_X9_thrown (t_X9_thrown g.2.2.2.2.2.2.1 hc) (RC_own g rfl z255) z255 (by decide) q_1442 (Nat.le_of_ble_eq_true rfl) dL_law_1053 ?_ rfl
                                      refine V_iload g 1 dL_law_1056 rfl ?_
                                      refine V_icmp_eq g 1063 dL_law_1058 (by decide) (fun c260 => ?_) (fun c260 => ?_)
                                      · have hf := it_t hf c260
                                        refine V_iload g 1 dL_law_1063 rfl ?_
                                        refine V_if_ne g 1079 dL_law_1065 (by decide) (fun c261 => ?_) (fun c261 => ?_)
                                        · have hf := it_f hf c261
                                          refine V_sub [(0, vR 19 1), (1, vR 8 l1), (2, vR 9 l2), (3, vR 11 l3), (4, vI l4)] [2, 3, 4, 5, 6] rfl ?_
                                          exact t_L_law_b1079 g f ih hf
                                        · have hf := it_t hf c261
                                          refine V_aload_n g 5 dL_law_1068 rfl ?_
                                          refine V_iconst (v := 0) g dL_law_1069 (by decide) ?_
                                          obtain ⟨z262, hf⟩ := nz_some hf
                                          obtain ⟨h263, hf⟩ := ckf hf
                                          refine V_lald g z262 h263 dL_law_1070 ?_
                                          refine V_lload g 0 dL_law_1071 rfl ?_
                                          refine V_lcmp g dL_law_1073 ?_
                                          refine V_if_eq g 1079 dL_law_1074 (by decide) (fun c264 => ?_) (fun c264 => ?_)
                                          · have hf := it_t hf c264
                                            refine V_sub [(0, vR 19 1), (1, vR 8 l1), (2, vR 9 l2), (3, vR 11 l3), (4, vI l4)] [2, 3, 4, 5, 6] rfl ?_
                                            exact t_L_law_b1079 g f ih hf
                                          · have hf := it_f hf c264
                                            refine V_iconst (v := 0) g dL_law_1077 (by decide) ?_
                                            exact law_ret g hlr hf dL_law_1078
                                      · have hf := it_f hf c260
                                        refine V_iconst (v := 0) g dL_law_1061 (by decide) ?_
                                        exact law_ret g hlr hf dL_law_1062
                                    · have hf := it_f hf c244
                                      by_cases c265 : x18 = 16
                                      · have hf := it_t hf c265
                                        subst c265
                                        refine V_tableIn g 1082 dL_law_40 (by decide) (by decide) rfl (by decide) ?_
                                        refine V_aload_n g 1 dL_law_1082 rfl ?_
                                        refine V_aload_n g 0 dL_law_1083 rfl ?_
                                        refine V_iload g 4 dL_law_1084 rfl ?_
                                        refine V_iconst (v := 1) g dL_law_1086 (by decide) ?_
                                        refine V_iadd g dL_law_1087 ?_
                                        obtain ⟨h266, hf⟩ := ckf hf
                                        refine V_sld g hX hb0 h266 dL_law_1088 ?_
                                        refine V_aload_n g 0 dL_law_1089 rfl ?_
                                        refine V_iload g 4 dL_law_1090 rfl ?_
                                        refine V_iconst (v := 2) g dL_law_1092 (by decide) ?_
                                        refine V_iadd g dL_law_1093 ?_
                                        obtain ⟨h267, hf⟩ := ckf hf
                                        refine V_sld g hX hb0 h267 dL_law_1094 ?_
                                        refine V_aload_n g 0 dL_law_1095 rfl ?_
                                        refine V_iload g 4 dL_law_1096 rfl ?_
                                        refine V_iconst (v := 3) g dL_law_1098 (by decide) ?_
                                        refine V_iadd g dL_law_1099 ?_
                                        obtain ⟨h268, hf⟩ := ckf hf
                                        refine V_sld g hX hb0 h268 dL_law_1100 ?_
                                        refine V_aload_n g 3 dL_law_1101 rfl ?_
                                        obtain ⟨s269, x270, hc, hf⟩ := bI_some hf
                                        refine cW1 g [vR 8 l1, vI (xs (ix (l4 + 1))), vI (xs (ix (l4 + 2))), vI (xs (ix (l4 + 3))), vR 11 l3] [] s269 (vI x270) cf_L_at (t_L_at g.2.2.2.2.2.2.1 hc) (by decide) q_1072 (Nat.le_of_ble_eq_true rfl) dL_law_1102 ?_ rfl
                                        refine V_istore g [(5, vI x270), (0, vR 19 1), (1, vR 8 l1), (2, vR 9 l2), (3, vR 11 l3), (4, vI l4)] dL_law_1105 rfl (by decide) rfl ?_
                                        refine V_aload_n g 3 dL_law_1107 rfl ?_
                                        refine V_aload_n g 1 dL_law_1108 rfl ?_
                                        refine V_iload g 5 dL_law_1109 rfl ?_
                                        refine V_iconst (v := 1) g dL_law_1111 (by decide) ?_
                                        refine V_iadd g dL_law_1112 ?_
                                        obtain ⟨h271, hf⟩ := ckf hf
                                        refine V_sld g hX hb0 h271 dL_law_1113 ?_
                                        refine V_aload_n g 1 dL_law_1114 rfl ?_
                                        refine V_iload g 5 dL_law_1115 rfl ?_
                                        refine V_iconst (v := 2) g dL_law_1117 (by decide) ?_
                                        refine V_iadd g dL_law_1118 ?_
                                        obtain ⟨h272, hf⟩ := ckf hf
                                        refine V_sld g hX hb0 h272 dL_law_1119 ?_
                                        refine V_aload_n g 1 dL_law_1120 rfl ?_
                                        refine V_iload g 5 dL_law_1121 rfl ?_
                                        refine V_iconst (v := 3) g dL_law_1123 (by decide) ?_
                                        refine V_iadd g dL_law_1124 ?_
                                        obtain ⟨h273, hf⟩ := ckf hf
                                        refine V_sld g hX hb0 h273 dL_law_1125 ?_
                                        obtain ⟨z274, hf⟩ := nz_some hf
                                        obtain ⟨s275, x276, hc, hf⟩ := bI_some hf
                                        refine cV1 g [vI (xs (ix (l4 + 1))), vI (xs (ix (l4 + 2))), vI (xs (ix (l4 + 3)))] [] s275 (vI x276) cf_X9_at (t_X9_at g.2.2.2.2.2.2.1 hc) (RC_own g rfl z274) z274 (by decide) q_1770 (Nat.le_of_ble_eq_true rfl) dL_law_1126 ?_ rfl
                                        refine V_istore g [(6, vI x276), (5, vI x270), (0, vR 19 1), (1, vR 8 l1), (2, vR 9 l2), (3, vR 11 l3), (4, vI l4)] dL_law_1129 rfl (by decide) rfl ?_
                                        refine V_aload_n g 4 dL_law_1131 rfl ?_
                                        obtain ⟨s277, x278, hc, hf⟩ := bI_some hf
                                        refine cV1 g [] [] s277 (vI x278) cf_X9_thrown (t_X9_thrown g.2.2.2.2.2.2.1 hc) (RC_own g rfl z274) z274 (by decide) q_1442 (Nat.le_of_ble_eq_true rfl) dL_law_1132 ?_ rfl
                                        refine V_iload g 1 dL_law_1135 rfl ?_
                                        refine V_icmp_eq g 1142 dL_law_1137 (by decide) (fun c279 => ?_) (fun c279 => ?_)
                                        · have hf := it_t hf c279
                                          refine V_iload g 1 dL_law_1142 rfl ?_
                                          refine V_if_ne g 1159 dL_law_1144 (by decide) (fun c280 => ?_) (fun c280 => ?_)
                                          · have hf := it_f hf c280
                                            refine V_sub [(0, vR 19 1), (1, vR 8 l1), (2, vR 9 l2), (3, vR 11 l3), (4, vI l4)] [2, 3, 4, 5, 6] rfl ?_
                                            exact t_L_law_b1159 g f ih hf
                                          · have hf := it_t hf c280
                                            refine V_aload_n g 5 dL_law_1147 rfl ?_
                                            refine V_iconst (v := 0) g dL_law_1148 (by decide) ?_
                                            obtain ⟨z281, hf⟩ := nz_some hf
                                            obtain ⟨h282, hf⟩ := ckf hf
                                            refine V_lald g z281 h282 dL_law_1149 ?_
                                            refine V_iload g 0 dL_law_1150 rfl ?_
                                            refine V_i2l g dL_law_1152 ?_
                                            refine V_lcmp g dL_law_1153 ?_
                                            refine V_if_eq g 1159 dL_law_1154 (by decide) (fun c283 => ?_) (fun c283 => ?_)
                                            · have hf := it_t hf c283
                                              refine V_sub [(0, vR 19 1), (1, vR 8 l1), (2, vR 9 l2), (3, vR 11 l3), (4, vI l4)] [2, 3, 4, 5, 6] rfl ?_
                                              exact t_L_law_b1159 g f ih hf
                                            · have hf := it_f hf c283
                                              refine V_iconst (v := 0) g dL_law_1157 (by decide) ?_
                                              exact law_ret g hlr hf dL_law_1158
                                        · have hf := it_f hf c279
                                          refine V_iconst (v := 0) g dL_law_1140 (by decide) ?_
                                          exact law_ret g hlr hf dL_law_1141
                                      · have hf := it_f hf c265
                                        by_cases c284 : x18 = 17
                                        · have hf := it_t hf c284
                                          subst c284
                                          refine V_tableIn g 1162 dL_law_40 (by decide) (by decide) rfl (by decide) ?_
                                          refine V_aload_n g 1 dL_law_1162 rfl ?_
                                          refine V_aload_n g 0 dL_law_1163 rfl ?_
                                          refine V_iload g 4 dL_law_1164 rfl ?_
                                          refine V_iconst (v := 1) g dL_law_1166 (by decide) ?_
                                          refine V_iadd g dL_law_1167 ?_
                                          obtain ⟨h285, hf⟩ := ckf hf
                                          refine V_sld g hX hb0 h285 dL_law_1168 ?_
                                          refine V_aload_n g 0 dL_law_1169 rfl ?_
                                          refine V_iload g 4 dL_law_1170 rfl ?_
                                          refine V_iconst (v := 2) g dL_law_1172 (by decide) ?_
                                          refine V_iadd g dL_law_1173 ?_
                                          obtain ⟨h286, hf⟩ := ckf hf
                                          refine V_sld g hX hb0 h286 dL_law_1174 ?_
                                          refine V_aload_n g 0 dL_law_1175 rfl ?_
                                          refine V_iload g 4 dL_law_1176 rfl ?_
                                          refine V_iconst (v := 3) g dL_law_1178 (by decide) ?_
                                          refine V_iadd g dL_law_1179 ?_
                                          obtain ⟨h287, hf⟩ := ckf hf
                                          refine V_sld g hX hb0 h287 dL_law_1180 ?_
                                          refine V_aload_n g 0 dL_law_1181 rfl ?_
                                          refine V_iload g 4 dL_law_1182 rfl ?_
                                          refine V_iconst (v := 4) g dL_law_1184 (by decide) ?_
                                          refine V_iadd g dL_law_1185 ?_
                                          obtain ⟨h288, hf⟩ := ckf hf
                                          refine V_sld g hX hb0 h288 dL_law_1186 ?_
                                          refine V_aload_n g 3 dL_law_1187 rfl ?_
                                          obtain ⟨s289, x290, hc, hf⟩ := bI_some hf
                                          refine cW1 g [vR 8 l1, vI (xs (ix (l4 + 1))), vI (xs (ix (l4 + 2))), vI (xs (ix (l4 + 3))), vI (xs (ix (l4 + 4))), vR 11 l3] [] s289 (vI x290) cf_L_total (t_L_total g.2.2.2.2.2.2.1 hc) (by decide) q_1085 (Nat.le_of_ble_eq_true rfl) dL_law_1188 ?_ rfl
                                          refine V_istore g [(5, vI x290), (0, vR 19 1), (1, vR 8 l1), (2, vR 9 l2), (3, vR 11 l3), (4, vI l4)] dL_law_1191 rfl (by decide) rfl ?_
                                          refine V_aload_n g 3 dL_law_1193 rfl ?_
                                          refine V_aload_n g 1 dL_law_1194 rfl ?_
                                          refine V_iload g 5 dL_law_1195 rfl ?_
                                          refine V_iconst (v := 1) g dL_law_1197 (by decide) ?_
                                          refine V_iadd g dL_law_1198 ?_
                                          obtain ⟨h291, hf⟩ := ckf hf
                                          refine V_sld g hX hb0 h291 dL_law_1199 ?_
                                          refine V_aload_n g 1 dL_law_1200 rfl ?_
                                          refine V_iload g 5 dL_law_1201 rfl ?_
                                          refine V_iconst (v := 2) g dL_law_1203 (by decide) ?_
                                          refine V_iadd g dL_law_1204 ?_
                                          obtain ⟨h292, hf⟩ := ckf hf
                                          refine V_sld g hX hb0 h292 dL_law_1205 ?_
                                          refine V_aload_n g 1 dL_law_1206 rfl ?_
                                          refine V_iload g 5 dL_law_1207 rfl ?_
                                          refine V_iconst (v := 3) g dL_law_1209 (by decide) ?_
                                          refine V_iadd g dL_law_1210 ?_
                                          obtain ⟨h293, hf⟩ := ckf hf
                                          refine V_sld g hX hb0 h293 dL_law_1211 ?_
                                          refine V_aload_n g 1 dL_law_1212 rfl ?_
                                          refine V_iload g 5 dL_law_1213 rfl ?_
                                          refine V_iconst (v := 4) g dL_law_1215 (by decide) ?_
                                          refine V_iadd g dL_law_1216 ?_
                                          obtain ⟨h294, hf⟩ := ckf hf
                                          refine V_sld g hX hb0 h294 dL_law_1217 ?_
                                          obtain ⟨z295, hf⟩ := nz_some hf
                                          obtain ⟨s296, x297, hc, hf⟩ := bI_some hf
                                          refine cV1 g [vI (xs (ix (l4 + 1))), vI (xs (ix (l4 + 2))), vI (xs (ix (l4 + 3))), vI (xs (ix (l4 + 4)))] [] s296 (vJ x297) cf_X9_total (t_X9_total g.2.2.2.2.2.2.1 hc) (RC_own g rfl z295) z295 (by decide) q_1775 (Nat.le_of_ble_eq_true rfl) dL_law_1218 ?_ rfl
                                          refine V_lstore g [(6, vJ x297), (5, vI x290), (0, vR 19 1), (1, vR 8 l1), (2, vR 9 l2), (3, vR 11 l3), (4, vI l4)] dL_law_1221 rfl (by decide) rfl ?_
                                          refine V_aload_n g 4 dL_law_1223 rfl ?_
                                          obtain ⟨s298, x299, hc, hf⟩ := bI_some hf
                                          refine cV1 g [] [] s298 (vI x299) cf_X9_thrown (t_X9_thrown g.2.2.2.2.2.2.1 hc) (RC_own g rfl z295) z295 (by decide) q_1442 (Nat.le_of_ble_eq_true rfl) dL_law_1224 ?_ rfl
                                          refine V_iload g 1 dL_law_1227 rfl ?_
                                          refine V_icmp_eq g 1234 dL_law_1229 (by decide) (fun c300 => ?_) (fun c300 => ?_)
                                          · have hf := it_t hf c300
                                            refine V_iload g 1 dL_law_1234 rfl ?_
                                            refine V_if_ne g 1250 dL_law_1236 (by decide) (fun c301 => ?_) (fun c301 => ?_)
                                            · have hf := it_f hf c301
                                              refine V_sub [(0, vR 19 1), (1, vR 8 l1), (2, vR 9 l2), (3, vR 11 l3), (4, vI l4)] [2, 3, 4, 5, 6] rfl ?_
                                              exact t_L_law_b1250 g f ih hf
                                            · have hf := it_t hf c301
                                              refine V_aload_n g 5 dL_law_1239 rfl ?_
                                              refine V_iconst (v := 0) g dL_law_1240 (by decide) ?_
                                              obtain ⟨z302, hf⟩ := nz_some hf
                                              obtain ⟨h303, hf⟩ := ckf hf
                                              refine V_lald g z302 h303 dL_law_1241 ?_
                                              refine V_lload g 0 dL_law_1242 rfl ?_
                                              refine V_lcmp g dL_law_1244 ?_
                                              refine V_if_eq g 1250 dL_law_1245 (by decide) (fun c304 => ?_) (fun c304 => ?_)
                                              · have hf := it_t hf c304
                                                refine V_sub [(0, vR 19 1), (1, vR 8 l1), (2, vR 9 l2), (3, vR 11 l3), (4, vI l4)] [2, 3, 4, 5, 6] rfl ?_
                                                exact t_L_law_b1250 g f ih hf
                                              · have hf := it_f hf c304
                                                refine V_iconst (v := 0) g dL_law_1248 (by decide) ?_
                                                exact law_ret g hlr hf dL_law_1249
                                          · have hf := it_f hf c300
                                            refine V_iconst (v := 0) g dL_law_1232 (by decide) ?_
                                            exact law_ret g hlr hf dL_law_1233
                                        · have hf := it_f hf c284
                                          by_cases c305 : x18 = 18
                                          · have hf := it_t hf c305
                                            subst c305
                                            refine V_tableIn g 1253 dL_law_40 (by decide) (by decide) rfl (by decide) ?_
                                            refine V_aload_n g 1 dL_law_1253 rfl ?_
                                            refine V_aload_n g 0 dL_law_1254 rfl ?_
                                            refine V_iload g 4 dL_law_1255 rfl ?_
                                            refine V_iconst (v := 1) g dL_law_1257 (by decide) ?_
                                            refine V_iadd g dL_law_1258 ?_
                                            obtain ⟨h306, hf⟩ := ckf hf
                                            refine V_sld g hX hb0 h306 dL_law_1259 ?_
                                            refine V_aload_n g 0 dL_law_1260 rfl ?_
                                            refine V_iload g 4 dL_law_1261 rfl ?_
                                            refine V_iconst (v := 2) g dL_law_1263 (by decide) ?_
                                            refine V_iadd g dL_law_1264 ?_
                                            obtain ⟨h307, hf⟩ := ckf hf
                                            refine V_sld g hX hb0 h307 dL_law_1265 ?_
                                            refine V_aload_n g 0 dL_law_1266 rfl ?_
                                            refine V_iload g 4 dL_law_1267 rfl ?_
                                            refine V_iconst (v := 3) g dL_law_1269 (by decide) ?_
                                            refine V_iadd g dL_law_1270 ?_
                                            obtain ⟨h308, hf⟩ := ckf hf
                                            refine V_sld g hX hb0 h308 dL_law_1271 ?_
                                            refine V_aload_n g 0 dL_law_1272 rfl ?_
                                            refine V_iload g 4 dL_law_1273 rfl ?_
                                            refine V_iconst (v := 4) g dL_law_1275 (by decide) ?_
                                            refine V_iadd g dL_law_1276 ?_
                                            obtain ⟨h309, hf⟩ := ckf hf
                                            refine V_sld g hX hb0 h309 dL_law_1277 ?_
                                            refine V_if_eq g 1285 dL_law_1278 (by decide) (fun c310 => ?_) (fun c310 => ?_)
                                            · have hf := it_t hf c310
                                              refine V_iconst (v := 0) g dL_law_1285 (by decide) ?_
                                              exact t_L_law_b1286 g f ih hf
                                            · have hf := it_f hf c310
                                              refine V_iconst (v := 1) g dL_law_1281 (by decide) ?_
                                              refine V_goto g 1286 dL_law_1282 (by decide) ?_
                                              exact t_L_law_b1286 g f ih hf
                                          · have hf := it_f hf c305
                                            by_cases c311 : x18 = 19
                                            · have hf := it_t hf c311
                                              subst c311
                                              refine V_tableIn g 1361 dL_law_40 (by decide) (by decide) rfl (by decide) ?_
                                              refine V_aload_n g 1 dL_law_1361 rfl ?_
                                              refine V_aload_n g 0 dL_law_1362 rfl ?_
                                              refine V_iload g 4 dL_law_1363 rfl ?_
                                              refine V_iconst (v := 1) g dL_law_1365 (by decide) ?_
                                              refine V_iadd g dL_law_1366 ?_
                                              obtain ⟨h312, hf⟩ := ckf hf
                                              refine V_sld g hX hb0 h312 dL_law_1367 ?_
                                              refine V_aload_n g 0 dL_law_1368 rfl ?_
                                              refine V_iload g 4 dL_law_1369 rfl ?_
                                              refine V_iconst (v := 2) g dL_law_1371 (by decide) ?_
                                              refine V_iadd g dL_law_1372 ?_
                                              obtain ⟨h313, hf⟩ := ckf hf
                                              refine V_sld g hX hb0 h313 dL_law_1373 ?_
                                              refine V_aload_n g 0 dL_law_1374 rfl ?_
                                              refine V_iload g 4 dL_law_1375 rfl ?_
                                              refine V_iconst (v := 3) g dL_law_1377 (by decide) ?_
                                              refine V_iadd g dL_law_1378 ?_
                                              obtain ⟨h314, hf⟩ := ckf hf
                                              refine V_sld g hX hb0 h314 dL_law_1379 ?_
                                              refine V_aload_n g 0 dL_law_1380 rfl ?_
                                              refine V_iload g 4 dL_law_1381 rfl ?_
                                              refine V_iconst (v := 4) g dL_law_1383 (by decide) ?_
                                              refine V_iadd g dL_law_1384 ?_
                                              obtain ⟨h315, hf⟩ := ckf hf
                                              refine V_sld g hX hb0 h315 dL_law_1385 ?_
                                              refine V_aload_n g 3 dL_law_1386 rfl ?_
                                              obtain ⟨s316, x317, hc, hf⟩ := bI_some hf
                                              refine cW1 g [vR 8 l1, vI (xs (ix (l4 + 1))), vI (xs (ix (l4 + 2))), vI (xs (ix (l4 + 3))), vI (xs (ix (l4 + 4))), vR 11 l3] [] s316 (vI x317) cf_L_bar (t_L_bar g.2.2.2.2.2.2.1 hc) (by decide) q_1115 (Nat.le_of_ble_eq_true rfl) dL_law_1387 ?_ rfl
                                              refine V_istore g [(5, vI x317), (0, vR 19 1), (1, vR 8 l1), (2, vR 9 l2), (3, vR 11 l3), (4, vI l4)] dL_law_1390 rfl (by decide) rfl ?_
                                              refine V_aload_n g 3 dL_law_1392 rfl ?_
                                              refine V_aload_n g 1 dL_law_1393 rfl ?_
                                              refine V_iload g 5 dL_law_1394 rfl ?_
                                              refine V_iconst (v := 1) g dL_law_1396 (by decide) ?_
                                              refine V_iadd g dL_law_1397 ?_
                                              obtain ⟨h318, hf⟩ := ckf hf
                                              refine V_sld g hX hb0 h318 dL_law_1398 ?_
                                              refine V_aload_n g 1 dL_law_1399 rfl ?_
                                              refine V_iload g 5 dL_law_1400 rfl ?_
                                              refine V_iconst (v := 2) g dL_law_1402 (by decide) ?_
                                              refine V_iadd g dL_law_1403 ?_
                                              obtain ⟨h319, hf⟩ := ckf hf
                                              refine V_sld g hX hb0 h319 dL_law_1404 ?_
                                              refine V_aload_n g 1 dL_law_1405 rfl ?_
                                              refine V_iload g 5 dL_law_1406 rfl ?_
                                              refine V_iconst (v := 3) g dL_law_1408 (by decide) ?_
                                              refine V_iadd g dL_law_1409 ?_
                                              obtain ⟨h320, hf⟩ := ckf hf
                                              refine V_sld g hX hb0 h320 dL_law_1410 ?_
                                              refine V_aload_n g 1 dL_law_1411 rfl ?_
                                              refine V_iload g 5 dL_law_1412 rfl ?_
                                              refine V_iconst (v := 4) g dL_law_1414 (by decide) ?_
                                              refine V_iadd g dL_law_1415 ?_
                                              obtain ⟨h321, hf⟩ := ckf hf
                                              refine V_sld g hX hb0 h321 dL_law_1416 ?_
                                              obtain ⟨z322, hf⟩ := nz_some hf
                                              obtain ⟨s323, x324, hc, hf⟩ := bI_some hf
                                              refine cV1 g [vI (xs (ix (l4 + 1))), vI (xs (ix (l4 + 2))), vI (xs (ix (l4 + 3))), vI (xs (ix (l4 + 4)))] [] s323 (vJ x324) cf_X9_bar (t_X9_bar g.2.2.2.2.2.2.1 hc) (RC_own g rfl z322) z322 (by decide) q_1796 (Nat.le_of_ble_eq_true rfl) dL_law_1417 ?_ rfl
                                              refine V_lstore g [(6, vJ x324), (5, vI x317), (0, vR 19 1), (1, vR 8 l1), (2, vR 9 l2), (3, vR 11 l3), (4, vI l4)] dL_law_1420 rfl (by decide) rfl ?_
                                              refine V_aload_n g 4 dL_law_1422 rfl ?_
                                              obtain ⟨s325, x326, hc, hf⟩ := bI_some hf
                                              refine cV1 g [] [] s325 (vI x326) cf_X9_thrown (t_X9_thrown g.2.2.2.2.2.2.1 hc) (RC_own g rfl z322) z322 (by decide) q_1442 (Nat.le_of_ble_eq_true rfl) dL_law_1423 ?_ rfl
                                              refine V_iload g 1 dL_law_1426 rfl ?_
                                              refine V_icmp_eq g 1433 dL_law_1428 (by decide) (fun c327 => ?_) (fun c327 => ?_)
                                              · have hf := it_t hf c327
                                                refine V_iload g 1 dL_law_1433 rfl ?_
                                                refine V_if_ne g 1449 dL_law_1435 (by decide) (fun c328 => ?_) (fun c328 => ?_)
                                                · have hf := it_f hf c328
                                                  refine V_sub [(0, vR 19 1), (1, vR 8 l1), (2, vR 9 l2), (3, vR 11 l3), (4, vI l4)] [2, 3, 4, 5, 6] rfl ?_
                                                  exact t_L_law_b1449 g f ih hf
                                                · have hf := it_t hf c328
                                                  refine V_aload_n g 5 dL_law_1438 rfl ?_
                                                  refine V_iconst (v := 0) g dL_law_1439 (by decide) ?_
                                                  obtain ⟨z329, hf⟩ := nz_some hf
                                                  obtain ⟨h330, hf⟩ := ckf hf
                                                  refine V_lald g z329 h330 dL_law_1440 ?_
                                                  refine V_lload g 0 dL_law_1441 rfl ?_
                                                  refine V_lcmp g dL_law_1443 ?_
                                                  refine V_if_eq g 1449 dL_law_1444 (by decide) (fun c331 => ?_) (fun c331 => ?_)
                                                  · have hf := it_t hf c331
                                                    refine V_sub [(0, vR 19 1), (1, vR 8 l1), (2, vR 9 l2), (3, vR 11 l3), (4, vI l4)] [2, 3, 4, 5, 6] rfl ?_
                                                    exact t_L_law_b1449 g f ih hf
                                                  · have hf := it_f hf c331
                                                    refine V_iconst (v := 0) g dL_law_1447 (by decide) ?_
                                                    exact law_ret g hlr hf dL_law_1448
                                              · have hf := it_f hf c327
                                                refine V_iconst (v := 0) g dL_law_1431 (by decide) ?_
                                                exact law_ret g hlr hf dL_law_1432
                                            · have hf := it_f hf c311
                                              by_cases c332 : x18 = 20
                                              · have hf := it_t hf c332
                                                subst c332
                                                refine V_tableIn g 1452 dL_law_40 (by decide) (by decide) rfl (by decide) ?_
                                                refine V_aload_n g 1 dL_law_1452 rfl ?_
                                                refine V_aload_n g 0 dL_law_1453 rfl ?_
                                                refine V_iload g 4 dL_law_1454 rfl ?_
                                                refine V_iconst (v := 1) g dL_law_1456 (by decide) ?_
                                                refine V_iadd g dL_law_1457 ?_
                                                obtain ⟨h333, hf⟩ := ckf hf
                                                refine V_sld g hX hb0 h333 dL_law_1458 ?_
                                                refine V_aload_n g 0 dL_law_1459 rfl ?_
                                                refine V_iload g 4 dL_law_1460 rfl ?_
                                                refine V_iconst (v := 2) g dL_law_1462 (by decide) ?_
                                                refine V_iadd g dL_law_1463 ?_
                                                obtain ⟨h334, hf⟩ := ckf hf
                                                refine V_sld g hX hb0 h334 dL_law_1464 ?_
                                                refine V_aload_n g 3 dL_law_1465 rfl ?_
                                                obtain ⟨s335, x336, hc, hf⟩ := bI_some hf
                                                refine cW1 g [vR 8 l1, vI (xs (ix (l4 + 1))), vI (xs (ix (l4 + 2))), vR 11 l3] [] s335 (vI x336) cf_L_alarms (t_L_alarms g.2.2.2.2.2.2.1 hc) (by decide) q_1129 (Nat.le_of_ble_eq_true rfl) dL_law_1466 ?_ rfl
                                                refine V_istore g [(5, vI x336), (0, vR 19 1), (1, vR 8 l1), (2, vR 9 l2), (3, vR 11 l3), (4, vI l4)] dL_law_1469 rfl (by decide) rfl ?_
                                                refine V_aload_n g 3 dL_law_1471 rfl ?_
                                                refine V_aload_n g 1 dL_law_1472 rfl ?_
                                                refine V_iload g 5 dL_law_1473 rfl ?_
                                                refine V_iconst (v := 1) g dL_law_1475 (by decide) ?_
                                                refine V_iadd g dL_law_1476 ?_
                                                obtain ⟨h337, hf⟩ := ckf hf
                                                refine V_sld g hX hb0 h337 dL_law_1477 ?_
                                                refine V_aload_n g 1 dL_law_1478 rfl ?_
                                                refine V_iload g 5 dL_law_1479 rfl ?_
                                                refine V_iconst (v := 2) g dL_law_1481 (by decide) ?_
                                                refine V_iadd g dL_law_1482 ?_
                                                obtain ⟨h338, hf⟩ := ckf hf
                                                refine V_sld g hX hb0 h338 dL_law_1483 ?_
                                                obtain ⟨z339, hf⟩ := nz_some hf
                                                obtain ⟨s340, x341, hc, hf⟩ := bI_some hf
                                                refine cV1 g [vI (xs (ix (l4 + 1))), vI (xs (ix (l4 + 2)))] [] s340 (vI x341) cf_X9_alarms (t_X9_alarms g.2.2.2.2.2.2.1 hc) (RC_own g rfl z339) z339 (by decide) q_1801 (Nat.le_of_ble_eq_true rfl) dL_law_1484 ?_ rfl
                                                refine V_istore g [(6, vI x341), (5, vI x336), (0, vR 19 1), (1, vR 8 l1), (2, vR 9 l2), (3, vR 11 l3), (4, vI l4)] dL_law_1487 rfl (by decide) rfl ?_
                                                refine V_aload_n g 4 dL_law_1489 rfl ?_
                                                obtain ⟨s342, x343, hc, hf⟩ := bI_some hf
                                                refine cV1 g [] [] s342 (vI x343) cf_X9_thrown (t_X9_thrown g.2.2.2.2.2.2.1 hc) (RC_own g rfl z339) z339 (by decide) q_1442 (Nat.le_of_ble_eq_true rfl) dL_law_1490 ?_ rfl
                                                refine V_iload g 1 dL_law_1493 rfl ?_
                                                refine V_icmp_eq g 1500 dL_law_1495 (by decide) (fun c344 => ?_) (fun c344 => ?_)
                                                · have hf := it_t hf c344
                                                  refine V_iload g 1 dL_law_1500 rfl ?_
                                                  refine V_if_ne g 1517 dL_law_1502 (by decide) (fun c345 => ?_) (fun c345 => ?_)
                                                  · have hf := it_f hf c345
                                                    refine V_sub [(0, vR 19 1), (1, vR 8 l1), (2, vR 9 l2), (3, vR 11 l3), (4, vI l4)] [2, 3, 4, 5, 6] rfl ?_
                                                    exact t_L_law_b1517 g f ih hf
                                                  · have hf := it_t hf c345
                                                    refine V_aload_n g 5 dL_law_1505 rfl ?_
                                                    refine V_iconst (v := 0) g dL_law_1506 (by decide) ?_
                                                    obtain ⟨z346, hf⟩ := nz_some hf
                                                    obtain ⟨h347, hf⟩ := ckf hf
                                                    refine V_lald g z346 h347 dL_law_1507 ?_
                                                    refine V_iload g 0 dL_law_1508 rfl ?_
                                                    refine V_i2l g dL_law_1510 ?_
                                                    refine V_lcmp g dL_law_1511 ?_
                                                    refine V_if_eq g 1517 dL_law_1512 (by decide) (fun c348 => ?_) (fun c348 => ?_)
                                                    · have hf := it_t hf c348
                                                      refine V_sub [(0, vR 19 1), (1, vR 8 l1), (2, vR 9 l2), (3, vR 11 l3), (4, vI l4)] [2, 3, 4, 5, 6] rfl ?_
                                                      exact t_L_law_b1517 g f ih hf
                                                    · have hf := it_f hf c348
                                                      refine V_iconst (v := 0) g dL_law_1515 (by decide) ?_
                                                      exact law_ret g hlr hf dL_law_1516
                                                · have hf := it_f hf c344
                                                  refine V_iconst (v := 0) g dL_law_1498 (by decide) ?_
                                                  exact law_ret g hlr hf dL_law_1499
                                              · have hf := it_f hf c332
                                                by_cases c349 : x18 = 21
                                                · have hf := it_t hf c349
                                                  subst c349
                                                  refine V_tableIn g 1520 dL_law_40 (by decide) (by decide) rfl (by decide) ?_
                                                  refine V_aload_n g 1 dL_law_1520 rfl ?_
                                                  refine V_aload_n g 0 dL_law_1521 rfl ?_
                                                  refine V_iload g 4 dL_law_1522 rfl ?_
                                                  refine V_iconst (v := 1) g dL_law_1524 (by decide) ?_
                                                  refine V_iadd g dL_law_1525 ?_
                                                  obtain ⟨h350, hf⟩ := ckf hf
                                                  refine V_sld g hX hb0 h350 dL_law_1526 ?_
                                                  refine V_aload_n g 0 dL_law_1527 rfl ?_
                                                  refine V_iload g 4 dL_law_1528 rfl ?_
                                                  refine V_iconst (v := 2) g dL_law_1530 (by decide) ?_
                                                  refine V_iadd g dL_law_1531 ?_
                                                  obtain ⟨h351, hf⟩ := ckf hf
                                                  refine V_sld g hX hb0 h351 dL_law_1532 ?_
                                                  refine V_aload_n g 0 dL_law_1533 rfl ?_
                                                  refine V_iload g 4 dL_law_1534 rfl ?_
                                                  refine V_iconst (v := 3) g dL_law_1536 (by decide) ?_
                                                  refine V_iadd g dL_law_1537 ?_
                                                  obtain ⟨h352, hf⟩ := ckf hf
                                                  refine V_sld g hX hb0 h352 dL_law_1538 ?_
                                                  refine V_aload_n g 3 dL_law_1539 rfl ?_
                                                  obtain ⟨s353, x354, hc, hf⟩ := bI_some hf
                                                  refine cW1 g [vR 8 l1, vI (xs (ix (l4 + 1))), vI (xs (ix (l4 + 2))), vI (xs (ix (l4 + 3))), vR 11 l3] [] s353 (vI x354) cf_L_would (t_L_would g.2.2.2.2.2.2.1 hc) (by decide) q_1156 (Nat.le_of_ble_eq_true rfl) dL_law_1540 ?_ rfl
                                                  refine V_istore g [(5, vI x354), (0, vR 19 1), (1, vR 8 l1), (2, vR 9 l2), (3, vR 11 l3), (4, vI l4)] dL_law_1543 rfl (by decide) rfl ?_
                                                  refine V_aload_n g 3 dL_law_1545 rfl ?_
                                                  refine V_aload_n g 1 dL_law_1546 rfl ?_
                                                  refine V_iload g 5 dL_law_1547 rfl ?_
                                                  refine V_iconst (v := 1) g dL_law_1549 (by decide) ?_
                                                  refine V_iadd g dL_law_1550 ?_
                                                  obtain ⟨h355, hf⟩ := ckf hf
                                                  refine V_sld g hX hb0 h355 dL_law_1551 ?_
                                                  refine V_aload_n g 1 dL_law_1552 rfl ?_
                                                  refine V_iload g 5 dL_law_1553 rfl ?_
                                                  refine V_iconst (v := 2) g dL_law_1555 (by decide) ?_
                                                  refine V_iadd g dL_law_1556 ?_
                                                  obtain ⟨h356, hf⟩ := ckf hf
                                                  refine V_sld g hX hb0 h356 dL_law_1557 ?_
                                                  refine V_aload_n g 1 dL_law_1558 rfl ?_
                                                  refine V_iload g 5 dL_law_1559 rfl ?_
                                                  refine V_iconst (v := 3) g dL_law_1561 (by decide) ?_
                                                  refine V_iadd g dL_law_1562 ?_
                                                  obtain ⟨h357, hf⟩ := ckf hf
                                                  refine V_sld g hX hb0 h357 dL_law_1563 ?_
                                                  obtain ⟨z358, hf⟩ := nz_some hf
                                                  obtain ⟨s359, x360, hc, hf⟩ := bI_some hf
                                                  refine cV1 g [vI (xs (ix (l4 + 1))), vI (xs (ix (l4 + 2))), vI (xs (ix (l4 + 3)))] [] s359 (vI x360) cf_X9_would (t_X9_would g.2.2.2.2.2.2.1 hc) (RC_own g rfl z358) z358 (by decide) q_1817 (Nat.le_of_ble_eq_true rfl) dL_law_1564 ?_ rfl
                                                  refine V_istore g [(6, vI x360), (5, vI x354), (0, vR 19 1), (1, vR 8 l1), (2, vR 9 l2), (3, vR 11 l3), (4, vI l4)] dL_law_1567 rfl (by decide) rfl ?_
                                                  refine V_aload_n g 4 dL_law_1569 rfl ?_
                                                  obtain ⟨s361, x362, hc, hf⟩ := bI_some hf
                                                  refine cV1 g [] [] s361 (vI x362) cf_X9_thrown (t_X9_thrown g.2.2.2.2.2.2.1 hc) (RC_own g rfl z358) z358 (by decide) q_1442 (Nat.le_of_ble_eq_true rfl) dL_law_1570 ?_ rfl
                                                  refine V_iload g 1 dL_law_1573 rfl ?_
                                                  refine V_icmp_eq g 1580 dL_law_1575 (by decide) (fun c363 => ?_) (fun c363 => ?_)
                                                  · have hf := it_t hf c363
                                                    refine V_iload g 1 dL_law_1580 rfl ?_
                                                    refine V_if_ne g 1597 dL_law_1582 (by decide) (fun c364 => ?_) (fun c364 => ?_)
                                                    · have hf := it_f hf c364
                                                      refine V_sub [(0, vR 19 1), (1, vR 8 l1), (2, vR 9 l2), (3, vR 11 l3), (4, vI l4)] [2, 3, 4, 5, 6] rfl ?_
                                                      exact t_L_law_b1597 g f ih hf
                                                    · have hf := it_t hf c364
                                                      refine V_aload_n g 5 dL_law_1585 rfl ?_
                                                      refine V_iconst (v := 0) g dL_law_1586 (by decide) ?_
                                                      obtain ⟨z365, hf⟩ := nz_some hf
                                                      obtain ⟨h366, hf⟩ := ckf hf
                                                      refine V_lald g z365 h366 dL_law_1587 ?_
                                                      refine V_iload g 0 dL_law_1588 rfl ?_
                                                      refine V_i2l g dL_law_1590 ?_
                                                      refine V_lcmp g dL_law_1591 ?_
                                                      refine V_if_eq g 1597 dL_law_1592 (by decide) (fun c367 => ?_) (fun c367 => ?_)
                                                      · have hf := it_t hf c367
                                                        refine V_sub [(0, vR 19 1), (1, vR 8 l1), (2, vR 9 l2), (3, vR 11 l3), (4, vI l4)] [2, 3, 4, 5, 6] rfl ?_
                                                        exact t_L_law_b1597 g f ih hf
                                                      · have hf := it_f hf c367
                                                        refine V_iconst (v := 0) g dL_law_1595 (by decide) ?_
                                                        exact law_ret g hlr hf dL_law_1596
                                                  · have hf := it_f hf c363
                                                    refine V_iconst (v := 0) g dL_law_1578 (by decide) ?_
                                                    exact law_ret g hlr hf dL_law_1579
                                                · have hf := it_f hf c349
                                                  by_cases c368 : x18 = 22
                                                  · have hf := it_t hf c368
                                                    subst c368
                                                    refine V_tableIn g 1600 dL_law_40 (by decide) (by decide) rfl (by decide) ?_
                                                    refine V_aload_n g 1 dL_law_1600 rfl ?_
                                                    refine V_aload_n g 0 dL_law_1601 rfl ?_
                                                    refine V_iload g 4 dL_law_1602 rfl ?_
                                                    refine V_iconst (v := 1) g dL_law_1604 (by decide) ?_
                                                    refine V_iadd g dL_law_1605 ?_
                                                    obtain ⟨h369, hf⟩ := ckf hf
                                                    refine V_sld g hX hb0 h369 dL_law_1606 ?_
                                                    refine V_aload_n g 0 dL_law_1607 rfl ?_
                                                    refine V_iload g 4 dL_law_1608 rfl ?_
                                                    refine V_iconst (v := 2) g dL_law_1610 (by decide) ?_
                                                    refine V_iadd g dL_law_1611 ?_
                                                    obtain ⟨h370, hf⟩ := ckf hf
                                                    refine V_sld g hX hb0 h370 dL_law_1612 ?_
                                                    refine V_aload_n g 0 dL_law_1613 rfl ?_
                                                    refine V_iload g 4 dL_law_1614 rfl ?_
                                                    refine V_iconst (v := 3) g dL_law_1616 (by decide) ?_
                                                    refine V_iadd g dL_law_1617 ?_
                                                    obtain ⟨h371, hf⟩ := ckf hf
                                                    refine V_sld g hX hb0 h371 dL_law_1618 ?_
                                                    refine V_aload_n g 3 dL_law_1619 rfl ?_
                                                    obtain ⟨s372, x373, hc, hf⟩ := bI_some hf
                                                    refine cW1 g [vR 8 l1, vI (xs (ix (l4 + 1))), vI (xs (ix (l4 + 2))), vI (xs (ix (l4 + 3))), vR 11 l3] [] s372 (vI x373) cf_L_until (t_L_until g.2.2.2.2.2.2.1 hc) (by decide) q_1167 (Nat.le_of_ble_eq_true rfl) dL_law_1620 ?_ rfl
                                                    refine V_istore g [(5, vI x373), (0, vR 19 1), (1, vR 8 l1), (2, vR 9 l2), (3, vR 11 l3), (4, vI l4)] dL_law_1623 rfl (by decide) rfl ?_
                                                    refine V_aload_n g 3 dL_law_1625 rfl ?_
                                                    refine V_aload_n g 1 dL_law_1626 rfl ?_
                                                    refine V_iload g 5 dL_law_1627 rfl ?_
                                                    refine V_iconst (v := 1) g dL_law_1629 (by decide) ?_
                                                    refine V_iadd g dL_law_1630 ?_
                                                    obtain ⟨h374, hf⟩ := ckf hf
                                                    refine V_sld g hX hb0 h374 dL_law_1631 ?_
                                                    refine V_aload_n g 1 dL_law_1632 rfl ?_
                                                    refine V_iload g 5 dL_law_1633 rfl ?_
                                                    refine V_iconst (v := 2) g dL_law_1635 (by decide) ?_
                                                    refine V_iadd g dL_law_1636 ?_
                                                    obtain ⟨h375, hf⟩ := ckf hf
                                                    refine V_sld g hX hb0 h375 dL_law_1637 ?_
                                                    refine V_aload_n g 1 dL_law_1638 rfl ?_
                                                    refine V_iload g 5 dL_law_1639 rfl ?_
                                                    refine V_iconst (v := 3) g dL_law_1641 (by decide) ?_
                                                    refine V_iadd g dL_law_1642 ?_
                                                    obtain ⟨h376, hf⟩ := ckf hf
                                                    refine V_sld g hX hb0 h376 dL_law_1643 ?_
                                                    obtain ⟨z377, hf⟩ := nz_some hf
                                                    obtain ⟨s378, x379, hc, hf⟩ := bI_some hf
                                                    refine cV1 g [vI (xs (ix (l4 + 1))), vI (xs (ix (l4 + 2))), vI (xs (ix (l4 + 3)))] [] s378 (vI x379) cf_X9_until (t_X9_until g.2.2.2.2.2.2.1 hc) (RC_own g rfl z377) z377 (by decide) q_1829 (Nat.le_of_ble_eq_true rfl) dL_law_1644 ?_ rfl
                                                    refine V_istore g [(6, vI x379), (5, vI x373), (0, vR 19 1), (1, vR 8 l1), (2, vR 9 l2), (3, vR 11 l3), (4, vI l4)] dL_law_1647 rfl (by decide) rfl ?_
                                                    refine V_aload_n g 4 dL_law_1649 rfl ?_
                                                    obtain ⟨s380, x381, hc, hf⟩ := bI_some hf
                                                    refine cV1 g [] [] s380 (vI x381) cf_X9_thrown (t_X9_thrown g.2.2.2.2.2.2.1 hc) (RC_own g rfl z377) z377 (by decide) q_1442 (Nat.le_of_ble_eq_true rfl) dL_law_1650 ?_ rfl
                                                    refine V_iload g 1 dL_law_1653 rfl ?_
                                                    refine V_icmp_eq g 1660 dL_law_1655 (by decide) (fun c382 => ?_) (fun c382 => ?_)
                                                    · have hf := it_t hf c382
                                                      refine V_iload g 1 dL_law_1660 rfl ?_
                                                      refine V_if_ne g 1677 dL_law_1662 (by decide) (fun c383 => ?_) (fun c383 => ?_)
                                                      · have hf := it_f hf c383
                                                        refine V_sub [(0, vR 19 1), (1, vR 8 l1), (2, vR 9 l2), (3, vR 11 l3), (4, vI l4)] [2, 3, 4, 5, 6] rfl ?_
                                                        exact t_L_law_b1677 g f ih hf
                                                      · have hf := it_t hf c383
                                                        refine V_aload_n g 5 dL_law_1665 rfl ?_
                                                        refine V_iconst (v := 0) g dL_law_1666 (by decide) ?_
                                                        obtain ⟨z384, hf⟩ := nz_some hf
                                                        obtain ⟨h385, hf⟩ := ckf hf
                                                        refine V_lald g z384 h385 dL_law_1667 ?_
                                                        refine V_iload g 0 dL_law_1668 rfl ?_
                                                        refine V_i2l g dL_law_1670 ?_
                                                        refine V_lcmp g dL_law_1671 ?_
                                                        refine V_if_eq g 1677 dL_law_1672 (by decide) (fun c386 => ?_) (fun c386 => ?_)
                                                        · have hf := it_t hf c386
                                                          refine V_sub [(0, vR 19 1), (1, vR 8 l1), (2, vR 9 l2), (3, vR 11 l3), (4, vI l4)] [2, 3, 4, 5, 6] rfl ?_
                                                          exact t_L_law_b1677 g f ih hf
                                                        · have hf := it_f hf c386
                                                          refine V_iconst (v := 0) g dL_law_1675 (by decide) ?_
                                                          exact law_ret g hlr hf dL_law_1676
                                                    · have hf := it_f hf c382
                                                      refine V_iconst (v := 0) g dL_law_1658 (by decide) ?_
                                                      exact law_ret g hlr hf dL_law_1659
                                                  · have hf := it_f hf c368
                                                    by_cases c387 : x18 = 23
                                                    · have hf := it_t hf c387
                                                      subst c387
                                                      refine V_tableIn g 1680 dL_law_40 (by decide) (by decide) rfl (by decide) ?_
                                                      refine V_aload_n g 1 dL_law_1680 rfl ?_
                                                      refine V_aload_n g 0 dL_law_1681 rfl ?_
                                                      refine V_iload g 4 dL_law_1682 rfl ?_
                                                      refine V_iconst (v := 1) g dL_law_1684 (by decide) ?_
                                                      refine V_iadd g dL_law_1685 ?_
                                                      obtain ⟨h388, hf⟩ := ckf hf
                                                      refine V_sld g hX hb0 h388 dL_law_1686 ?_
                                                      refine V_aload_n g 0 dL_law_1687 rfl ?_
                                                      refine V_iload g 4 dL_law_1688 rfl ?_
                                                      refine V_iconst (v := 2) g dL_law_1690 (by decide) ?_
                                                      refine V_iadd g dL_law_1691 ?_
                                                      obtain ⟨h389, hf⟩ := ckf hf
                                                      refine V_sld g hX hb0 h389 dL_law_1692 ?_
                                                      refine V_aload_n g 0 dL_law_1693 rfl ?_
                                                      refine V_iload g 4 dL_law_1694 rfl ?_
                                                      refine V_iconst (v := 3) g dL_law_1696 (by decide) ?_
                                                      refine V_iadd g dL_law_1697 ?_
                                                      obtain ⟨h390, hf⟩ := ckf hf
                                                      refine V_sld g hX hb0 h390 dL_law_1698 ?_
                                                      refine V_aload_n g 3 dL_law_1699 rfl ?_
                                                      obtain ⟨s391, x392, hc, hf⟩ := bI_some hf
                                                      refine cW1 g [vR 8 l1, vI (xs (ix (l4 + 1))), vI (xs (ix (l4 + 2))), vI (xs (ix (l4 + 3))), vR 11 l3] [] s391 (vI x392) cf_L_trend (t_L_trend g.2.2.2.2.2.2.1 hc) (by decide) q_1182 (Nat.le_of_ble_eq_true rfl) dL_law_1700 ?_ rfl
                                                      refine V_istore g [(5, vI x392), (0, vR 19 1), (1, vR 8 l1), (2, vR 9 l2), (3, vR 11 l3), (4, vI l4)] dL_law_1703 rfl (by decide) rfl ?_
                                                      refine V_aload_n g 3 dL_law_1705 rfl ?_
                                                      refine V_aload_n g 1 dL_law_1706 rfl ?_
                                                      refine V_iload g 5 dL_law_1707 rfl ?_
                                                      refine V_iconst (v := 1) g dL_law_1709 (by decide) ?_
                                                      refine V_iadd g dL_law_1710 ?_
                                                      obtain ⟨h393, hf⟩ := ckf hf
                                                      refine V_sld g hX hb0 h393 dL_law_1711 ?_
                                                      refine V_aload_n g 1 dL_law_1712 rfl ?_
                                                      refine V_iload g 5 dL_law_1713 rfl ?_
                                                      refine V_iconst (v := 2) g dL_law_1715 (by decide) ?_
                                                      refine V_iadd g dL_law_1716 ?_
                                                      obtain ⟨h394, hf⟩ := ckf hf
                                                      refine V_sld g hX hb0 h394 dL_law_1717 ?_
                                                      refine V_aload_n g 1 dL_law_1718 rfl ?_
                                                      refine V_iload g 5 dL_law_1719 rfl ?_
                                                      refine V_iconst (v := 3) g dL_law_1721 (by decide) ?_
                                                      refine V_iadd g dL_law_1722 ?_
                                                      obtain ⟨h395, hf⟩ := ckf hf
                                                      refine V_sld g hX hb0 h395 dL_law_1723 ?_
                                                      obtain ⟨z396, hf⟩ := nz_some hf
                                                      obtain ⟨s397, x398, hc, hf⟩ := bI_some hf
                                                      refine cV1 g [vI (xs (ix (l4 + 1))), vI (xs (ix (l4 + 2))), vI (xs (ix (l4 + 3)))] [] s397 (vJ x398) cf_X9_trend (t_X9_trend g.2.2.2.2.2.2.1 hc) (RC_own g rfl z396) z396 (by decide) q_1834 (Nat.le_of_ble_eq_true rfl) dL_law_1724 ?_ rfl
                                                      refine V_lstore g [(6, vJ x398), (5, vI x392), (0, vR 19 1), (1, vR 8 l1), (2, vR 9 l2), (3, vR 11 l3), (4, vI l4)] dL_law_1727 rfl (by decide) rfl ?_
                                                      refine V_aload_n g 4 dL_law_1729 rfl ?_
                                                      obtain ⟨s399, x400, hc, hf⟩ := bI_some hf
                                                      refine cV1 g [] [] s399 (vI x400) cf_X9_thrown (t_X9_thrown g.2.2.2.2.2.2.1 hc) (RC_own g rfl z396) z396 (by decide) q_1442 (Nat.le_of_ble_eq_true rfl) dL_law_1730 ?_ rfl
                                                      refine V_iload g 1 dL_law_1733 rfl ?_
                                                      refine V_icmp_eq g 1740 dL_law_1735 (by decide) (fun c401 => ?_) (fun c401 => ?_)
                                                      · have hf := it_t hf c401
                                                        refine V_iload g 1 dL_law_1740 rfl ?_
                                                        refine V_if_ne g 1756 dL_law_1742 (by decide) (fun c402 => ?_) (fun c402 => ?_)
                                                        · have hf := it_f hf c402
                                                          refine V_sub [(0, vR 19 1), (1, vR 8 l1), (2, vR 9 l2), (3, vR 11 l3), (4, vI l4)] [2, 3, 4, 5, 6] rfl ?_
                                                          exact t_L_law_b1756 g f ih hf
                                                        · have hf := it_t hf c402
                                                          refine V_aload_n g 5 dL_law_1745 rfl ?_
                                                          refine V_iconst (v := 0) g dL_law_1746 (by decide) ?_
                                                          obtain ⟨z403, hf⟩ := nz_some hf
                                                          obtain ⟨h404, hf⟩ := ckf hf
                                                          refine V_lald g z403 h404 dL_law_1747 ?_
                                                          refine V_lload g 0 dL_law_1748 rfl ?_
                                                          refine V_lcmp g dL_law_1750 ?_
                                                          refine V_if_eq g 1756 dL_law_1751 (by decide) (fun c405 => ?_) (fun c405 => ?_)
                                                          · have hf := it_t hf c405
                                                            refine V_sub [(0, vR 19 1), (1, vR 8 l1), (2, vR 9 l2), (3, vR 11 l3), (4, vI l4)] [2, 3, 4, 5, 6] rfl ?_
                                                            exact t_L_law_b1756 g f ih hf
                                                          · have hf := it_f hf c405
                                                            refine V_iconst (v := 0) g dL_law_1754 (by decide) ?_
                                                            exact law_ret g hlr hf dL_law_1755
                                                      · have hf := it_f hf c401
                                                        refine V_iconst (v := 0) g dL_law_1738 (by decide) ?_
                                                        exact law_ret g hlr hf dL_law_1739
                                                    · have hf := it_f hf c387
                                                      by_cases c406 : x18 = 24
                                                      · have hf := it_t hf c406
                                                        subst c406
                                                        refine V_tableIn g 1759 dL_law_40 (by decide) (by decide) rfl (by decide) ?_
                                                        refine V_aload_n g 1 dL_law_1759 rfl ?_
                                                        refine V_aload_n g 0 dL_law_1760 rfl ?_
                                                        refine V_iload g 4 dL_law_1761 rfl ?_
                                                        refine V_iconst (v := 1) g dL_law_1763 (by decide) ?_
                                                        refine V_iadd g dL_law_1764 ?_
                                                        obtain ⟨h407, hf⟩ := ckf hf
                                                        refine V_sld g hX hb0 h407 dL_law_1765 ?_
                                                        refine V_aload_n g 0 dL_law_1766 rfl ?_
                                                        refine V_iload g 4 dL_law_1767 rfl ?_
                                                        refine V_iconst (v := 2) g dL_law_1769 (by decide) ?_
                                                        refine V_iadd g dL_law_1770 ?_
                                                        obtain ⟨h408, hf⟩ := ckf hf
                                                        refine V_sld g hX hb0 h408 dL_law_1771 ?_
                                                        refine V_aload_n g 0 dL_law_1772 rfl ?_
                                                        refine V_iload g 4 dL_law_1773 rfl ?_
                                                        refine V_iconst (v := 3) g dL_law_1775 (by decide) ?_
                                                        refine V_iadd g dL_law_1776 ?_
                                                        obtain ⟨h409, hf⟩ := ckf hf
                                                        refine V_sld g hX hb0 h409 dL_law_1777 ?_
                                                        refine V_aload_n g 3 dL_law_1778 rfl ?_
                                                        obtain ⟨s410, x411, hc, hf⟩ := bI_some hf
                                                        refine cW1 g [vR 8 l1, vI (xs (ix (l4 + 1))), vI (xs (ix (l4 + 2))), vI (xs (ix (l4 + 3))), vR 11 l3] [] s410 (vI x411) cf_L_both (t_L_both g.2.2.2.2.2.2.1 hc) (by decide) q_1195 (Nat.le_of_ble_eq_true rfl) dL_law_1779 ?_ rfl
                                                        refine V_istore g [(5, vI x411), (0, vR 19 1), (1, vR 8 l1), (2, vR 9 l2), (3, vR 11 l3), (4, vI l4)] dL_law_1782 rfl (by decide) rfl ?_
                                                        refine V_aload_n g 3 dL_law_1784 rfl ?_
                                                        refine V_aload_n g 1 dL_law_1785 rfl ?_
                                                        refine V_iload g 5 dL_law_1786 rfl ?_
                                                        refine V_iconst (v := 1) g dL_law_1788 (by decide) ?_
                                                        refine V_iadd g dL_law_1789 ?_
                                                        obtain ⟨h412, hf⟩ := ckf hf
                                                        refine V_sld g hX hb0 h412 dL_law_1790 ?_
                                                        refine V_aload_n g 1 dL_law_1791 rfl ?_
                                                        refine V_iload g 5 dL_law_1792 rfl ?_
                                                        refine V_iconst (v := 2) g dL_law_1794 (by decide) ?_
                                                        refine V_iadd g dL_law_1795 ?_
                                                        obtain ⟨h413, hf⟩ := ckf hf
                                                        refine V_sld g hX hb0 h413 dL_law_1796 ?_
                                                        refine V_aload_n g 1 dL_law_1797 rfl ?_
                                                        refine V_iload g 5 dL_law_1798 rfl ?_
                                                        refine V_iconst (v := 3) g dL_law_1800 (by decide) ?_
                                                        refine V_iadd g dL_law_1801 ?_
                                                        obtain ⟨h414, hf⟩ := ckf hf
                                                        refine V_sld g hX hb0 h414 dL_law_1802 ?_
                                                        obtain ⟨z415, hf⟩ := nz_some hf
                                                        obtain ⟨s416, x417, hc, hf⟩ := bI_some hf
                                                        refine cV1 g [vI (xs (ix (l4 + 1))), vI (xs (ix (l4 + 2))), vI (xs (ix (l4 + 3)))] [] s416 (vI x417) cf_X9_both (t_X9_both g.2.2.2.2.2.2.1 hc) (RC_own g rfl z415) z415 (by decide) q_1838 (Nat.le_of_ble_eq_true rfl) dL_law_1803 ?_ rfl
                                                        refine V_istore g [(6, vI x417), (5, vI x411), (0, vR 19 1), (1, vR 8 l1), (2, vR 9 l2), (3, vR 11 l3), (4, vI l4)] dL_law_1806 rfl (by decide) rfl ?_
                                                        refine V_aload_n g 4 dL_law_1808 rfl ?_
                                                        obtain ⟨s418, x419, hc, hf⟩ := bI_some hf
                                                        refine cV1 g [] [] s418 (vI x419) cf_X9_thrown (t_X9_thrown g.2.2.2.2.2.2.1 hc) (RC_own g rfl z415) z415 (by decide) q_1442 (Nat.le_of_ble_eq_true rfl) dL_law_1809 ?_ rfl
                                                        refine V_iload g 1 dL_law_1812 rfl ?_
                                                        refine V_icmp_eq g 1819 dL_law_1814 (by decide) (fun c420 => ?_) (fun c420 => ?_)
                                                        · have hf := it_t hf c420
                                                          refine V_iload g 1 dL_law_1819 rfl ?_
                                                          refine V_if_ne g 1836 dL_law_1821 (by decide) (fun c421 => ?_) (fun c421 => ?_)
                                                          · have hf := it_f hf c421
                                                            refine V_sub [(0, vR 19 1), (1, vR 8 l1), (2, vR 9 l2), (3, vR 11 l3), (4, vI l4)] [2, 3, 4, 5, 6] rfl ?_
                                                            exact t_L_law_b1836 g f ih hf
                                                          · have hf := it_t hf c421
                                                            refine V_aload_n g 5 dL_law_1824 rfl ?_
                                                            refine V_iconst (v := 0) g dL_law_1825 (by decide) ?_
                                                            obtain ⟨z422, hf⟩ := nz_some hf
                                                            obtain ⟨h423, hf⟩ := ckf hf
                                                            refine V_lald g z422 h423 dL_law_1826 ?_
                                                            refine V_iload g 0 dL_law_1827 rfl ?_
                                                            refine V_i2l g dL_law_1829 ?_
                                                            refine V_lcmp g dL_law_1830 ?_
                                                            refine V_if_eq g 1836 dL_law_1831 (by decide) (fun c424 => ?_) (fun c424 => ?_)
                                                            · have hf := it_t hf c424
                                                              refine V_sub [(0, vR 19 1), (1, vR 8 l1), (2, vR 9 l2), (3, vR 11 l3), (4, vI l4)] [2, 3, 4, 5, 6] rfl ?_
                                                              exact t_L_law_b1836 g f ih hf
                                                            · have hf := it_f hf c424
                                                              refine V_iconst (v := 0) g dL_law_1834 (by decide) ?_
                                                              exact law_ret g hlr hf dL_law_1835
                                                        · have hf := it_f hf c420
                                                          refine V_iconst (v := 0) g dL_law_1817 (by decide) ?_
                                                          exact law_ret g hlr hf dL_law_1818
                                                      · have hf := it_f hf c406
                                                        refine V_tableOut g 1839 dL_law_40 (sw_out (fun v h1 h2 => ?_)) (by decide) ?_
                                                        · rcases (show v = 0 ∨ v = 1 ∨ v = 2 ∨ v = 3 ∨ v = 4 ∨ v = 5 ∨ v = 6 ∨ v = 7 ∨ v = 8 ∨ v = 9 ∨ v = 10 ∨ v = 11 ∨ v = 12 ∨ v = 13 ∨ v = 14 ∨ v = 15 ∨ v = 16 ∨ v = 17 ∨ v = 18 ∨ v = 19 ∨ v = 20 ∨ v = 21 ∨ v = 22 ∨ v = 23 ∨ v = 24 by omega) with rfl | rfl | rfl | rfl | rfl | rfl | rfl | rfl | rfl | rfl | rfl | rfl | rfl | rfl | rfl | rfl | rfl | rfl | rfl | rfl | rfl | rfl | rfl | rfl | rfl
                                                          · exact c19
                                                          · exact c37
                                                          · exact c52
                                                          · exact c67
                                                          · exact c75
                                                          · exact c89
                                                          · exact c101
                                                          · exact c111
                                                          · exact c131
                                                          · exact c146
                                                          · exact c161
                                                          · exact c178
                                                          · exact c193
                                                          · exact c210
                                                          · exact c227
                                                          · exact c244
                                                          · exact c265
                                                          · exact c284
                                                          · exact c305
                                                          · exact c311
                                                          · exact c332
                                                          · exact c349
                                                          · exact c368
                                                          · exact c387
                                                          · exact c406
                                                        · skip
                                                          exact t_L_law_b1839 g f ih hf
set_option maxRecDepth 20000 in
theorem t_L_law {E : ET} {fu : Nat} {s' : St} {Q : State → Prop} {xs : Nat → Int32} {L : Nat} (g : GX E "ThinSeriesLaw" cL_law 8 51) (hX : va_X (E.G.2.2.2 19 1) L xs E.s E.s.heap) (hb0 : E.G.2.2.2 19 1 < E.G.1) (hlr : law_end E Q s') {s : St} (hf : f_L_law fu xs L s = some (s', 1)) : V E 8 Q s 0 [(0, vR 19 1)] [] := by
  unfold f_L_law at hf
  obtain ⟨s1, es1, hf⟩ := lt_some hf
  obtain ⟨h2, hf⟩ := ckf hf
  refine V_new g 8 es1 rfl q_117 q_118 q_94 (rm_of h2) dL_law_0 ?_
  refine V_dup g dL_law_3 rfl ?_
  obtain ⟨s3, hc, hf⟩ := bV_some hf
  refine cI0 g [] [vR 8 (gN s 8 + 1)] s3 cf_X8_init (t_X8_init g.2.2.2.2.2.2.1 hc) (Nat.succ_ne_zero _) (by decide) q_119 (Nat.le_of_ble_eq_true rfl) dL_law_4 ?_ rfl
  obtain ⟨x4, ex4, hf⟩ := lt_some hf
  have z5 : ¬ x4 = 0 := by rw [ex4]; exact Nat.succ_ne_zero _
  refine V_astore_n g [(1, vR 8 x4), (0, vR 19 1)] dL_law_7 ex4 (by decide) rfl ?_
  obtain ⟨s6, es6, hf⟩ := lt_some hf
  obtain ⟨h7, hf⟩ := ckf hf
  refine V_new g 9 es6 rfl q_1211 q_1212 q_102 (rm_of h7) dL_law_8 ?_
  refine V_dup g dL_law_11 rfl ?_
  obtain ⟨s8, hc, hf⟩ := bV_some hf
  refine cI0 g [] [vR 9 (gN s3 9 + 1)] s8 cf_X9_init (t_X9_init g.2.2.2.2.2.2.1 hc) (Nat.succ_ne_zero _) (by decide) q_1213 (Nat.le_of_ble_eq_true rfl) dL_law_12 ?_ rfl
  obtain ⟨x9, ex9, hf⟩ := lt_some hf
  have z10 : ¬ x9 = 0 := by rw [ex9]; exact Nat.succ_ne_zero _
  refine V_astore_n g [(2, vR 9 x9), (1, vR 8 x4), (0, vR 19 1)] dL_law_15 ex9 (by decide) rfl ?_
  refine V_iconst (v := 1) g dL_law_16 (by decide) ?_
  obtain ⟨h11, hf⟩ := ckf hf
  obtain ⟨s12, es12, hf⟩ := lt_some hf
  obtain ⟨h13, hf⟩ := ckf hf
  refine V_new11 g es12 q_485 h11 (rm_of h13) dL_law_17 ?_
  obtain ⟨x14, ex14, hf⟩ := lt_some hf
  have z15 : ¬ x14 = 0 := by rw [ex14]; exact Nat.succ_ne_zero _
  refine V_astore_n g [(3, vR 11 x14), (2, vR 9 x9), (1, vR 8 x4), (0, vR 19 1)] dL_law_19 ex14 (by decide) rfl ?_
  refine V_iconst (v := 0) g dL_law_20 (by decide) ?_
  refine V_istore g [(4, vI 0), (3, vR 11 x14), (2, vR 9 x9), (1, vR 8 x4), (0, vR 19 1)] dL_law_21 rfl (by decide) rfl ?_
  refine V_sub [(0, vR 19 1), (1, vR 8 x4), (2, vR 9 x9), (3, vR 11 x14), (4, vI 0)] [4, 3, 2, 1, 0] rfl ?_
  exact t_L_law_b23 g f _ s12 1 x4 x9 x14 0 hf
