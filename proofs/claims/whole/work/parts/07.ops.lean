section VOPS
variable {E : ET} {own : String} {cc : ByteArray} {nL d : Nat} {Q : State → Prop} {s : St} {pc : Nat} {lv : List (Nat × AV)} {st : List AV}
theorem V_iadd (g : GX E own cc nL d) {x y : Int32} (hd : decode cc pc = .ok (.iadd, 1)) (k : V E nL Q s (pc + 1) lv (vI (x + y) :: st)) : V E nL Q s pc lv (vI y :: vI x :: st) :=
  fun A H locs ls hR hl ho => lv_iadd g.1 g.2.1 hd (k A H locs ls hR hl (okl.push trivial ho.pop.pop))
theorem V_isub (g : GX E own cc nL d) {x y : Int32} (hd : decode cc pc = .ok (.isub, 1)) (k : V E nL Q s (pc + 1) lv (vI (x - y) :: st)) : V E nL Q s pc lv (vI y :: vI x :: st) :=
  fun A H locs ls hR hl ho => lv_isub g.1 g.2.1 hd (k A H locs ls hR hl (okl.push trivial ho.pop.pop))
theorem V_imul (g : GX E own cc nL d) {x y : Int32} (hd : decode cc pc = .ok (.imul, 1)) (k : V E nL Q s (pc + 1) lv (vI (x * y) :: st)) : V E nL Q s pc lv (vI y :: vI x :: st) :=
  fun A H locs ls hR hl ho => lv_imul g.1 g.2.1 hd (k A H locs ls hR hl (okl.push trivial ho.pop.pop))
theorem V_iand (g : GX E own cc nL d) {x y : Int32} (hd : decode cc pc = .ok (.iand, 1)) (k : V E nL Q s (pc + 1) lv (vI (x &&& y) :: st)) : V E nL Q s pc lv (vI y :: vI x :: st) :=
  fun A H locs ls hR hl ho => lv_iand g.1 g.2.1 hd (k A H locs ls hR hl (okl.push trivial ho.pop.pop))
theorem V_ior (g : GX E own cc nL d) {x y : Int32} (hd : decode cc pc = .ok (.ior, 1)) (k : V E nL Q s (pc + 1) lv (vI (x ||| y) :: st)) : V E nL Q s pc lv (vI y :: vI x :: st) :=
  fun A H locs ls hR hl ho => lv_ior g.1 g.2.1 hd (k A H locs ls hR hl (okl.push trivial ho.pop.pop))
theorem V_ixor (g : GX E own cc nL d) {x y : Int32} (hd : decode cc pc = .ok (.ixor, 1)) (k : V E nL Q s (pc + 1) lv (vI (x ^^^ y) :: st)) : V E nL Q s pc lv (vI y :: vI x :: st) :=
  fun A H locs ls hR hl ho => lv_ixor g.1 g.2.1 hd (k A H locs ls hR hl (okl.push trivial ho.pop.pop))
theorem V_ladd (g : GX E own cc nL d) {x y : Int64} (hd : decode cc pc = .ok (.ladd, 1)) (k : V E nL Q s (pc + 1) lv (vJ (x + y) :: st)) : V E nL Q s pc lv (vJ y :: vJ x :: st) :=
  fun A H locs ls hR hl ho => lv_ladd g.1 g.2.1 hd (k A H locs ls hR hl (okl.push trivial ho.pop.pop))
theorem V_lsub (g : GX E own cc nL d) {x y : Int64} (hd : decode cc pc = .ok (.lsub, 1)) (k : V E nL Q s (pc + 1) lv (vJ (x - y) :: st)) : V E nL Q s pc lv (vJ y :: vJ x :: st) :=
  fun A H locs ls hR hl ho => lv_lsub g.1 g.2.1 hd (k A H locs ls hR hl (okl.push trivial ho.pop.pop))
theorem V_lmul (g : GX E own cc nL d) {x y : Int64} (hd : decode cc pc = .ok (.lmul, 1)) (k : V E nL Q s (pc + 1) lv (vJ (x * y) :: st)) : V E nL Q s pc lv (vJ y :: vJ x :: st) :=
  fun A H locs ls hR hl ho => lv_lmul g.1 g.2.1 hd (k A H locs ls hR hl (okl.push trivial ho.pop.pop))
theorem V_lxor (g : GX E own cc nL d) {x y : Int64} (hd : decode cc pc = .ok (.lxor, 1)) (k : V E nL Q s (pc + 1) lv (vJ (x ^^^ y) :: st)) : V E nL Q s pc lv (vJ y :: vJ x :: st) :=
  fun A H locs ls hR hl ho => lv_lxor g.1 g.2.1 hd (k A H locs ls hR hl (okl.push trivial ho.pop.pop))
theorem V_idiv (g : GX E own cc nL d) {x y : Int32} (hd : decode cc pc = .ok (.idiv, 1)) (hne : ¬ y = 0) (k : V E nL Q s (pc + 1) lv (vI (x / y) :: st)) : V E nL Q s pc lv (vI y :: vI x :: st) :=
  fun A H locs ls hR hl ho => lv_idiv g.1 g.2.1 hd hne (k A H locs ls hR hl (okl.push trivial ho.pop.pop))
theorem V_irem (g : GX E own cc nL d) {x y : Int32} (hd : decode cc pc = .ok (.irem, 1)) (hne : ¬ y = 0) (k : V E nL Q s (pc + 1) lv (vI (x - x / y * y) :: st)) : V E nL Q s pc lv (vI y :: vI x :: st) :=
  fun A H locs ls hR hl ho => lv_irem g.1 g.2.1 hd hne (k A H locs ls hR hl (okl.push trivial ho.pop.pop))
theorem V_ldiv (g : GX E own cc nL d) {x y : Int64} (hd : decode cc pc = .ok (.ldiv, 1)) (hne : ¬ y = 0) (k : V E nL Q s (pc + 1) lv (vJ (x / y) :: st)) : V E nL Q s pc lv (vJ y :: vJ x :: st) :=
  fun A H locs ls hR hl ho => lv_ldiv g.1 g.2.1 hd hne (k A H locs ls hR hl (okl.push trivial ho.pop.pop))
theorem V_ishl (g : GX E own cc nL d) {x y : Int32} (hd : decode cc pc = .ok (.ishl, 1)) (k : V E nL Q s (pc + 1) lv (vI (x <<< (y &&& 31)) :: st)) : V E nL Q s pc lv (vI y :: vI x :: st) :=
  fun A H locs ls hR hl ho => lv_ishl g.1 g.2.1 hd (k A H locs ls hR hl (okl.push trivial ho.pop.pop))
theorem V_ishr (g : GX E own cc nL d) {x y : Int32} (hd : decode cc pc = .ok (.ishr, 1)) (k : V E nL Q s (pc + 1) lv (vI (x >>> (y &&& 31)) :: st)) : V E nL Q s pc lv (vI y :: vI x :: st) :=
  fun A H locs ls hR hl ho => lv_ishr g.1 g.2.1 hd (k A H locs ls hR hl (okl.push trivial ho.pop.pop))
theorem V_iushr (g : GX E own cc nL d) {x y : Int32} (hd : decode cc pc = .ok (.iushr, 1)) (k : V E nL Q s (pc + 1) lv (vI ((x.toUInt32 >>> (y.toUInt32 &&& Int32.toUInt32 31)).toInt32) :: st)) : V E nL Q s pc lv (vI y :: vI x :: st) :=
  fun A H locs ls hR hl ho => lv_iushr g.1 g.2.1 hd rfl (k A H locs ls hR hl (okl.push trivial ho.pop.pop))
theorem V_ineg (g : GX E own cc nL d) {x : Int32} (hd : decode cc pc = .ok (.ineg, 1)) (k : V E nL Q s (pc + 1) lv (vI (-x) :: st)) : V E nL Q s pc lv (vI x :: st) :=
  fun A H locs ls hR hl ho => lv_ineg g.1 g.2.1 hd (k A H locs ls hR hl (okl.push trivial ho.pop))
theorem V_lneg (g : GX E own cc nL d) {x : Int64} (hd : decode cc pc = .ok (.lneg, 1)) (k : V E nL Q s (pc + 1) lv (vJ (-x) :: st)) : V E nL Q s pc lv (vJ x :: st) :=
  fun A H locs ls hR hl ho => lv_lneg g.1 g.2.1 hd (k A H locs ls hR hl (okl.push trivial ho.pop))
theorem V_i2l (g : GX E own cc nL d) {x : Int32} (hd : decode cc pc = .ok (.i2l, 1)) (k : V E nL Q s (pc + 1) lv (vJ (x.toInt64) :: st)) : V E nL Q s pc lv (vI x :: st) :=
  fun A H locs ls hR hl ho => lv_i2l g.1 g.2.1 hd rfl (k A H locs ls hR hl (okl.push trivial ho.pop))
theorem V_l2i (g : GX E own cc nL d) {x : Int64} (hd : decode cc pc = .ok (.l2i, 1)) (k : V E nL Q s (pc + 1) lv (vI (x.toInt32) :: st)) : V E nL Q s pc lv (vJ x :: st) :=
  fun A H locs ls hR hl ho => lv_l2i g.1 g.2.1 hd rfl (k A H locs ls hR hl (okl.push trivial ho.pop))
theorem V_i2b (g : GX E own cc nL d) {x : Int32} (hd : decode cc pc = .ok (.i2b, 1)) (k : V E nL Q s (pc + 1) lv (vI (x.toInt8.toInt32) :: st)) : V E nL Q s pc lv (vI x :: st) :=
  fun A H locs ls hR hl ho => lv_i2b g.1 g.2.1 hd rfl (k A H locs ls hR hl (okl.push trivial ho.pop))
theorem V_i2c (g : GX E own cc nL d) {x : Int32} (hd : decode cc pc = .ok (.i2c, 1)) (k : V E nL Q s (pc + 1) lv (vI ((x.toUInt32 % 65536).toInt32) :: st)) : V E nL Q s pc lv (vI x :: st) :=
  fun A H locs ls hR hl ho => lv_i2c g.1 g.2.1 hd rfl (k A H locs ls hR hl (okl.push trivial ho.pop))
theorem V_lcmp (g : GX E own cc nL d) {x y : Int64} (hd : decode cc pc = .ok (.lcmp, 1)) (k : V E nL Q s (pc + 1) lv (vI (lg_cmp x y) :: st)) : V E nL Q s pc lv (vJ y :: vJ x :: st) :=
  fun A H locs ls hR hl ho => W.lcmp g.1 g.2.1 hd (k A H locs ls hR hl (okl.push trivial ho.pop.pop))
theorem V_sipush (g : GX E own cc nL d) {n : Int} {v : Int32} (hd : decode cc pc = .ok (.sipush n, 3)) (hv : (Int16.ofInt n).toInt32 = v) (k : V E nL Q s (pc + 3) lv (vI v :: st)) : V E nL Q s pc lv st :=
  fun A H locs ls hR hl ho => lv_sipush g.1 g.2.1 hd hv (k A H locs ls hR hl (okl.push trivial ho))
theorem V_if_eq (g : GX E own cc nL d) {x : Int32} {off : Int} (tgt : Nat) (hd : decode cc pc = .ok (.ifCond .eq off, 3)) (ht : (pc : Int) + off = (tgt : Int)) (kt : x = 0 → V E nL Q s tgt lv st) (kf : ¬ (x = 0) → V E nL Q s (pc + 3) lv st) : V E nL Q s pc lv (vI x :: st) :=
  fun A H locs ls hR hl ho => lv_if_eq g.1 g.2.1 hd ht (fun c => kt c A H locs ls hR hl ho.pop) (fun c => kf c A H locs ls hR hl ho.pop)
theorem V_icmp_eq (g : GX E own cc nL d) {x y : Int32} {off : Int} (tgt : Nat) (hd : decode cc pc = .ok (.if_icmp .eq off, 3)) (ht : (pc : Int) + off = (tgt : Int)) (kt : x = y → V E nL Q s tgt lv st) (kf : ¬ (x = y) → V E nL Q s (pc + 3) lv st) : V E nL Q s pc lv (vI y :: vI x :: st) :=
  fun A H locs ls hR hl ho => lv_icmp_eq g.1 g.2.1 hd ht (fun c => kt c A H locs ls hR hl ho.pop.pop) (fun c => kf c A H locs ls hR hl ho.pop.pop)
theorem V_if_ne (g : GX E own cc nL d) {x : Int32} {off : Int} (tgt : Nat) (hd : decode cc pc = .ok (.ifCond .ne off, 3)) (ht : (pc : Int) + off = (tgt : Int)) (kt : ¬ x = 0 → V E nL Q s tgt lv st) (kf : x = 0 → V E nL Q s (pc + 3) lv st) : V E nL Q s pc lv (vI x :: st) :=
  fun A H locs ls hR hl ho => lv_if_ne g.1 g.2.1 hd ht (fun c => kt c A H locs ls hR hl ho.pop) (fun c => kf c A H locs ls hR hl ho.pop)
theorem V_icmp_ne (g : GX E own cc nL d) {x y : Int32} {off : Int} (tgt : Nat) (hd : decode cc pc = .ok (.if_icmp .ne off, 3)) (ht : (pc : Int) + off = (tgt : Int)) (kt : ¬ x = y → V E nL Q s tgt lv st) (kf : x = y → V E nL Q s (pc + 3) lv st) : V E nL Q s pc lv (vI y :: vI x :: st) :=
  fun A H locs ls hR hl ho => lv_icmp_ne g.1 g.2.1 hd ht (fun c => kt c A H locs ls hR hl ho.pop.pop) (fun c => kf c A H locs ls hR hl ho.pop.pop)
theorem V_if_lt (g : GX E own cc nL d) {x : Int32} {off : Int} (tgt : Nat) (hd : decode cc pc = .ok (.ifCond .lt off, 3)) (ht : (pc : Int) + off = (tgt : Int)) (kt : x < 0 → V E nL Q s tgt lv st) (kf : ¬ (x < 0) → V E nL Q s (pc + 3) lv st) : V E nL Q s pc lv (vI x :: st) :=
  fun A H locs ls hR hl ho => lv_if_lt g.1 g.2.1 hd ht (fun c => kt c A H locs ls hR hl ho.pop) (fun c => kf c A H locs ls hR hl ho.pop)
theorem V_icmp_lt (g : GX E own cc nL d) {x y : Int32} {off : Int} (tgt : Nat) (hd : decode cc pc = .ok (.if_icmp .lt off, 3)) (ht : (pc : Int) + off = (tgt : Int)) (kt : x < y → V E nL Q s tgt lv st) (kf : ¬ (x < y) → V E nL Q s (pc + 3) lv st) : V E nL Q s pc lv (vI y :: vI x :: st) :=
  fun A H locs ls hR hl ho => lv_icmp_lt g.1 g.2.1 hd ht (fun c => kt c A H locs ls hR hl ho.pop.pop) (fun c => kf c A H locs ls hR hl ho.pop.pop)
theorem V_if_ge (g : GX E own cc nL d) {x : Int32} {off : Int} (tgt : Nat) (hd : decode cc pc = .ok (.ifCond .ge off, 3)) (ht : (pc : Int) + off = (tgt : Int)) (kt : 0 ≤ x → V E nL Q s tgt lv st) (kf : ¬ (0 ≤ x) → V E nL Q s (pc + 3) lv st) : V E nL Q s pc lv (vI x :: st) :=
  fun A H locs ls hR hl ho => lv_if_ge g.1 g.2.1 hd ht (fun c => kt c A H locs ls hR hl ho.pop) (fun c => kf c A H locs ls hR hl ho.pop)
theorem V_icmp_ge (g : GX E own cc nL d) {x y : Int32} {off : Int} (tgt : Nat) (hd : decode cc pc = .ok (.if_icmp .ge off, 3)) (ht : (pc : Int) + off = (tgt : Int)) (kt : y ≤ x → V E nL Q s tgt lv st) (kf : ¬ (y ≤ x) → V E nL Q s (pc + 3) lv st) : V E nL Q s pc lv (vI y :: vI x :: st) :=
  fun A H locs ls hR hl ho => lv_icmp_ge g.1 g.2.1 hd ht (fun c => kt c A H locs ls hR hl ho.pop.pop) (fun c => kf c A H locs ls hR hl ho.pop.pop)
theorem V_if_gt (g : GX E own cc nL d) {x : Int32} {off : Int} (tgt : Nat) (hd : decode cc pc = .ok (.ifCond .gt off, 3)) (ht : (pc : Int) + off = (tgt : Int)) (kt : 0 < x → V E nL Q s tgt lv st) (kf : ¬ (0 < x) → V E nL Q s (pc + 3) lv st) : V E nL Q s pc lv (vI x :: st) :=
  fun A H locs ls hR hl ho => lv_if_gt g.1 g.2.1 hd ht (fun c => kt c A H locs ls hR hl ho.pop) (fun c => kf c A H locs ls hR hl ho.pop)
theorem V_icmp_gt (g : GX E own cc nL d) {x y : Int32} {off : Int} (tgt : Nat) (hd : decode cc pc = .ok (.if_icmp .gt off, 3)) (ht : (pc : Int) + off = (tgt : Int)) (kt : y < x → V E nL Q s tgt lv st) (kf : ¬ (y < x) → V E nL Q s (pc + 3) lv st) : V E nL Q s pc lv (vI y :: vI x :: st) :=
  fun A H locs ls hR hl ho => lv_icmp_gt g.1 g.2.1 hd ht (fun c => kt c A H locs ls hR hl ho.pop.pop) (fun c => kf c A H locs ls hR hl ho.pop.pop)
theorem V_if_le (g : GX E own cc nL d) {x : Int32} {off : Int} (tgt : Nat) (hd : decode cc pc = .ok (.ifCond .le off, 3)) (ht : (pc : Int) + off = (tgt : Int)) (kt : x ≤ 0 → V E nL Q s tgt lv st) (kf : ¬ (x ≤ 0) → V E nL Q s (pc + 3) lv st) : V E nL Q s pc lv (vI x :: st) :=
  fun A H locs ls hR hl ho => lv_if_le g.1 g.2.1 hd ht (fun c => kt c A H locs ls hR hl ho.pop) (fun c => kf c A H locs ls hR hl ho.pop)
theorem V_icmp_le (g : GX E own cc nL d) {x y : Int32} {off : Int} (tgt : Nat) (hd : decode cc pc = .ok (.if_icmp .le off, 3)) (ht : (pc : Int) + off = (tgt : Int)) (kt : x ≤ y → V E nL Q s tgt lv st) (kf : ¬ (x ≤ y) → V E nL Q s (pc + 3) lv st) : V E nL Q s pc lv (vI y :: vI x :: st) :=
  fun A H locs ls hR hl ho => lv_icmp_le g.1 g.2.1 hd ht (fun c => kt c A H locs ls hR hl ho.pop.pop) (fun c => kf c A H locs ls hR hl ho.pop.pop)
theorem V_goto (g : GX E own cc nL d) {off : Int} (tgt : Nat) (hd : decode cc pc = .ok (.goto off, 3)) (ht : (pc : Int) + off = (tgt : Int)) (k : V E nL Q s tgt lv st) : V E nL Q s pc lv st :=
  fun A H locs ls hR hl ho => lv_goto g.1 g.2.1 hd ht (k A H locs ls hR hl ho)
theorem V_tableIn (g : GX E own cc nL d) {dflt lo hi : Int} {offs : Array Int} {len : Nat} {x : Int32} {off : Int} (tgt : Nat) (hd : decode cc pc = .ok (.tableswitch dflt lo hi offs, len)) (h1 : ¬ x.toInt < lo) (h2 : ¬ hi < x.toInt) (ho : offs[(x.toInt - lo).toNat]? = some off) (ht : (pc : Int) + off = (tgt : Int)) (k : V E nL Q s tgt lv st) : V E nL Q s pc lv (vI x :: st) :=
  fun A H locs ls hR hl ho9 => lv_tableIn g.1 g.2.1 hd h1 h2 ho ht (k A H locs ls hR hl ho9.pop)
theorem V_tableOut (g : GX E own cc nL d) {dflt lo hi : Int} {offs : Array Int} {len : Nat} {x : Int32} (tgt : Nat) (hd : decode cc pc = .ok (.tableswitch dflt lo hi offs, len)) (h : x.toInt < lo ∨ hi < x.toInt) (ht : (pc : Int) + dflt = (tgt : Int)) (k : V E nL Q s tgt lv st) : V E nL Q s pc lv (vI x :: st) :=
  fun A H locs ls hR hl ho9 => lv_tableOut g.1 g.2.1 hd h ht (k A H locs ls hR hl ho9.pop)
theorem V_lookup (g : GX E own cc nL d) {dflt : Int} {ps : Array (Int × Int)} {len : Nat} {x : Int32} {off : Int} (tgt : Nat) (hd : decode cc pc = .ok (.lookupswitch dflt ps, len)) (hp : (ps.toList.zip (ps.toList.drop 1)).all (fun (a, next) => a.1 < next.1) = true) (ho : Op.lookupswitch.offset ps.toList dflt x.toInt = off) (ht : (pc : Int) + off = (tgt : Int)) (k : V E nL Q s tgt lv st) : V E nL Q s pc lv (vI x :: st) :=
  fun A H locs ls hR hl ho9 => lv_lookup g.1 g.2.1 hd hp ho ht (k A H locs ls hR hl ho9.pop)
theorem V_dup (g : GX E own cc nL d) {v : AV} (hd : decode cc pc = .ok (.dup, 1)) (hc : cat v = 1) (k : V E nL Q s (pc + 1) lv (v :: v :: st)) : V E nL Q s pc lv (v :: st) :=
  fun A H locs ls hR hl ho => lv_dup g.1 g.2.1 hd ((tr_cat ho.top).trans hc) (k A H locs ls hR hl (okl.push ho.top ho))
theorem V_pop (g : GX E own cc nL d) {v : AV} (hd : decode cc pc = .ok (.pop, 1)) (hc : cat v = 1) (k : V E nL Q s (pc + 1) lv st) : V E nL Q s pc lv (v :: st) :=
  fun A H locs ls hR hl ho => lv_pop g.1 g.2.1 hd ((tr_cat ho.top).trans hc) (k A H locs ls hR hl ho.pop)
theorem V_dup2 (g : GX E own cc nL d) {v w : AV} (hd : decode cc pc = .ok (.dup2, 1)) (hc : cat v = 1) (hc2 : cat w = 1) (k : V E nL Q s (pc + 1) lv (v :: w :: v :: w :: st)) : V E nL Q s pc lv (v :: w :: st) :=
  fun A H locs ls hR hl ho => lv_dup2_11 g.1 g.2.1 hd ((tr_cat ho.top).trans hc) ((tr_cat ho.pop.top).trans hc2) (k A H locs ls hR hl (okl.push ho.top (okl.push ho.pop.top ho)))
theorem V_dup_x1 (g : GX E own cc nL d) {v w : AV} (hd : decode cc pc = .ok (.dup_x1, 1)) (hc : cat v = 1) (hc2 : cat w = 1) (k : V E nL Q s (pc + 1) lv (v :: w :: v :: st)) : V E nL Q s pc lv (v :: w :: st) :=
  fun A H locs ls hR hl ho => lv_dup_x1 g.1 g.2.1 hd ((tr_cat ho.top).trans hc) ((tr_cat ho.pop.top).trans hc2) (k A H locs ls hR hl (okl.push ho.top (okl.push ho.pop.top (okl.push ho.top ho.pop.pop))))
theorem V_ldc (g : GX E own cc nL d) {index : Nat} {v : Int32} (hw : Cond.constant own index v ∈ tb) (hd : decode cc pc = .ok (.ldc index, 2)) (k : V E nL Q s (pc + 2) lv (vI v :: st)) : V E nL Q s pc lv st :=
  fun A H locs ls hR hl ho => lv_ldc g.1 g.2.1 g.ow (g.hts _ hw) hd (k A H locs ls hR hl (okl.push trivial ho))
theorem V_ldcw (g : GX E own cc nL d) {index : Nat} {v : Int32} (hw : Cond.constant own index v ∈ tb) (hd : decode cc pc = .ok (.ldc_w index, 3)) (k : V E nL Q s (pc + 3) lv (vI v :: st)) : V E nL Q s pc lv st :=
  fun A H locs ls hR hl ho => lv_ldcw g.1 g.2.1 g.ow (g.hts _ hw) hd (k A H locs ls hR hl (okl.push trivial ho))
theorem V_ldc2 (g : GX E own cc nL d) {index : Nat} {v : Int64} (hw : Cond.constantLong own index v ∈ tb) (hd : decode cc pc = .ok (.ldc2_w index, 3)) (k : V E nL Q s (pc + 3) lv (vJ v :: st)) : V E nL Q s pc lv st :=
  fun A H locs ls hR hl ho => lv_ldc2 g.1 g.2.1 g.ow (g.hts _ hw) hd (k A H locs ls hR hl (okl.push trivial ho))
end VOPS
