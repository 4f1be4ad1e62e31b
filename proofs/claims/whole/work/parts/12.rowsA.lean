/-! Rows: an instruction of the machine over the picture. -/
section RowsA
variable {α : Type} {X : CX α} {own : String} {cc : ByteArray} {nL : Nat} {rm : Room} {pc : Nat} {lo : List (Nat × Value)} {st : List Value} {nc ns : Nat} {k : M α}

theorem wm_iadd {x y : Int32} (hX : Cx X own cc nL rm) (hd : decode cc pc = .ok (.iadd, 1)) (kk : WM X (pc + 1) lo (.int (x + y) :: st) nc ns k) : WM X pc lo (.int y :: .int x :: st) nc ns k := by
  obtain ⟨p, l, e, R, s, m, args, below, meth, c, d, b, base, z, Q, r0, h0⟩ := X
  intro h hk H locs ls hH hS hl
  exact lv_iadd hX.1 hX.2.1 hd (kk h hk H locs ls hH hS hl)
theorem wm_isub {x y : Int32} (hX : Cx X own cc nL rm) (hd : decode cc pc = .ok (.isub, 1)) (kk : WM X (pc + 1) lo (.int (x - y) :: st) nc ns k) : WM X pc lo (.int y :: .int x :: st) nc ns k := by
  obtain ⟨p, l, e, R, s, m, args, below, meth, c, d, b, base, z, Q, r0, h0⟩ := X
  intro h hk H locs ls hH hS hl
  exact lv_isub hX.1 hX.2.1 hd (kk h hk H locs ls hH hS hl)
theorem wm_imul {x y : Int32} (hX : Cx X own cc nL rm) (hd : decode cc pc = .ok (.imul, 1)) (kk : WM X (pc + 1) lo (.int (x * y) :: st) nc ns k) : WM X pc lo (.int y :: .int x :: st) nc ns k := by
  obtain ⟨p, l, e, R, s, m, args, below, meth, c, d, b, base, z, Q, r0, h0⟩ := X
  intro h hk H locs ls hH hS hl
  exact lv_imul hX.1 hX.2.1 hd (kk h hk H locs ls hH hS hl)
theorem wm_iand {x y : Int32} (hX : Cx X own cc nL rm) (hd : decode cc pc = .ok (.iand, 1)) (kk : WM X (pc + 1) lo (.int (x &&& y) :: st) nc ns k) : WM X pc lo (.int y :: .int x :: st) nc ns k := by
  obtain ⟨p, l, e, R, s, m, args, below, meth, c, d, b, base, z, Q, r0, h0⟩ := X
  intro h hk H locs ls hH hS hl
  exact lv_iand hX.1 hX.2.1 hd (kk h hk H locs ls hH hS hl)
theorem wm_ior {x y : Int32} (hX : Cx X own cc nL rm) (hd : decode cc pc = .ok (.ior, 1)) (kk : WM X (pc + 1) lo (.int (x ||| y) :: st) nc ns k) : WM X pc lo (.int y :: .int x :: st) nc ns k := by
  obtain ⟨p, l, e, R, s, m, args, below, meth, c, d, b, base, z, Q, r0, h0⟩ := X
  intro h hk H locs ls hH hS hl
  exact lv_ior hX.1 hX.2.1 hd (kk h hk H locs ls hH hS hl)
theorem wm_ixor {x y : Int32} (hX : Cx X own cc nL rm) (hd : decode cc pc = .ok (.ixor, 1)) (kk : WM X (pc + 1) lo (.int (x ^^^ y) :: st) nc ns k) : WM X pc lo (.int y :: .int x :: st) nc ns k := by
  obtain ⟨p, l, e, R, s, m, args, below, meth, c, d, b, base, z, Q, r0, h0⟩ := X
  intro h hk H locs ls hH hS hl
  exact lv_ixor hX.1 hX.2.1 hd (kk h hk H locs ls hH hS hl)
theorem wm_ishl {x y : Int32} (hX : Cx X own cc nL rm) (hd : decode cc pc = .ok (.ishl, 1)) (kk : WM X (pc + 1) lo (.int (x <<< (y &&& 31)) :: st) nc ns k) : WM X pc lo (.int y :: .int x :: st) nc ns k := by
  obtain ⟨p, l, e, R, s, m, args, below, meth, c, d, b, base, z, Q, r0, h0⟩ := X
  intro h hk H locs ls hH hS hl
  exact lv_ishl hX.1 hX.2.1 hd (kk h hk H locs ls hH hS hl)
theorem wm_ishr {x y : Int32} (hX : Cx X own cc nL rm) (hd : decode cc pc = .ok (.ishr, 1)) (kk : WM X (pc + 1) lo (.int (x >>> (y &&& 31)) :: st) nc ns k) : WM X pc lo (.int y :: .int x :: st) nc ns k := by
  obtain ⟨p, l, e, R, s, m, args, below, meth, c, d, b, base, z, Q, r0, h0⟩ := X
  intro h hk H locs ls hH hS hl
  exact lv_ishr hX.1 hX.2.1 hd (kk h hk H locs ls hH hS hl)
theorem wm_ladd {x y : Int64} (hX : Cx X own cc nL rm) (hd : decode cc pc = .ok (.ladd, 1)) (kk : WM X (pc + 1) lo (.long (x + y) :: st) nc ns k) : WM X pc lo (.long y :: .long x :: st) nc ns k := by
  obtain ⟨p, l, e, R, s, m, args, below, meth, c, d, b, base, z, Q, r0, h0⟩ := X
  intro h hk H locs ls hH hS hl
  exact lv_ladd hX.1 hX.2.1 hd (kk h hk H locs ls hH hS hl)
theorem wm_lsub {x y : Int64} (hX : Cx X own cc nL rm) (hd : decode cc pc = .ok (.lsub, 1)) (kk : WM X (pc + 1) lo (.long (x - y) :: st) nc ns k) : WM X pc lo (.long y :: .long x :: st) nc ns k := by
  obtain ⟨p, l, e, R, s, m, args, below, meth, c, d, b, base, z, Q, r0, h0⟩ := X
  intro h hk H locs ls hH hS hl
  exact lv_lsub hX.1 hX.2.1 hd (kk h hk H locs ls hH hS hl)
theorem wm_lmul {x y : Int64} (hX : Cx X own cc nL rm) (hd : decode cc pc = .ok (.lmul, 1)) (kk : WM X (pc + 1) lo (.long (x * y) :: st) nc ns k) : WM X pc lo (.long y :: .long x :: st) nc ns k := by
  obtain ⟨p, l, e, R, s, m, args, below, meth, c, d, b, base, z, Q, r0, h0⟩ := X
  intro h hk H locs ls hH hS hl
  exact lv_lmul hX.1 hX.2.1 hd (kk h hk H locs ls hH hS hl)
theorem wm_land {x y : Int64} (hX : Cx X own cc nL rm) (hd : decode cc pc = .ok (.land, 1)) (kk : WM X (pc + 1) lo (.long (x &&& y) :: st) nc ns k) : WM X pc lo (.long y :: .long x :: st) nc ns k := by
  obtain ⟨p, l, e, R, s, m, args, below, meth, c, d, b, base, z, Q, r0, h0⟩ := X
  intro h hk H locs ls hH hS hl
  exact lv_land hX.1 hX.2.1 hd (kk h hk H locs ls hH hS hl)
theorem wm_lor {x y : Int64} (hX : Cx X own cc nL rm) (hd : decode cc pc = .ok (.lor, 1)) (kk : WM X (pc + 1) lo (.long (x ||| y) :: st) nc ns k) : WM X pc lo (.long y :: .long x :: st) nc ns k := by
  obtain ⟨p, l, e, R, s, m, args, below, meth, c, d, b, base, z, Q, r0, h0⟩ := X
  intro h hk H locs ls hH hS hl
  exact lv_lor hX.1 hX.2.1 hd (kk h hk H locs ls hH hS hl)
theorem wm_lxor {x y : Int64} (hX : Cx X own cc nL rm) (hd : decode cc pc = .ok (.lxor, 1)) (kk : WM X (pc + 1) lo (.long (x ^^^ y) :: st) nc ns k) : WM X pc lo (.long y :: .long x :: st) nc ns k := by
  obtain ⟨p, l, e, R, s, m, args, below, meth, c, d, b, base, z, Q, r0, h0⟩ := X
  intro h hk H locs ls hH hS hl
  exact lv_lxor hX.1 hX.2.1 hd (kk h hk H locs ls hH hS hl)
theorem wm_lneg {x : Int64} (hX : Cx X own cc nL rm) (hd : decode cc pc = .ok (.lneg, 1)) (kk : WM X (pc + 1) lo (.long (-x) :: st) nc ns k) : WM X pc lo (.long x :: st) nc ns k := by
  obtain ⟨p, l, e, R, s, m, args, below, meth, c, d, b, base, z, Q, r0, h0⟩ := X
  intro h hk H locs ls hH hS hl
  exact lv_lneg hX.1 hX.2.1 hd (kk h hk H locs ls hH hS hl)
theorem wm_ineg {x : Int32} (hX : Cx X own cc nL rm) (hd : decode cc pc = .ok (.ineg, 1)) (kk : WM X (pc + 1) lo (.int (-x) :: st) nc ns k) : WM X pc lo (.int x :: st) nc ns k := by
  obtain ⟨p, l, e, R, s, m, args, below, meth, c, d, b, base, z, Q, r0, h0⟩ := X
  intro h hk H locs ls hH hS hl
  exact lv_ineg hX.1 hX.2.1 hd (kk h hk H locs ls hH hS hl)
theorem wm_i2l {x : Int32} (hX : Cx X own cc nL rm) (hd : decode cc pc = .ok (.i2l, 1)) (kk : WM X (pc + 1) lo (.long (x.toInt64) :: st) nc ns k) : WM X pc lo (.int x :: st) nc ns k := by
  obtain ⟨p, l, e, R, s, m, args, below, meth, c, d, b, base, z, Q, r0, h0⟩ := X
  intro h hk H locs ls hH hS hl
  exact lv_i2l hX.1 hX.2.1 hd rfl (kk h hk H locs ls hH hS hl)
theorem wm_l2i {x : Int64} (hX : Cx X own cc nL rm) (hd : decode cc pc = .ok (.l2i, 1)) (kk : WM X (pc + 1) lo (.int (x.toInt32) :: st) nc ns k) : WM X pc lo (.long x :: st) nc ns k := by
  obtain ⟨p, l, e, R, s, m, args, below, meth, c, d, b, base, z, Q, r0, h0⟩ := X
  intro h hk H locs ls hH hS hl
  exact lv_l2i hX.1 hX.2.1 hd rfl (kk h hk H locs ls hH hS hl)
theorem wm_i2b {x : Int32} (hX : Cx X own cc nL rm) (hd : decode cc pc = .ok (.i2b, 1)) (kk : WM X (pc + 1) lo (.int (x.toInt8.toInt32) :: st) nc ns k) : WM X pc lo (.int x :: st) nc ns k := by
  obtain ⟨p, l, e, R, s, m, args, below, meth, c, d, b, base, z, Q, r0, h0⟩ := X
  intro h hk H locs ls hH hS hl
  exact lv_i2b hX.1 hX.2.1 hd rfl (kk h hk H locs ls hH hS hl)
theorem wm_i2s {x : Int32} (hX : Cx X own cc nL rm) (hd : decode cc pc = .ok (.i2s, 1)) (kk : WM X (pc + 1) lo (.int (x.toInt16.toInt32) :: st) nc ns k) : WM X pc lo (.int x :: st) nc ns k := by
  obtain ⟨p, l, e, R, s, m, args, below, meth, c, d, b, base, z, Q, r0, h0⟩ := X
  intro h hk H locs ls hH hS hl
  exact lv_i2s hX.1 hX.2.1 hd rfl (kk h hk H locs ls hH hS hl)
theorem wm_iushr {x y : Int32} (hX : Cx X own cc nL rm) (hd : decode cc pc = .ok (.iushr, 1)) (kk : WM X (pc + 1) lo (.int (x.toUInt32 >>> (y.toUInt32 &&& Int32.toUInt32 31)).toInt32 :: st) nc ns k) : WM X pc lo (.int y :: .int x :: st) nc ns k := by
  obtain ⟨p, l, e, R, s, m, args, below, meth, c, d, b, base, z, Q, r0, h0⟩ := X
  intro h hk H locs ls hH hS hl
  exact lv_iushr hX.1 hX.2.1 hd rfl (kk h hk H locs ls hH hS hl)
theorem wm_lushr {x : Int64} {y : Int32} (hX : Cx X own cc nL rm) (hd : decode cc pc = .ok (.lushr, 1)) (kk : WM X (pc + 1) lo (.long (x.toUInt64 >>> (y.toInt64.toUInt64 &&& Int64.toUInt64 63)).toInt64 :: st) nc ns k) : WM X pc lo (.int y :: .long x :: st) nc ns k := by
  obtain ⟨p, l, e, R, s, m, args, below, meth, c, d, b, base, z, Q, r0, h0⟩ := X
  intro h hk H locs ls hH hS hl
  exact lv_lushr hX.1 hX.2.1 hd rfl (kk h hk H locs ls hH hS hl)
theorem wm_lshl {x : Int64} {y : Int32} (hX : Cx X own cc nL rm) (hd : decode cc pc = .ok (.lshl, 1)) (kk : WM X (pc + 1) lo (.long (x <<< (y.toInt64 &&& 63)) :: st) nc ns k) : WM X pc lo (.int y :: .long x :: st) nc ns k := by
  obtain ⟨p, l, e, R, s, m, args, below, meth, c, d, b, base, z, Q, r0, h0⟩ := X
  intro h hk H locs ls hH hS hl
  exact lv_lshl hX.1 hX.2.1 hd rfl (kk h hk H locs ls hH hS hl)
theorem wm_f2l {x : UInt32} (hX : Cx X own cc nL rm) (hd : decode cc pc = .ok (.f2l, 1)) (kk : WM X (pc + 1) lo (.long (FP.f2l x) :: st) nc ns k) : WM X pc lo (.float x :: st) nc ns k := by
  obtain ⟨p, l, e, R, s, m, args, below, meth, c, d, b, base, z, Q, r0, h0⟩ := X
  intro h hk H locs ls hH hS hl
  exact lv_f2l hX.1 hX.2.1 hd (kk h hk H locs ls hH hS hl)
theorem wm_d2l {x : UInt64} (hX : Cx X own cc nL rm) (hd : decode cc pc = .ok (.d2l, 1)) (kk : WM X (pc + 1) lo (.long (FP.d2l x) :: st) nc ns k) : WM X pc lo (.double x :: st) nc ns k := by
  obtain ⟨p, l, e, R, s, m, args, below, meth, c, d, b, base, z, Q, r0, h0⟩ := X
  intro h hk H locs ls hH hS hl
  exact lv_d2l hX.1 hX.2.1 hd (kk h hk H locs ls hH hS hl)
theorem wm_iconst {n : Int} (v : Int32) (hX : Cx X own cc nL rm) (hd : decode cc pc = .ok (.iconst n, 1)) (hv : Int32.ofInt n = v) (kk : WM X (pc + 1) lo (.int v :: st) nc ns k) : WM X pc lo st nc ns k := by
  obtain ⟨p, l, e, R, s, m, args, below, meth, c, d, b, base, z, Q, r0, h0⟩ := X
  intro h hk H locs ls hH hS hl
  exact lv_iconst hX.1 hX.2.1 hd hv (kk h hk H locs ls hH hS hl)
theorem wm_bipush {n : Int} (v : Int32) (hX : Cx X own cc nL rm) (hd : decode cc pc = .ok (.bipush n, 2)) (hv : (Int8.ofInt n).toInt32 = v) (kk : WM X (pc + 2) lo (.int v :: st) nc ns k) : WM X pc lo st nc ns k := by
  obtain ⟨p, l, e, R, s, m, args, below, meth, c, d, b, base, z, Q, r0, h0⟩ := X
  intro h hk H locs ls hH hS hl
  exact lv_bipush hX.1 hX.2.1 hd hv (kk h hk H locs ls hH hS hl)
theorem wm_sipush {n : Int} (v : Int32) (hX : Cx X own cc nL rm) (hd : decode cc pc = .ok (.sipush n, 3)) (hv : (Int16.ofInt n).toInt32 = v) (kk : WM X (pc + 3) lo (.int v :: st) nc ns k) : WM X pc lo st nc ns k := by
  obtain ⟨p, l, e, R, s, m, args, below, meth, c, d, b, base, z, Q, r0, h0⟩ := X
  intro h hk H locs ls hH hS hl
  exact lv_sipush hX.1 hX.2.1 hd hv (kk h hk H locs ls hH hS hl)
theorem wm_lconst {n : Fin 2} (v : Int64) (hX : Cx X own cc nL rm) (hd : decode cc pc = .ok (.lconst n, 1)) (hv : Int64.ofNat (n : Nat) = v) (kk : WM X (pc + 1) lo (.long v :: st) nc ns k) : WM X pc lo st nc ns k := by
  obtain ⟨p, l, e, R, s, m, args, below, meth, c, d, b, base, z, Q, r0, h0⟩ := X
  intro h hk H locs ls hH hS hl
  exact lv_lconst hX.1 hX.2.1 hd hv (kk h hk H locs ls hH hS hl)
theorem wm_ldc2 {i : Nat} {v : Int64} (hX : Cx X own cc nL rm) (hd : decode cc pc = .ok (.ldc2_w i, 3)) (hw : Cond.constantLong own i v ∈ lw_g) (kk : WM X (pc + 3) lo (.long v :: st) nc ns k) : WM X pc lo st nc ns k := by
  obtain ⟨p, l, e, R, s, m, args, below, meth, c, d, b, base, z, Q, r0, h0⟩ := X
  intro h hk H locs ls hH hS hl
  exact lv_ldc2 hX.1 hX.2.1 hX.2.2.2.2.1 (hX.2.2.2.2.2.1 _ hw) hd (kk h hk H locs ls hH hS hl)
theorem wm_ldc {i : Nat} {v : Int32} (hX : Cx X own cc nL rm) (hd : decode cc pc = .ok (.ldc i, 2)) (hw : Cond.constant own i v ∈ lw_g) (kk : WM X (pc + 2) lo (.int v :: st) nc ns k) : WM X pc lo st nc ns k := by
  obtain ⟨p, l, e, R, s, m, args, below, meth, c, d, b, base, z, Q, r0, h0⟩ := X
  intro h hk H locs ls hH hS hl
  exact lv_ldc hX.1 hX.2.1 hX.2.2.2.2.1 (hX.2.2.2.2.2.1 _ hw) hd (kk h hk H locs ls hH hS hl)
theorem wm_ldcw {i : Nat} {v : Int32} (hX : Cx X own cc nL rm) (hd : decode cc pc = .ok (.ldc_w i, 3)) (hw : Cond.constant own i v ∈ lw_g) (kk : WM X (pc + 3) lo (.int v :: st) nc ns k) : WM X pc lo st nc ns k := by
  obtain ⟨p, l, e, R, s, m, args, below, meth, c, d, b, base, z, Q, r0, h0⟩ := X
  intro h hk H locs ls hH hS hl
  exact lv_ldcw hX.1 hX.2.1 hX.2.2.2.2.1 (hX.2.2.2.2.2.1 _ hw) hd (kk h hk H locs ls hH hS hl)
theorem wm_iload_n {q : Fin 4} {i : Nat} {x : Int32} (j : Nat) (hX : Cx X own cc nL rm) (hd : decode cc pc = .ok (.iload_n q, 1)) (hi : (q : Nat) = i) (hj : lo[j]? = some (i, .int x)) (kk : WM X (pc + 1) lo (.int x :: st) nc ns k) : WM X pc lo st nc ns k := by
  obtain ⟨p, l, e, R, s, m, args, below, meth, c, d, b, base, z, Q, r0, h0⟩ := X
  intro h hk H locs ls hH hS hl
  exact lv_iload_n hX.1 hX.2.1 hd hi (lv_at hl j (by rw [List.getElem?_map, hj]; rfl)) (kk h hk H locs ls hH hS hl)
theorem wm_iload {i : Nat} {x : Int32} (j : Nat) (hX : Cx X own cc nL rm) (hd : decode cc pc = .ok (.iload i, 2)) (hj : lo[j]? = some (i, .int x)) (kk : WM X (pc + 2) lo (.int x :: st) nc ns k) : WM X pc lo st nc ns k := by
  obtain ⟨p, l, e, R, s, m, args, below, meth, c, d, b, base, z, Q, r0, h0⟩ := X
  intro h hk H locs ls hH hS hl
  exact lv_iload hX.1 hX.2.1 hd (lv_at hl j (by rw [List.getElem?_map, hj]; rfl)) (kk h hk H locs ls hH hS hl)
theorem wm_lload_n {q : Fin 4} {i : Nat} {x : Int64} (j : Nat) (hX : Cx X own cc nL rm) (hd : decode cc pc = .ok (.lload_n q, 1)) (hi : (q : Nat) = i) (hj : lo[j]? = some (i, .long x)) (kk : WM X (pc + 1) lo (.long x :: st) nc ns k) : WM X pc lo st nc ns k := by
  obtain ⟨p, l, e, R, s, m, args, below, meth, c, d, b, base, z, Q, r0, h0⟩ := X
  intro h hk H locs ls hH hS hl
  exact lv_lload_n hX.1 hX.2.1 hd hi (lv_at hl j (by rw [List.getElem?_map, hj]; rfl)) (kk h hk H locs ls hH hS hl)
theorem wm_lload {i : Nat} {x : Int64} (j : Nat) (hX : Cx X own cc nL rm) (hd : decode cc pc = .ok (.lload i, 2)) (hj : lo[j]? = some (i, .long x)) (kk : WM X (pc + 2) lo (.long x :: st) nc ns k) : WM X pc lo st nc ns k := by
  obtain ⟨p, l, e, R, s, m, args, below, meth, c, d, b, base, z, Q, r0, h0⟩ := X
  intro h hk H locs ls hH hS hl
  exact lv_lload hX.1 hX.2.1 hd (lv_at hl j (by rw [List.getElem?_map, hj]; rfl)) (kk h hk H locs ls hH hS hl)
theorem wm_aload_n {q : Fin 4} {i : Nat} {x : Nat} (j : Nat) (hX : Cx X own cc nL rm) (hd : decode cc pc = .ok (.aload_n q, 1)) (hi : (q : Nat) = i) (hj : lo[j]? = some (i, .ref x)) (kk : WM X (pc + 1) lo (.ref x :: st) nc ns k) : WM X pc lo st nc ns k := by
  obtain ⟨p, l, e, R, s, m, args, below, meth, c, d, b, base, z, Q, r0, h0⟩ := X
  intro h hk H locs ls hH hS hl
  exact lv_aload_n hX.1 hX.2.1 hd hi (lv_at hl j (by rw [List.getElem?_map, hj]; rfl)) (kk h hk H locs ls hH hS hl)
theorem wm_aload {i : Nat} {x : Nat} (j : Nat) (hX : Cx X own cc nL rm) (hd : decode cc pc = .ok (.aload i, 2)) (hj : lo[j]? = some (i, .ref x)) (kk : WM X (pc + 2) lo (.ref x :: st) nc ns k) : WM X pc lo st nc ns k := by
  obtain ⟨p, l, e, R, s, m, args, below, meth, c, d, b, base, z, Q, r0, h0⟩ := X
  intro h hk H locs ls hH hS hl
  exact lv_aload hX.1 hX.2.1 hd (lv_at hl j (by rw [List.getElem?_map, hj]; rfl)) (kk h hk H locs ls hH hS hl)
theorem lo_f1 (b base i : Nat) (lo : List (Nat × Value)) : (lo.map fun q => (q.1, sv b base q.2)).filter (fun q => !(q.1 == i) && !(q.1 + 1 == i && q.2.category == 2)) = (lo.filter (fun q => !(q.1 == i) && !(q.1 + 1 == i && q.2.category == 2))).map fun q => (q.1, sv b base q.2) := by
  rw [List.filter_map]
  congr 1
  apply List.filter_congr
  intro q _
  simp [Function.comp, sv_cat]
theorem lo_f2 (b base i : Nat) (lo : List (Nat × Value)) : (lo.map fun q => (q.1, sv b base q.2)).filter (fun q => !(q.1 == i) && (!(q.1 == i + 1) && !(q.1 + 1 == i && q.2.category == 2))) = (lo.filter (fun q => !(q.1 == i) && (!(q.1 == i + 1) && !(q.1 + 1 == i && q.2.category == 2)))).map fun q => (q.1, sv b base q.2) := by
  rw [List.filter_map]
  congr 1
  apply List.filter_congr
  intro q _
  simp [Function.comp, sv_cat]
theorem wm_istore_n {q : Fin 4} {i : Nat} {x : Int32} (lo' : List (Nat × Value)) (hX : Cx X own cc nL rm) (hd : decode cc pc = .ok (.istore_n q, 1)) (hi : (q : Nat) = i) (hn : i < nL) (hl' : ((i, Value.int x)) :: lo.filter (fun q => !(q.1 == i) && !(q.1 + 1 == i && q.2.category == 2)) = lo') (kk : WM X (pc + 1) lo' st nc ns k) : WM X pc lo (Value.int x :: st) nc ns k := by
  obtain ⟨p, l, e, R, s, m, args, below, meth, c, d, b, base, z, Q, r0, h0⟩ := X
  intro h hk H locs ls hH hS hl
  subst hl'
  refine lv_istore_n hX.1 hX.2.1 hd hi hl (by have := hX.2.2.1; omega) rfl (fun ls hl => kk h hk H locs ls hH hS ?_)
  rw [lo_f1] at hl
  exact hl
theorem wm_istore {i : Nat} {x : Int32} (lo' : List (Nat × Value)) (hX : Cx X own cc nL rm) (hd : decode cc pc = .ok (.istore i, 2)) (hn : i < nL) (hl' : ((i, Value.int x)) :: lo.filter (fun q => !(q.1 == i) && !(q.1 + 1 == i && q.2.category == 2)) = lo') (kk : WM X (pc + 2) lo' st nc ns k) : WM X pc lo (Value.int x :: st) nc ns k := by
  obtain ⟨p, l, e, R, s, m, args, below, meth, c, d, b, base, z, Q, r0, h0⟩ := X
  intro h hk H locs ls hH hS hl
  subst hl'
  refine lv_istore hX.1 hX.2.1 hd hl (by have := hX.2.2.1; omega) rfl (fun ls hl => kk h hk H locs ls hH hS ?_)
  rw [lo_f1] at hl
  exact hl
theorem wm_lstore_n {q : Fin 4} {i : Nat} {x : Int64} (lo' : List (Nat × Value)) (hX : Cx X own cc nL rm) (hd : decode cc pc = .ok (.lstore_n q, 1)) (hi : (q : Nat) = i) (hn : i + 1 < nL) (hl' : ((i, Value.long x)) :: lo.filter (fun q => !(q.1 == i) && (!(q.1 == i + 1) && !(q.1 + 1 == i && q.2.category == 2))) = lo') (kk : WM X (pc + 1) lo' st nc ns k) : WM X pc lo (Value.long x :: st) nc ns k := by
  obtain ⟨p, l, e, R, s, m, args, below, meth, c, d, b, base, z, Q, r0, h0⟩ := X
  intro h hk H locs ls hH hS hl
  subst hl'
  refine lv_lstore_n hX.1 hX.2.1 hd hi hl (by have := hX.2.2.1; omega) rfl (fun ls hl => kk h hk H locs ls hH hS ?_)
  rw [lo_f2] at hl
  exact hl
theorem wm_lstore {i : Nat} {x : Int64} (lo' : List (Nat × Value)) (hX : Cx X own cc nL rm) (hd : decode cc pc = .ok (.lstore i, 2)) (hn : i + 1 < nL) (hl' : ((i, Value.long x)) :: lo.filter (fun q => !(q.1 == i) && (!(q.1 == i + 1) && !(q.1 + 1 == i && q.2.category == 2))) = lo') (kk : WM X (pc + 2) lo' st nc ns k) : WM X pc lo (Value.long x :: st) nc ns k := by
  obtain ⟨p, l, e, R, s, m, args, below, meth, c, d, b, base, z, Q, r0, h0⟩ := X
  intro h hk H locs ls hH hS hl
  subst hl'
  refine lv_lstore hX.1 hX.2.1 hd hl (by have := hX.2.2.1; omega) rfl (fun ls hl => kk h hk H locs ls hH hS ?_)
  rw [lo_f2] at hl
  exact hl
theorem wm_astore_n {q : Fin 4} {i : Nat} {x : Nat} (lo' : List (Nat × Value)) (hX : Cx X own cc nL rm) (hd : decode cc pc = .ok (.astore_n q, 1)) (hi : (q : Nat) = i) (hn : i < nL) (hl' : ((i, Value.ref x)) :: lo.filter (fun q => !(q.1 == i) && !(q.1 + 1 == i && q.2.category == 2)) = lo') (kk : WM X (pc + 1) lo' st nc ns k) : WM X pc lo (Value.ref x :: st) nc ns k := by
  obtain ⟨p, l, e, R, s, m, args, below, meth, c, d, b, base, z, Q, r0, h0⟩ := X
  intro h hk H locs ls hH hS hl
  subst hl'
  refine lv_astore_n hX.1 hX.2.1 hd hi hl (by have := hX.2.2.1; omega) rfl (fun ls hl => kk h hk H locs ls hH hS ?_)
  rw [lo_f1] at hl
  exact hl
theorem wm_astore {i : Nat} {x : Nat} (lo' : List (Nat × Value)) (hX : Cx X own cc nL rm) (hd : decode cc pc = .ok (.astore i, 2)) (hn : i < nL) (hl' : ((i, Value.ref x)) :: lo.filter (fun q => !(q.1 == i) && !(q.1 + 1 == i && q.2.category == 2)) = lo') (kk : WM X (pc + 2) lo' st nc ns k) : WM X pc lo (Value.ref x :: st) nc ns k := by
  obtain ⟨p, l, e, R, s, m, args, below, meth, c, d, b, base, z, Q, r0, h0⟩ := X
  intro h hk H locs ls hH hS hl
  subst hl'
  refine lv_astore hX.1 hX.2.1 hd hl (by have := hX.2.2.1; omega) rfl (fun ls hl => kk h hk H locs ls hH hS ?_)
  rw [lo_f1] at hl
  exact hl
theorem wm_iinc {i : Nat} {n : Int} {x : Int32} (v : Int32) (j : Nat) (lo' : List (Nat × Value)) (hX : Cx X own cc nL rm) (hd : decode cc pc = .ok (.iinc i n, 3)) (hj : lo[j]? = some (i, .int x)) (hv : x + Int32.ofInt n = v) (hn : i < nL) (hl' : (i, Value.int v) :: lo.filter (fun q => !(q.1 == i) && !(q.1 + 1 == i && q.2.category == 2)) = lo') (kk : WM X (pc + 3) lo' st nc ns k) : WM X pc lo st nc ns k := by
  obtain ⟨p, l, e, R, s, m, args, below, meth, c, d, b, base, z, Q, r0, h0⟩ := X
  intro h hk H locs ls hH hS hl
  subst hl'
  refine lv_iinc (k := j) hX.1 hX.2.1 hd hl (by rw [List.getElem?_map, hj]; rfl) hv (by have := hX.2.2.1; omega) rfl (fun ls hl => kk h hk H locs ls hH hS ?_)
  rw [lo_f1] at hl
  exact hl
theorem wm_let {β : Type} {a : β} {k : β → M α} {lo : List (Nat × Value)} {st : β → List Value} (kk : ∀ x : β, WM X pc lo (st x) nc ns (k x)) : WM X pc lo (st a) nc ns (lt_ a k) := kk a
theorem wm_dup {v : Value} (hX : Cx X own cc nL rm) (hd : decode cc pc = .ok (.dup, 1)) (hv : v.category = 1) (kk : WM X (pc + 1) lo (v :: v :: st) nc ns k) : WM X pc lo (v :: st) nc ns k := by
  obtain ⟨p, l, e, R, s, m, args, below, meth, c, d, b, base, z, Q, r0, h0⟩ := X
  intro h hk H locs ls hH hS hl
  exact lv_dup hX.1 hX.2.1 hd (by rw [sv_cat]; exact hv) (kk h hk H locs ls hH hS hl)
theorem wm_dup2 {v w : Value} (hX : Cx X own cc nL rm) (hd : decode cc pc = .ok (.dup2, 1)) (hv : v.category = 1) (hw : w.category = 1) (kk : WM X (pc + 1) lo (v :: w :: v :: w :: st) nc ns k) : WM X pc lo (v :: w :: st) nc ns k := by
  obtain ⟨p, l, e, R, s, m, args, below, meth, c, d, b, base, z, Q, r0, h0⟩ := X
  intro h hk H locs ls hH hS hl
  exact lv_dup2_11 hX.1 hX.2.1 hd (by rw [sv_cat]; exact hv) (by rw [sv_cat]; exact hw) (kk h hk H locs ls hH hS hl)
theorem wm_dup2l {v : Value} (hX : Cx X own cc nL rm) (hd : decode cc pc = .ok (.dup2, 1)) (hv : v.category = 2) (kk : WM X (pc + 1) lo (v :: v :: st) nc ns k) : WM X pc lo (v :: st) nc ns k := by
  obtain ⟨p, l, e, R, s, m, args, below, meth, c, d, b, base, z, Q, r0, h0⟩ := X
  intro h hk H locs ls hH hS hl
  exact lv_dup2_2 hX.1 hX.2.1 hd (by rw [sv_cat]; exact hv) (kk h hk H locs ls hH hS hl)
theorem wm_pop {v : Value} (hX : Cx X own cc nL rm) (hd : decode cc pc = .ok (.pop, 1)) (hv : v.category = 1) (kk : WM X (pc + 1) lo st nc ns k) : WM X pc lo (v :: st) nc ns k := by
  obtain ⟨p, l, e, R, s, m, args, below, meth, c, d, b, base, z, Q, r0, h0⟩ := X
  intro h hk H locs ls hH hS hl
  exact lv_pop hX.1 hX.2.1 hd (by rw [sv_cat]; exact hv) (kk h hk H locs ls hH hS hl)
theorem wm_pop2l {v : Value} (hX : Cx X own cc nL rm) (hd : decode cc pc = .ok (.pop2, 1)) (hv : v.category = 2) (kk : WM X (pc + 1) lo st nc ns k) : WM X pc lo (v :: st) nc ns k := by
  obtain ⟨p, l, e, R, s, m, args, below, meth, c, d, b, base, z, Q, r0, h0⟩ := X
  intro h hk H locs ls hH hS hl
  exact lv_pop2_2 hX.1 hX.2.1 hd (by rw [sv_cat]; exact hv) (kk h hk H locs ls hH hS hl)
theorem wm_goto {off : Int} {tgt : Nat} (hX : Cx X own cc nL rm) (hd : decode cc pc = .ok (.goto off, 3)) (ht : (pc : Int) + off = (tgt : Int)) (kk : WM X tgt lo st nc ns k) : WM X pc lo st nc ns k := by
  obtain ⟨p, l, e, R, s, m, args, below, meth, c, d, b, base, z, Q, r0, h0⟩ := X
  intro h hk H locs ls hH hS hl
  exact lv_goto hX.1 hX.2.1 hd ht (kk h hk H locs ls hH hS hl)
theorem ite_ap {α : Type} {c : Prop} [Decidable c] {a b : M α} (h : AH) : (if c then a else b) h = if c then a h else b h := by split <;> rfl
theorem wm_if_eq {x : Int32} {a b : M α} {off : Int} (tgt : Nat) (hX : Cx X own cc nL rm) (hd : decode cc pc = .ok (.ifCond .eq off, 3)) (ht : (pc : Int) + off = (tgt : Int)) (k1 : WM X tgt lo st nc ns a) (k2 : WM X (pc + 3) lo st nc ns b) : WM X pc lo (.int x :: st) nc ns (if x = 0 then a else b) := by
  obtain ⟨p, l, e, R, s, m, args, below, meth, c, d, b, base, z, Q, r0, h0⟩ := X
  intro h hk H locs ls hH hS hl
  rw [ite_ap] at hk
  exact lv_if_eq hX.1 hX.2.1 hd ht (fun q => k1 h (by rw [if_pos q] at hk; exact hk) H locs ls hH hS hl) (fun q => k2 h (by rw [if_neg q] at hk; exact hk) H locs ls hH hS hl)
theorem wm_icmp_eq {x y : Int32} {a b : M α} {off : Int} (tgt : Nat) (hX : Cx X own cc nL rm) (hd : decode cc pc = .ok (.if_icmp .eq off, 3)) (ht : (pc : Int) + off = (tgt : Int)) (k1 : WM X tgt lo st nc ns a) (k2 : WM X (pc + 3) lo st nc ns b) : WM X pc lo (.int y :: .int x :: st) nc ns (if x = y then a else b) := by
  obtain ⟨p, l, e, R, s, m, args, below, meth, c, d, b, base, z, Q, r0, h0⟩ := X
  intro h hk H locs ls hH hS hl
  rw [ite_ap] at hk
  exact lv_icmp_eq hX.1 hX.2.1 hd ht (fun q => k1 h (by rw [if_pos q] at hk; exact hk) H locs ls hH hS hl) (fun q => k2 h (by rw [if_neg q] at hk; exact hk) H locs ls hH hS hl)
theorem wm_lif_eq {x y : Int64} {a b : M α} {off : Int} (tgt : Nat) (hX : Cx X own cc nL rm) (hd : decode cc pc = .ok (.lcmp, 1)) (hd2 : decode cc (pc + 1) = .ok (.ifCond .eq off, 3)) (ht : ((pc + 1 : Nat) : Int) + off = (tgt : Int)) (k1 : WM X tgt lo st nc ns a) (k2 : WM X (pc + 4) lo st nc ns b) : WM X pc lo (.long y :: .long x :: st) nc ns (if x = y then a else b) := by
  obtain ⟨p, l, e, R, s, m, args, below, meth, c, d, b, base, z, Q, r0, h0⟩ := X
  intro h hk H locs ls hH hS hl
  rw [ite_ap] at hk
  refine W.lcmp hX.1 hX.2.1 hd ?_
  exact lv_if_eq hX.1 hX.2.1 hd2 ht (fun q => k1 h (by rw [if_pos ((lg_cmp_eq x y).mp q)] at hk; exact hk) H locs ls hH hS hl) (fun q => k2 h (by rw [if_neg (fun z => q ((lg_cmp_eq x y).mpr z))] at hk; exact hk) H locs ls hH hS hl)
theorem wm_if_ne {x : Int32} {a b : M α} {off : Int} (tgt : Nat) (hX : Cx X own cc nL rm) (hd : decode cc pc = .ok (.ifCond .ne off, 3)) (ht : (pc : Int) + off = (tgt : Int)) (k1 : WM X tgt lo st nc ns a) (k2 : WM X (pc + 3) lo st nc ns b) : WM X pc lo (.int x :: st) nc ns (if x = 0 then b else a) := by
  obtain ⟨p, l, e, R, s, m, args, below, meth, c, d, b, base, z, Q, r0, h0⟩ := X
  intro h hk H locs ls hH hS hl
  rw [ite_ap] at hk
  exact lv_if_ne hX.1 hX.2.1 hd ht (fun q => k1 h (by rw [if_neg q] at hk; exact hk) H locs ls hH hS hl) (fun q => k2 h (by rw [if_pos q] at hk; exact hk) H locs ls hH hS hl)
theorem wm_icmp_ne {x y : Int32} {a b : M α} {off : Int} (tgt : Nat) (hX : Cx X own cc nL rm) (hd : decode cc pc = .ok (.if_icmp .ne off, 3)) (ht : (pc : Int) + off = (tgt : Int)) (k1 : WM X tgt lo st nc ns a) (k2 : WM X (pc + 3) lo st nc ns b) : WM X pc lo (.int y :: .int x :: st) nc ns (if x = y then b else a) := by
  obtain ⟨p, l, e, R, s, m, args, below, meth, c, d, b, base, z, Q, r0, h0⟩ := X
  intro h hk H locs ls hH hS hl
  rw [ite_ap] at hk
  exact lv_icmp_ne hX.1 hX.2.1 hd ht (fun q => k1 h (by rw [if_neg q] at hk; exact hk) H locs ls hH hS hl) (fun q => k2 h (by rw [if_pos q] at hk; exact hk) H locs ls hH hS hl)
theorem wm_lif_ne {x y : Int64} {a b : M α} {off : Int} (tgt : Nat) (hX : Cx X own cc nL rm) (hd : decode cc pc = .ok (.lcmp, 1)) (hd2 : decode cc (pc + 1) = .ok (.ifCond .ne off, 3)) (ht : ((pc + 1 : Nat) : Int) + off = (tgt : Int)) (k1 : WM X tgt lo st nc ns a) (k2 : WM X (pc + 4) lo st nc ns b) : WM X pc lo (.long y :: .long x :: st) nc ns (if x = y then b else a) := by
  obtain ⟨p, l, e, R, s, m, args, below, meth, c, d, b, base, z, Q, r0, h0⟩ := X
  intro h hk H locs ls hH hS hl
  rw [ite_ap] at hk
  refine W.lcmp hX.1 hX.2.1 hd ?_
  exact lv_if_ne hX.1 hX.2.1 hd2 ht (fun q => k1 h (by rw [if_neg (fun z => q ((lg_cmp_eq x y).mpr z))] at hk; exact hk) H locs ls hH hS hl) (fun q => k2 h (by rw [if_pos ((lg_cmp_eq x y).mp q)] at hk; exact hk) H locs ls hH hS hl)
theorem wm_if_lt {x : Int32} {a b : M α} {off : Int} (tgt : Nat) (hX : Cx X own cc nL rm) (hd : decode cc pc = .ok (.ifCond .lt off, 3)) (ht : (pc : Int) + off = (tgt : Int)) (k1 : WM X tgt lo st nc ns a) (k2 : WM X (pc + 3) lo st nc ns b) : WM X pc lo (.int x :: st) nc ns (if x < 0 then a else b) := by
  obtain ⟨p, l, e, R, s, m, args, below, meth, c, d, b, base, z, Q, r0, h0⟩ := X
  intro h hk H locs ls hH hS hl
  rw [ite_ap] at hk
  exact lv_if_lt hX.1 hX.2.1 hd ht (fun q => k1 h (by rw [if_pos q] at hk; exact hk) H locs ls hH hS hl) (fun q => k2 h (by rw [if_neg q] at hk; exact hk) H locs ls hH hS hl)
theorem wm_icmp_lt {x y : Int32} {a b : M α} {off : Int} (tgt : Nat) (hX : Cx X own cc nL rm) (hd : decode cc pc = .ok (.if_icmp .lt off, 3)) (ht : (pc : Int) + off = (tgt : Int)) (k1 : WM X tgt lo st nc ns a) (k2 : WM X (pc + 3) lo st nc ns b) : WM X pc lo (.int y :: .int x :: st) nc ns (if x < y then a else b) := by
  obtain ⟨p, l, e, R, s, m, args, below, meth, c, d, b, base, z, Q, r0, h0⟩ := X
  intro h hk H locs ls hH hS hl
  rw [ite_ap] at hk
  exact lv_icmp_lt hX.1 hX.2.1 hd ht (fun q => k1 h (by rw [if_pos q] at hk; exact hk) H locs ls hH hS hl) (fun q => k2 h (by rw [if_neg q] at hk; exact hk) H locs ls hH hS hl)
theorem wm_lif_lt {x y : Int64} {a b : M α} {off : Int} (tgt : Nat) (hX : Cx X own cc nL rm) (hd : decode cc pc = .ok (.lcmp, 1)) (hd2 : decode cc (pc + 1) = .ok (.ifCond .lt off, 3)) (ht : ((pc + 1 : Nat) : Int) + off = (tgt : Int)) (k1 : WM X tgt lo st nc ns a) (k2 : WM X (pc + 4) lo st nc ns b) : WM X pc lo (.long y :: .long x :: st) nc ns (if x < y then a else b) := by
  obtain ⟨p, l, e, R, s, m, args, below, meth, c, d, b, base, z, Q, r0, h0⟩ := X
  intro h hk H locs ls hH hS hl
  rw [ite_ap] at hk
  refine W.lcmp hX.1 hX.2.1 hd ?_
  exact lv_if_lt hX.1 hX.2.1 hd2 ht (fun q => k1 h (by rw [if_pos ((lg_cmp_lt x y).mp q)] at hk; exact hk) H locs ls hH hS hl) (fun q => k2 h (by rw [if_neg (fun z => q ((lg_cmp_lt x y).mpr z))] at hk; exact hk) H locs ls hH hS hl)
theorem wm_if_ge {x : Int32} {a b : M α} {off : Int} (tgt : Nat) (hX : Cx X own cc nL rm) (hd : decode cc pc = .ok (.ifCond .ge off, 3)) (ht : (pc : Int) + off = (tgt : Int)) (k1 : WM X tgt lo st nc ns a) (k2 : WM X (pc + 3) lo st nc ns b) : WM X pc lo (.int x :: st) nc ns (if 0 ≤ x then a else b) := by
  obtain ⟨p, l, e, R, s, m, args, below, meth, c, d, b, base, z, Q, r0, h0⟩ := X
  intro h hk H locs ls hH hS hl
  rw [ite_ap] at hk
  exact lv_if_ge hX.1 hX.2.1 hd ht (fun q => k1 h (by rw [if_pos q] at hk; exact hk) H locs ls hH hS hl) (fun q => k2 h (by rw [if_neg q] at hk; exact hk) H locs ls hH hS hl)
theorem wm_icmp_ge {x y : Int32} {a b : M α} {off : Int} (tgt : Nat) (hX : Cx X own cc nL rm) (hd : decode cc pc = .ok (.if_icmp .ge off, 3)) (ht : (pc : Int) + off = (tgt : Int)) (k1 : WM X tgt lo st nc ns a) (k2 : WM X (pc + 3) lo st nc ns b) : WM X pc lo (.int y :: .int x :: st) nc ns (if y ≤ x then a else b) := by
  obtain ⟨p, l, e, R, s, m, args, below, meth, c, d, b, base, z, Q, r0, h0⟩ := X
  intro h hk H locs ls hH hS hl
  rw [ite_ap] at hk
  exact lv_icmp_ge hX.1 hX.2.1 hd ht (fun q => k1 h (by rw [if_pos q] at hk; exact hk) H locs ls hH hS hl) (fun q => k2 h (by rw [if_neg q] at hk; exact hk) H locs ls hH hS hl)
theorem wm_lif_ge {x y : Int64} {a b : M α} {off : Int} (tgt : Nat) (hX : Cx X own cc nL rm) (hd : decode cc pc = .ok (.lcmp, 1)) (hd2 : decode cc (pc + 1) = .ok (.ifCond .ge off, 3)) (ht : ((pc + 1 : Nat) : Int) + off = (tgt : Int)) (k1 : WM X tgt lo st nc ns a) (k2 : WM X (pc + 4) lo st nc ns b) : WM X pc lo (.long y :: .long x :: st) nc ns (if y ≤ x then a else b) := by
  obtain ⟨p, l, e, R, s, m, args, below, meth, c, d, b, base, z, Q, r0, h0⟩ := X
  intro h hk H locs ls hH hS hl
  rw [ite_ap] at hk
  refine W.lcmp hX.1 hX.2.1 hd ?_
  exact lv_if_ge hX.1 hX.2.1 hd2 ht (fun q => k1 h (by rw [if_pos ((lg_cmp_ge x y).mp q)] at hk; exact hk) H locs ls hH hS hl) (fun q => k2 h (by rw [if_neg (fun z => q ((lg_cmp_ge x y).mpr z))] at hk; exact hk) H locs ls hH hS hl)
theorem wm_if_gt {x : Int32} {a b : M α} {off : Int} (tgt : Nat) (hX : Cx X own cc nL rm) (hd : decode cc pc = .ok (.ifCond .gt off, 3)) (ht : (pc : Int) + off = (tgt : Int)) (k1 : WM X tgt lo st nc ns a) (k2 : WM X (pc + 3) lo st nc ns b) : WM X pc lo (.int x :: st) nc ns (if 0 < x then a else b) := by
  obtain ⟨p, l, e, R, s, m, args, below, meth, c, d, b, base, z, Q, r0, h0⟩ := X
  intro h hk H locs ls hH hS hl
  rw [ite_ap] at hk
  exact lv_if_gt hX.1 hX.2.1 hd ht (fun q => k1 h (by rw [if_pos q] at hk; exact hk) H locs ls hH hS hl) (fun q => k2 h (by rw [if_neg q] at hk; exact hk) H locs ls hH hS hl)
theorem wm_icmp_gt {x y : Int32} {a b : M α} {off : Int} (tgt : Nat) (hX : Cx X own cc nL rm) (hd : decode cc pc = .ok (.if_icmp .gt off, 3)) (ht : (pc : Int) + off = (tgt : Int)) (k1 : WM X tgt lo st nc ns a) (k2 : WM X (pc + 3) lo st nc ns b) : WM X pc lo (.int y :: .int x :: st) nc ns (if y < x then a else b) := by
  obtain ⟨p, l, e, R, s, m, args, below, meth, c, d, b, base, z, Q, r0, h0⟩ := X
  intro h hk H locs ls hH hS hl
  rw [ite_ap] at hk
  exact lv_icmp_gt hX.1 hX.2.1 hd ht (fun q => k1 h (by rw [if_pos q] at hk; exact hk) H locs ls hH hS hl) (fun q => k2 h (by rw [if_neg q] at hk; exact hk) H locs ls hH hS hl)
theorem wm_lif_gt {x y : Int64} {a b : M α} {off : Int} (tgt : Nat) (hX : Cx X own cc nL rm) (hd : decode cc pc = .ok (.lcmp, 1)) (hd2 : decode cc (pc + 1) = .ok (.ifCond .gt off, 3)) (ht : ((pc + 1 : Nat) : Int) + off = (tgt : Int)) (k1 : WM X tgt lo st nc ns a) (k2 : WM X (pc + 4) lo st nc ns b) : WM X pc lo (.long y :: .long x :: st) nc ns (if y < x then a else b) := by
  obtain ⟨p, l, e, R, s, m, args, below, meth, c, d, b, base, z, Q, r0, h0⟩ := X
  intro h hk H locs ls hH hS hl
  rw [ite_ap] at hk
  refine W.lcmp hX.1 hX.2.1 hd ?_
  exact lv_if_gt hX.1 hX.2.1 hd2 ht (fun q => k1 h (by rw [if_pos ((lg_cmp_gt x y).mp q)] at hk; exact hk) H locs ls hH hS hl) (fun q => k2 h (by rw [if_neg (fun z => q ((lg_cmp_gt x y).mpr z))] at hk; exact hk) H locs ls hH hS hl)
theorem wm_if_le {x : Int32} {a b : M α} {off : Int} (tgt : Nat) (hX : Cx X own cc nL rm) (hd : decode cc pc = .ok (.ifCond .le off, 3)) (ht : (pc : Int) + off = (tgt : Int)) (k1 : WM X tgt lo st nc ns a) (k2 : WM X (pc + 3) lo st nc ns b) : WM X pc lo (.int x :: st) nc ns (if x ≤ 0 then a else b) := by
  obtain ⟨p, l, e, R, s, m, args, below, meth, c, d, b, base, z, Q, r0, h0⟩ := X
  intro h hk H locs ls hH hS hl
  rw [ite_ap] at hk
  exact lv_if_le hX.1 hX.2.1 hd ht (fun q => k1 h (by rw [if_pos q] at hk; exact hk) H locs ls hH hS hl) (fun q => k2 h (by rw [if_neg q] at hk; exact hk) H locs ls hH hS hl)
theorem wm_icmp_le {x y : Int32} {a b : M α} {off : Int} (tgt : Nat) (hX : Cx X own cc nL rm) (hd : decode cc pc = .ok (.if_icmp .le off, 3)) (ht : (pc : Int) + off = (tgt : Int)) (k1 : WM X tgt lo st nc ns a) (k2 : WM X (pc + 3) lo st nc ns b) : WM X pc lo (.int y :: .int x :: st) nc ns (if x ≤ y then a else b) := by
  obtain ⟨p, l, e, R, s, m, args, below, meth, c, d, b, base, z, Q, r0, h0⟩ := X
  intro h hk H locs ls hH hS hl
  rw [ite_ap] at hk
  exact lv_icmp_le hX.1 hX.2.1 hd ht (fun q => k1 h (by rw [if_pos q] at hk; exact hk) H locs ls hH hS hl) (fun q => k2 h (by rw [if_neg q] at hk; exact hk) H locs ls hH hS hl)
theorem wm_lif_le {x y : Int64} {a b : M α} {off : Int} (tgt : Nat) (hX : Cx X own cc nL rm) (hd : decode cc pc = .ok (.lcmp, 1)) (hd2 : decode cc (pc + 1) = .ok (.ifCond .le off, 3)) (ht : ((pc + 1 : Nat) : Int) + off = (tgt : Int)) (k1 : WM X tgt lo st nc ns a) (k2 : WM X (pc + 4) lo st nc ns b) : WM X pc lo (.long y :: .long x :: st) nc ns (if x ≤ y then a else b) := by
  obtain ⟨p, l, e, R, s, m, args, below, meth, c, d, b, base, z, Q, r0, h0⟩ := X
  intro h hk H locs ls hH hS hl
  rw [ite_ap] at hk
  refine W.lcmp hX.1 hX.2.1 hd ?_
  exact lv_if_le hX.1 hX.2.1 hd2 ht (fun q => k1 h (by rw [if_pos ((lg_cmp_le x y).mp q)] at hk; exact hk) H locs ls hH hS hl) (fun q => k2 h (by rw [if_neg (fun z => q ((lg_cmp_le x y).mpr z))] at hk; exact hk) H locs ls hH hS hl)
theorem wm_sub (ks : List Nat) (lo' : List (Nat × Value)) (hl' : lv_pick lo ks = lo') (kk : WM X pc lo' st nc ns k) : WM X pc lo st nc ns k := by
  obtain ⟨p, l, e, R, s, m, args, below, meth, c, d, b, base, z, Q, r0, h0⟩ := X
  intro h hk H locs ls hH hS hl
  refine kk h hk H locs ls hH hS (lv_sub hl ks ?_)
  rw [← hl']
  simp only [lv_pick, List.getElem?_map]
  rw [List.map_filterMap]
theorem wm_fl : WM X pc lo st nc ns fl := by
  obtain ⟨p, l, e, R, s, m, args, below, meth, c, d, b, base, z, Q, r0, h0⟩ := X
  intro h hk H locs ls hH hS hl
  cases hk
theorem wm_congr {k' : M α} (e : k = k') (kk : WM X pc lo st nc ns k') : WM X pc lo st nc ns k := e ▸ kk
theorem wm_ckd {ci o : Nat} (kk : WM X pc lo st nc ns k) : WM X pc lo st nc ns (ckd ci o k) := by
  obtain ⟨p, l, e, R, s, m, args, below, meth, c, d, b, base, z, Q, r0, h0⟩ := X
  intro h hk H locs ls hH hS hl
  exact kk h (ckd_some hk).2 H locs ls hH hS hl
end RowsA
