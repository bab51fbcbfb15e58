/-! ===== Symbolic execution: what each instruction does to the limit ===== -/
section SYM
variable {P : qPg} {G : qG} {m pc len : Nat} {lk : List Nat} {cv : Value} {es : List qEnt} {L : qLV} {st : List Value} {h : qHp}

theorem s_iadd {y : Int32} {x : Int32} {r : List Value} : qR P G (m, (pc, len, .iadd, lk, cv) :: es, L, .int y :: .int x :: r, h) = qR P G (m, es, L, .int (x + y) :: r, h) := by rw [qR_eq]; rfl
theorem s_isub {y : Int32} {x : Int32} {r : List Value} : qR P G (m, (pc, len, .isub, lk, cv) :: es, L, .int y :: .int x :: r, h) = qR P G (m, es, L, .int (x - y) :: r, h) := by rw [qR_eq]; rfl
theorem s_imul {y : Int32} {x : Int32} {r : List Value} : qR P G (m, (pc, len, .imul, lk, cv) :: es, L, .int y :: .int x :: r, h) = qR P G (m, es, L, .int (x * y) :: r, h) := by rw [qR_eq]; rfl
theorem s_ineg {x : Int32} {r : List Value} : qR P G (m, (pc, len, .ineg, lk, cv) :: es, L, .int x :: r, h) = qR P G (m, es, L, .int (-x) :: r, h) := by rw [qR_eq]; rfl
theorem s_iand {y : Int32} {x : Int32} {r : List Value} : qR P G (m, (pc, len, .iand, lk, cv) :: es, L, .int y :: .int x :: r, h) = qR P G (m, es, L, .int (x &&& y) :: r, h) := by rw [qR_eq]; rfl
theorem s_ior {y : Int32} {x : Int32} {r : List Value} : qR P G (m, (pc, len, .ior, lk, cv) :: es, L, .int y :: .int x :: r, h) = qR P G (m, es, L, .int (x ||| y) :: r, h) := by rw [qR_eq]; rfl
theorem s_ixor {y : Int32} {x : Int32} {r : List Value} : qR P G (m, (pc, len, .ixor, lk, cv) :: es, L, .int y :: .int x :: r, h) = qR P G (m, es, L, .int (x ^^^ y) :: r, h) := by rw [qR_eq]; rfl
theorem s_ishl {y : Int32} {x : Int32} {r : List Value} : qR P G (m, (pc, len, .ishl, lk, cv) :: es, L, .int y :: .int x :: r, h) = qR P G (m, es, L, .int (x <<< (y &&& 31)) :: r, h) := by rw [qR_eq]; rfl
theorem s_ishr {y : Int32} {x : Int32} {r : List Value} : qR P G (m, (pc, len, .ishr, lk, cv) :: es, L, .int y :: .int x :: r, h) = qR P G (m, es, L, .int (x >>> (y &&& 31)) :: r, h) := by rw [qR_eq]; rfl
theorem s_iushr {y : Int32} {x : Int32} {r : List Value} : qR P G (m, (pc, len, .iushr, lk, cv) :: es, L, .int y :: .int x :: r, h) = qR P G (m, es, L, .int (x.toUInt32 >>> (y.toUInt32 &&& Int32.toUInt32 31)).toInt32 :: r, h) := by rw [qR_eq]; rfl
theorem s_i2l {x : Int32} {r : List Value} : qR P G (m, (pc, len, .i2l, lk, cv) :: es, L, .int x :: r, h) = qR P G (m, es, L, .long x.toInt64 :: r, h) := by rw [qR_eq]; rfl
theorem s_l2i {x : Int64} {r : List Value} : qR P G (m, (pc, len, .l2i, lk, cv) :: es, L, .long x :: r, h) = qR P G (m, es, L, .int x.toInt32 :: r, h) := by rw [qR_eq]; rfl
theorem s_i2b {x : Int32} {r : List Value} : qR P G (m, (pc, len, .i2b, lk, cv) :: es, L, .int x :: r, h) = qR P G (m, es, L, .int x.toInt8.toInt32 :: r, h) := by rw [qR_eq]; rfl
theorem s_i2c {x : Int32} {r : List Value} : qR P G (m, (pc, len, .i2c, lk, cv) :: es, L, .int x :: r, h) = qR P G (m, es, L, .int (x.toUInt32 % 65536).toInt32 :: r, h) := by rw [qR_eq]; rfl
theorem s_ladd {y : Int64} {x : Int64} {r : List Value} : qR P G (m, (pc, len, .ladd, lk, cv) :: es, L, .long y :: .long x :: r, h) = qR P G (m, es, L, .long (x + y) :: r, h) := by rw [qR_eq]; rfl
theorem s_lsub {y : Int64} {x : Int64} {r : List Value} : qR P G (m, (pc, len, .lsub, lk, cv) :: es, L, .long y :: .long x :: r, h) = qR P G (m, es, L, .long (x - y) :: r, h) := by rw [qR_eq]; rfl
theorem s_lmul {y : Int64} {x : Int64} {r : List Value} : qR P G (m, (pc, len, .lmul, lk, cv) :: es, L, .long y :: .long x :: r, h) = qR P G (m, es, L, .long (x * y) :: r, h) := by rw [qR_eq]; rfl
theorem s_lneg {x : Int64} {r : List Value} : qR P G (m, (pc, len, .lneg, lk, cv) :: es, L, .long x :: r, h) = qR P G (m, es, L, .long (-x) :: r, h) := by rw [qR_eq]; rfl
theorem s_land {y : Int64} {x : Int64} {r : List Value} : qR P G (m, (pc, len, .land, lk, cv) :: es, L, .long y :: .long x :: r, h) = qR P G (m, es, L, .long (x &&& y) :: r, h) := by rw [qR_eq]; rfl
theorem s_lor {y : Int64} {x : Int64} {r : List Value} : qR P G (m, (pc, len, .lor, lk, cv) :: es, L, .long y :: .long x :: r, h) = qR P G (m, es, L, .long (x ||| y) :: r, h) := by rw [qR_eq]; rfl
theorem s_lshl {y : Int32} {x : Int64} {r : List Value} : qR P G (m, (pc, len, .lshl, lk, cv) :: es, L, .int y :: .long x :: r, h) = qR P G (m, es, L, .long (x <<< (y.toInt64 &&& 63)) :: r, h) := by rw [qR_eq]; rfl
theorem s_lshr {y : Int32} {x : Int64} {r : List Value} : qR P G (m, (pc, len, .lshr, lk, cv) :: es, L, .int y :: .long x :: r, h) = qR P G (m, es, L, .long (x >>> (y.toInt64 &&& 63)) :: r, h) := by rw [qR_eq]; rfl
theorem s_lushr {y : Int32} {x : Int64} {r : List Value} : qR P G (m, (pc, len, .lushr, lk, cv) :: es, L, .int y :: .long x :: r, h) = qR P G (m, es, L, .long (x.toUInt64 >>> (y.toInt64.toUInt64 &&& Int64.toUInt64 63)).toInt64 :: r, h) := by rw [qR_eq]; rfl
theorem s_lcmp {y : Int64} {x : Int64} {r : List Value} : qR P G (m, (pc, len, .lcmp, lk, cv) :: es, L, .long y :: .long x :: r, h) = qR P G (m, es, L, .int (lg_cmp x y) :: r, h) := by rw [qR_eq]; rfl
theorem s_l2d {x : Int64} {r : List Value} : qR P G (m, (pc, len, .l2d, lk, cv) :: es, L, .long x :: r, h) = qR P G (m, es, L, .double (FP.l2d x) :: r, h) := by rw [qR_eq]; rfl
theorem s_l2f {x : Int64} {r : List Value} : qR P G (m, (pc, len, .l2f, lk, cv) :: es, L, .long x :: r, h) = qR P G (m, es, L, .float (FP.l2f x) :: r, h) := by rw [qR_eq]; rfl
theorem s_i2d {x : Int32} {r : List Value} : qR P G (m, (pc, len, .i2d, lk, cv) :: es, L, .int x :: r, h) = qR P G (m, es, L, .double (FP.i2d x) :: r, h) := by rw [qR_eq]; rfl
theorem s_i2f {x : Int32} {r : List Value} : qR P G (m, (pc, len, .i2f, lk, cv) :: es, L, .int x :: r, h) = qR P G (m, es, L, .float (FP.i2f x) :: r, h) := by rw [qR_eq]; rfl
theorem s_idiv {y x : Int32} {r : List Value} (hy : y ≠ 0) : qR P G (m, (pc, len, .idiv, lk, cv) :: es, L, .int y :: .int x :: r, h) = qR P G (m, es, L, .int (x / y) :: r, h) := by
  rw [qR_eq]
  simp only [qStep, qConst, qOp, if_neg hy]
  rfl
theorem s_ldiv {y x : Int64} {r : List Value} (hy : y ≠ 0) : qR P G (m, (pc, len, .ldiv, lk, cv) :: es, L, .long y :: .long x :: r, h) = qR P G (m, es, L, .long (x / y) :: r, h) := by
  rw [qR_eq]
  simp only [qStep, qConst, qOp, if_neg hy]
  rfl
theorem s_irem {y x : Int32} {r : List Value} (hy : y ≠ 0) : qR P G (m, (pc, len, .irem, lk, cv) :: es, L, .int y :: .int x :: r, h) = qR P G (m, es, L, .int (x - x / y * y) :: r, h) := by
  rw [qR_eq]
  simp only [qStep, qConst, qOp, if_neg hy]
  rfl
theorem s_lrem {y x : Int64} {r : List Value} (hy : y ≠ 0) : qR P G (m, (pc, len, .lrem, lk, cv) :: es, L, .long y :: .long x :: r, h) = qR P G (m, es, L, .long (x - x / y * y) :: r, h) := by
  rw [qR_eq]
  simp only [qStep, qConst, qOp, if_neg hy]
  rfl
theorem s_dcmp {op : _} {y : UInt64} {x : UInt64} {r : List Value} : qR P G (m, (pc, len, .dcmp op, lk, cv) :: es, L, .double y :: .double x :: r, h) = qR P G (m, es, L, .int (Op.cmpValue (FP.dcmp x y) op) :: r, h) := by rw [qR_eq]; rfl
theorem s_fcmp {op : _} {y : UInt32} {x : UInt32} {r : List Value} : qR P G (m, (pc, len, .fcmp op, lk, cv) :: es, L, .float y :: .float x :: r, h) = qR P G (m, es, L, .int (Op.cmpValue (FP.fcmp x y) op) :: r, h) := by rw [qR_eq]; rfl
theorem s_ddiv {y x : UInt64} {r : List Value} (hn : FP.ddiv x y &&& 0x7fffffffffffffff ≤ 0x7ff0000000000000) : qR P G (m, (pc, len, .ddiv, lk, cv) :: es, L, .double y :: .double x :: r, h) = qR P G (m, es, L, .double (FP.ddiv x y) :: r, h) := by
  rw [qR_eq]
  simp only [qStep, qConst, qOp, if_pos hn]
  rfl
theorem s_fdiv {y x : UInt32} {r : List Value} (hn : FP.fdiv x y &&& 0x7fffffff ≤ 0x7f800000) : qR P G (m, (pc, len, .fdiv, lk, cv) :: es, L, .float y :: .float x :: r, h) = qR P G (m, es, L, .float (FP.fdiv x y) :: r, h) := by
  rw [qR_eq]
  simp only [qStep, qConst, qOp, if_pos hn]
  rfl
theorem s_f2d {x : UInt32} {r : List Value} (hn : FP.f2d x &&& 0x7fffffffffffffff ≤ 0x7ff0000000000000) : qR P G (m, (pc, len, .f2d, lk, cv) :: es, L, .float x :: r, h) = qR P G (m, es, L, .double (FP.f2d x) :: r, h) := by
  rw [qR_eq]
  simp only [qStep, qConst, qOp, if_pos hn]
  rfl
theorem s_dup_i {x : Int32} {r : List Value} : qR P G (m, (pc, len, .dup, lk, cv) :: es, L, .int x :: r, h) = qR P G (m, es, L, .int x :: .int x :: r, h) := by rw [qR_eq]; rfl
theorem s_dup_r {x : Nat} {r : List Value} : qR P G (m, (pc, len, .dup, lk, cv) :: es, L, .ref x :: r, h) = qR P G (m, es, L, .ref x :: .ref x :: r, h) := by rw [qR_eq]; rfl
theorem s_dup2_l {x : Int64} {r : List Value} : qR P G (m, (pc, len, .dup2, lk, cv) :: es, L, .long x :: r, h) = qR P G (m, es, L, .long x :: .long x :: r, h) := by rw [qR_eq]; rfl
theorem s_dup2_ir {x : Int32} {y : Nat} {r : List Value} : qR P G (m, (pc, len, .dup2, lk, cv) :: es, L, .int x :: .ref y :: r, h) = qR P G (m, es, L, .int x :: .ref y :: .int x :: .ref y :: r, h) := by rw [qR_eq]; rfl
theorem s_pop {x : Int32} {r : List Value} : qR P G (m, (pc, len, .pop, lk, cv) :: es, L, .int x :: r, h) = qR P G (m, es, L, r, h) := by rw [qR_eq]; rfl
theorem s_iconst {k : Int} : qR P G (m, (pc, len, .iconst k, lk, cv) :: es, L, st, h) = qR P G (m, es, L, qCv G cv :: st, h) := by rw [qR_eq]; rfl
theorem s_bipush {k : Int} : qR P G (m, (pc, len, .bipush k, lk, cv) :: es, L, st, h) = qR P G (m, es, L, qCv G cv :: st, h) := by rw [qR_eq]; rfl
theorem s_sipush {k : Int} : qR P G (m, (pc, len, .sipush k, lk, cv) :: es, L, st, h) = qR P G (m, es, L, qCv G cv :: st, h) := by rw [qR_eq]; rfl
theorem s_lconst {k : Fin 2} : qR P G (m, (pc, len, .lconst k, lk, cv) :: es, L, st, h) = qR P G (m, es, L, qCv G cv :: st, h) := by rw [qR_eq]; rfl
theorem s_fconst {k : _} : qR P G (m, (pc, len, .fconst k, lk, cv) :: es, L, st, h) = qR P G (m, es, L, qCv G cv :: st, h) := by rw [qR_eq]; rfl
theorem s_dconst {k : _} : qR P G (m, (pc, len, .dconst k, lk, cv) :: es, L, st, h) = qR P G (m, es, L, qCv G cv :: st, h) := by rw [qR_eq]; rfl
theorem s_ldc {k : Nat} : qR P G (m, (pc, len, .ldc k, lk, cv) :: es, L, st, h) = qR P G (m, es, L, qCv G cv :: st, h) := by rw [qR_eq]; rfl
theorem s_ldc_w {k : Nat} : qR P G (m, (pc, len, .ldc_w k, lk, cv) :: es, L, st, h) = qR P G (m, es, L, qCv G cv :: st, h) := by rw [qR_eq]; rfl
theorem s_ldc2_w {k : Nat} : qR P G (m, (pc, len, .ldc2_w k, lk, cv) :: es, L, st, h) = qR P G (m, es, L, qCv G cv :: st, h) := by rw [qR_eq]; rfl
theorem s_iload {k : Nat} : qR P G (m, (pc, len, .iload k, lk, cv) :: es, L, st, h) = match qLd L k with
    | some (.int x) => qR P G (m, es, L, .int x :: st, h)
    | _ => none := by
  rw [qR_eq]
  have e : qLdIx (.iload k) = some k := rfl
  simp only [qStep, qConst, qOp, qBr, e]
  cases hq : qLd L k with
  | none => rfl
  | some v => cases v <;> rfl
theorem s_iload_n0  : qR P G (m, (pc, len, .iload_n 0, lk, cv) :: es, L, st, h) = match qLd L 0 with
    | some (.int x) => qR P G (m, es, L, .int x :: st, h)
    | _ => none := by
  rw [qR_eq]
  have e : qLdIx (.iload_n 0) = some 0 := rfl
  simp only [qStep, qConst, qOp, qBr, e]
  cases hq : qLd L 0 with
  | none => rfl
  | some v => cases v <;> rfl
theorem s_iload_n1  : qR P G (m, (pc, len, .iload_n 1, lk, cv) :: es, L, st, h) = match qLd L 1 with
    | some (.int x) => qR P G (m, es, L, .int x :: st, h)
    | _ => none := by
  rw [qR_eq]
  have e : qLdIx (.iload_n 1) = some 1 := rfl
  simp only [qStep, qConst, qOp, qBr, e]
  cases hq : qLd L 1 with
  | none => rfl
  | some v => cases v <;> rfl
theorem s_iload_n2  : qR P G (m, (pc, len, .iload_n 2, lk, cv) :: es, L, st, h) = match qLd L 2 with
    | some (.int x) => qR P G (m, es, L, .int x :: st, h)
    | _ => none := by
  rw [qR_eq]
  have e : qLdIx (.iload_n 2) = some 2 := rfl
  simp only [qStep, qConst, qOp, qBr, e]
  cases hq : qLd L 2 with
  | none => rfl
  | some v => cases v <;> rfl
theorem s_iload_n3  : qR P G (m, (pc, len, .iload_n 3, lk, cv) :: es, L, st, h) = match qLd L 3 with
    | some (.int x) => qR P G (m, es, L, .int x :: st, h)
    | _ => none := by
  rw [qR_eq]
  have e : qLdIx (.iload_n 3) = some 3 := rfl
  simp only [qStep, qConst, qOp, qBr, e]
  cases hq : qLd L 3 with
  | none => rfl
  | some v => cases v <;> rfl
theorem s_lload {k : Nat} : qR P G (m, (pc, len, .lload k, lk, cv) :: es, L, st, h) = match qLd L k with
    | some (.long x) => qR P G (m, es, L, .long x :: st, h)
    | _ => none := by
  rw [qR_eq]
  have e : qLdIx (.lload k) = some k := rfl
  simp only [qStep, qConst, qOp, qBr, e]
  cases hq : qLd L k with
  | none => rfl
  | some v => cases v <;> rfl
theorem s_lload_n0  : qR P G (m, (pc, len, .lload_n 0, lk, cv) :: es, L, st, h) = match qLd L 0 with
    | some (.long x) => qR P G (m, es, L, .long x :: st, h)
    | _ => none := by
  rw [qR_eq]
  have e : qLdIx (.lload_n 0) = some 0 := rfl
  simp only [qStep, qConst, qOp, qBr, e]
  cases hq : qLd L 0 with
  | none => rfl
  | some v => cases v <;> rfl
theorem s_lload_n1  : qR P G (m, (pc, len, .lload_n 1, lk, cv) :: es, L, st, h) = match qLd L 1 with
    | some (.long x) => qR P G (m, es, L, .long x :: st, h)
    | _ => none := by
  rw [qR_eq]
  have e : qLdIx (.lload_n 1) = some 1 := rfl
  simp only [qStep, qConst, qOp, qBr, e]
  cases hq : qLd L 1 with
  | none => rfl
  | some v => cases v <;> rfl
theorem s_lload_n2  : qR P G (m, (pc, len, .lload_n 2, lk, cv) :: es, L, st, h) = match qLd L 2 with
    | some (.long x) => qR P G (m, es, L, .long x :: st, h)
    | _ => none := by
  rw [qR_eq]
  have e : qLdIx (.lload_n 2) = some 2 := rfl
  simp only [qStep, qConst, qOp, qBr, e]
  cases hq : qLd L 2 with
  | none => rfl
  | some v => cases v <;> rfl
theorem s_lload_n3  : qR P G (m, (pc, len, .lload_n 3, lk, cv) :: es, L, st, h) = match qLd L 3 with
    | some (.long x) => qR P G (m, es, L, .long x :: st, h)
    | _ => none := by
  rw [qR_eq]
  have e : qLdIx (.lload_n 3) = some 3 := rfl
  simp only [qStep, qConst, qOp, qBr, e]
  cases hq : qLd L 3 with
  | none => rfl
  | some v => cases v <;> rfl
theorem s_fload {k : Nat} : qR P G (m, (pc, len, .fload k, lk, cv) :: es, L, st, h) = match qLd L k with
    | some (.float x) => qR P G (m, es, L, .float x :: st, h)
    | _ => none := by
  rw [qR_eq]
  have e : qLdIx (.fload k) = some k := rfl
  simp only [qStep, qConst, qOp, qBr, e]
  cases hq : qLd L k with
  | none => rfl
  | some v => cases v <;> rfl
theorem s_fload_n0  : qR P G (m, (pc, len, .fload_n 0, lk, cv) :: es, L, st, h) = match qLd L 0 with
    | some (.float x) => qR P G (m, es, L, .float x :: st, h)
    | _ => none := by
  rw [qR_eq]
  have e : qLdIx (.fload_n 0) = some 0 := rfl
  simp only [qStep, qConst, qOp, qBr, e]
  cases hq : qLd L 0 with
  | none => rfl
  | some v => cases v <;> rfl
theorem s_fload_n1  : qR P G (m, (pc, len, .fload_n 1, lk, cv) :: es, L, st, h) = match qLd L 1 with
    | some (.float x) => qR P G (m, es, L, .float x :: st, h)
    | _ => none := by
  rw [qR_eq]
  have e : qLdIx (.fload_n 1) = some 1 := rfl
  simp only [qStep, qConst, qOp, qBr, e]
  cases hq : qLd L 1 with
  | none => rfl
  | some v => cases v <;> rfl
theorem s_fload_n2  : qR P G (m, (pc, len, .fload_n 2, lk, cv) :: es, L, st, h) = match qLd L 2 with
    | some (.float x) => qR P G (m, es, L, .float x :: st, h)
    | _ => none := by
  rw [qR_eq]
  have e : qLdIx (.fload_n 2) = some 2 := rfl
  simp only [qStep, qConst, qOp, qBr, e]
  cases hq : qLd L 2 with
  | none => rfl
  | some v => cases v <;> rfl
theorem s_fload_n3  : qR P G (m, (pc, len, .fload_n 3, lk, cv) :: es, L, st, h) = match qLd L 3 with
    | some (.float x) => qR P G (m, es, L, .float x :: st, h)
    | _ => none := by
  rw [qR_eq]
  have e : qLdIx (.fload_n 3) = some 3 := rfl
  simp only [qStep, qConst, qOp, qBr, e]
  cases hq : qLd L 3 with
  | none => rfl
  | some v => cases v <;> rfl
theorem s_dload {k : Nat} : qR P G (m, (pc, len, .dload k, lk, cv) :: es, L, st, h) = match qLd L k with
    | some (.double x) => qR P G (m, es, L, .double x :: st, h)
    | _ => none := by
  rw [qR_eq]
  have e : qLdIx (.dload k) = some k := rfl
  simp only [qStep, qConst, qOp, qBr, e]
  cases hq : qLd L k with
  | none => rfl
  | some v => cases v <;> rfl
theorem s_dload_n0  : qR P G (m, (pc, len, .dload_n 0, lk, cv) :: es, L, st, h) = match qLd L 0 with
    | some (.double x) => qR P G (m, es, L, .double x :: st, h)
    | _ => none := by
  rw [qR_eq]
  have e : qLdIx (.dload_n 0) = some 0 := rfl
  simp only [qStep, qConst, qOp, qBr, e]
  cases hq : qLd L 0 with
  | none => rfl
  | some v => cases v <;> rfl
theorem s_dload_n1  : qR P G (m, (pc, len, .dload_n 1, lk, cv) :: es, L, st, h) = match qLd L 1 with
    | some (.double x) => qR P G (m, es, L, .double x :: st, h)
    | _ => none := by
  rw [qR_eq]
  have e : qLdIx (.dload_n 1) = some 1 := rfl
  simp only [qStep, qConst, qOp, qBr, e]
  cases hq : qLd L 1 with
  | none => rfl
  | some v => cases v <;> rfl
theorem s_dload_n2  : qR P G (m, (pc, len, .dload_n 2, lk, cv) :: es, L, st, h) = match qLd L 2 with
    | some (.double x) => qR P G (m, es, L, .double x :: st, h)
    | _ => none := by
  rw [qR_eq]
  have e : qLdIx (.dload_n 2) = some 2 := rfl
  simp only [qStep, qConst, qOp, qBr, e]
  cases hq : qLd L 2 with
  | none => rfl
  | some v => cases v <;> rfl
theorem s_dload_n3  : qR P G (m, (pc, len, .dload_n 3, lk, cv) :: es, L, st, h) = match qLd L 3 with
    | some (.double x) => qR P G (m, es, L, .double x :: st, h)
    | _ => none := by
  rw [qR_eq]
  have e : qLdIx (.dload_n 3) = some 3 := rfl
  simp only [qStep, qConst, qOp, qBr, e]
  cases hq : qLd L 3 with
  | none => rfl
  | some v => cases v <;> rfl
theorem s_aload {k : Nat} : qR P G (m, (pc, len, .aload k, lk, cv) :: es, L, st, h) = match qLd L k with
    | some (.ref x) => qR P G (m, es, L, .ref x :: st, h)
    | some .null => qR P G (m, es, L, .null :: st, h)
    | _ => none := by
  rw [qR_eq]
  have e : qLdIx (.aload k) = some k := rfl
  simp only [qStep, qConst, qOp, qBr, e]
  cases hq : qLd L k with
  | none => rfl
  | some v => cases v <;> rfl
theorem s_aload_n0  : qR P G (m, (pc, len, .aload_n 0, lk, cv) :: es, L, st, h) = match qLd L 0 with
    | some (.ref x) => qR P G (m, es, L, .ref x :: st, h)
    | some .null => qR P G (m, es, L, .null :: st, h)
    | _ => none := by
  rw [qR_eq]
  have e : qLdIx (.aload_n 0) = some 0 := rfl
  simp only [qStep, qConst, qOp, qBr, e]
  cases hq : qLd L 0 with
  | none => rfl
  | some v => cases v <;> rfl
theorem s_aload_n1  : qR P G (m, (pc, len, .aload_n 1, lk, cv) :: es, L, st, h) = match qLd L 1 with
    | some (.ref x) => qR P G (m, es, L, .ref x :: st, h)
    | some .null => qR P G (m, es, L, .null :: st, h)
    | _ => none := by
  rw [qR_eq]
  have e : qLdIx (.aload_n 1) = some 1 := rfl
  simp only [qStep, qConst, qOp, qBr, e]
  cases hq : qLd L 1 with
  | none => rfl
  | some v => cases v <;> rfl
theorem s_aload_n2  : qR P G (m, (pc, len, .aload_n 2, lk, cv) :: es, L, st, h) = match qLd L 2 with
    | some (.ref x) => qR P G (m, es, L, .ref x :: st, h)
    | some .null => qR P G (m, es, L, .null :: st, h)
    | _ => none := by
  rw [qR_eq]
  have e : qLdIx (.aload_n 2) = some 2 := rfl
  simp only [qStep, qConst, qOp, qBr, e]
  cases hq : qLd L 2 with
  | none => rfl
  | some v => cases v <;> rfl
theorem s_aload_n3  : qR P G (m, (pc, len, .aload_n 3, lk, cv) :: es, L, st, h) = match qLd L 3 with
    | some (.ref x) => qR P G (m, es, L, .ref x :: st, h)
    | some .null => qR P G (m, es, L, .null :: st, h)
    | _ => none := by
  rw [qR_eq]
  have e : qLdIx (.aload_n 3) = some 3 := rfl
  simp only [qStep, qConst, qOp, qBr, e]
  cases hq : qLd L 3 with
  | none => rfl
  | some v => cases v <;> rfl
theorem s_istore {k : Nat} {x : Int32} {r : List Value} : qR P G (m, (pc, len, .istore k, lk, cv) :: es, L, .int x :: r, h) = qR P G (m, es, qS1 L k (.int x), r, h) := by rw [qR_eq]; rfl
theorem s_istore_n0  {x : Int32} {r : List Value} : qR P G (m, (pc, len, .istore_n 0, lk, cv) :: es, L, .int x :: r, h) = qR P G (m, es, qS1 L 0 (.int x), r, h) := by rw [qR_eq]; rfl
theorem s_istore_n1  {x : Int32} {r : List Value} : qR P G (m, (pc, len, .istore_n 1, lk, cv) :: es, L, .int x :: r, h) = qR P G (m, es, qS1 L 1 (.int x), r, h) := by rw [qR_eq]; rfl
theorem s_istore_n2  {x : Int32} {r : List Value} : qR P G (m, (pc, len, .istore_n 2, lk, cv) :: es, L, .int x :: r, h) = qR P G (m, es, qS1 L 2 (.int x), r, h) := by rw [qR_eq]; rfl
theorem s_istore_n3  {x : Int32} {r : List Value} : qR P G (m, (pc, len, .istore_n 3, lk, cv) :: es, L, .int x :: r, h) = qR P G (m, es, qS1 L 3 (.int x), r, h) := by rw [qR_eq]; rfl
theorem s_lstore {k : Nat} {x : Int64} {r : List Value} : qR P G (m, (pc, len, .lstore k, lk, cv) :: es, L, .long x :: r, h) = qR P G (m, es, qS2 L k (.long x), r, h) := by rw [qR_eq]; rfl
theorem s_lstore_n0  {x : Int64} {r : List Value} : qR P G (m, (pc, len, .lstore_n 0, lk, cv) :: es, L, .long x :: r, h) = qR P G (m, es, qS2 L 0 (.long x), r, h) := by rw [qR_eq]; rfl
theorem s_lstore_n1  {x : Int64} {r : List Value} : qR P G (m, (pc, len, .lstore_n 1, lk, cv) :: es, L, .long x :: r, h) = qR P G (m, es, qS2 L 1 (.long x), r, h) := by rw [qR_eq]; rfl
theorem s_lstore_n2  {x : Int64} {r : List Value} : qR P G (m, (pc, len, .lstore_n 2, lk, cv) :: es, L, .long x :: r, h) = qR P G (m, es, qS2 L 2 (.long x), r, h) := by rw [qR_eq]; rfl
theorem s_lstore_n3  {x : Int64} {r : List Value} : qR P G (m, (pc, len, .lstore_n 3, lk, cv) :: es, L, .long x :: r, h) = qR P G (m, es, qS2 L 3 (.long x), r, h) := by rw [qR_eq]; rfl
theorem s_fstore {k : Nat} {x : UInt32} {r : List Value} : qR P G (m, (pc, len, .fstore k, lk, cv) :: es, L, .float x :: r, h) = qR P G (m, es, qS1 L k (.float x), r, h) := by rw [qR_eq]; rfl
theorem s_fstore_n0  {x : UInt32} {r : List Value} : qR P G (m, (pc, len, .fstore_n 0, lk, cv) :: es, L, .float x :: r, h) = qR P G (m, es, qS1 L 0 (.float x), r, h) := by rw [qR_eq]; rfl
theorem s_fstore_n1  {x : UInt32} {r : List Value} : qR P G (m, (pc, len, .fstore_n 1, lk, cv) :: es, L, .float x :: r, h) = qR P G (m, es, qS1 L 1 (.float x), r, h) := by rw [qR_eq]; rfl
theorem s_fstore_n2  {x : UInt32} {r : List Value} : qR P G (m, (pc, len, .fstore_n 2, lk, cv) :: es, L, .float x :: r, h) = qR P G (m, es, qS1 L 2 (.float x), r, h) := by rw [qR_eq]; rfl
theorem s_fstore_n3  {x : UInt32} {r : List Value} : qR P G (m, (pc, len, .fstore_n 3, lk, cv) :: es, L, .float x :: r, h) = qR P G (m, es, qS1 L 3 (.float x), r, h) := by rw [qR_eq]; rfl
theorem s_dstore {k : Nat} {x : UInt64} {r : List Value} : qR P G (m, (pc, len, .dstore k, lk, cv) :: es, L, .double x :: r, h) = qR P G (m, es, qS2 L k (.double x), r, h) := by rw [qR_eq]; rfl
theorem s_dstore_n0  {x : UInt64} {r : List Value} : qR P G (m, (pc, len, .dstore_n 0, lk, cv) :: es, L, .double x :: r, h) = qR P G (m, es, qS2 L 0 (.double x), r, h) := by rw [qR_eq]; rfl
theorem s_dstore_n1  {x : UInt64} {r : List Value} : qR P G (m, (pc, len, .dstore_n 1, lk, cv) :: es, L, .double x :: r, h) = qR P G (m, es, qS2 L 1 (.double x), r, h) := by rw [qR_eq]; rfl
theorem s_dstore_n2  {x : UInt64} {r : List Value} : qR P G (m, (pc, len, .dstore_n 2, lk, cv) :: es, L, .double x :: r, h) = qR P G (m, es, qS2 L 2 (.double x), r, h) := by rw [qR_eq]; rfl
theorem s_dstore_n3  {x : UInt64} {r : List Value} : qR P G (m, (pc, len, .dstore_n 3, lk, cv) :: es, L, .double x :: r, h) = qR P G (m, es, qS2 L 3 (.double x), r, h) := by rw [qR_eq]; rfl
theorem s_astore {k : Nat} {x : Nat} {r : List Value} : qR P G (m, (pc, len, .astore k, lk, cv) :: es, L, .ref x :: r, h) = qR P G (m, es, qS1 L k (.ref x), r, h) := by rw [qR_eq]; rfl
theorem s_astore_n0  {x : Nat} {r : List Value} : qR P G (m, (pc, len, .astore_n 0, lk, cv) :: es, L, .ref x :: r, h) = qR P G (m, es, qS1 L 0 (.ref x), r, h) := by rw [qR_eq]; rfl
theorem s_astore_n1  {x : Nat} {r : List Value} : qR P G (m, (pc, len, .astore_n 1, lk, cv) :: es, L, .ref x :: r, h) = qR P G (m, es, qS1 L 1 (.ref x), r, h) := by rw [qR_eq]; rfl
theorem s_astore_n2  {x : Nat} {r : List Value} : qR P G (m, (pc, len, .astore_n 2, lk, cv) :: es, L, .ref x :: r, h) = qR P G (m, es, qS1 L 2 (.ref x), r, h) := by rw [qR_eq]; rfl
theorem s_astore_n3  {x : Nat} {r : List Value} : qR P G (m, (pc, len, .astore_n 3, lk, cv) :: es, L, .ref x :: r, h) = qR P G (m, es, qS1 L 3 (.ref x), r, h) := by rw [qR_eq]; rfl
theorem s_astoreN_n {k : Fin 4} {r : List Value} : qR P G (m, (pc, len, .astore_n k, lk, cv) :: es, L, .null :: r, h) = qR P G (m, es, qS1 L k.val .null, r, h) := by rw [qR_eq]; rfl
theorem s_iinc {k : Nat} {n : Int} : qR P G (m, (pc, len, .iinc k n, lk, cv) :: es, L, st, h) = match qLd L k with
    | some (.int x) => qR P G (m, es, qS1 L k (.int (x + Int32.ofInt n)), st, h)
    | _ => none := by
  rw [qR_eq]
  simp only [qStep]
  cases hq : qLd L k with
  | none => rfl
  | some v => cases v <;> rfl
theorem s_if_eq {o : Int} {b : Nat} {q : List Nat} {x : Int32} {r : List Value} : qR P G (m, (pc, len, .ifCond .eq o, b :: q, cv) :: es, L, .int x :: r, h) = if x = 0 then qR P G (qJump P m b L r h) else qR P G (m, es, L, r, h) := by
  rw [qR_eq]
  by_cases hx : x = 0
  · simp [qStep, qConst, qOp, qBr, hx]
  · simp [qStep, qConst, qOp, qBr, hx]
theorem s_if_lt {o : Int} {b : Nat} {q : List Nat} {x : Int32} {r : List Value} : qR P G (m, (pc, len, .ifCond .lt o, b :: q, cv) :: es, L, .int x :: r, h) = if x < 0 then qR P G (qJump P m b L r h) else qR P G (m, es, L, r, h) := by
  rw [qR_eq]
  by_cases hx : x < 0
  · simp [qStep, qConst, qOp, qBr, hx]
  · simp [qStep, qConst, qOp, qBr, hx]
theorem s_if_ge {o : Int} {b : Nat} {q : List Nat} {x : Int32} {r : List Value} : qR P G (m, (pc, len, .ifCond .ge o, b :: q, cv) :: es, L, .int x :: r, h) = if 0 ≤ x then qR P G (qJump P m b L r h) else qR P G (m, es, L, r, h) := by
  rw [qR_eq]
  by_cases hx : 0 ≤ x
  · simp [qStep, qConst, qOp, qBr, hx]
  · simp [qStep, qConst, qOp, qBr, hx]
theorem s_if_gt {o : Int} {b : Nat} {q : List Nat} {x : Int32} {r : List Value} : qR P G (m, (pc, len, .ifCond .gt o, b :: q, cv) :: es, L, .int x :: r, h) = if 0 < x then qR P G (qJump P m b L r h) else qR P G (m, es, L, r, h) := by
  rw [qR_eq]
  by_cases hx : 0 < x
  · simp [qStep, qConst, qOp, qBr, hx]
  · simp [qStep, qConst, qOp, qBr, hx]
theorem s_if_le {o : Int} {b : Nat} {q : List Nat} {x : Int32} {r : List Value} : qR P G (m, (pc, len, .ifCond .le o, b :: q, cv) :: es, L, .int x :: r, h) = if x ≤ 0 then qR P G (qJump P m b L r h) else qR P G (m, es, L, r, h) := by
  rw [qR_eq]
  by_cases hx : x ≤ 0
  · simp [qStep, qConst, qOp, qBr, hx]
  · simp [qStep, qConst, qOp, qBr, hx]
theorem s_if_ne {o : Int} {b : Nat} {q : List Nat} {x : Int32} {r : List Value} : qR P G (m, (pc, len, .ifCond .ne o, b :: q, cv) :: es, L, .int x :: r, h) = if x = 0 then qR P G (m, es, L, r, h) else qR P G (qJump P m b L r h) := by
  rw [qR_eq]
  by_cases hx : x = 0
  · simp [qStep, qConst, qOp, qBr, hx]
  · simp [qStep, qConst, qOp, qBr, hx]
theorem s_ic_eq {o : Int} {b : Nat} {q : List Nat} {x y : Int32} {r : List Value} : qR P G (m, (pc, len, .if_icmp .eq o, b :: q, cv) :: es, L, .int y :: .int x :: r, h) = if x = y then qR P G (qJump P m b L r h) else qR P G (m, es, L, r, h) := by
  rw [qR_eq]
  by_cases hx : x = y
  · simp [qStep, qConst, qOp, qBr, hx]
  · simp [qStep, qConst, qOp, qBr, hx]
theorem s_ic_lt {o : Int} {b : Nat} {q : List Nat} {x y : Int32} {r : List Value} : qR P G (m, (pc, len, .if_icmp .lt o, b :: q, cv) :: es, L, .int y :: .int x :: r, h) = if x < y then qR P G (qJump P m b L r h) else qR P G (m, es, L, r, h) := by
  rw [qR_eq]
  by_cases hx : x < y
  · simp [qStep, qConst, qOp, qBr, hx]
  · simp [qStep, qConst, qOp, qBr, hx]
theorem s_ic_ge {o : Int} {b : Nat} {q : List Nat} {x y : Int32} {r : List Value} : qR P G (m, (pc, len, .if_icmp .ge o, b :: q, cv) :: es, L, .int y :: .int x :: r, h) = if y ≤ x then qR P G (qJump P m b L r h) else qR P G (m, es, L, r, h) := by
  rw [qR_eq]
  by_cases hx : y ≤ x
  · simp [qStep, qConst, qOp, qBr, hx]
  · simp [qStep, qConst, qOp, qBr, hx]
theorem s_ic_gt {o : Int} {b : Nat} {q : List Nat} {x y : Int32} {r : List Value} : qR P G (m, (pc, len, .if_icmp .gt o, b :: q, cv) :: es, L, .int y :: .int x :: r, h) = if y < x then qR P G (qJump P m b L r h) else qR P G (m, es, L, r, h) := by
  rw [qR_eq]
  by_cases hx : y < x
  · simp [qStep, qConst, qOp, qBr, hx]
  · simp [qStep, qConst, qOp, qBr, hx]
theorem s_ic_le {o : Int} {b : Nat} {q : List Nat} {x y : Int32} {r : List Value} : qR P G (m, (pc, len, .if_icmp .le o, b :: q, cv) :: es, L, .int y :: .int x :: r, h) = if x ≤ y then qR P G (qJump P m b L r h) else qR P G (m, es, L, r, h) := by
  rw [qR_eq]
  by_cases hx : x ≤ y
  · simp [qStep, qConst, qOp, qBr, hx]
  · simp [qStep, qConst, qOp, qBr, hx]
theorem s_ic_ne {o : Int} {b : Nat} {q : List Nat} {x y : Int32} {r : List Value} : qR P G (m, (pc, len, .if_icmp .ne o, b :: q, cv) :: es, L, .int y :: .int x :: r, h) = if x = y then qR P G (m, es, L, r, h) else qR P G (qJump P m b L r h) := by
  rw [qR_eq]
  by_cases hx : x = y
  · simp [qStep, qConst, qOp, qBr, hx]
  · simp [qStep, qConst, qOp, qBr, hx]
theorem s_ifnn_r {o : Int} {b : Nat} {q : List Nat} {x : Nat} {r : List Value} : qR P G (m, (pc, len, .ifnonnull o, b :: q, cv) :: es, L, .ref x :: r, h) = qR P G (qJump P m b L r h) := by rw [qR_eq]; rfl
theorem s_ifnn_n {o : Int} {b : Nat} {q : List Nat} {r : List Value} : qR P G (m, (pc, len, .ifnonnull o, b :: q, cv) :: es, L, .null :: r, h) = qR P G (m, es, L, r, h) := by rw [qR_eq]; rfl
theorem s_goto {o : Int} {b : Nat} {q : List Nat} : qR P G (m, (pc, len, .goto o, b :: q, cv) :: es, L, st, h) = qR P G (qJump P m b L st h) := by rw [qR_eq]; rfl
theorem s_nop {b : Nat} {q : List Nat} : qR P G (m, (pc, len, .nop, b :: q, cv) :: es, L, st, h) = qR P G (qJump P m b L st h) := by rw [qR_eq]; rfl
theorem s_tab {a b c : Int} {d : Array Int} {x : Int32} {r : List Value} : qR P G (m, (pc, len, .tableswitch a b c d, lk, cv) :: es, L, .int x :: r, h) = match qTab lk x with
    | some t => qR P G (qJump P m t L r h)
    | none => none := by
  rw [qR_eq]
  simp only [qStep]
  cases qTab lk x <;> rfl
theorem s_getfield {k : Nat} : qR P G (m, (pc, len, .getfield k, lk, cv) :: es, L, st, h) = match qMem G (.getfield k) lk st h with
    | some (st', h') => qR P G (m, es, L, st', h')
    | none => none := by
  rw [qR_eq]
  cases hq : qMem G (.getfield k) lk st h with
  | none => simp [qStep, qConst, qOp, qBr, qLdIx, qStIx, hq]
  | some x => simp [qStep, qConst, qOp, qBr, qLdIx, qStIx, hq]
theorem s_putfield {k : Nat} : qR P G (m, (pc, len, .putfield k, lk, cv) :: es, L, st, h) = match qMem G (.putfield k) lk st h with
    | some (st', h') => qR P G (m, es, L, st', h')
    | none => none := by
  rw [qR_eq]
  cases hq : qMem G (.putfield k) lk st h with
  | none => simp [qStep, qConst, qOp, qBr, qLdIx, qStIx, hq]
  | some x => simp [qStep, qConst, qOp, qBr, qLdIx, qStIx, hq]
theorem s_anewarray {k : Nat} : qR P G (m, (pc, len, .anewarray k, lk, cv) :: es, L, st, h) = match qMem G (.anewarray k) lk st h with
    | some (st', h') => qR P G (m, es, L, st', h')
    | none => none := by
  rw [qR_eq]
  cases hq : qMem G (.anewarray k) lk st h with
  | none => simp [qStep, qConst, qOp, qBr, qLdIx, qStIx, hq]
  | some x => simp [qStep, qConst, qOp, qBr, qLdIx, qStIx, hq]
theorem s_newarray {t : ArrayType} : qR P G (m, (pc, len, .newarray t, lk, cv) :: es, L, st, h) = match qMem G (.newarray t) lk st h with
    | some (st', h') => qR P G (m, es, L, st', h')
    | none => none := by
  rw [qR_eq]
  cases hq : qMem G (.newarray t) lk st h with
  | none => simp [qStep, qConst, qOp, qBr, qLdIx, qStIx, hq]
  | some x => simp [qStep, qConst, qOp, qBr, qLdIx, qStIx, hq]
theorem s_iaload : qR P G (m, (pc, len, .iaload, lk, cv) :: es, L, st, h) = match qMem G (.iaload) lk st h with
    | some (st', h') => qR P G (m, es, L, st', h')
    | none => none := by
  rw [qR_eq]
  cases hq : qMem G (.iaload) lk st h with
  | none => simp [qStep, qConst, qOp, qBr, qLdIx, qStIx, hq]
  | some x => simp [qStep, qConst, qOp, qBr, qLdIx, qStIx, hq]
theorem s_baload : qR P G (m, (pc, len, .baload, lk, cv) :: es, L, st, h) = match qMem G (.baload) lk st h with
    | some (st', h') => qR P G (m, es, L, st', h')
    | none => none := by
  rw [qR_eq]
  cases hq : qMem G (.baload) lk st h with
  | none => simp [qStep, qConst, qOp, qBr, qLdIx, qStIx, hq]
  | some x => simp [qStep, qConst, qOp, qBr, qLdIx, qStIx, hq]
theorem s_caload : qR P G (m, (pc, len, .caload, lk, cv) :: es, L, st, h) = match qMem G (.caload) lk st h with
    | some (st', h') => qR P G (m, es, L, st', h')
    | none => none := by
  rw [qR_eq]
  cases hq : qMem G (.caload) lk st h with
  | none => simp [qStep, qConst, qOp, qBr, qLdIx, qStIx, hq]
  | some x => simp [qStep, qConst, qOp, qBr, qLdIx, qStIx, hq]
theorem s_laload : qR P G (m, (pc, len, .laload, lk, cv) :: es, L, st, h) = match qMem G (.laload) lk st h with
    | some (st', h') => qR P G (m, es, L, st', h')
    | none => none := by
  rw [qR_eq]
  cases hq : qMem G (.laload) lk st h with
  | none => simp [qStep, qConst, qOp, qBr, qLdIx, qStIx, hq]
  | some x => simp [qStep, qConst, qOp, qBr, qLdIx, qStIx, hq]
theorem s_daload : qR P G (m, (pc, len, .daload, lk, cv) :: es, L, st, h) = match qMem G (.daload) lk st h with
    | some (st', h') => qR P G (m, es, L, st', h')
    | none => none := by
  rw [qR_eq]
  cases hq : qMem G (.daload) lk st h with
  | none => simp [qStep, qConst, qOp, qBr, qLdIx, qStIx, hq]
  | some x => simp [qStep, qConst, qOp, qBr, qLdIx, qStIx, hq]
theorem s_aaload : qR P G (m, (pc, len, .aaload, lk, cv) :: es, L, st, h) = match qMem G (.aaload) lk st h with
    | some (st', h') => qR P G (m, es, L, st', h')
    | none => none := by
  rw [qR_eq]
  cases hq : qMem G (.aaload) lk st h with
  | none => simp [qStep, qConst, qOp, qBr, qLdIx, qStIx, hq]
  | some x => simp [qStep, qConst, qOp, qBr, qLdIx, qStIx, hq]
theorem s_iastore : qR P G (m, (pc, len, .iastore, lk, cv) :: es, L, st, h) = match qMem G (.iastore) lk st h with
    | some (st', h') => qR P G (m, es, L, st', h')
    | none => none := by
  rw [qR_eq]
  cases hq : qMem G (.iastore) lk st h with
  | none => simp [qStep, qConst, qOp, qBr, qLdIx, qStIx, hq]
  | some x => simp [qStep, qConst, qOp, qBr, qLdIx, qStIx, hq]
theorem s_bastore : qR P G (m, (pc, len, .bastore, lk, cv) :: es, L, st, h) = match qMem G (.bastore) lk st h with
    | some (st', h') => qR P G (m, es, L, st', h')
    | none => none := by
  rw [qR_eq]
  cases hq : qMem G (.bastore) lk st h with
  | none => simp [qStep, qConst, qOp, qBr, qLdIx, qStIx, hq]
  | some x => simp [qStep, qConst, qOp, qBr, qLdIx, qStIx, hq]
theorem s_castore : qR P G (m, (pc, len, .castore, lk, cv) :: es, L, st, h) = match qMem G (.castore) lk st h with
    | some (st', h') => qR P G (m, es, L, st', h')
    | none => none := by
  rw [qR_eq]
  cases hq : qMem G (.castore) lk st h with
  | none => simp [qStep, qConst, qOp, qBr, qLdIx, qStIx, hq]
  | some x => simp [qStep, qConst, qOp, qBr, qLdIx, qStIx, hq]
theorem s_lastore : qR P G (m, (pc, len, .lastore, lk, cv) :: es, L, st, h) = match qMem G (.lastore) lk st h with
    | some (st', h') => qR P G (m, es, L, st', h')
    | none => none := by
  rw [qR_eq]
  cases hq : qMem G (.lastore) lk st h with
  | none => simp [qStep, qConst, qOp, qBr, qLdIx, qStIx, hq]
  | some x => simp [qStep, qConst, qOp, qBr, qLdIx, qStIx, hq]
theorem s_dastore : qR P G (m, (pc, len, .dastore, lk, cv) :: es, L, st, h) = match qMem G (.dastore) lk st h with
    | some (st', h') => qR P G (m, es, L, st', h')
    | none => none := by
  rw [qR_eq]
  cases hq : qMem G (.dastore) lk st h with
  | none => simp [qStep, qConst, qOp, qBr, qLdIx, qStIx, hq]
  | some x => simp [qStep, qConst, qOp, qBr, qLdIx, qStIx, hq]
theorem s_aastore : qR P G (m, (pc, len, .aastore, lk, cv) :: es, L, st, h) = match qMem G (.aastore) lk st h with
    | some (st', h') => qR P G (m, es, L, st', h')
    | none => none := by
  rw [qR_eq]
  cases hq : qMem G (.aastore) lk st h with
  | none => simp [qStep, qConst, qOp, qBr, qLdIx, qStIx, hq]
  | some x => simp [qStep, qConst, qOp, qBr, qLdIx, qStIx, hq]
theorem s_arraylength : qR P G (m, (pc, len, .arraylength, lk, cv) :: es, L, st, h) = match qMem G (.arraylength) lk st h with
    | some (st', h') => qR P G (m, es, L, st', h')
    | none => none := by
  rw [qR_eq]
  cases hq : qMem G (.arraylength) lk st h with
  | none => simp [qStep, qConst, qOp, qBr, qLdIx, qStIx, hq]
  | some x => simp [qStep, qConst, qOp, qBr, qLdIx, qStIx, hq]
theorem s_ireturn {v : Int32} (hb : P.2.2.2.2 m = 1 → v = 0 ∨ v = 1) : qR P G (m, (pc, len, .ireturn, lk, cv) :: es, L, [.int v], h) = some (.inl (some (.int v)), h) := by
  rw [qR_eq]
  by_cases h1 : P.2.2.2.2 m = 1
  · simp [qStep, h1, hb h1]
  · simp [qStep, h1]
theorem s_lreturn {v : Int64} : qR P G (m, (pc, len, .lreturn, lk, cv) :: es, L, [.long v], h) = some (.inl (some (.long v)), h) := by rw [qR_eq]; rfl
theorem s_freturn {v : UInt32} : qR P G (m, (pc, len, .freturn, lk, cv) :: es, L, [.float v], h) = some (.inl (some (.float v)), h) := by rw [qR_eq]; rfl
theorem s_dreturn {v : UInt64} : qR P G (m, (pc, len, .dreturn, lk, cv) :: es, L, [.double v], h) = some (.inl (some (.double v)), h) := by rw [qR_eq]; rfl
theorem s_areturn {v : Nat} : qR P G (m, (pc, len, .areturn, lk, cv) :: es, L, [.ref v], h) = some (.inl (some (.ref v)), h) := by rw [qR_eq]; rfl
theorem s_return : qR P G (m, (pc, len, .return_, lk, cv) :: es, L, [], h) = some (.inl none, h) := by rw [qR_eq]; rfl
theorem s_new {k w ci n : Nat} {q : List Nat} (hc : ci < 100) : qR P G (m, (pc, len, .new k, w :: ci :: n :: q, cv) :: es, L, st, h) = qR P G (m, es, L, .ref h.1 :: st, qNewC h (.inr (ci, qBorn ci)) n) := by
  rw [qR_eq]
  simp only [qStep, if_pos hc]
theorem s_thr {k w ci n : Nat} {q : List Nat} (hc : ¬ ci < 100) : qR P G (m, (pc, len, .new k, w :: ci :: n :: q, cv) :: es, L, [], h) = some (.inr ci, (h.1 + 1, h.2.1 + 6, h.2.2)) := by
  rw [qR_eq]
  simp only [qStep, if_neg hc]
/-- what a call comes to -/
noncomputable def qCall (P : qPg) (G : qG) (m pc : Nat) (es : List qEnt) (L : qLV) (rest : List Value) (x : Option qRes) : Option qRes := match x with
  | some (.inl (some v), h) => qR P G (m, es, L, v :: rest, h)
  | some (.inl none, h) => qR P G (m, es, L, rest, h)
  | some (.inr E, h) => match P.2.2.1 m pc E with
    | some (b, k) => qR P G (m, (P.1 m b).tail, (qS1 L k .null).set k none, [], h)
    | none => some (.inr E, h)
  | none => none
theorem s_invokevirtual {j k m' n : Nat} {lr : List Nat} (hk : k = 0 ∨ k = 1 ∨ k = 2 ∨ k = 3 ∨ k = 4 ∨ k = 9) (h1 : n ≤ st.length) (h2 : qW (st.drop n) ≤ 8) (h3 : (qArgs (st.take n).reverse).length ≤ P.2.2.2.1 m') (h4 : qRcv k lr h st[n - 1]? = true) : qR P G (m, (pc, len, .invokevirtual j, k :: m' :: n :: lr, cv) :: es, L, st, h) = qCall P G m pc es L (st.drop n) (qR P G (qEntry P m' (st.take n).reverse h)) := by
  rw [qR_eq]
  have e : qStep P G (m, (pc, len, .invokevirtual j, k :: m' :: n :: lr, cv) :: es, L, st, h) = some (.inr (.inr (qEntry P m' (st.take n).reverse h, qBack P m pc es L (st.drop n)))) := by
    show qInv P m pc es (k :: m' :: n :: lr) L st h = _
    have hne : ¬ (st.length < n ∨ 8 < qW (st.drop n) ∨ P.2.2.2.1 m' < (qArgs (st.take n).reverse).length ∨ qRcv k lr h st[n - 1]? = false) := by
      rintro (q | q | q | q)
      · omega
      · omega
      · omega
      · rw [h4] at q; cases q
    rcases hk with rfl | rfl | rfl | rfl | rfl | rfl <;> (simp only [qInv]; rw [if_neg hne])
  rw [e]
  dsimp only
  unfold qCall
  cases qR P G (qEntry P m' (st.take n).reverse h) with
  | none => rfl
  | some r =>
    obtain ⟨r1, h'⟩ := r
    rcases r1 with v | E
    · cases v <;> rfl
    · dsimp only [qBack]
      unfold qCatch
      cases P.2.2.1 m pc E with
      | none => rfl
      | some x => rfl
theorem s_invokespecial {j k m' n : Nat} {lr : List Nat} (hk : k = 0 ∨ k = 1 ∨ k = 2 ∨ k = 3 ∨ k = 4 ∨ k = 9) (h1 : n ≤ st.length) (h2 : qW (st.drop n) ≤ 8) (h3 : (qArgs (st.take n).reverse).length ≤ P.2.2.2.1 m') (h4 : qRcv k lr h st[n - 1]? = true) : qR P G (m, (pc, len, .invokespecial j, k :: m' :: n :: lr, cv) :: es, L, st, h) = qCall P G m pc es L (st.drop n) (qR P G (qEntry P m' (st.take n).reverse h)) := by
  rw [qR_eq]
  have e : qStep P G (m, (pc, len, .invokespecial j, k :: m' :: n :: lr, cv) :: es, L, st, h) = some (.inr (.inr (qEntry P m' (st.take n).reverse h, qBack P m pc es L (st.drop n)))) := by
    show qInv P m pc es (k :: m' :: n :: lr) L st h = _
    have hne : ¬ (st.length < n ∨ 8 < qW (st.drop n) ∨ P.2.2.2.1 m' < (qArgs (st.take n).reverse).length ∨ qRcv k lr h st[n - 1]? = false) := by
      rintro (q | q | q | q)
      · omega
      · omega
      · omega
      · rw [h4] at q; cases q
    rcases hk with rfl | rfl | rfl | rfl | rfl | rfl <;> (simp only [qInv]; rw [if_neg hne])
  rw [e]
  dsimp only
  unfold qCall
  cases qR P G (qEntry P m' (st.take n).reverse h) with
  | none => rfl
  | some r =>
    obtain ⟨r1, h'⟩ := r
    rcases r1 with v | E
    · cases v <;> rfl
    · dsimp only [qBack]
      unfold qCatch
      cases P.2.2.1 m pc E with
      | none => rfl
      | some x => rfl
theorem s_invokestatic {j k m' n : Nat} {lr : List Nat} (hk : k = 0 ∨ k = 1 ∨ k = 2 ∨ k = 3 ∨ k = 4 ∨ k = 9) (h1 : n ≤ st.length) (h2 : qW (st.drop n) ≤ 8) (h3 : (qArgs (st.take n).reverse).length ≤ P.2.2.2.1 m') (h4 : qRcv k lr h st[n - 1]? = true) : qR P G (m, (pc, len, .invokestatic j, k :: m' :: n :: lr, cv) :: es, L, st, h) = qCall P G m pc es L (st.drop n) (qR P G (qEntry P m' (st.take n).reverse h)) := by
  rw [qR_eq]
  have e : qStep P G (m, (pc, len, .invokestatic j, k :: m' :: n :: lr, cv) :: es, L, st, h) = some (.inr (.inr (qEntry P m' (st.take n).reverse h, qBack P m pc es L (st.drop n)))) := by
    show qInv P m pc es (k :: m' :: n :: lr) L st h = _
    have hne : ¬ (st.length < n ∨ 8 < qW (st.drop n) ∨ P.2.2.2.1 m' < (qArgs (st.take n).reverse).length ∨ qRcv k lr h st[n - 1]? = false) := by
      rintro (q | q | q | q)
      · omega
      · omega
      · omega
      · rw [h4] at q; cases q
    rcases hk with rfl | rfl | rfl | rfl | rfl | rfl <;> (simp only [qInv]; rw [if_neg hne])
  rw [e]
  dsimp only
  unfold qCall
  cases qR P G (qEntry P m' (st.take n).reverse h) with
  | none => rfl
  | some r =>
    obtain ⟨r1, h'⟩ := r
    rcases r1 with v | E
    · cases v <;> rfl
    · dsimp only [qBack]
      unfold qCatch
      cases P.2.2.1 m pc E with
      | none => rfl
      | some x => rfl
end SYM
