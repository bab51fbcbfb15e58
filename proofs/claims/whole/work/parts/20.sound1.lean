/-! ===== The small machine is sound, 1: instructions over the stack alone ===== -/
section SND1
variable {p : Program} {l : Launch} {e : Env} {R : Room} {s : State} {m : MethodId} {args : Array Value} {below : List Frame} {meth : Method} {c : Code} {H : Heap} {locs : List Loc} {cells slots : Nat} {Q : State → Prop}
variable {cc : ByteArray} {pc : Nat} {ls : Array Slot}
theorem sd_iadd (hexec : p.tables.exec = Jvm.exec) (hb : c.code = cc) {st st' : List Value} (hdg : decode cc pc = .ok (.iadd, qLen .iadd)) (h : qOp .iadd st = some st') (k : W p l e R s m args below meth c H locs cells slots Q (F0 m (pc + qLen .iadd) ls st')) : W p l e R s m args below meth c H locs cells slots Q (F0 m pc ls st) := by
  dsimp only [qOp] at h
  split at h
  · cases h; exact lv_iadd hexec hb hdg k
  · cases h
theorem sd_isub (hexec : p.tables.exec = Jvm.exec) (hb : c.code = cc) {st st' : List Value} (hdg : decode cc pc = .ok (.isub, qLen .isub)) (h : qOp .isub st = some st') (k : W p l e R s m args below meth c H locs cells slots Q (F0 m (pc + qLen .isub) ls st')) : W p l e R s m args below meth c H locs cells slots Q (F0 m pc ls st) := by
  dsimp only [qOp] at h
  split at h
  · cases h; exact lv_isub hexec hb hdg k
  · cases h
theorem sd_imul (hexec : p.tables.exec = Jvm.exec) (hb : c.code = cc) {st st' : List Value} (hdg : decode cc pc = .ok (.imul, qLen .imul)) (h : qOp .imul st = some st') (k : W p l e R s m args below meth c H locs cells slots Q (F0 m (pc + qLen .imul) ls st')) : W p l e R s m args below meth c H locs cells slots Q (F0 m pc ls st) := by
  dsimp only [qOp] at h
  split at h
  · cases h; exact lv_imul hexec hb hdg k
  · cases h
theorem sd_iand (hexec : p.tables.exec = Jvm.exec) (hb : c.code = cc) {st st' : List Value} (hdg : decode cc pc = .ok (.iand, qLen .iand)) (h : qOp .iand st = some st') (k : W p l e R s m args below meth c H locs cells slots Q (F0 m (pc + qLen .iand) ls st')) : W p l e R s m args below meth c H locs cells slots Q (F0 m pc ls st) := by
  dsimp only [qOp] at h
  split at h
  · cases h; exact lv_iand hexec hb hdg k
  · cases h
theorem sd_ior (hexec : p.tables.exec = Jvm.exec) (hb : c.code = cc) {st st' : List Value} (hdg : decode cc pc = .ok (.ior, qLen .ior)) (h : qOp .ior st = some st') (k : W p l e R s m args below meth c H locs cells slots Q (F0 m (pc + qLen .ior) ls st')) : W p l e R s m args below meth c H locs cells slots Q (F0 m pc ls st) := by
  dsimp only [qOp] at h
  split at h
  · cases h; exact lv_ior hexec hb hdg k
  · cases h
theorem sd_ixor (hexec : p.tables.exec = Jvm.exec) (hb : c.code = cc) {st st' : List Value} (hdg : decode cc pc = .ok (.ixor, qLen .ixor)) (h : qOp .ixor st = some st') (k : W p l e R s m args below meth c H locs cells slots Q (F0 m (pc + qLen .ixor) ls st')) : W p l e R s m args below meth c H locs cells slots Q (F0 m pc ls st) := by
  dsimp only [qOp] at h
  split at h
  · cases h; exact lv_ixor hexec hb hdg k
  · cases h
theorem sd_ineg (hexec : p.tables.exec = Jvm.exec) (hb : c.code = cc) {st st' : List Value} (hdg : decode cc pc = .ok (.ineg, qLen .ineg)) (h : qOp .ineg st = some st') (k : W p l e R s m args below meth c H locs cells slots Q (F0 m (pc + qLen .ineg) ls st')) : W p l e R s m args below meth c H locs cells slots Q (F0 m pc ls st) := by
  dsimp only [qOp] at h
  split at h
  · cases h; exact lv_ineg hexec hb hdg k
  · cases h
theorem sd_ishl (hexec : p.tables.exec = Jvm.exec) (hb : c.code = cc) {st st' : List Value} (hdg : decode cc pc = .ok (.ishl, qLen .ishl)) (h : qOp .ishl st = some st') (k : W p l e R s m args below meth c H locs cells slots Q (F0 m (pc + qLen .ishl) ls st')) : W p l e R s m args below meth c H locs cells slots Q (F0 m pc ls st) := by
  dsimp only [qOp] at h
  split at h
  · cases h; exact lv_ishl hexec hb hdg k
  · cases h
theorem sd_ishr (hexec : p.tables.exec = Jvm.exec) (hb : c.code = cc) {st st' : List Value} (hdg : decode cc pc = .ok (.ishr, qLen .ishr)) (h : qOp .ishr st = some st') (k : W p l e R s m args below meth c H locs cells slots Q (F0 m (pc + qLen .ishr) ls st')) : W p l e R s m args below meth c H locs cells slots Q (F0 m pc ls st) := by
  dsimp only [qOp] at h
  split at h
  · cases h; exact lv_ishr hexec hb hdg k
  · cases h
theorem sd_ladd (hexec : p.tables.exec = Jvm.exec) (hb : c.code = cc) {st st' : List Value} (hdg : decode cc pc = .ok (.ladd, qLen .ladd)) (h : qOp .ladd st = some st') (k : W p l e R s m args below meth c H locs cells slots Q (F0 m (pc + qLen .ladd) ls st')) : W p l e R s m args below meth c H locs cells slots Q (F0 m pc ls st) := by
  dsimp only [qOp] at h
  split at h
  · cases h; exact lv_ladd hexec hb hdg k
  · cases h
theorem sd_lsub (hexec : p.tables.exec = Jvm.exec) (hb : c.code = cc) {st st' : List Value} (hdg : decode cc pc = .ok (.lsub, qLen .lsub)) (h : qOp .lsub st = some st') (k : W p l e R s m args below meth c H locs cells slots Q (F0 m (pc + qLen .lsub) ls st')) : W p l e R s m args below meth c H locs cells slots Q (F0 m pc ls st) := by
  dsimp only [qOp] at h
  split at h
  · cases h; exact lv_lsub hexec hb hdg k
  · cases h
theorem sd_lmul (hexec : p.tables.exec = Jvm.exec) (hb : c.code = cc) {st st' : List Value} (hdg : decode cc pc = .ok (.lmul, qLen .lmul)) (h : qOp .lmul st = some st') (k : W p l e R s m args below meth c H locs cells slots Q (F0 m (pc + qLen .lmul) ls st')) : W p l e R s m args below meth c H locs cells slots Q (F0 m pc ls st) := by
  dsimp only [qOp] at h
  split at h
  · cases h; exact lv_lmul hexec hb hdg k
  · cases h
theorem sd_lneg (hexec : p.tables.exec = Jvm.exec) (hb : c.code = cc) {st st' : List Value} (hdg : decode cc pc = .ok (.lneg, qLen .lneg)) (h : qOp .lneg st = some st') (k : W p l e R s m args below meth c H locs cells slots Q (F0 m (pc + qLen .lneg) ls st')) : W p l e R s m args below meth c H locs cells slots Q (F0 m pc ls st) := by
  dsimp only [qOp] at h
  split at h
  · cases h; exact lv_lneg hexec hb hdg k
  · cases h
theorem sd_land (hexec : p.tables.exec = Jvm.exec) (hb : c.code = cc) {st st' : List Value} (hdg : decode cc pc = .ok (.land, qLen .land)) (h : qOp .land st = some st') (k : W p l e R s m args below meth c H locs cells slots Q (F0 m (pc + qLen .land) ls st')) : W p l e R s m args below meth c H locs cells slots Q (F0 m pc ls st) := by
  dsimp only [qOp] at h
  split at h
  · cases h; exact lv_land hexec hb hdg k
  · cases h
theorem sd_lor (hexec : p.tables.exec = Jvm.exec) (hb : c.code = cc) {st st' : List Value} (hdg : decode cc pc = .ok (.lor, qLen .lor)) (h : qOp .lor st = some st') (k : W p l e R s m args below meth c H locs cells slots Q (F0 m (pc + qLen .lor) ls st')) : W p l e R s m args below meth c H locs cells slots Q (F0 m pc ls st) := by
  dsimp only [qOp] at h
  split at h
  · cases h; exact lv_lor hexec hb hdg k
  · cases h
theorem sd_l2d (hexec : p.tables.exec = Jvm.exec) (hb : c.code = cc) {st st' : List Value} (hdg : decode cc pc = .ok (.l2d, qLen .l2d)) (h : qOp .l2d st = some st') (k : W p l e R s m args below meth c H locs cells slots Q (F0 m (pc + qLen .l2d) ls st')) : W p l e R s m args below meth c H locs cells slots Q (F0 m pc ls st) := by
  dsimp only [qOp] at h
  split at h
  · cases h; exact lv_l2d hexec hb hdg k
  · cases h
theorem sd_l2f (hexec : p.tables.exec = Jvm.exec) (hb : c.code = cc) {st st' : List Value} (hdg : decode cc pc = .ok (.l2f, qLen .l2f)) (h : qOp .l2f st = some st') (k : W p l e R s m args below meth c H locs cells slots Q (F0 m (pc + qLen .l2f) ls st')) : W p l e R s m args below meth c H locs cells slots Q (F0 m pc ls st) := by
  dsimp only [qOp] at h
  split at h
  · cases h; exact lv_l2f hexec hb hdg k
  · cases h
theorem sd_i2d (hexec : p.tables.exec = Jvm.exec) (hb : c.code = cc) {st st' : List Value} (hdg : decode cc pc = .ok (.i2d, qLen .i2d)) (h : qOp .i2d st = some st') (k : W p l e R s m args below meth c H locs cells slots Q (F0 m (pc + qLen .i2d) ls st')) : W p l e R s m args below meth c H locs cells slots Q (F0 m pc ls st) := by
  dsimp only [qOp] at h
  split at h
  · cases h; exact lv_i2d hexec hb hdg k
  · cases h
theorem sd_i2f (hexec : p.tables.exec = Jvm.exec) (hb : c.code = cc) {st st' : List Value} (hdg : decode cc pc = .ok (.i2f, qLen .i2f)) (h : qOp .i2f st = some st') (k : W p l e R s m args below meth c H locs cells slots Q (F0 m (pc + qLen .i2f) ls st')) : W p l e R s m args below meth c H locs cells slots Q (F0 m pc ls st) := by
  dsimp only [qOp] at h
  split at h
  · cases h; exact lv_i2f hexec hb hdg k
  · cases h
theorem sd_iushr (hexec : p.tables.exec = Jvm.exec) (hb : c.code = cc) {st st' : List Value} (hdg : decode cc pc = .ok (.iushr, qLen .iushr)) (h : qOp .iushr st = some st') (k : W p l e R s m args below meth c H locs cells slots Q (F0 m (pc + qLen .iushr) ls st')) : W p l e R s m args below meth c H locs cells slots Q (F0 m pc ls st) := by
  dsimp only [qOp] at h
  split at h
  · cases h; exact lv_iushr hexec hb hdg rfl k
  · cases h
theorem sd_i2l (hexec : p.tables.exec = Jvm.exec) (hb : c.code = cc) {st st' : List Value} (hdg : decode cc pc = .ok (.i2l, qLen .i2l)) (h : qOp .i2l st = some st') (k : W p l e R s m args below meth c H locs cells slots Q (F0 m (pc + qLen .i2l) ls st')) : W p l e R s m args below meth c H locs cells slots Q (F0 m pc ls st) := by
  dsimp only [qOp] at h
  split at h
  · cases h; exact lv_i2l hexec hb hdg rfl k
  · cases h
theorem sd_l2i (hexec : p.tables.exec = Jvm.exec) (hb : c.code = cc) {st st' : List Value} (hdg : decode cc pc = .ok (.l2i, qLen .l2i)) (h : qOp .l2i st = some st') (k : W p l e R s m args below meth c H locs cells slots Q (F0 m (pc + qLen .l2i) ls st')) : W p l e R s m args below meth c H locs cells slots Q (F0 m pc ls st) := by
  dsimp only [qOp] at h
  split at h
  · cases h; exact lv_l2i hexec hb hdg rfl k
  · cases h
theorem sd_i2b (hexec : p.tables.exec = Jvm.exec) (hb : c.code = cc) {st st' : List Value} (hdg : decode cc pc = .ok (.i2b, qLen .i2b)) (h : qOp .i2b st = some st') (k : W p l e R s m args below meth c H locs cells slots Q (F0 m (pc + qLen .i2b) ls st')) : W p l e R s m args below meth c H locs cells slots Q (F0 m pc ls st) := by
  dsimp only [qOp] at h
  split at h
  · cases h; exact lv_i2b hexec hb hdg rfl k
  · cases h
theorem sd_i2c (hexec : p.tables.exec = Jvm.exec) (hb : c.code = cc) {st st' : List Value} (hdg : decode cc pc = .ok (.i2c, qLen .i2c)) (h : qOp .i2c st = some st') (k : W p l e R s m args below meth c H locs cells slots Q (F0 m (pc + qLen .i2c) ls st')) : W p l e R s m args below meth c H locs cells slots Q (F0 m pc ls st) := by
  dsimp only [qOp] at h
  split at h
  · cases h; exact lv_i2c hexec hb hdg rfl k
  · cases h
theorem sd_lshl (hexec : p.tables.exec = Jvm.exec) (hb : c.code = cc) {st st' : List Value} (hdg : decode cc pc = .ok (.lshl, qLen .lshl)) (h : qOp .lshl st = some st') (k : W p l e R s m args below meth c H locs cells slots Q (F0 m (pc + qLen .lshl) ls st')) : W p l e R s m args below meth c H locs cells slots Q (F0 m pc ls st) := by
  dsimp only [qOp] at h
  split at h
  · cases h; exact lv_lshl hexec hb hdg rfl k
  · cases h
theorem sd_lshr (hexec : p.tables.exec = Jvm.exec) (hb : c.code = cc) {st st' : List Value} (hdg : decode cc pc = .ok (.lshr, qLen .lshr)) (h : qOp .lshr st = some st') (k : W p l e R s m args below meth c H locs cells slots Q (F0 m (pc + qLen .lshr) ls st')) : W p l e R s m args below meth c H locs cells slots Q (F0 m pc ls st) := by
  dsimp only [qOp] at h
  split at h
  · cases h; exact lv_lshr hexec hb hdg rfl k
  · cases h
theorem sd_lushr (hexec : p.tables.exec = Jvm.exec) (hb : c.code = cc) {st st' : List Value} (hdg : decode cc pc = .ok (.lushr, qLen .lushr)) (h : qOp .lushr st = some st') (k : W p l e R s m args below meth c H locs cells slots Q (F0 m (pc + qLen .lushr) ls st')) : W p l e R s m args below meth c H locs cells slots Q (F0 m pc ls st) := by
  dsimp only [qOp] at h
  split at h
  · cases h; exact lv_lushr hexec hb hdg rfl k
  · cases h
theorem sd_idiv (hexec : p.tables.exec = Jvm.exec) (hb : c.code = cc) {st st' : List Value} (hdg : decode cc pc = .ok (.idiv, qLen .idiv)) (h : qOp .idiv st = some st') (k : W p l e R s m args below meth c H locs cells slots Q (F0 m (pc + qLen .idiv) ls st')) : W p l e R s m args below meth c H locs cells slots Q (F0 m pc ls st) := by
  dsimp only [qOp] at h
  split at h
  · split at h
    · cases h
    · rename_i hne; cases h; exact lv_idiv hexec hb hdg hne k
  · cases h
theorem sd_irem (hexec : p.tables.exec = Jvm.exec) (hb : c.code = cc) {st st' : List Value} (hdg : decode cc pc = .ok (.irem, qLen .irem)) (h : qOp .irem st = some st') (k : W p l e R s m args below meth c H locs cells slots Q (F0 m (pc + qLen .irem) ls st')) : W p l e R s m args below meth c H locs cells slots Q (F0 m pc ls st) := by
  dsimp only [qOp] at h
  split at h
  · split at h
    · cases h
    · rename_i hne; cases h; exact lv_irem hexec hb hdg hne k
  · cases h
theorem sd_ldiv (hexec : p.tables.exec = Jvm.exec) (hb : c.code = cc) {st st' : List Value} (hdg : decode cc pc = .ok (.ldiv, qLen .ldiv)) (h : qOp .ldiv st = some st') (k : W p l e R s m args below meth c H locs cells slots Q (F0 m (pc + qLen .ldiv) ls st')) : W p l e R s m args below meth c H locs cells slots Q (F0 m pc ls st) := by
  dsimp only [qOp] at h
  split at h
  · split at h
    · cases h
    · rename_i hne; cases h; exact lv_ldiv hexec hb hdg hne k
  · cases h
theorem sd_lrem (hexec : p.tables.exec = Jvm.exec) (hb : c.code = cc) {st st' : List Value} (hdg : decode cc pc = .ok (.lrem, qLen .lrem)) (h : qOp .lrem st = some st') (k : W p l e R s m args below meth c H locs cells slots Q (F0 m (pc + qLen .lrem) ls st')) : W p l e R s m args below meth c H locs cells slots Q (F0 m pc ls st) := by
  dsimp only [qOp] at h
  split at h
  · split at h
    · cases h
    · rename_i hne; cases h; exact lv_lrem hexec hb hdg hne k
  · cases h
theorem sd_ddiv (hexec : p.tables.exec = Jvm.exec) (hb : c.code = cc) {st st' : List Value} (hdg : decode cc pc = .ok (.ddiv, qLen .ddiv)) (h : qOp .ddiv st = some st') (k : W p l e R s m args below meth c H locs cells slots Q (F0 m (pc + qLen .ddiv) ls st')) : W p l e R s m args below meth c H locs cells slots Q (F0 m pc ls st) := by
  dsimp only [qOp] at h
  split at h
  · split at h
    · rename_i hne; cases h; exact lv_ddiv hexec hb hdg hne k
    · cases h
  · cases h
theorem sd_fdiv (hexec : p.tables.exec = Jvm.exec) (hb : c.code = cc) {st st' : List Value} (hdg : decode cc pc = .ok (.fdiv, qLen .fdiv)) (h : qOp .fdiv st = some st') (k : W p l e R s m args below meth c H locs cells slots Q (F0 m (pc + qLen .fdiv) ls st')) : W p l e R s m args below meth c H locs cells slots Q (F0 m pc ls st) := by
  dsimp only [qOp] at h
  split at h
  · split at h
    · rename_i hne; cases h; exact lv_fdiv hexec hb hdg hne k
    · cases h
  · cases h
theorem sd_f2d (hexec : p.tables.exec = Jvm.exec) (hb : c.code = cc) {st st' : List Value} (hdg : decode cc pc = .ok (.f2d, qLen .f2d)) (h : qOp .f2d st = some st') (k : W p l e R s m args below meth c H locs cells slots Q (F0 m (pc + qLen .f2d) ls st')) : W p l e R s m args below meth c H locs cells slots Q (F0 m pc ls st) := by
  dsimp only [qOp] at h
  split at h
  · split at h
    · rename_i hne; cases h; exact lv_f2d hexec hb hdg hne k
    · cases h
  · cases h
theorem sd_lcmp (hexec : p.tables.exec = Jvm.exec) (hb : c.code = cc) {st st' : List Value} (hdg : decode cc pc = .ok (.lcmp, qLen .lcmp)) (h : qOp .lcmp st = some st') (k : W p l e R s m args below meth c H locs cells slots Q (F0 m (pc + qLen .lcmp) ls st')) : W p l e R s m args below meth c H locs cells slots Q (F0 m pc ls st) := by
  dsimp only [qOp] at h
  split at h
  · cases h; exact W.lcmp hexec hb hdg k
  · cases h
theorem sd_dcmp {op : CmpOp} (hexec : p.tables.exec = Jvm.exec) (hb : c.code = cc) {st st' : List Value} (hdg : decode cc pc = .ok ((.dcmp op), qLen (.dcmp op))) (h : qOp (.dcmp op) st = some st') (k : W p l e R s m args below meth c H locs cells slots Q (F0 m (pc + qLen (.dcmp op)) ls st')) : W p l e R s m args below meth c H locs cells slots Q (F0 m pc ls st) := by
  dsimp only [qOp] at h
  split at h
  · cases h; exact lv_dcmp hexec hb hdg k
  · cases h
theorem sd_fcmp {op : CmpOp} (hexec : p.tables.exec = Jvm.exec) (hb : c.code = cc) {st st' : List Value} (hdg : decode cc pc = .ok ((.fcmp op), qLen (.fcmp op))) (h : qOp (.fcmp op) st = some st') (k : W p l e R s m args below meth c H locs cells slots Q (F0 m (pc + qLen (.fcmp op)) ls st')) : W p l e R s m args below meth c H locs cells slots Q (F0 m pc ls st) := by
  dsimp only [qOp] at h
  split at h
  · cases h; exact lv_fcmp hexec hb hdg k
  · cases h
theorem sd_dup (hexec : p.tables.exec = Jvm.exec) (hb : c.code = cc) {st st' : List Value} (hdg : decode cc pc = .ok (.dup, qLen .dup)) (h : qOp .dup st = some st') (k : W p l e R s m args below meth c H locs cells slots Q (F0 m (pc + qLen .dup) ls st')) : W p l e R s m args below meth c H locs cells slots Q (F0 m pc ls st) := by
  dsimp only [qOp] at h
  split at h
  · cases h; exact lv_dup hexec hb hdg rfl k
  · cases h; exact lv_dup hexec hb hdg rfl k
  · cases h
theorem sd_dup2 (hexec : p.tables.exec = Jvm.exec) (hb : c.code = cc) {st st' : List Value} (hdg : decode cc pc = .ok (.dup2, qLen .dup2)) (h : qOp .dup2 st = some st') (k : W p l e R s m args below meth c H locs cells slots Q (F0 m (pc + qLen .dup2) ls st')) : W p l e R s m args below meth c H locs cells slots Q (F0 m pc ls st) := by
  dsimp only [qOp] at h
  split at h
  · cases h; exact lv_dup2_2 hexec hb hdg rfl k
  · cases h; exact lv_dup2_11 hexec hb hdg rfl rfl k
  · cases h
theorem sd_pop (hexec : p.tables.exec = Jvm.exec) (hb : c.code = cc) {st st' : List Value} (hdg : decode cc pc = .ok (.pop, qLen .pop)) (h : qOp .pop st = some st') (k : W p l e R s m args below meth c H locs cells slots Q (F0 m (pc + qLen .pop) ls st')) : W p l e R s m args below meth c H locs cells slots Q (F0 m pc ls st) := by
  dsimp only [qOp] at h
  split at h
  · cases h; exact lv_pop hexec hb hdg rfl k
  · cases h
theorem sd_op (hexec : p.tables.exec = Jvm.exec) (hb : c.code = cc) {i : Instr} {st st' : List Value} (hdg : decode cc pc = .ok (i, qLen i)) (h : qOp i st = some st') (k : W p l e R s m args below meth c H locs cells slots Q (F0 m (pc + qLen i) ls st')) : W p l e R s m args below meth c H locs cells slots Q (F0 m pc ls st) := by
  cases i <;> first | (exact absurd h (by dsimp only [qOp]; intro h; cases h)) | exact sd_iadd hexec hb hdg h k | exact sd_isub hexec hb hdg h k | exact sd_imul hexec hb hdg h k | exact sd_iand hexec hb hdg h k | exact sd_ior hexec hb hdg h k | exact sd_ixor hexec hb hdg h k | exact sd_ineg hexec hb hdg h k | exact sd_ishl hexec hb hdg h k | exact sd_ishr hexec hb hdg h k | exact sd_ladd hexec hb hdg h k | exact sd_lsub hexec hb hdg h k | exact sd_lmul hexec hb hdg h k | exact sd_lneg hexec hb hdg h k | exact sd_land hexec hb hdg h k | exact sd_lor hexec hb hdg h k | exact sd_l2d hexec hb hdg h k | exact sd_l2f hexec hb hdg h k | exact sd_i2d hexec hb hdg h k | exact sd_i2f hexec hb hdg h k | exact sd_iushr hexec hb hdg h k | exact sd_i2l hexec hb hdg h k | exact sd_l2i hexec hb hdg h k | exact sd_i2b hexec hb hdg h k | exact sd_i2c hexec hb hdg h k | exact sd_lshl hexec hb hdg h k | exact sd_lshr hexec hb hdg h k | exact sd_lushr hexec hb hdg h k | exact sd_idiv hexec hb hdg h k | exact sd_irem hexec hb hdg h k | exact sd_ldiv hexec hb hdg h k | exact sd_lrem hexec hb hdg h k | exact sd_ddiv hexec hb hdg h k | exact sd_fdiv hexec hb hdg h k | exact sd_f2d hexec hb hdg h k | exact sd_lcmp hexec hb hdg h k | exact sd_dcmp hexec hb hdg h k | exact sd_fcmp hexec hb hdg h k | exact sd_dup hexec hb hdg h k | exact sd_dup2 hexec hb hdg h k | exact sd_pop hexec hb hdg h k
theorem sd_br (hexec : p.tables.exec = Jvm.exec) (hb : c.code = cc) {i : Instr} {off : Int} {tgt : Nat} {st r : List Value} {t : Bool} (hdg : decode cc pc = .ok (i, 3)) (ho : i = .goto off ∨ i = .ifnonnull off ∨ (∃ cd, i = .ifCond cd off) ∨ ∃ cd, i = .if_icmp cd off) (ht : (pc : Int) + off = (tgt : Int)) (h : qBr i st = some (t, r))
    (kt : t = true → W p l e R s m args below meth c H locs cells slots Q (F0 m tgt ls r)) (kf : t = false → W p l e R s m args below meth c H locs cells slots Q (F0 m (pc + 3) ls r)) : W p l e R s m args below meth c H locs cells slots Q (F0 m pc ls st) := by
  rcases ho with rfl | rfl | ⟨cd, rfl⟩ | ⟨cd, rfl⟩
  · dsimp only [qBr] at h
    cases h
    exact lv_goto hexec hb hdg ht (kt rfl)
  · dsimp only [qBr] at h
    split at h
    · cases h; exact lv_ifnonnull hexec hb hdg ht (kt rfl)
    · cases h; exact lv_ifnonnullN hexec hb hdg (kf rfl)
    · cases h
  · cases cd
    · dsimp only [qBr] at h
      split at h
      · cases h; exact lv_if_eq hexec hb hdg ht (fun q => kt (decide_eq_true q)) (fun q => kf (decide_eq_false q))
      · cases h
    · dsimp only [qBr] at h
      split at h
      · cases h; exact lv_if_ne hexec hb hdg ht (fun q => kt (by simp [q])) (fun q => kf (by simpa using q))
      · cases h
    · dsimp only [qBr] at h
      split at h
      · cases h; exact lv_if_lt hexec hb hdg ht (fun q => kt (decide_eq_true q)) (fun q => kf (decide_eq_false q))
      · cases h
    · dsimp only [qBr] at h
      split at h
      · cases h; exact lv_if_ge hexec hb hdg ht (fun q => kt (decide_eq_true q)) (fun q => kf (decide_eq_false q))
      · cases h
    · dsimp only [qBr] at h
      split at h
      · cases h; exact lv_if_gt hexec hb hdg ht (fun q => kt (decide_eq_true q)) (fun q => kf (decide_eq_false q))
      · cases h
    · dsimp only [qBr] at h
      split at h
      · cases h; exact lv_if_le hexec hb hdg ht (fun q => kt (decide_eq_true q)) (fun q => kf (decide_eq_false q))
      · cases h
  · cases cd
    · dsimp only [qBr] at h
      split at h
      · cases h; exact lv_icmp_eq hexec hb hdg ht (fun q => kt (decide_eq_true q)) (fun q => kf (decide_eq_false q))
      · cases h
    · dsimp only [qBr] at h
      split at h
      · cases h; exact lv_icmp_ne hexec hb hdg ht (fun q => kt (by simp [q])) (fun q => kf (by simpa using q))
      · cases h
    · dsimp only [qBr] at h
      split at h
      · cases h; exact lv_icmp_lt hexec hb hdg ht (fun q => kt (decide_eq_true q)) (fun q => kf (decide_eq_false q))
      · cases h
    · dsimp only [qBr] at h
      split at h
      · cases h; exact lv_icmp_ge hexec hb hdg ht (fun q => kt (decide_eq_true q)) (fun q => kf (decide_eq_false q))
      · cases h
    · dsimp only [qBr] at h
      split at h
      · cases h; exact lv_icmp_gt hexec hb hdg ht (fun q => kt (decide_eq_true q)) (fun q => kf (decide_eq_false q))
      · cases h
    · dsimp only [qBr] at h
      split at h
      · cases h; exact lv_icmp_le hexec hb hdg ht (fun q => kt (decide_eq_true q)) (fun q => kf (decide_eq_false q))
      · cases h
end SND1
