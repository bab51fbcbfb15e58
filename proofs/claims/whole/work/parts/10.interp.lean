/-! ===== A small machine of our own: entries with their links resolved, locals as a list, a heap of cells as a function. 'qRun' runs it by fuel, 'qR' is its limit. What it answers is tied to the real machine in 20.sound. ===== -/
/-- pc, length, instruction, resolved link, constant -/
abbrev qEnt : Type := Nat × Nat × Instr × List Nat × Value
abbrev qLV : Type := List (Option Value)
/-- an array (its tag, its length, what it holds) or an object (its number, its fields) -/
abbrev qAC : Type := (Nat × vp_A) ⊕ (Nat × List Value)
/-- the heap: how many cells, how many slots have been made, the cells -/
abbrev qHp : Type := Nat × Nat × (Nat → Option qAC)
/-- what a method comes to: a value, none, or the number of what was thrown; the heap behind it -/
abbrev qRes : Type := (Option Value ⊕ Nat) × qHp
abbrev qFr : Type := Nat × List qEnt × qLV × List Value × qHp
abbrev qAct : Type := Option (qRes ⊕ (qFr ⊕ (qFr × (qRes → Option (qRes ⊕ qFr)))))
/-- the program: blocks, which locals live at a block's start, handlers, locals of a method, what it returns (1: a truth value) -/
abbrev qPg : Type := (Nat → Nat → List qEnt) × (Nat → Nat → List Bool) × (Nat → Nat → Nat → Option (Nat × Nat)) × (Nat → Nat) × (Nat → Nat)
/-- the script: its cell, its length, its ints; where the constants' texts lie -/
abbrev qG : Type := Nat × Nat × (Nat → Int32) × (Nat → Nat)
def qSetC (h : qHp) (a : Nat) (c : qAC) : qHp := (h.1, h.2.1, fun q => if q = a then some c else h.2.2 q)
def qNewC (h : qHp) (c : qAC) (n : Nat) : qHp := (h.1 + 1, h.2.1 + n, fun q => if q = h.1 then some c else h.2.2 q)
def qGetF (h : qHp) (ci k a : Nat) : Option Value := match h.2.2 a with
  | some (.inr (c, fs)) => if c = ci then fs[k]? else none
  | _ => none
def qFit (t : Nat) (v : Value) : Bool := match v with
  | .int _ => t == 0
  | .long _ => t == 1
  | .ref _ => t == 2
  | _ => false
def qPutF (h : qHp) (ci k t a : Nat) (v : Value) : Option qHp := match h.2.2 a with
  | some (.inr (c, fs)) => if c = ci ∧ k < fs.length ∧ qFit t v = true then some (qSetC h a (.inr (c, fs.set k v))) else none
  | _ => none
def qIn (i : Int32) (n : Nat) : Bool := !(decide (i < 0) || decide (n ≤ i.toNatClampNeg))
def qLdI (h : qHp) (t a : Nat) (i : Int32) : Option Int32 := match h.2.2 a with
  | some (.inl (t', n, .inl f)) => if t' = t ∧ qIn i n = true then some (f i.toNatClampNeg) else none
  | _ => none
def qLdL (h : qHp) (a : Nat) (i : Int32) : Option Int64 := match h.2.2 a with
  | some (.inl (1, n, .inr (.inl f))) => if qIn i n = true then some (f i.toNatClampNeg) else none
  | _ => none
def qLdD (h : qHp) (a : Nat) (i : Int32) : Option UInt64 := match h.2.2 a with
  | some (.inl (5, n, .inr (.inr (.inr (.inl f))))) => if qIn i n = true then some (f i.toNatClampNeg) else none
  | _ => none
def qLdA (h : qHp) (t a : Nat) (i : Int32) : Option Value := match h.2.2 a with
  | some (.inl (t', n, .inr (.inr (.inr (.inr f))))) => if t' = t ∧ qIn i n = true then some (va_rf (f i.toNatClampNeg)) else none
  | _ => none
def qStI (h : qHp) (t a : Nat) (i x : Int32) : Option qHp := match h.2.2 a with
  | some (.inl (t', n, .inl f)) => if t' = t ∧ qIn i n = true then some (qSetC h a (.inl (t', n, .inl (upd f i.toNatClampNeg x)))) else none
  | _ => none
def qStL (h : qHp) (a : Nat) (i : Int32) (x : Int64) : Option qHp := match h.2.2 a with
  | some (.inl (1, n, .inr (.inl f))) => if qIn i n = true then some (qSetC h a (.inl (1, n, .inr (.inl (vp_updL f i.toNatClampNeg x))))) else none
  | _ => none
def qStD (h : qHp) (a : Nat) (i : Int32) (x : UInt64) : Option qHp := match h.2.2 a with
  | some (.inl (5, n, .inr (.inr (.inr (.inl f))))) => if qIn i n = true then some (qSetC h a (.inl (5, n, .inr (.inr (.inr (.inl (vf_upd f i.toNatClampNeg x))))))) else none
  | _ => none
def qIsO (h : qHp) (ci a : Nat) : Bool := match h.2.2 a with
  | some (.inr (c, _)) => c == ci
  | _ => false
def qStA (h : qHp) (t a : Nat) (i : Int32) (v : Nat) : Option qHp := match h.2.2 a with
  | some (.inl (t', n, .inr (.inr (.inr (.inr f))))) => if t' = t ∧ 10 ≤ t ∧ qIn i n = true ∧ qIsO h (t - 10) v = true then some (qSetC h a (.inl (t', n, .inr (.inr (.inr (.inr (va_up f i.toNatClampNeg (some v)))))))) else none
  | _ => none
/-- arraycopy between two arrays of longs -/
def qCpy (h : qHp) (a : Nat) (i : Int32) (b : Nat) (j n : Int32) : Option qHp := match h.2.2 a, h.2.2 b with
  | some (.inl (1, na, .inr (.inl f))), some (.inl (1, nb, .inr (.inl g))) =>
    if a ≠ b ∧ 0 ≤ i ∧ 0 ≤ j ∧ 0 ≤ n ∧ i.toNatClampNeg + n.toNatClampNeg ≤ na ∧ j.toNatClampNeg + n.toNatClampNeg ≤ nb then
      some (qSetC h b (.inl (1, nb, .inr (.inl (va_cpy f g i.toNatClampNeg j.toNatClampNeg n.toNatClampNeg))))) else none
  | _, _ => none
def qZero (t n : Nat) : qAC := .inl (t, n, if t = 1 then .inr (.inl (fun _ => 0)) else if t = 5 then .inr (.inr (.inr (.inl (fun _ => 0)))) else if 10 ≤ t then .inr (.inr (.inr (.inr (fun _ => none)))) else .inl (fun _ => 0))
/-- a constant's text, its signs as the fields of a thing of kind 99 -/
def qStr (h : qHp) (a : Nat) : Option (List Value) := match h.2.2 a with
  | some (.inr (99, fs)) => some fs
  | _ => none
-- locals
def qKill (L : qLV) (i : Nat) : qLV := match i with
  | 0 => L
  | j + 1 => match L[j]? with
    | some (some v) => if v.category = 2 then L.set j none else L
    | _ => L
def qS1 (L : qLV) (i : Nat) (v : Value) : qLV := (qKill L i).set i (some v)
def qS2 (L : qLV) (i : Nat) (v : Value) : qLV := ((qKill L i).set i (some v)).set (i + 1) none
def qLd (L : qLV) (i : Nat) : Option Value := match L[i]? with
  | some (some v) => some v
  | _ => none
def qMask : List Bool → qLV → qLV
  | true :: bs, v :: L => v :: qMask bs L
  | false :: bs, _ :: L => none :: qMask bs L
  | _, L => L.map (fun _ => none)
def qArgs : List Value → qLV
  | [] => []
  | .long x :: r => some (.long x) :: none :: qArgs r
  | .double x :: r => some (.double x) :: none :: qArgs r
  | v :: r => some v :: qArgs r
def qW : List Value → Nat
  | [] => 0
  | .long _ :: r => qW r + 2
  | .double _ :: r => qW r + 2
  | _ :: r => qW r + 1
def qPad (n : Nat) (L : qLV) : qLV := L ++ List.replicate (n - L.length) none
-- instructions that touch the stack alone; a constant is the entry's own
def qConst : Instr → Bool
  | .iconst _ | .bipush _ | .sipush _ | .lconst _ | .fconst _ | .dconst _ | .ldc _ | .ldc_w _ | .ldc2_w _ => true
  | _ => false
def qOp (i : Instr) (st : List Value) : Option (List Value) := match i with
  | .iadd => match st with
    | .int y :: .int x :: r => some (.int (x + y) :: r)
    | _ => none
  | .isub => match st with
    | .int y :: .int x :: r => some (.int (x - y) :: r)
    | _ => none
  | .imul => match st with
    | .int y :: .int x :: r => some (.int (x * y) :: r)
    | _ => none
  | .idiv => match st with
    | .int y :: .int x :: r => if y = 0 then none else some (.int (x / y) :: r)
    | _ => none
  | .irem => match st with
    | .int y :: .int x :: r => if y = 0 then none else some (.int (x - x / y * y) :: r)
    | _ => none
  | .ineg => match st with
    | .int x :: r => some (.int (-x) :: r)
    | _ => none
  | .iand => match st with
    | .int y :: .int x :: r => some (.int (x &&& y) :: r)
    | _ => none
  | .ior => match st with
    | .int y :: .int x :: r => some (.int (x ||| y) :: r)
    | _ => none
  | .ixor => match st with
    | .int y :: .int x :: r => some (.int (x ^^^ y) :: r)
    | _ => none
  | .ishl => match st with
    | .int y :: .int x :: r => some (.int (x <<< (y &&& 31)) :: r)
    | _ => none
  | .ishr => match st with
    | .int y :: .int x :: r => some (.int (x >>> (y &&& 31)) :: r)
    | _ => none
  | .iushr => match st with
    | .int y :: .int x :: r => some (.int (x.toUInt32 >>> (y.toUInt32 &&& Int32.toUInt32 31)).toInt32 :: r)
    | _ => none
  | .i2l => match st with
    | .int x :: r => some (.long x.toInt64 :: r)
    | _ => none
  | .l2i => match st with
    | .long x :: r => some (.int x.toInt32 :: r)
    | _ => none
  | .i2b => match st with
    | .int x :: r => some (.int x.toInt8.toInt32 :: r)
    | _ => none
  | .i2c => match st with
    | .int x :: r => some (.int (x.toUInt32 % 65536).toInt32 :: r)
    | _ => none
  | .ladd => match st with
    | .long y :: .long x :: r => some (.long (x + y) :: r)
    | _ => none
  | .lsub => match st with
    | .long y :: .long x :: r => some (.long (x - y) :: r)
    | _ => none
  | .lmul => match st with
    | .long y :: .long x :: r => some (.long (x * y) :: r)
    | _ => none
  | .ldiv => match st with
    | .long y :: .long x :: r => if y = 0 then none else some (.long (x / y) :: r)
    | _ => none
  | .lrem => match st with
    | .long y :: .long x :: r => if y = 0 then none else some (.long (x - x / y * y) :: r)
    | _ => none
  | .lneg => match st with
    | .long x :: r => some (.long (-x) :: r)
    | _ => none
  | .land => match st with
    | .long y :: .long x :: r => some (.long (x &&& y) :: r)
    | _ => none
  | .lor => match st with
    | .long y :: .long x :: r => some (.long (x ||| y) :: r)
    | _ => none
  | .lshl => match st with
    | .int y :: .long x :: r => some (.long (x <<< (y.toInt64 &&& 63)) :: r)
    | _ => none
  | .lshr => match st with
    | .int y :: .long x :: r => some (.long (x >>> (y.toInt64 &&& 63)) :: r)
    | _ => none
  | .lushr => match st with
    | .int y :: .long x :: r => some (.long (x.toUInt64 >>> (y.toInt64.toUInt64 &&& Int64.toUInt64 63)).toInt64 :: r)
    | _ => none
  | .lcmp => match st with
    | .long y :: .long x :: r => some (.int (lg_cmp x y) :: r)
    | _ => none
  | .dcmp op => match st with
    | .double y :: .double x :: r => some (.int (Op.cmpValue (FP.dcmp x y) op) :: r)
    | _ => none
  | .fcmp op => match st with
    | .float y :: .float x :: r => some (.int (Op.cmpValue (FP.fcmp x y) op) :: r)
    | _ => none
  | .l2d => match st with
    | .long x :: r => some (.double (FP.l2d x) :: r)
    | _ => none
  | .l2f => match st with
    | .long x :: r => some (.float (FP.l2f x) :: r)
    | _ => none
  | .i2d => match st with
    | .int x :: r => some (.double (FP.i2d x) :: r)
    | _ => none
  | .i2f => match st with
    | .int x :: r => some (.float (FP.i2f x) :: r)
    | _ => none
  | .ddiv => match st with
    | .double y :: .double x :: r => if FP.ddiv x y &&& 0x7fffffffffffffff ≤ 0x7ff0000000000000 then some (.double (FP.ddiv x y) :: r) else none
    | _ => none
  | .fdiv => match st with
    | .float y :: .float x :: r => if FP.fdiv x y &&& 0x7fffffff ≤ 0x7f800000 then some (.float (FP.fdiv x y) :: r) else none
    | _ => none
  | .f2d => match st with
    | .float x :: r => if FP.f2d x &&& 0x7fffffffffffffff ≤ 0x7ff0000000000000 then some (.double (FP.f2d x) :: r) else none
    | _ => none
  | .dup => match st with
    | .int x :: r => some (.int x :: .int x :: r)
    | .ref x :: r => some (.ref x :: .ref x :: r)
    | _ => none
  | .dup2 => match st with
    | .long x :: r => some (.long x :: .long x :: r)
    | .int x :: .ref y :: r => some (.int x :: .ref y :: .int x :: .ref y :: r)
    | _ => none
  | .pop => match st with
    | .int _ :: r => some r
    | _ => none
  | _ => none
def qBr (i : Instr) (st : List Value) : Option (Bool × List Value) := match i with
  | .ifCond .eq _ => match st with
    | .int x :: r => some (decide (x = 0), r)
    | _ => none
  | .ifCond .ne _ => match st with
    | .int x :: r => some (!decide (x = 0), r)
    | _ => none
  | .ifCond .lt _ => match st with
    | .int x :: r => some (decide (x < 0), r)
    | _ => none
  | .ifCond .ge _ => match st with
    | .int x :: r => some (decide (0 ≤ x), r)
    | _ => none
  | .ifCond .gt _ => match st with
    | .int x :: r => some (decide (0 < x), r)
    | _ => none
  | .ifCond .le _ => match st with
    | .int x :: r => some (decide (x ≤ 0), r)
    | _ => none
  | .if_icmp .eq _ => match st with
    | .int y :: .int x :: r => some (decide (x = y), r)
    | _ => none
  | .if_icmp .ne _ => match st with
    | .int y :: .int x :: r => some (!decide (x = y), r)
    | _ => none
  | .if_icmp .lt _ => match st with
    | .int y :: .int x :: r => some (decide (x < y), r)
    | _ => none
  | .if_icmp .ge _ => match st with
    | .int y :: .int x :: r => some (decide (y ≤ x), r)
    | _ => none
  | .if_icmp .gt _ => match st with
    | .int y :: .int x :: r => some (decide (y < x), r)
    | _ => none
  | .if_icmp .le _ => match st with
    | .int y :: .int x :: r => some (decide (x ≤ y), r)
    | _ => none
  | .ifnonnull _ => match st with
    | .ref _ :: r => some (true, r)
    | .null :: r => some (false, r)
    | _ => none
  | .goto _ => some (true, st)
  | _ => none
/-- which local a load reads, which one a store writes (and whether it is of two slots) -/
def qLdIx : Instr → Option Nat
  | .iload k | .lload k | .fload k | .dload k | .aload k => some k
  | .iload_n k | .lload_n k | .fload_n k | .dload_n k | .aload_n k => some k.val
  | _ => none
def qLdOk (i : Instr) (v : Value) : Bool := match i with
  | .iload _ | .iload_n _ => match v with
    | .int _ => true
    | _ => false
  | .lload _ | .lload_n _ => match v with
    | .long _ => true
    | _ => false
  | .fload _ | .fload_n _ => match v with
    | .float _ => true
    | _ => false
  | .dload _ | .dload_n _ => match v with
    | .double _ => true
    | _ => false
  | .aload _ | .aload_n _ => match v with
    | .ref _ => true
    | .null => true
    | _ => false
  | _ => false
def qStIx : Instr → Option Nat
  | .istore k | .lstore k | .fstore k | .dstore k | .astore k => some k
  | .istore_n k | .lstore_n k | .fstore_n k | .dstore_n k | .astore_n k => some k.val
  | _ => none
def qStOk (i : Instr) (v : Value) : Bool := match i with
  | .istore _ | .istore_n _ => match v with
    | .int _ => true
    | _ => false
  | .lstore _ | .lstore_n _ => match v with
    | .long _ => true
    | _ => false
  | .fstore _ | .fstore_n _ => match v with
    | .float _ => true
    | _ => false
  | .dstore _ | .dstore_n _ => match v with
    | .double _ => true
    | _ => false
  | .astore _ | .astore_n _ => match v with
    | .ref _ => true
    | .null => true
    | _ => false
  | _ => false
def qStW (L : qLV) (k : Nat) (v : Value) : qLV := match v with
  | .long _ => qS2 L k v
  | .double _ => qS2 L k v
  | _ => qS1 L k v
-- instructions over the heap: answers the stack and the heap
def qMem (G : qG) (i : Instr) (lk : List Nat) (st : List Value) (h : qHp) : Option (List Value × qHp) := match i with
  | .getfield _ => match lk, st with
    | _ :: ci :: k :: _, .ref a :: r => match qGetF h ci k a with
      | some v => some (v :: r, h)
      | none => none
    | _, _ => none
  | .putfield _ => match lk, st with
    | _ :: ci :: k :: t :: _, v :: .ref a :: r => match qPutF h ci k t a v with
      | some h' => some (r, h')
      | none => none
    | _, _ => none
  | .iaload => match st with
    | .int i :: .ref a :: r => match qLdI h 0 a i with
      | some v => some (.int v :: r, h)
      | none => if a = G.1 ∧ qIn i G.2.1 = true ∧ h.2.2 a = none then some (.int (G.2.2.1 i.toNatClampNeg) :: r, h) else none
    | _ => none
  | .baload => match lk, st with
    | t :: _, .int i :: .ref a :: r => match qLdI h t a i with
      | some v => some (.int v :: r, h)
      | none => none
    | _, _ => none
  | .caload => match st with
    | .int i :: .ref a :: r => match qLdI h 3 a i with
      | some v => some (.int v :: r, h)
      | none => none
    | _ => none
  | .laload => match st with
    | .int i :: .ref a :: r => match qLdL h a i with
      | some v => some (.long v :: r, h)
      | none => none
    | _ => none
  | .daload => match st with
    | .int i :: .ref a :: r => match qLdD h a i with
      | some v => some (.double v :: r, h)
      | none => none
    | _ => none
  | .aaload => match lk, st with
    | t :: _, .int i :: .ref a :: r => match qLdA h t a i with
      | some v => some (v :: r, h)
      | none => none
    | _, _ => none
  | .iastore => match st with
    | .int x :: .int i :: .ref a :: r => match qStI h 0 a i x with
      | some h' => some (r, h')
      | none => none
    | _ => none
  | .bastore => match lk, st with
    | t :: _, .int x :: .int i :: .ref a :: r => match qStI h t a i (if t = 2 then x.toInt8.toInt32 else x &&& 1) with
      | some h' => some (r, h')
      | none => none
    | _, _ => none
  | .castore => match st with
    | .int x :: .int i :: .ref a :: r => match qStI h 3 a i (x.toUInt32 % 65536).toInt32 with
      | some h' => some (r, h')
      | none => none
    | _ => none
  | .lastore => match st with
    | .long x :: .int i :: .ref a :: r => match qStL h a i x with
      | some h' => some (r, h')
      | none => none
    | _ => none
  | .dastore => match st with
    | .double x :: .int i :: .ref a :: r => match qStD h a i x with
      | some h' => some (r, h')
      | none => none
    | _ => none
  | .aastore => match lk, st with
    | t :: _, .ref v :: .int i :: .ref a :: r => match qStA h t a i v with
      | some h' => some (r, h')
      | none => none
    | _, _ => none
  | .arraylength => match st with
    | .ref a :: r => if a = G.1 ∧ h.2.2 a = none then some (.int (Int32.ofNat G.2.1) :: r, h) else none
    | _ => none
  | .newarray _ => match lk, st with
    | t :: _, .int n :: r => if 0 ≤ n ∧ n.toNatClampNeg ≤ 1000000 ∧ t < 10 then some (.ref h.1 :: r, qNewC h (qZero t n.toNatClampNeg) n.toNatClampNeg) else none
    | _, _ => none
  | .anewarray _ => match lk, st with
    | _ :: t :: _, .int n :: r => if 0 ≤ n ∧ n.toNatClampNeg ≤ 1000000 ∧ 10 ≤ t then some (.ref h.1 :: r, qNewC h (qZero t n.toNatClampNeg) n.toNatClampNeg) else none
    | _, _ => none
  | _ => none
/-- an object of class ci as it is born -/
def qBorn (ci : Nat) : List Value := match ci with
  | 0 => [.int 0, .long 0, .int 0, .int 0, .int 0, .int 0, .int 0, .int 0, .null, .null, .null, .null, .null, .null, .null]
  | 1 => [.null, .null, .null, .null, .int 0]
  | 2 => [.long 0, .long 0, .int 0, .int 0, .int 0, .int 0]
  | 3 => [.null, .null, .null, .int 0]
  | 4 => [.long 0, .int 0, .int 0, .int 0, .int 0, .int 0]
  | 5 => [.null, .int 0, .int 0]
  | 6 => [.null, .int 0, .int 0]
  | 7 => [.int 0, .int 0, .int 0, .int 0, .int 0]
  | 8 => [.null, .null, .int 0, .int 0, .int 0, .int 0, .int 0, .int 0]
  | 9 => [.null, .null, .null, .null, .null, .null]
  | 10 => [.null, .null, .null, .null, .null, .null, .int 0, .int 0, .null, .int 0, .int 0, .int 0, .int 0, .int 0, .int 0, .int 0, .int 0, .null, .null, .null, .null, .null, .null, .null]
  | _ => []
def qCatch (P : qPg) (m pc : Nat) (L : qLV) (E : Nat) (h : qHp) : Option (qRes ⊕ qFr) := match P.2.2.1 m pc E with
  | some (b, k) => some (.inr (m, (P.1 m b).tail, (qS1 L k .null).set k none, [], h))
  | none => some (.inl (.inr E, h))
/-- behind a call -/
def qBack (P : qPg) (m pc : Nat) (es : List qEnt) (L : qLV) (rest : List Value) (r : qRes) : Option (qRes ⊕ qFr) := match r.1 with
  | .inl (some v) => some (.inr (m, es, L, v :: rest, r.2))
  | .inl none => some (.inr (m, es, L, rest, r.2))
  | .inr E => qCatch P m pc L E r.2
def qEntry (P : qPg) (m : Nat) (args : List Value) (h : qHp) : qFr := (m, P.1 m 0, qPad (P.2.2.2.1 m) (qArgs args), [], h)
def qJump (P : qPg) (m b : Nat) (L : qLV) (st : List Value) (h : qHp) : qFr := (m, P.1 m b, qMask (P.2.1 m b) L, st, h)
/-- whom it calls: an object of the class that the link names, any object, nobody -/
def qRcv (k : Nat) (lr : List Nat) (h : qHp) (v : Option Value) : Bool := match k with
  | 0 => match lr, v with
    | _ :: ci :: _, some (.ref a) => qIsO h ci a
    | _, _ => false
  | 1 => match v with
    | some (.ref _) => true
    | _ => false
  | 2 => match v with
    | some (.ref _) => true
    | _ => false
  | _ => true
def qInv (P : qPg) (m pc : Nat) (es : List qEnt) (lk : List Nat) (L : qLV) (st : List Value) (h : qHp) : qAct := match lk with
  | 5 :: _ => match st with
    | .ref _ :: r => if 8 < qW r then none else some (.inr (.inl (m, es, L, r, h)))
    | _ => none
  | 6 :: _ => match st with
    | .ref a :: r => match qStr h a with
      | some fs => if 8 < qW r then none else some (.inr (.inl (m, es, L, .int (Int32.ofNat fs.length) :: r, h)))
      | none => none
    | _ => none
  | 7 :: _ => match st with
    | .int i :: .ref a :: r => match qStr h a with
      | some fs => if i < 0 ∨ 8 < qW r then none else match fs[i.toNatClampNeg]? with
        | some v => some (.inr (.inl (m, es, L, v :: r, h)))
        | none => none
      | none => none
    | _ => none
  | 8 :: _ => match st with
    | .int n :: .int j :: .ref b :: .int i :: .ref a :: r => match qCpy h a i b j n with
      | some h' => if 8 < qW r then none else some (.inr (.inl (m, es, L, r, h')))
      | none => none
    | _ => none
  | k :: m' :: n :: lr => if st.length < n ∨ 8 < qW (st.drop n) ∨ P.2.2.2.1 m' < (qArgs (st.take n).reverse).length ∨ qRcv k lr h st[n - 1]? = false then none else some (.inr (.inr (qEntry P m' (st.take n).reverse h, qBack P m pc es L (st.drop n))))
  | _ => none
def qTab (lk : List Nat) (x : Int32) : Option Nat := match lk with
  | d :: ls => if x < 0 then some d else some (ls.getD x.toNatClampNeg d)
  | [] => none
/-- an entry's constant; a text's is told by its place -/
def qCv (G : qG) (cv : Value) : Value := match cv with
  | .retAddr k => .ref (G.2.2.2 k)
  | v => v
def qStep (P : qPg) (G : qG) (x : qFr) : qAct := match x with
  | (m, es0, L, st, h) => match es0 with
    | [] => none
    | (pc, _, i, lk, cv) :: es => match i with
      | .nop => match lk with
        | b :: _ => some (.inr (.inl (qJump P m b L st h)))
        | _ => none
      | .iinc k n => match qLd L k with
        | some (.int x) => some (.inr (.inl (m, es, qS1 L k (.int (x + Int32.ofInt n)), st, h)))
        | _ => none
      | .tableswitch _ _ _ _ => match st with
        | .int x :: r => match qTab lk x with
          | some b => some (.inr (.inl (qJump P m b L r h)))
          | none => none
        | _ => none
      | .new _ => match lk with
        | _ :: ci :: n :: _ => if ci < 100 then some (.inr (.inl (m, es, L, .ref h.1 :: st, qNewC h (.inr (ci, qBorn ci)) n)))
          else match st with
            | [] => some (.inl (.inr ci, (h.1 + 1, h.2.1 + 6, h.2.2)))
            | _ => none
        | _ => none
      | .ireturn => match st with
        | [.int v] => if P.2.2.2.2 m = 1 then (if v = 0 ∨ v = 1 then some (.inl (.inl (some (.int v)), h)) else none) else some (.inl (.inl (some (.int v)), h))
        | _ => none
      | .lreturn => match st with
        | [.long v] => some (.inl (.inl (some (.long v)), h))
        | _ => none
      | .freturn => match st with
        | [.float v] => some (.inl (.inl (some (.float v)), h))
        | _ => none
      | .dreturn => match st with
        | [.double v] => some (.inl (.inl (some (.double v)), h))
        | _ => none
      | .areturn => match st with
        | [.ref v] => some (.inl (.inl (some (.ref v)), h))
        | _ => none
      | .return_ => match st with
        | [] => some (.inl (.inl none, h))
        | _ => none
      | .invokevirtual _ => qInv P m pc es lk L st h
      | .invokespecial _ => qInv P m pc es lk L st h
      | .invokestatic _ => qInv P m pc es lk L st h
      | _ => if qConst i = true then some (.inr (.inl (m, es, L, qCv G cv :: st, h))) else
        match qOp i st with
        | some st' => some (.inr (.inl (m, es, L, st', h)))
        | none => match qBr i st with
          | some (c, r) => match lk with
            | b :: _ => if c = true then some (.inr (.inl (qJump P m b L r h))) else some (.inr (.inl (m, es, L, r, h)))
            | _ => none
          | none => match qLdIx i with
            | some k => match qLd L k with
              | some v => if qLdOk i v = true then some (.inr (.inl (m, es, L, v :: st, h))) else none
              | none => none
            | none => match qStIx i with
              | some k => match st with
                | v :: r => if qStOk i v = true then some (.inr (.inl (m, es, qStW L k v, r, h))) else none
                | [] => none
              | none => match qMem G i lk st h with
                | some (st', h') => some (.inr (.inl (m, es, L, st', h')))
                | none => none
def qRun (P : qPg) (G : qG) : Nat → qFr → Option qRes
  | 0, _ => none
  | n + 1, x => match qStep P G x with
    | none => none
    | some (.inl r) => some r
    | some (.inr (.inl y)) => qRun P G n y
    | some (.inr (.inr (y, k))) => match qRun P G n y with
      | none => none
      | some r => match k r with
        | none => none
        | some (.inl r') => some r'
        | some (.inr z) => qRun P G n z
theorem qRun_succ (P : qPg) (G : qG) : ∀ (n : Nat) (x : qFr) (r : qRes), qRun P G n x = some r → qRun P G (n + 1) x = some r := by
  intro n
  induction n with
  | zero => intro x r h; cases h
  | succ n ih =>
    intro x r h
    rw [qRun] at h ⊢
    cases hs : qStep P G x with
    | none => rw [hs] at h; cases h
    | some a =>
      rw [hs] at h
      rcases a with r' | y | ⟨y, k⟩
      · exact h
      · exact ih y r h
      · dsimp only at h ⊢
        cases hy : qRun P G n y with
        | none => rw [hy] at h; cases h
        | some r1 =>
          rw [hy] at h
          rw [ih y r1 hy]
          dsimp only at h ⊢
          cases hk : k r1 with
          | none => rw [hk] at h; cases h
          | some z =>
            rw [hk] at h
            rcases z with r' | z
            · exact h
            · exact ih z r h
theorem qRun_le (P : qPg) (G : qG) {n k : Nat} (hnk : n ≤ k) {x : qFr} {r : qRes} (h : qRun P G n x = some r) : qRun P G k x = some r := by
  induction hnk with
  | refl => exact h
  | step _ ih => exact qRun_succ P G _ x r ih
/-- the limit -/
noncomputable def qR (P : qPg) (G : qG) (x : qFr) : Option qRes := by
  classical exact if h : ∃ n r, qRun P G n x = some r then qRun P G h.choose x else none
theorem qR_of {P : qPg} {G : qG} {n : Nat} {x : qFr} {r : qRes} (h : qRun P G n x = some r) : qR P G x = some r := by
  have hx : ∃ n r, qRun P G n x = some r := ⟨n, r, h⟩
  rw [qR, dif_pos hx]
  obtain ⟨r', h'⟩ := hx.choose_spec
  have h1 := qRun_le P G (Nat.le_max_left n hx.choose) h
  have h2 := qRun_le P G (Nat.le_max_right n hx.choose) h'
  rw [h', ← h1, ← h2]
theorem qR_ex {P : qPg} {G : qG} {x : qFr} {r : qRes} (h : qR P G x = some r) : ∃ n, qRun P G n x = some r := by
  rw [qR] at h
  split at h
  · rename_i hx; exact ⟨_, h⟩
  · cases h
theorem qR_none {P : qPg} {G : qG} {x : qFr} (h : ∀ n r, qRun P G n x ≠ some r) : qR P G x = none := by
  cases hx : qR P G x with
  | none => rfl
  | some r => obtain ⟨n, hn⟩ := qR_ex hx; exact absurd hn (h n r)
/-- what the limit satisfies -/
theorem qR_eq (P : qPg) (G : qG) (x : qFr) : qR P G x = match qStep P G x with
    | none => none
    | some (.inl r) => some r
    | some (.inr (.inl y)) => qR P G y
    | some (.inr (.inr (y, k))) => match qR P G y with
      | none => none
      | some r => match k r with
        | none => none
        | some (.inl r') => some r'
        | some (.inr z) => qR P G z := by
  cases hs : qStep P G x with
  | none =>
    refine qR_none fun n r h => ?_
    cases n with
    | zero => cases h
    | succ n => rw [qRun, hs] at h; cases h
  | some a =>
    rcases a with r' | y | ⟨y, k⟩
    · exact qR_of (n := 1) (by rw [qRun, hs])
    · dsimp only
      cases hy : qR P G y with
      | some r => obtain ⟨n, hn⟩ := qR_ex hy; exact qR_of (n := n + 1) (by rw [qRun, hs]; exact hn)
      | none =>
        refine qR_none fun n r h => ?_
        cases n with
        | zero => cases h
        | succ n => rw [qRun, hs] at h; rw [qR_of h] at hy; cases hy
    · dsimp only
      cases hy : qR P G y with
      | none =>
        refine qR_none fun n r h => ?_
        cases n with
        | zero => cases h
        | succ n =>
          rw [qRun, hs] at h
          dsimp only at h
          cases h1 : qRun P G n y with
          | none => rw [h1] at h; cases h
          | some r1 => rw [qR_of h1] at hy; cases hy
      | some r1 =>
        obtain ⟨n1, hn1⟩ := qR_ex hy
        dsimp only
        cases hk : k r1 with
        | none =>
          refine qR_none fun n r h => ?_
          cases n with
          | zero => cases h
          | succ n =>
            rw [qRun, hs] at h
            dsimp only at h
            cases h1 : qRun P G n y with
            | none => rw [h1] at h; cases h
            | some r2 =>
              have e := qR_of h1
              rw [hy] at e
              cases e
              rw [h1] at h
              dsimp only at h
              rw [hk] at h
              cases h
        | some z =>
          rcases z with r' | z
          · dsimp only
            exact qR_of (n := n1 + 1) (by rw [qRun, hs]; dsimp only; rw [hn1]; dsimp only; rw [hk])
          · dsimp only
            cases hz : qR P G z with
            | some r3 =>
              obtain ⟨n3, hn3⟩ := qR_ex hz
              refine qR_of (n := max n1 n3 + 1) ?_
              rw [qRun, hs]; dsimp only
              rw [qRun_le P G (Nat.le_max_left n1 n3) hn1]; dsimp only
              rw [hk]; dsimp only
              exact qRun_le P G (Nat.le_max_right n1 n3) hn3
            | none =>
              refine qR_none fun n r h => ?_
              cases n with
              | zero => cases h
              | succ n =>
                rw [qRun, hs] at h
                dsimp only at h
                cases h1 : qRun P G n y with
                | none => rw [h1] at h; cases h
                | some r2 =>
                  have e := qR_of h1
                  rw [hy] at e
                  cases e
                  rw [h1] at h
                  dsimp only at h
                  rw [hk] at h
                  dsimp only at h
                  rw [qR_of h] at hz
                  cases hz
