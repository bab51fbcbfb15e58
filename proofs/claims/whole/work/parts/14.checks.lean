/-! ===== The data are the claim's: decided by the kernel ===== -/
/-- words that stay while the tables warm -/
def gX (w : Cond) : Bool := goodWord w || (match w with
  | .methodLinkNest .. => true
  | .declares _ => true
  | .castable .. => true
  | .arrayOver (.object _) => true
  | _ => false)
def GW : List Cond := lw_tbl.filter gX
theorem gX_warm {w : Cond} (hg : gX w = true) {s U : State} (hW : s.WarmedH U.vm) {a a' : Array Value} (h : w.before a s = true) : w.before a' U = true := by
  unfold gX at hg
  rw [Bool.or_eq_true] at hg
  rcases hg with hg | hg
  · exact word_at hW (good_of_word hg) h
  · split at hg
    · exact va_Nw.use rfl (va_Nw.warmM hW (va_Nw.of rfl h))
    · exact va_Nw.use rfl (va_Nw.warmD hW (va_Nw.of rfl h))
    · exact va_Nw.use rfl (va_Nw.warmC hW (va_Nw.of rfl h))
    · exact va_AO.use (va_AO.moved hW.alike (va_AO.of h))
    · cases hg
def qWd (i : Nat) : Cond := lw_tbl.getD i .tt
/-- the word at a place is this one, and good -/
def qIsW (i : Nat) (w : Cond) : Bool := decide (lw_tbl[i]? = some w) && gX w
theorem qIsW_mem {i : Nat} {w : Cond} (h : qIsW i w = true) : w ∈ GW := by
  unfold qIsW at h
  rw [Bool.and_eq_true, decide_eq_true_eq] at h
  exact List.mem_filter.mpr ⟨List.mem_of_getElem? h.1, h.2⟩
def tLay : List (List Nat) := [[266, 268, 270, 272, 274, 276, 278, 280, 282, 284, 286, 288, 290, 292, 294], [391, 393, 395, 397, 399], [146, 148, 150, 152, 154, 156], [367, 369, 371, 373], [184, 186, 188, 190, 192, 194], [348, 350, 352], [117, 119, 121], [217, 219, 221, 223, 225], [317, 319, 321, 323, 325, 327, 329, 331], [409, 411, 413, 415, 417, 419], [1350, 1352, 1354, 1356, 1358, 1360, 1362, 1364, 1366, 1368, 1370, 1372, 1374, 1376, 1378, 1380, 1382, 1384, 1386, 1388, 1390, 1392, 1394, 1396]]
def qClsOk (ci : Nat) : Bool := match qCl[ci]? with
  | some (C, T, N) => decide (N = (tLay.getD ci []).length) && (List.range N).all (fun k => qIsW ((tLay.getD ci []).getD k 0) (u_lay C T k) && decide (parseFieldDescriptor (T k).2.2.1 = some (tTy ci k)) && decide ((T k).1 = C) && (List.range N).all (fun j => decide (j = k) || decide ((T j).2.1 ≠ (T k).2.1)))
    && qIsW ((tMk.getD ci (0, 0)).1) (.instantiable C N) && qIsW ((tMk.getD ci (0, 0)).2) (.initialized C) && decide (C = tCls.getD ci "") && decide (tFl ci 0 = T 0)
  | none => false
theorem qCls_ok : ∀ ci, ci < 11 → qClsOk ci = true := by decide +kernel
def qY (m : Nat) : MethodName := tY.getD m ⟨"", "", ""⟩
def qC (m : Nat) : ByteArray := tC.getD m ⟨#[]⟩
def qRt (m : Nat) : Option FieldType := tR.getD m none
def qLx (m : Nat) : Nat := tL.getD m 0
def qHt (m : Nat) : Nat := tHt.getD m 0
def qHh (m : Nat) : List (Nat × Nat × Nat × Nat) := (tH.getD m []).map (fun h => (h.1, h.2.1, h.2.2.2.2.2.1, h.2.2.2.2.2.2.1))
def qHead (m : Nat) : Cond := match tH.getD m [] with
  | [] => .code (qY m) (qC m) (qLx m) (qRt m)
  | _ => .codeWith (qY m) (qC m) (qLx m) (qRt m) (qHh m)
def qPc (es : List qEnt) : Nat := match es with
  | e :: _ => e.1
  | [] => 0
def qTg (t : Nat) : FieldType := match t with
  | 0 => .int
  | 1 => .long
  | 2 => .byte
  | 3 => .char
  | 4 => .boolean
  | 5 => .double
  | t => .object (tCls.getD (t - 10) "")
def qRefTag (t : Nat) : Bool := t == 10 || t == 12 || t == 14 || t == 17
def qFldOk (own : String) (idx : Nat) (lk : List Nat) : Bool := match lk with
  | w :: ci :: k :: _ => decide (ci < 11) && decide (k < tN.getD ci 0) && qIsW w (.fieldLink own idx (tFl ci k).1 (tFl ci k).2.1 (tFl ci k).2.2.1)
  | _ => false
def qPutOk (m : Nat) (lk : List Nat) : Bool := match lk with
  | _ :: ci :: k :: t :: _ => (match tTy ci k with
      | .int => t == 0
      | .long => t == 1
      | .object _ => t == 2
      | .array _ => t == 2
      | _ => false) && (!(tFl ci k).2.2.2 || (decide ((qY m).name = "<init>") && decide ((tFl ci k).1 = (qY m).cls)))
  | _ => false
def qEName (E : Nat) : String := if E = 101 then "java/lang/IllegalArgumentException" else "java/lang/IndexOutOfBoundsException"
def qExNames : List String := ["java/lang/RuntimeException", "java/lang/Exception"]
def qNewOk (m pc idx : Nat) (lk : List Nat) : Bool := match lk with
  | w :: ci :: n :: r => if ci < 100 then decide (ci < 11) && qIsW w (.classLink (qY m).cls idx (tCls.getD ci "")) && decide (n = tN.getD ci 0)
    else match r with
      | is :: ic :: wd :: _ => decide (ci = 101 ∨ ci = 102) && decide ((qY m).cls = "EnvelopeBudget") && decide (ic = if ci = 101 then 107 else 194) && qIsW w (.classLink (qY m).cls idx (qEName ci)) && decide (7 ≤ qHt m) && decide (tH.getD m [] = []) && (tMsg.any (fun q => decide (q.1 = (qY m).cls) && q.2.1 == is))
        && decide (decode (qC m) (pc + 3) = .ok (.dup, 1)) && (if wd = 0 then decide (decode (qC m) (pc + 4) = .ok (.ldc is, 2)) && decide (decode (qC m) (pc + 6) = .ok (.invokespecial ic, 3)) && decide (decode (qC m) (pc + 9) = .ok (.athrow, 1))
          else decide (decode (qC m) (pc + 4) = .ok (.ldc_w is, 3)) && decide (decode (qC m) (pc + 7) = .ok (.invokespecial ic, 3)) && decide (decode (qC m) (pc + 10) = .ok (.athrow, 1)))
      | _ => false
  | _ => false
/-- a method's own words: its code, what it is, who selects it -/
def qMOk (m : Nat) : Bool := match tK.getD m (9, 0, 0, 0, 0) with
  | (kd, w1, w2, w3, w4) => qIsW w1 (qHead m) && (if kd = 1 then qIsW w2 (.static (qY m)) else qIsW w2 (.instanceMethod (qY m))) && (if kd = 0 then qIsW w3 (.selects (qY m).cls (qY m) (qY m)) else true)
    && (if kd = 2 then decide ((qY m).name = "<init>") && decide (qRt m = none) else true) && qIsW w4 (.initialized (qY m).cls) && decide ((qY m).cls ≠ "java/lang/invoke/MethodHandle" ∧ (qY m).cls ≠ "java/lang/invoke/VarHandle") && plainFor (qY m) && decide (qLx m ≤ 16) && (if kd = 1 then true else decide (tH.getD m [] = []))
def qLen : Instr → Nat
  | .bipush _ | .ldc _ | .iload _ | .lload _ | .fload _ | .dload _ | .aload _ | .istore _ | .lstore _ | .fstore _ | .dstore _ | .astore _ | .newarray _ => 2
  | .sipush _ | .ldc_w _ | .ldc2_w _ | .iinc _ _ | .ifCond _ _ | .if_icmp _ _ | .goto _ | .ifnonnull _ | .getfield _ | .putfield _ | .invokevirtual _ | .invokespecial _ | .invokestatic _ | .new _ | .anewarray _ => 3
  | _ => 1
def qKd (m : Nat) : Nat := (tK.getD m (9, 0, 0, 0, 0)).1
def qInvOk (m idx : Nat) (vi : Nat) (lk : List Nat) : Bool := match lk with
  | k :: r => if k = 5 then vi == 1 && qIsW (r.getD 0 0) (.methodLink (qY m).cls idx objectInit) && decide (2 ≤ qHt m)
    else if k = 6 then vi == 0 && qIsW (r.getD 0 0) (.methodLink (qY m).cls idx ⟨"java/lang/String", "length", "()I"⟩) && decide (7 ≤ qHt m)
    else if k = 7 then vi == 0 && qIsW (r.getD 0 0) (.methodLink (qY m).cls idx ⟨"java/lang/String", "charAt", "(I)C"⟩) && decide (7 ≤ qHt m)
    else if k = 8 then vi == 2 && qIsW (r.getD 0 0) (.methodLink (qY m).cls idx ⟨"java/lang/System", "arraycopy", "(Ljava/lang/Object;ILjava/lang/Object;II)V"⟩) && decide (2 ≤ qHt m)
    else match r with
      | m' :: n :: w :: _ => decide (m' < 318) && decide (qHt m' < qHt m) && (match parseMethodDescriptor (qY m').desc with
          | some d => decide (n = d.parameters.length + (if vi = 2 then 0 else 1))
          | none => false) && (if k = 2 ∨ k = 4 then qIsW w (.methodLinkNest (qY m).cls idx (qY m') "EnvelopeBudget") else qIsW w (.methodLink (qY m).cls idx (qY m')))
        && (if k = 0 then vi == 0 && decide (qKd m' = 0) && decide (tH.getD m' [] = []) && (decide (r.getD 3 99 < 11) && decide (tCls.getD (r.getD 3 99) "" = (qY m').cls)) else if k = 1 ∨ k = 2 then vi == 1 && decide (qKd m' = 2) && decide (tH.getD m' [] = []) else if k = 3 ∨ k = 4 then vi == 2 && decide (qKd m' = 1) && decide (tH.getD m' [] = []) else k == 9 && vi == 2 && decide (qKd m' = 1) && decide (tH.getD m' [] ≠ []))
      | _ => false
  | _ => false
def qTabOk (m pc : Nat) : List Int → List Nat → Bool
  | [], [] => true
  | o :: os, b :: bs => decide ((pc : Int) + o = (qPc (PG.1 m b) : Int)) && qTabOk m pc os bs
  | _, _ => false
def qEntOk (m : Nat) (e : qEnt) : Bool := match e with
  | (pc, len, i, lk, cv) => match i with
    | .nop => (match lk with
        | b :: _ => decide (qPc (PG.1 m b) = pc)
        | _ => false)
    | .tableswitch d lo hi offs => decide (decode (qC m) pc = .ok (.tableswitch d lo hi offs, len)) && decide (lo = 0) && decide (hi + 1 = (offs.size : Int)) && (match lk with
        | b :: bs => decide ((pc : Int) + d = (qPc (PG.1 m b) : Int)) && qTabOk m pc offs.toList bs
        | _ => false)
    | i => decide (decode (qC m) pc = .ok (i, len)) && len == qLen i && (match i with
      | .iconst n => decide (cv = .int (Int32.ofInt n))
      | .bipush n => decide (cv = .int (Int8.ofInt n).toInt32)
      | .sipush n => decide (cv = .int (Int16.ofInt n).toInt32)
      | .lconst n => decide (cv = .long (Int64.ofNat (n : Nat)))
      | .fconst n => (n == 0 && decide (cv = .float FP.fconst0)) || (n == 1 && decide (cv = .float FP.fconst1))
      | .dconst n => (n == 0 && decide (cv = .double FP.dconst0)) || (n == 1 && decide (cv = .double FP.dconst1))
      | .ldc idx => (match cv with
          | .int v => qIsW (lk.getD 0 0) (.constant (qY m).cls idx v)
          | .retAddr k => tStr.any (fun q => decide (q.1 = (qY m).cls) && q.2.1 == idx && q.2.2.2 == k)
          | _ => false)
      | .ldc_w idx => (match cv with
          | .int v => qIsW (lk.getD 0 0) (.constant (qY m).cls idx v)
          | _ => false)
      | .ldc2_w idx => (match cv with
          | .long v => qIsW (lk.getD 0 0) (.constantLong (qY m).cls idx v)
          | _ => false)
      | .getfield idx => qFldOk (qY m).cls idx lk
      | .putfield idx => qFldOk (qY m).cls idx lk && qPutOk m lk
      | .iinc k _ => decide (k < qLx m)
      | .istore k | .fstore k | .astore k => decide (k < qLx m)
      | .istore_n k | .fstore_n k | .astore_n k => decide (k.val < qLx m)
      | .lstore k | .dstore k => decide (k + 1 < qLx m)
      | .lstore_n k | .dstore_n k => decide (k.val + 1 < qLx m)
      | .ifCond _ o | .if_icmp _ o | .goto o | .ifnonnull o => (match lk with
          | b :: _ => decide ((pc : Int) + o = (qPc (PG.1 m b) : Int))
          | _ => false)
      | .new idx => qNewOk m pc idx lk
      | .newarray t => (match lk with
          | g :: _ => decide (g < 6) && decide (newarray.typeOf t = qTg g)
          | _ => false)
      | .anewarray idx => (match lk with
          | w :: g :: _ => qRefTag g && qIsW w (.classLink (qY m).cls idx (tCls.getD (g - 10) ""))
          | _ => false)
      | .aaload | .aastore => (match lk with
          | g :: _ => qRefTag g
          | _ => false)
      | .baload | .bastore => (match lk with
          | g :: _ => g == 2 || g == 4
          | _ => false)
      | .invokevirtual idx => qInvOk m idx 0 lk
      | .invokespecial idx => qInvOk m idx 1 lk
      | .invokestatic idx => qInvOk m idx 2 lk
      | .ireturn => (match qRt m with
          | some .int => tZ.getD m 0 == 0
          | some .boolean => tZ.getD m 0 == 1
          | some .char => false
          | _ => false)
      | .lreturn => decide (qRt m = some .long)
      | .freturn => decide (qRt m = some .float)
      | .dreturn => decide (qRt m = some .double)
      | .areturn => (match qRt m with
          | some (.object _) => true
          | _ => false)
      | .return_ => decide (qRt m = none)
      | _ => true)
def qSeqOk (m : Nat) : List qEnt → Bool
  | [] => true
  | [e] => qEntOk m e
  | e :: e' :: r => qEntOk m e && e'.1 == e.1 + e.2.1 && qSeqOk m (e' :: r)
def qBlocksOk (m : Nat) : Bool := (tB.getD m []).all (fun es => qSeqOk m es)
