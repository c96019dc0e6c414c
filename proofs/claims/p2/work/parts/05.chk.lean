/-! what the machine's tables say of the program's own bytes and words: checked by program -/
def mm_raw (i : Instr) : Instr := match i with
  | .getfield r => .getfield (mm_fld r).2.1
  | .putfield r => .putfield (mm_fld r).2.1
  | .invokevirtual r => .invokevirtual (mm_mr r).2.1
  | .invokespecial r => .invokespecial (mm_mr r).2.1
  | .invokestatic r => .invokestatic (mm_mr r).2.1
  | .new r => .new (mm_crf r).2.1
  | .anewarray r => .anewarray (mm_arf r).2.1
  | .ldc r => .ldc (mm_krf r).2.1
  | .ldc_w r => .ldc_w (mm_krf r).2.1
  | .ldc2_w r => .ldc2_w (mm_k2f r).2.1
  | i => i
def mm_ownOk (y : Nat) (i : Instr) : Bool := match i with
  | .getfield r | .putfield r => decide ((mm_fld r).1 = mm_own y) && decide (r < mm_FR.length)
  | .invokevirtual r | .invokespecial r | .invokestatic r => decide ((mm_mr r).1 = mm_own y) && decide (r < mm_MR.length)
  | .new r => decide ((mm_crf r).1 = mm_own y) && decide (r < mm_CR.length)
  | .anewarray r => decide ((mm_arf r).1 = mm_own y) && decide (r < mm_AR.length)
  | .ldc r | .ldc_w r => decide ((mm_krf r).1 = mm_own y) && decide (r < mm_KR.length)
  | .ldc2_w r => decide ((mm_k2f r).1 = mm_own y) && decide (r < mm_K2.length)
  | _ => true
def mm_ln (i : Instr) (len : Nat) : Nat := match i with
  | .aload _ | .iload _ | .lload _ | .istore _ | .astore _ | .lstore _ | .bipush _ | .ldc _ | .newarray _ => 2
  | .iinc _ _ | .sipush _ | .ldc_w _ | .ldc2_w _ | .goto _ | .ifCond _ _ | .if_icmp _ _ | .ifnull _ | .ifnonnull _ | .getfield _ | .putfield _ | .invokevirtual _ | .invokespecial _ | .invokestatic _ | .new _ | .anewarray _ => 3
  | .tableswitch _ _ _ _ => len
  | _ => 1
def mm_okE (y pc : Nat) : Bool := match mm_fetch y pc with
  | none => true
  | some (i, len) => mm_ownOk y i && (match decode (mm_by y) pc with
    | .ok (i1, n1) => decide (i1 = mm_raw i) && decide (n1 = mm_ln i len)
    | _ => false)
def mm_okM (y : Nat) : Bool := (List.range (mm_ct.getD y []).length).all (mm_okE y)
