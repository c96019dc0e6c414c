/-! THE SMALL MACHINE: values, cells and runs as plain functions -/
abbrev mm_V : Type := Int32 ⊕ (Option Nat ⊕ Int64)
abbrev mm_C : Type := (Nat × List mm_V) ⊕ (Nat × Nat × ((Nat → Int32) ⊕ ((Nat → Int64) ⊕ (Nat → Option Nat))))
abbrev mm_M : Type := List mm_C
abbrev mm_L : Type := List (Nat × mm_V)
/-- place, locals, stack, memory -/
abbrev mm_S : Type := Nat × mm_L × List mm_V × mm_M
def mm_cat : mm_V → Nat
  | .inr (.inr _) => 2
  | _ => 1
def mm_lk : mm_L → Nat → Option mm_V
  | [], _ => none
  | q :: L, i => if q.1 = i then some q.2 else mm_lk L i
def mm_st1 (i : Nat) (v : mm_V) (L : mm_L) : mm_L := (i, v) :: L.filter (fun q => !(q.1 == i) && !(q.1 + 1 == i && mm_cat q.2 == 2))
def mm_st2 (i : Nat) (v : mm_V) (L : mm_L) : mm_L := (i, v) :: L.filter (fun q => !(q.1 == i) && (!(q.1 == i + 1) && !(q.1 + 1 == i && mm_cat q.2 == 2)))
def mm_cmp (c : Jvm.ClassFile.Cond) (x y : Int32) : Bool := match c with
  | .eq => decide (x = y)
  | .ne => !decide (x = y)
  | .lt => decide (x < y)
  | .ge => decide (y ≤ x)
  | .gt => decide (y < x)
  | .le => decide (x ≤ y)
def mm_tgt (pc : Nat) (off : Int) : Option Nat := if 0 ≤ (pc : Int) + off then some ((pc : Int) + off).toNat else none
def mm_br (b : Bool) (pc : Nat) (off : Int) (L : mm_L) (st : List mm_V) (M : mm_M) : Option mm_S :=
  match mm_tgt pc off with
  | none => none
  | some t => some (if b = true then t else pc + 3, L, st, M)
def mm_in (i : Int32) (n : Nat) : Bool := !(decide (i < 0)) && decide (i.toNatClampNeg < n)
/-- what a field of a type takes -/
def mm_okv (ty : FieldType) (v : mm_V) : Bool := match ty, v with
  | .int, .inl _ => true
  | .boolean, .inl x => decide (x = 0) || decide (x = 1)
  | .object _, .inr (.inl _) => true
  | .array _, .inr (.inl _) => true
  | .long, .inr (.inr _) => true
  | _, _ => false
def mm_dv (ty : FieldType) : mm_V := match ty with
  | .object _ => .inr (.inl none)
  | .array _ => .inr (.inl none)
  | .long => .inr (.inr 0)
  | _ => .inl 0
/-- the script's place; the texts' places -/
def mm_scr : Nat := 1000000
def mm_txt (i : Nat) : Nat := 1000001 + i
def mm_slen (i : Nat) : Nat := (mm_sb.getD i []).length
def mm_sch (i k : Nat) : Int32 := (mm_sb.getD i []).getD k 0
/-- the object at a place -/
def mm_ob (M : mm_M) (a : Nat) : Option (Nat × List mm_V) := match M[a]? with
  | some (.inl q) => some q
  | _ => none
def mm_ar (M : mm_M) (a : Nat) : Option (Nat × Nat × ((Nat → Int32) ⊕ ((Nat → Int64) ⊕ (Nat → Option Nat)))) := match M[a]? with
  | some (.inr q) => some q
  | _ => none
def mm_new (M : mm_M) (c : mm_C) : Option mm_M := if M.length < 1000000 then some (M ++ [c]) else none
/-- one instruction that is no call of an own method and no return; X: the script -/
def mm_step (X : Nat × (Nat → Int32)) (y : Nat) (i : Instr) (pc : Nat) (L : mm_L) (st : List mm_V) (M : mm_M) : Option mm_S :=
  match i with
  | .aload_n k => (match mm_lk L k with | some (.inr (.inl r)) => some (pc + 1, L, .inr (.inl r) :: st, M) | _ => none)
  | .aload k => (match mm_lk L k with | some (.inr (.inl r)) => some (pc + 2, L, .inr (.inl r) :: st, M) | _ => none)
  | .iload_n k => (match mm_lk L k with | some (.inl x) => some (pc + 1, L, .inl x :: st, M) | _ => none)
  | .iload k => (match mm_lk L k with | some (.inl x) => some (pc + 2, L, .inl x :: st, M) | _ => none)
  | .lload_n k => (match mm_lk L k with | some (.inr (.inr x)) => some (pc + 1, L, .inr (.inr x) :: st, M) | _ => none)
  | .lload k => (match mm_lk L k with | some (.inr (.inr x)) => some (pc + 2, L, .inr (.inr x) :: st, M) | _ => none)
  | .istore_n k => (match st with | .inl x :: st => if (k : Nat) < mm_mx y then some (pc + 1, mm_st1 k (.inl x) L, st, M) else none | _ => none)
  | .istore k => (match st with | .inl x :: st => if k < mm_mx y then some (pc + 2, mm_st1 k (.inl x) L, st, M) else none | _ => none)
  | .astore_n k => (match st with | .inr (.inl r) :: st => if (k : Nat) < mm_mx y then some (pc + 1, mm_st1 k (.inr (.inl r)) L, st, M) else none | _ => none)
  | .astore k => (match st with | .inr (.inl r) :: st => if k < mm_mx y then some (pc + 2, mm_st1 k (.inr (.inl r)) L, st, M) else none | _ => none)
  | .lstore_n k => (match st with | .inr (.inr x) :: st => if (k : Nat) + 1 < mm_mx y then some (pc + 1, mm_st2 k (.inr (.inr x)) L, st, M) else none | _ => none)
  | .lstore k => (match st with | .inr (.inr x) :: st => if k + 1 < mm_mx y then some (pc + 2, mm_st2 k (.inr (.inr x)) L, st, M) else none | _ => none)
  | .iinc k n => (match mm_lk L k with | some (.inl x) => if k < mm_mx y then some (pc + 3, mm_st1 k (.inl (x + Int32.ofInt n)) L, st, M) else none | _ => none)
  | .iconst n => some (pc + 1, L, .inl (Int32.ofInt n) :: st, M)
  | .bipush n => some (pc + 2, L, .inl (Int8.ofInt n).toInt32 :: st, M)
  | .sipush n => some (pc + 3, L, .inl (Int16.ofInt n).toInt32 :: st, M)
  | .aconst_null => some (pc + 1, L, .inr (.inl none) :: st, M)
  | .ldc r => (match (mm_krf r).2.2.1 with | .inl x => some (pc + 2, L, .inl x :: st, M) | .inr j => if j < 24 then some (pc + 2, L, .inr (.inl (some (mm_txt j))) :: st, M) else none)
  | .ldc_w r => (match (mm_krf r).2.2.1 with | .inl x => some (pc + 3, L, .inl x :: st, M) | .inr _ => none)
  | .ldc2_w r => some (pc + 3, L, .inr (.inr (mm_k2f r).2.2.1) :: st, M)
  | .iadd => (match st with | .inl y :: .inl x :: st => some (pc + 1, L, .inl (x + y) :: st, M) | _ => none)
  | .isub => (match st with | .inl y :: .inl x :: st => some (pc + 1, L, .inl (x - y) :: st, M) | _ => none)
  | .imul => (match st with | .inl y :: .inl x :: st => some (pc + 1, L, .inl (x * y) :: st, M) | _ => none)
  | .iand => (match st with | .inl y :: .inl x :: st => some (pc + 1, L, .inl (x &&& y) :: st, M) | _ => none)
  | .ior => (match st with | .inl y :: .inl x :: st => some (pc + 1, L, .inl (x ||| y) :: st, M) | _ => none)
  | .idiv => (match st with | .inl y :: .inl x :: st => if y = 0 then none else some (pc + 1, L, .inl (x / y) :: st, M) | _ => none)
  | .irem => (match st with | .inl y :: .inl x :: st => if y = 0 then none else some (pc + 1, L, .inl (x - x / y * y) :: st, M) | _ => none)
  | .ishl => (match st with | .inl y :: .inl x :: st => some (pc + 1, L, .inl (x <<< (y &&& 31)) :: st, M) | _ => none)
  | .ishr => (match st with | .inl y :: .inl x :: st => some (pc + 1, L, .inl (x >>> (y &&& 31)) :: st, M) | _ => none)
  | .ladd => (match st with | .inr (.inr y) :: .inr (.inr x) :: st => some (pc + 1, L, .inr (.inr (x + y)) :: st, M) | _ => none)
  | .lmul => (match st with | .inr (.inr y) :: .inr (.inr x) :: st => some (pc + 1, L, .inr (.inr (x * y)) :: st, M) | _ => none)
  | .lcmp => (match st with | .inr (.inr y) :: .inr (.inr x) :: st => some (pc + 1, L, .inl (lg_cmp x y) :: st, M) | _ => none)
  | .i2l => (match st with | .inl x :: st => some (pc + 1, L, .inr (.inr x.toInt64) :: st, M) | _ => none)
  | .l2i => (match st with | .inr (.inr x) :: st => some (pc + 1, L, .inl x.toInt32 :: st, M) | _ => none)
  | .i2c => (match st with | .inl x :: st => some (pc + 1, L, .inl (x.toUInt32 % 65536).toInt32 :: st, M) | _ => none)
  | .dup => (match st with | v :: st => if mm_cat v = 1 then some (pc + 1, L, v :: v :: st, M) else none | _ => none)
  | .pop => (match st with | v :: st => if mm_cat v = 1 then some (pc + 1, L, st, M) else none | _ => none)
  | .dup2 => (match st with | v :: w :: st => if mm_cat v = 1 ∧ mm_cat w = 1 then some (pc + 1, L, v :: w :: v :: w :: st, M) else none | _ => none)
  | .goto off => mm_br true pc off L st M
  | .ifCond c off => (match st with | .inl x :: st => mm_br (mm_cmp c x 0) pc off L st M | _ => none)
  | .if_icmp c off => (match st with | .inl y :: .inl x :: st => mm_br (mm_cmp c x y) pc off L st M | _ => none)
  | .ifnull off => (match st with | .inr (.inl r) :: st => mm_br r.isNone pc off L st M | _ => none)
  | .ifnonnull off => (match st with | .inr (.inl r) :: st => mm_br r.isSome pc off L st M | _ => none)
  | .tableswitch d lo hi os => (match st with
    | .inl x :: st =>
      if x.toInt < lo ∨ hi < x.toInt then (match mm_tgt pc d with | none => none | some t => some (t, L, st, M))
      else (match os[(x.toInt - lo).toNat]? with | none => none | some off => (match mm_tgt pc off with | none => none | some t => some (t, L, st, M)))
    | _ => none)
  | .getfield r => (match st with
    | .inr (.inl (some a)) :: st => (match mm_ob M a with
      | some (ci, fs) => if ci = (mm_fld r).2.2.1 ∧ (mm_fld r).2.2.2.1 < mm_N ci then (match fs[(mm_fld r).2.2.2.1]? with | some v => some (pc + 3, L, v :: st, M) | none => none) else none
      | none => none)
    | _ => none)
  | .putfield r => (match st with
    | v :: .inr (.inl (some a)) :: st => (match mm_ob M a with
      | some (ci, fs) => if ci = (mm_fld r).2.2.1 ∧ (mm_fld r).2.2.2.1 < mm_N ci ∧ (mm_fld r).2.2.2.1 < fs.length ∧ mm_okv (mm_ty ci (mm_fld r).2.2.2.1) v = true ∧ ((mm_T ci (mm_fld r).2.2.2.1).2.2.2 = true → mm_kd y = 1 ∧ mm_own y = ci)
        then some (pc + 3, L, st, M.set a (.inl (ci, fs.set (mm_fld r).2.2.2.1 v))) else none
      | none => none)
    | _ => none)
  | .arraylength => (match st with
    | .inr (.inl (some a)) :: st => if a = mm_scr then some (pc + 1, L, .inl (Int32.ofNat X.1) :: st, M) else (match mm_ar M a with
      | some (t, n, _) => if t < 5 then some (pc + 1, L, .inl (Int32.ofNat n) :: st, M) else none
      | none => none)
    | _ => none)
  | .iaload => (match st with
    | .inl i :: .inr (.inl (some a)) :: st => if a = mm_scr then (if mm_in i X.1 = true then some (pc + 1, L, .inl (X.2 i.toNatClampNeg) :: st, M) else none) else (match mm_ar M a with
      | some (t, n, .inl f) => if t = 0 ∧ mm_in i n = true then some (pc + 1, L, .inl (f i.toNatClampNeg) :: st, M) else none
      | _ => none)
    | _ => none)
  | .caload => (match st with
    | .inl i :: .inr (.inl (some a)) :: st => (match mm_ar M a with
      | some (t, n, .inl f) => if t = 1 ∧ mm_in i n = true then some (pc + 1, L, .inl (f i.toNatClampNeg) :: st, M) else none
      | _ => none)
    | _ => none)
  | .baload => (match st with
    | .inl i :: .inr (.inl (some a)) :: st => (match mm_ar M a with
      | some (t, n, .inl f) => if t = 2 ∧ mm_in i n = true then some (pc + 1, L, .inl (f i.toNatClampNeg) :: st, M) else none
      | _ => none)
    | _ => none)
  | .laload => (match st with
    | .inl i :: .inr (.inl (some a)) :: st => (match mm_ar M a with
      | some (t, n, .inr (.inl f)) => if t = 3 ∧ mm_in i n = true then some (pc + 1, L, .inr (.inr (f i.toNatClampNeg)) :: st, M) else none
      | _ => none)
    | _ => none)
  | .aaload => (match st with
    | .inl i :: .inr (.inl (some a)) :: st => (match mm_ar M a with
      | some (t, n, .inr (.inr f)) => if t = 4 ∧ mm_in i n = true then some (pc + 1, L, .inr (.inl (f i.toNatClampNeg)) :: st, M) else none
      | _ => none)
    | _ => none)
  | .iastore => (match st with
    | .inl x :: .inl i :: .inr (.inl (some a)) :: st => (match mm_ar M a with
      | some (t, n, .inl f) => if t = 0 ∧ mm_in i n = true then some (pc + 1, L, st, M.set a (.inr (t, n, .inl (upd f i.toNatClampNeg x)))) else none
      | _ => none)
    | _ => none)
  | .castore => (match st with
    | .inl x :: .inl i :: .inr (.inl (some a)) :: st => (match mm_ar M a with
      | some (t, n, .inl f) => if t = 1 ∧ mm_in i n = true then some (pc + 1, L, st, M.set a (.inr (t, n, .inl (upd f i.toNatClampNeg (vp_nar .char x))))) else none
      | _ => none)
    | _ => none)
  | .bastore => (match st with
    | .inl x :: .inl i :: .inr (.inl (some a)) :: st => (match mm_ar M a with
      | some (t, n, .inl f) => if t = 2 ∧ mm_in i n = true then some (pc + 1, L, st, M.set a (.inr (t, n, .inl (upd f i.toNatClampNeg (vp_nar .boolean x))))) else none
      | _ => none)
    | _ => none)
  | .lastore => (match st with
    | .inr (.inr x) :: .inl i :: .inr (.inl (some a)) :: st => (match mm_ar M a with
      | some (t, n, .inr (.inl f)) => if t = 3 ∧ mm_in i n = true then some (pc + 1, L, st, M.set a (.inr (t, n, .inr (.inl (vp_updL f i.toNatClampNeg x))))) else none
      | _ => none)
    | _ => none)
  | .aastore => (match st with
    | .inr (.inl (some v)) :: .inl i :: .inr (.inl (some a)) :: st => (match mm_ar M a, mm_ob M v with
      | some (t, n, .inr (.inr f)), some (ci, _) => if t = 4 ∧ ci = 4 ∧ mm_in i n = true then some (pc + 1, L, st, M.set a (.inr (t, n, .inr (.inr (va_up f i.toNatClampNeg (some v)))))) else none
      | _, _ => none)
    | _ => none)
  | .new r => if (mm_crf r).2.2.1 < 11 then (match mm_new M (.inl ((mm_crf r).2.2.1, (mm_fl.getD (mm_crf r).2.2.1 []).map (fun q => mm_dv q.2.2.2.2))) with | some M1 => some (pc + 3, L, .inr (.inl (some M.length)) :: st, M1) | none => none) else none
  | .newarray t => (match st with
    | .inl n :: st => if n < 0 then none else if 67108864 < n.toNatClampNeg then none else (match t with
      | .int => (match mm_new M (.inr (0, n.toNatClampNeg, .inl (fun _ => 0))) with | some M1 => some (pc + 2, L, .inr (.inl (some M.length)) :: st, M1) | none => none)
      | .char => (match mm_new M (.inr (1, n.toNatClampNeg, .inl (fun _ => 0))) with | some M1 => some (pc + 2, L, .inr (.inl (some M.length)) :: st, M1) | none => none)
      | .boolean => (match mm_new M (.inr (2, n.toNatClampNeg, .inl (fun _ => 0))) with | some M1 => some (pc + 2, L, .inr (.inl (some M.length)) :: st, M1) | none => none)
      | .long => (match mm_new M (.inr (3, n.toNatClampNeg, .inr (.inl (fun _ => 0)))) with | some M1 => some (pc + 2, L, .inr (.inl (some M.length)) :: st, M1) | none => none)
      | _ => none)
    | _ => none)
  | .anewarray r => (match st with
    | .inl n :: st => if n < 0 then none else if 67108864 < n.toNatClampNeg then none else (match mm_new M (.inr (4, n.toNatClampNeg, .inr (.inr (fun _ => none)))) with | some M1 => some (pc + 3, L, .inr (.inl (some M.length)) :: st, M1) | none => none)
    | _ => none)
  | .invokespecial r => (match st with
    | .inr (.inl (some _)) :: st => if (mm_mr r).2.2.1 = 1000 ∧ 1 ≤ mm_fr y ∧ 20 ≤ mm_lo y ∧ (st.map mm_cat).sum ≤ 8 then some (pc + 3, L, st, M) else none
    | _ => none)
  | .invokestatic r => (match st with
    | .inl y0 :: .inl x0 :: st =>
      if 1 ≤ mm_fr y ∧ 21 ≤ mm_lo y ∧ (st.map mm_cat).sum ≤ 8 then
        (if (mm_mr r).2.2.1 = 1001 then some (pc + 3, L, .inl (if y0 < x0 then y0 else x0) :: st, M) else if (mm_mr r).2.2.1 = 1002 then some (pc + 3, L, .inl (if x0 < y0 then y0 else x0) :: st, M) else none)
      else none
    | _ => none)
  | .invokevirtual r => if (mm_mr r).2.2.1 = 1003 then (match st with
      | .inr (.inl (some a)) :: st => if 1000001 ≤ a ∧ a < 1000025 ∧ 2 ≤ mm_fr y ∧ 40 ≤ mm_lo y ∧ (st.map mm_cat).sum ≤ 8 then some (pc + 3, L, .inl (nI (mm_slen (a - 1000001))) :: st, M) else none
      | _ => none)
    else if (mm_mr r).2.2.1 = 1004 then (match st with
      | .inl k :: .inr (.inl (some a)) :: st => if 1000001 ≤ a ∧ a < 1000025 ∧ mm_in k (mm_slen (a - 1000001)) = true ∧ 4 ≤ mm_fr y ∧ 101 ≤ mm_lo y ∧ (st.map mm_cat).sum ≤ 8 then some (pc + 3, L, .inl (mm_sch (a - 1000001) k.toNatClampNeg) :: st, M) else none
      | _ => none)
    else none
  | _ => none
/-- is it an end: what it gives -/
def mm_end (y : Nat) (i : Instr) (st : List mm_V) : Option (List mm_V) := match i, mm_rt y, st with
  | .ireturn, some .int, [.inl x] => some [.inl x]
  | .ireturn, some .boolean, [.inl x] => if x = 0 ∨ x = 1 then some [.inl x] else none
  | .areturn, some (.object _), [.inr (.inl r)] => some [.inr (.inl r)]
  | .lreturn, some .long, [.inr (.inr x)] => some [.inr (.inr x)]
  | .return_, none, [] => some []
  | _, _, _ => none
def mm_isEnd (i : Instr) : Bool := match i with
  | .ireturn | .areturn | .lreturn | .return_ => true
  | _ => false
/-- a call of an own method: its number, its locals, the rest of the stack -/
def mm_go (y : Nat) (r k : Nat) (st : List mm_V) : Option (Nat × List mm_V × List mm_V) :=
  if (mm_mr r).2.2.1 < 175 ∧ mm_kd (mm_mr r).2.2.1 = k ∧ mm_fr (mm_mr r).2.2.1 + 1 ≤ mm_fr y ∧ 8 + (mm_mx (mm_mr r).2.2.1 + 11) + mm_lo (mm_mr r).2.2.1 ≤ mm_lo y ∧ mm_na (mm_mr r).2.2.1 ≤ st.length ∧ mm_na (mm_mr r).2.2.1 ≤ mm_mx (mm_mr r).2.2.1 ∧ ((st.drop (mm_na (mm_mr r).2.2.1)).map mm_cat).sum ≤ 8 ∧ (∀ v ∈ st.take (mm_na (mm_mr r).2.2.1), mm_cat v = 1)
  then some ((mm_mr r).2.2.1, (st.take (mm_na (mm_mr r).2.2.1)).reverse, st.drop (mm_na (mm_mr r).2.2.1)) else none
def mm_call (M : mm_M) (y : Nat) (i : Instr) (st : List mm_V) : Option (Nat × List mm_V × List mm_V) :=
  match i with
  | .invokevirtual r => (match mm_go y r 0 st with
    | some (z, .inr (.inl (some a)) :: As, rest) => (match mm_ob M a with
      | some (ci, _) => if ci = mm_own z ∧ ci < 11 ∧ ¬ ci = 8 then some (z, .inr (.inl (some a)) :: As, rest) else none
      | none => none)
    | _ => none)
  | .invokespecial r => (match mm_go y r 1 st with
    | some (z, .inr (.inl (some a)) :: As, rest) => some (z, .inr (.inl (some a)) :: As, rest)
    | _ => none)
  | .invokestatic r => mm_go y r 2 st
  | _ => none
def mm_lfrom : Nat → List mm_V → mm_L
  | _, [] => []
  | i, v :: vs => (i, v) :: mm_lfrom (i + 1) vs
def mm_locals (As : List mm_V) : mm_L := mm_lfrom 0 As
def mm_run (X : Nat × (Nat → Int32)) : Nat → Nat → Nat → mm_L → List mm_V → mm_M → Option mm_S
  | 0, _, _, _, _, _ => none
  | n + 1, y, pc, L, st, M => match mm_fetch y pc with
    | none => none
    | some (i, _) =>
      if mm_isEnd i then some (pc, L, st, M)
      else match mm_call M y i st with
        | some (z, As, rest) => (match mm_run X n z 0 (mm_locals As) [] M with
          | none => none
          | some (pc1, _, st1, M1) => (match mm_fetch z pc1 with
            | none => none
            | some (i1, _) => (match mm_end z i1 st1 with
              | none => none
              | some vs => mm_run X n y (pc + 3) L (vs ++ rest) M1)))
        | none => (match mm_step X y i pc L st M with
          | none => none
          | some (pc1, L1, st1, M1) => mm_run X n y pc1 L1 st1 M1)
