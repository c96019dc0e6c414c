/-! A SECOND MACHINE, over boxes: an int is a box (low, high) and a name (0: none); it runs as the small machine does, and stops where a box does not decide -/
abbrev ax_I : Type := Int × Int × Nat
abbrev ax_V : Type := ax_I ⊕ (Option Nat ⊕ ax_I)
abbrev ax_C : Type := (Nat × List ax_V) ⊕ (Nat × Nat × ax_V × List (Nat × ax_V))
/-- cells in blocks of sixteen -/
abbrev ax_M : Type := List (List ax_C)
abbrev ax_L : Type := List (Nat × ax_V)
abbrev ax_S : Type := Nat × ax_L × List ax_V × ax_M
def ax_cat : ax_V → Nat
  | .inr (.inr _) => 2
  | _ => 1
def ax_lk : ax_L → Nat → Option ax_V
  | [], _ => none
  | q :: L, i => if q.1 = i then some q.2 else ax_lk L i
def ax_st1 (i : Nat) (v : ax_V) (L : ax_L) : ax_L := (i, v) :: L.filter (fun q => !(q.1 == i) && !(q.1 + 1 == i && ax_cat q.2 == 2))
def ax_st2 (i : Nat) (v : ax_V) (L : ax_L) : ax_L := (i, v) :: L.filter (fun q => !(q.1 == i) && (!(q.1 == i + 1) && !(q.1 + 1 == i && ax_cat q.2 == 2)))
def ax_sg (x : Int32) : ax_I := (x.toInt, x.toInt, 0)
def ax_sl (x : Int64) : ax_I := (x.toInt, x.toInt, 0)
def ax_val (v : ax_I) : Option Int32 := if v.1 = v.2.1 then some (Int32.ofInt v.1) else none
def ax_valL (v : ax_I) : Option Int64 := if v.1 = v.2.1 then some (Int64.ofInt v.1) else none
def ax_top : ax_I := (-2147483648, 2147483647, 0)
def ax_bin (f : Int32 → Int32 → Int32) (v w : ax_I) : ax_I := match ax_val v, ax_val w with
  | some x, some y => ax_sg (f x y)
  | _, _ => ax_top
def ax_add (v w : ax_I) : ax_I := if v.1 = 0 ∧ v.2.1 = 0 then w else if w.1 = 0 ∧ w.2.1 = 0 then v else ax_bin (· + ·) v w
def ax_cmp (c : Jvm.ClassFile.Cond) (v w : ax_I) : Option Bool := match c with
  | .lt => if v.2.1 < w.1 then some true else if w.2.1 ≤ v.1 then some false else none
  | .ge => if w.2.1 ≤ v.1 then some true else if v.2.1 < w.1 then some false else none
  | .gt => if w.2.1 < v.1 then some true else if v.2.1 ≤ w.1 then some false else none
  | .le => if v.2.1 ≤ w.1 then some true else if w.2.1 < v.1 then some false else none
  | .eq => if v.2.1 < w.1 ∨ w.2.1 < v.1 then some false else if (v.1 = v.2.1 ∧ w.1 = w.2.1 ∧ v.1 = w.1) ∨ (v.2.2 = w.2.2 ∧ ¬ v.2.2 = 0) then some true else none
  | .ne => if v.2.1 < w.1 ∨ w.2.1 < v.1 then some true else if (v.1 = v.2.1 ∧ w.1 = w.2.1 ∧ v.1 = w.1) ∨ (v.2.2 = w.2.2 ∧ ¬ v.2.2 = 0) then some false else none
def ax_br (b : Option Bool) (pc : Nat) (off : Int) (L : ax_L) (st : List ax_V) (M : ax_M) : Option ax_S := match b with
  | none => none
  | some b => (match mm_tgt pc off with
    | none => none
    | some t => some (if b = true then t else pc + 3, L, st, M))
/-- an index that is known, and in -/
def ax_in (v : ax_I) (n : Nat) : Option Nat := match ax_val v with
  | some x => if mm_in x n = true then some x.toNatClampNeg else none
  | none => none
def ax_okv (ty : FieldType) (v : ax_V) : Bool := match ty, v with
  | .int, .inl _ => true
  | .boolean, .inl v => decide (0 ≤ v.1) && decide (v.2.1 ≤ 1)
  | .object _, .inr (.inl _) => true
  | .array _, .inr (.inl _) => true
  | .long, .inr (.inr _) => true
  | _, _ => false
def ax_get (A : ax_M) (k : Nat) : Option ax_C := match A[k / 16]? with
  | some b => b[k % 16]?
  | none => none
def ax_put (A : ax_M) (k : Nat) (c : ax_C) : ax_M := match A[k / 16]? with
  | some b => A.set (k / 16) (b.set (k % 16) c)
  | none => A
def ax_len (A : ax_M) : Nat := (A.map List.length).sum
def ax_ob (M : ax_M) (a : Nat) : Option (Nat × List ax_V) := match ax_get M a with
  | some (.inl q) => some q
  | _ => none
def ax_ar (M : ax_M) (a : Nat) : Option (Nat × Nat × ax_V × List (Nat × ax_V)) := match ax_get M a with
  | some (.inr q) => some q
  | _ => none
def ax_rd (d : ax_V) (ov : List (Nat × ax_V)) (j : Nat) : ax_V := (ax_lk ov j).getD d
def ax_step (X : Nat × (Nat → ax_I)) (y : Nat) (i : Instr) (pc : Nat) (L : ax_L) (st : List ax_V) (M : ax_M) : Option ax_S :=
  match i with
  | .aload_n k => (match ax_lk L k with | some (.inr (.inl r)) => some (pc + 1, L, .inr (.inl r) :: st, M) | _ => none)
  | .aload k => (match ax_lk L k with | some (.inr (.inl r)) => some (pc + 2, L, .inr (.inl r) :: st, M) | _ => none)
  | .iload_n k => (match ax_lk L k with | some (.inl x) => some (pc + 1, L, .inl x :: st, M) | _ => none)
  | .iload k => (match ax_lk L k with | some (.inl x) => some (pc + 2, L, .inl x :: st, M) | _ => none)
  | .lload_n k => (match ax_lk L k with | some (.inr (.inr x)) => some (pc + 1, L, .inr (.inr x) :: st, M) | _ => none)
  | .lload k => (match ax_lk L k with | some (.inr (.inr x)) => some (pc + 2, L, .inr (.inr x) :: st, M) | _ => none)
  | .istore_n k => (match st with | .inl x :: st => if (k : Nat) < mm_mx y then some (pc + 1, ax_st1 k (.inl x) L, st, M) else none | _ => none)
  | .istore k => (match st with | .inl x :: st => if k < mm_mx y then some (pc + 2, ax_st1 k (.inl x) L, st, M) else none | _ => none)
  | .astore_n k => (match st with | .inr (.inl r) :: st => if (k : Nat) < mm_mx y then some (pc + 1, ax_st1 k (.inr (.inl r)) L, st, M) else none | _ => none)
  | .astore k => (match st with | .inr (.inl r) :: st => if k < mm_mx y then some (pc + 2, ax_st1 k (.inr (.inl r)) L, st, M) else none | _ => none)
  | .lstore_n k => (match st with | .inr (.inr x) :: st => if (k : Nat) + 1 < mm_mx y then some (pc + 1, ax_st2 k (.inr (.inr x)) L, st, M) else none | _ => none)
  | .lstore k => (match st with | .inr (.inr x) :: st => if k + 1 < mm_mx y then some (pc + 2, ax_st2 k (.inr (.inr x)) L, st, M) else none | _ => none)
  | .iinc k n => (match ax_lk L k with | some (.inl x) => if k < mm_mx y then some (pc + 3, ax_st1 k (.inl (ax_bin (· + ·) x (ax_sg (Int32.ofInt n)))) L, st, M) else none | _ => none)
  | .iconst n => some (pc + 1, L, .inl (ax_sg (Int32.ofInt n)) :: st, M)
  | .bipush n => some (pc + 2, L, .inl (ax_sg (Int8.ofInt n).toInt32) :: st, M)
  | .sipush n => some (pc + 3, L, .inl (ax_sg (Int16.ofInt n).toInt32) :: st, M)
  | .aconst_null => some (pc + 1, L, .inr (.inl none) :: st, M)
  | .ldc r => (match (mm_krf r).2.2.1 with | .inl x => some (pc + 2, L, .inl (ax_sg x) :: st, M) | .inr j => if j < 24 then some (pc + 2, L, .inr (.inl (some (mm_txt j))) :: st, M) else none)
  | .ldc_w r => (match (mm_krf r).2.2.1 with | .inl x => some (pc + 3, L, .inl (ax_sg x) :: st, M) | .inr _ => none)
  | .ldc2_w r => some (pc + 3, L, .inr (.inr (ax_sl (mm_k2f r).2.2.1)) :: st, M)
  | .iadd => (match st with | .inl y :: .inl x :: st => some (pc + 1, L, .inl (ax_add x y) :: st, M) | _ => none)
  | .isub => (match st with | .inl y :: .inl x :: st => some (pc + 1, L, .inl (ax_bin (· - ·) x y) :: st, M) | _ => none)
  | .imul => (match st with | .inl y :: .inl x :: st => some (pc + 1, L, .inl (ax_bin (· * ·) x y) :: st, M) | _ => none)
  | .iand => (match st with | .inl y :: .inl x :: st => some (pc + 1, L, .inl (ax_bin (· &&& ·) x y) :: st, M) | _ => none)
  | .ior => (match st with | .inl y :: .inl x :: st => some (pc + 1, L, .inl (ax_bin (· ||| ·) x y) :: st, M) | _ => none)
  | .ishl => (match st with | .inl y :: .inl x :: st => some (pc + 1, L, .inl (ax_bin (fun x y => x <<< (y &&& 31)) x y) :: st, M) | _ => none)
  | .ishr => (match st with | .inl y :: .inl x :: st => some (pc + 1, L, .inl (ax_bin (fun x y => x >>> (y &&& 31)) x y) :: st, M) | _ => none)
  | .ladd => (match st with | .inr (.inr y) :: .inr (.inr x) :: st => if x.1 = 0 ∧ x.2.1 = 0 then some (pc + 1, L, .inr (.inr y) :: st, M) else none | _ => none)
  | .lcmp => (match st with | .inr (.inr y) :: .inr (.inr x) :: st => (match ax_valL x, ax_valL y with | some x, some y => some (pc + 1, L, .inl (ax_sg (lg_cmp x y)) :: st, M) | _, _ => none) | _ => none)
  | .i2l => (match st with | .inl x :: st => some (pc + 1, L, .inr (.inr x) :: st, M) | _ => none)
  | .l2i => (match st with | .inr (.inr x) :: st => if -2147483648 ≤ x.1 ∧ x.2.1 ≤ 2147483647 then some (pc + 1, L, .inl x :: st, M) else none | _ => none)
  | .i2c => (match st with | .inl x :: st => if 0 ≤ x.1 ∧ x.2.1 ≤ 65535 then some (pc + 1, L, .inl x :: st, M) else none | _ => none)
  | .dup => (match st with | v :: st => if ax_cat v = 1 then some (pc + 1, L, v :: v :: st, M) else none | _ => none)
  | .pop => (match st with | v :: st => if ax_cat v = 1 then some (pc + 1, L, st, M) else none | _ => none)
  | .dup2 => (match st with | v :: w :: st => if ax_cat v = 1 ∧ ax_cat w = 1 then some (pc + 1, L, v :: w :: v :: w :: st, M) else none | _ => none)
  | .goto off => ax_br (some true) pc off L st M
  | .ifCond c off => (match st with | .inl x :: st => ax_br (ax_cmp c x (ax_sg 0)) pc off L st M | _ => none)
  | .if_icmp c off => (match st with | .inl y :: .inl x :: st => ax_br (ax_cmp c x y) pc off L st M | _ => none)
  | .ifnull off => (match st with | .inr (.inl r) :: st => ax_br (some r.isNone) pc off L st M | _ => none)
  | .ifnonnull off => (match st with | .inr (.inl r) :: st => ax_br (some r.isSome) pc off L st M | _ => none)
  | .tableswitch d lo hi os => (match st with
    | .inl x :: st =>
      if x.2.1 < lo ∨ hi < x.1 then (match mm_tgt pc d with | none => none | some t => some (t, L, st, M))
      else if x.1 = x.2.1 ∧ lo ≤ x.1 ∧ x.1 ≤ hi then (match os[(x.1 - lo).toNat]? with | none => none | some off => (match mm_tgt pc off with | none => none | some t => some (t, L, st, M)))
      else none
    | _ => none)
  | .getfield r => (match st with
    | .inr (.inl (some a)) :: st => (match ax_ob M a with
      | some (ci, fs) => if ci = (mm_fld r).2.2.1 ∧ (mm_fld r).2.2.2.1 < mm_N ci then (match fs[(mm_fld r).2.2.2.1]? with | some v => some (pc + 3, L, v :: st, M) | none => none) else none
      | none => none)
    | _ => none)
  | .putfield r => (match st with
    | v :: .inr (.inl (some a)) :: st => (match ax_ob M a with
      | some (ci, fs) => if ci = (mm_fld r).2.2.1 ∧ (mm_fld r).2.2.2.1 < mm_N ci ∧ (mm_fld r).2.2.2.1 < fs.length ∧ ax_okv (mm_ty ci (mm_fld r).2.2.2.1) v = true ∧ ((mm_T ci (mm_fld r).2.2.2.1).2.2.2 = true → mm_kd y = 1 ∧ mm_own y = ci)
        then some (pc + 3, L, st, ax_put M a (.inl (ci, fs.set (mm_fld r).2.2.2.1 v))) else none
      | none => none)
    | _ => none)
  | .arraylength => (match st with
    | .inr (.inl (some a)) :: st => if a = mm_scr then some (pc + 1, L, .inl (ax_sg (Int32.ofNat X.1)) :: st, M) else (match ax_ar M a with
      | some (t, n, _) => if t < 5 then some (pc + 1, L, .inl (ax_sg (Int32.ofNat n)) :: st, M) else none
      | none => none)
    | _ => none)
  | .iaload => (match st with
    | .inl i :: .inr (.inl (some a)) :: st => if a = mm_scr then (match ax_in i X.1 with | some j => some (pc + 1, L, .inl (X.2 j) :: st, M) | none => none) else (match ax_ar M a with
      | some (t, n, d, ov) => if t = 0 then (match ax_in i n with | some j => (match ax_rd d ov j with | .inl v => some (pc + 1, L, .inl v :: st, M) | _ => none) | none => none) else none
      | none => none)
    | _ => none)
  | .caload => (match st with
    | .inl i :: .inr (.inl (some a)) :: st => (match ax_ar M a with
      | some (t, n, d, ov) => if t = 1 then (match ax_in i n with | some j => (match ax_rd d ov j with | .inl v => some (pc + 1, L, .inl v :: st, M) | _ => none) | none => none) else none
      | none => none)
    | _ => none)
  | .baload => (match st with
    | .inl i :: .inr (.inl (some a)) :: st => (match ax_ar M a with
      | some (t, n, d, ov) => if t = 2 then (match ax_in i n with | some j => (match ax_rd d ov j with | .inl v => some (pc + 1, L, .inl v :: st, M) | _ => none) | none => none) else none
      | none => none)
    | _ => none)
  | .laload => (match st with
    | .inl i :: .inr (.inl (some a)) :: st => (match ax_ar M a with
      | some (t, n, d, ov) => if t = 3 then (match ax_in i n with | some j => (match ax_rd d ov j with | .inr (.inr v) => some (pc + 1, L, .inr (.inr v) :: st, M) | _ => none) | none => none) else none
      | none => none)
    | _ => none)
  | .iastore => (match st with
    | .inl x :: .inl i :: .inr (.inl (some a)) :: st => (match ax_ar M a with
      | some (t, n, d, ov) => if t = 0 then (match ax_in i n with | some j => (match ax_rd d ov j with | .inl _ => some (pc + 1, L, st, ax_put M a (.inr (t, n, d, (j, .inl x) :: ov))) | _ => none) | none => none) else none
      | none => none)
    | _ => none)
  | .castore => (match st with
    | .inl x :: .inl i :: .inr (.inl (some a)) :: st => (match ax_ar M a with
      | some (t, n, d, ov) => if t = 1 ∧ 0 ≤ x.1 ∧ x.2.1 ≤ 65535 then (match ax_in i n with | some j => (match ax_rd d ov j with | .inl _ => some (pc + 1, L, st, ax_put M a (.inr (t, n, d, (j, .inl x) :: ov))) | _ => none) | none => none) else none
      | none => none)
    | _ => none)
  | .bastore => (match st with
    | .inl x :: .inl i :: .inr (.inl (some a)) :: st => (match ax_ar M a with
      | some (t, n, d, ov) => if t = 2 ∧ 0 ≤ x.1 ∧ x.2.1 ≤ 1 then (match ax_in i n with | some j => (match ax_rd d ov j with | .inl _ => some (pc + 1, L, st, ax_put M a (.inr (t, n, d, (j, .inl x) :: ov))) | _ => none) | none => none) else none
      | none => none)
    | _ => none)
  | .invokestatic r => (match st with
    | .inl y0 :: .inl x0 :: st =>
      if 1 ≤ mm_fr y ∧ 21 ≤ mm_lo y ∧ (st.map ax_cat).sum ≤ 8 then (match ax_val x0, ax_val y0 with
        | some x0, some y0 => (if (mm_mr r).2.2.1 = 1001 then some (pc + 3, L, .inl (ax_sg (if y0 < x0 then y0 else x0)) :: st, M) else if (mm_mr r).2.2.1 = 1002 then some (pc + 3, L, .inl (ax_sg (if x0 < y0 then y0 else x0)) :: st, M) else none)
        | _, _ => none)
      else none
    | _ => none)
  | .invokevirtual r => if (mm_mr r).2.2.1 = 1003 then (match st with
      | .inr (.inl (some a)) :: st => if 1000001 ≤ a ∧ a < 1000025 ∧ 2 ≤ mm_fr y ∧ 40 ≤ mm_lo y ∧ (st.map ax_cat).sum ≤ 8 then some (pc + 3, L, .inl (ax_sg (nI (mm_slen (a - 1000001)))) :: st, M) else none
      | _ => none)
    else none
  | _ => none
def ax_end (y : Nat) (i : Instr) (st : List ax_V) : Option (List ax_V) := match i, mm_rt y, st with
  | .ireturn, some .int, [.inl x] => some [.inl x]
  | .ireturn, some .boolean, [.inl x] => if 0 ≤ x.1 ∧ x.2.1 ≤ 1 then some [.inl x] else none
  | .areturn, some (.object _), [.inr (.inl r)] => some [.inr (.inl r)]
  | .lreturn, some .long, [.inr (.inr x)] => some [.inr (.inr x)]
  | .return_, none, [] => some []
  | _, _, _ => none
def ax_go (y : Nat) (r k : Nat) (st : List ax_V) : Option (Nat × List ax_V × List ax_V) :=
  if (mm_mr r).2.2.1 < 175 ∧ mm_kd (mm_mr r).2.2.1 = k ∧ mm_fr (mm_mr r).2.2.1 + 1 ≤ mm_fr y ∧ 8 + (mm_mx (mm_mr r).2.2.1 + 11) + mm_lo (mm_mr r).2.2.1 ≤ mm_lo y ∧ mm_na (mm_mr r).2.2.1 ≤ st.length ∧ mm_na (mm_mr r).2.2.1 ≤ mm_mx (mm_mr r).2.2.1 ∧ ((st.drop (mm_na (mm_mr r).2.2.1)).map ax_cat).sum ≤ 8 ∧ (∀ v ∈ st.take (mm_na (mm_mr r).2.2.1), ax_cat v = 1)
  then some ((mm_mr r).2.2.1, (st.take (mm_na (mm_mr r).2.2.1)).reverse, st.drop (mm_na (mm_mr r).2.2.1)) else none
def ax_call (M : ax_M) (y : Nat) (i : Instr) (st : List ax_V) : Option (Nat × List ax_V × List ax_V) :=
  match i with
  | .invokevirtual r => (match ax_go y r 0 st with
    | some (z, .inr (.inl (some a)) :: As, rest) => (match ax_ob M a with
      | some (ci, _) => if ci = mm_own z ∧ ci < 11 ∧ ¬ ci = 8 then some (z, .inr (.inl (some a)) :: As, rest) else none
      | none => none)
    | _ => none)
  | .invokestatic r => ax_go y r 2 st
  | _ => none
def ax_lfrom : Nat → List ax_V → ax_L
  | _, [] => []
  | i, v :: vs => (i, v) :: ax_lfrom (i + 1) vs
/-- a branch that the boxes don't decide: its target and the rest of the stack -/
def ax_fork (i : Instr) (pc : Nat) (st : List ax_V) : Option (Nat × List ax_V) := match i, st with
  | .ifCond _ off, .inl _ :: st => (match mm_tgt pc off with | none => none | some t => some (t, st))
  | .if_icmp _ off, .inl _ :: .inl _ :: st => (match mm_tgt pc off with | none => none | some t => some (t, st))
  | _, _ => none
def ax_all (f : ax_S → Option (List ax_S)) : List ax_S → Option (List ax_S)
  | [] => some []
  | a :: as => (match f a, ax_all f as with | some x, some y => some (x ++ y) | _, _ => none)
def ax_run (X : Nat × (Nat → ax_I)) : Nat → Nat → Nat → ax_L → List ax_V → ax_M → Option (List ax_S)
  | 0, _, _, _, _, _ => none
  | n + 1, y, pc, L, st, M => match mm_fetch y pc with
    | none => none
    | some (i, _) =>
      if mm_isEnd i then some [(pc, L, st, M)]
      else match ax_call M y i st with
        | some (z, As, rest) => (match ax_run X n z 0 (ax_lfrom 0 As) [] M with
          | none => none
          | some es => ax_all (fun e => match mm_fetch z e.1 with
            | none => none
            | some (i1, _) => (match ax_end z i1 e.2.2.1 with
              | none => none
              | some vs => ax_run X n y (pc + 3) L (vs ++ rest) e.2.2.2)) es)
        | none => (match ax_step X y i pc L st M with
          | some (pc1, L1, st1, M1) => ax_run X n y pc1 L1 st1 M1
          | none => (match ax_fork i pc st with
            | none => none
            | some (t, st2) => (match ax_run X n y t L st2 M, ax_run X n y (pc + 3) L st2 M with
              | some x, some z => some (x ++ z)
              | _, _ => none)))
