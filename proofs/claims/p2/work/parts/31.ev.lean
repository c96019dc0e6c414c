section EV2
variable {X : Nat × (Nat → Int32)} {y pc : Nat} {l : List (Option mm_V)} {st : List mm_V} {u : fm} {R : List mm_V × fm}
/-! instructions over flat memory -/
theorem ev_aload_n {k : Fin 4} {r : Option Nat} (hf : mm_fetch y pc = some (.aload_n k, 1)) (hl : l[(k : Nat)]? = some (some (.inr (.inl r)))) (h : ev X y (pc + 1) l (.inr (.inl r) :: st) u R) : ev X y pc l st u R :=
  ev_q hf rfl (fun _ => rfl) (fun L M hL _ => by dsimp only [mm_step]; rw [hL _ _ hl]) h
theorem ev_aload {k : Nat} {r : Option Nat} (hf : mm_fetch y pc = some (.aload k, 2)) (hl : l[k]? = some (some (.inr (.inl r)))) (h : ev X y (pc + 2) l (.inr (.inl r) :: st) u R) : ev X y pc l st u R :=
  ev_q hf rfl (fun _ => rfl) (fun L M hL _ => by dsimp only [mm_step]; rw [hL _ _ hl]) h
theorem ev_iload_n {k : Fin 4} {x : Int32} (hf : mm_fetch y pc = some (.iload_n k, 1)) (hl : l[(k : Nat)]? = some (some (.inl x))) (h : ev X y (pc + 1) l (.inl x :: st) u R) : ev X y pc l st u R :=
  ev_q hf rfl (fun _ => rfl) (fun L M hL _ => by dsimp only [mm_step]; rw [hL _ _ hl]) h
theorem ev_iload {k : Nat} {x : Int32} (hf : mm_fetch y pc = some (.iload k, 2)) (hl : l[k]? = some (some (.inl x))) (h : ev X y (pc + 2) l (.inl x :: st) u R) : ev X y pc l st u R :=
  ev_q hf rfl (fun _ => rfl) (fun L M hL _ => by dsimp only [mm_step]; rw [hL _ _ hl]) h
theorem ev_lload_n {k : Fin 4} {x : Int64} (hf : mm_fetch y pc = some (.lload_n k, 1)) (hl : l[(k : Nat)]? = some (some (.inr (.inr x)))) (h : ev X y (pc + 1) l (.inr (.inr x) :: st) u R) : ev X y pc l st u R :=
  ev_q hf rfl (fun _ => rfl) (fun L M hL _ => by dsimp only [mm_step]; rw [hL _ _ hl]) h
theorem ev_lload {k : Nat} {x : Int64} (hf : mm_fetch y pc = some (.lload k, 2)) (hl : l[k]? = some (some (.inr (.inr x)))) (h : ev X y (pc + 2) l (.inr (.inr x) :: st) u R) : ev X y pc l st u R :=
  ev_q hf rfl (fun _ => rfl) (fun L M hL _ => by dsimp only [mm_step]; rw [hL _ _ hl]) h
theorem ev_istore_n {k : Fin 4} {x : Int32} {m : Nat} (hf : mm_fetch y pc = some (.istore_n k, 1)) (hm : mm_mx y = m) (hk : Nat.blt k m = true) (h : ev X y (pc + 1) (fm_st1 k (.inl x) l) st u R) : ev X y pc l (.inl x :: st) u R :=
  ev_p hf rfl (fun _ => rfl) (fun L M hL hM => ⟨_, _, by dsimp only [mm_step]; rw [hm, if_pos (by simpa [Nat.blt_eq] using hk)], fm_ag_st1 hL, hM⟩) h
theorem ev_istore {k : Nat} {x : Int32} {m : Nat} (hf : mm_fetch y pc = some (.istore k, 2)) (hm : mm_mx y = m) (hk : Nat.blt k m = true) (h : ev X y (pc + 2) (fm_st1 k (.inl x) l) st u R) : ev X y pc l (.inl x :: st) u R :=
  ev_p hf rfl (fun _ => rfl) (fun L M hL hM => ⟨_, _, by dsimp only [mm_step]; rw [hm, if_pos (by simpa [Nat.blt_eq] using hk)], fm_ag_st1 hL, hM⟩) h
theorem ev_astore_n {k : Fin 4} {x : Option Nat} {m : Nat} (hf : mm_fetch y pc = some (.astore_n k, 1)) (hm : mm_mx y = m) (hk : Nat.blt k m = true) (h : ev X y (pc + 1) (fm_st1 k (.inr (.inl x)) l) st u R) : ev X y pc l (.inr (.inl x) :: st) u R :=
  ev_p hf rfl (fun _ => rfl) (fun L M hL hM => ⟨_, _, by dsimp only [mm_step]; rw [hm, if_pos (by simpa [Nat.blt_eq] using hk)], fm_ag_st1 hL, hM⟩) h
theorem ev_astore {k : Nat} {x : Option Nat} {m : Nat} (hf : mm_fetch y pc = some (.astore k, 2)) (hm : mm_mx y = m) (hk : Nat.blt k m = true) (h : ev X y (pc + 2) (fm_st1 k (.inr (.inl x)) l) st u R) : ev X y pc l (.inr (.inl x) :: st) u R :=
  ev_p hf rfl (fun _ => rfl) (fun L M hL hM => ⟨_, _, by dsimp only [mm_step]; rw [hm, if_pos (by simpa [Nat.blt_eq] using hk)], fm_ag_st1 hL, hM⟩) h
theorem ev_lstore_n {k : Fin 4} {x : Int64} {m : Nat} (hf : mm_fetch y pc = some (.lstore_n k, 1)) (hm : mm_mx y = m) (hk : Nat.blt (k + 1) m = true) (h : ev X y (pc + 1) (fm_st2 k (.inr (.inr x)) l) st u R) : ev X y pc l (.inr (.inr x) :: st) u R :=
  ev_p hf rfl (fun _ => rfl) (fun L M hL hM => ⟨_, _, by dsimp only [mm_step]; rw [hm, if_pos (by simpa [Nat.blt_eq] using hk)], fm_ag_st2 hL, hM⟩) h
theorem ev_lstore {k : Nat} {x : Int64} {m : Nat} (hf : mm_fetch y pc = some (.lstore k, 2)) (hm : mm_mx y = m) (hk : Nat.blt (k + 1) m = true) (h : ev X y (pc + 2) (fm_st2 k (.inr (.inr x)) l) st u R) : ev X y pc l (.inr (.inr x) :: st) u R :=
  ev_p hf rfl (fun _ => rfl) (fun L M hL hM => ⟨_, _, by dsimp only [mm_step]; rw [hm, if_pos (by simpa [Nat.blt_eq] using hk)], fm_ag_st2 hL, hM⟩) h
theorem ev_iinc {k : Nat} {n : Int} {x c : Int32} {m : Nat} (hf : mm_fetch y pc = some (.iinc k n, 3)) (hm : mm_mx y = m) (hk : Nat.blt k m = true) (hl : l[k]? = some (some (.inl x))) (hc : Int32.ofInt n = c) (h : ev X y (pc + 3) (fm_st1 k (.inl (x + c)) l) st u R) : ev X y pc l st u R :=
  ev_p hf rfl (fun _ => rfl) (fun L M hL hM => ⟨_, _, by dsimp only [mm_step]; rw [hL _ _ hl]; dsimp only; rw [hm, if_pos (by simpa [Nat.blt_eq] using hk), hc], fm_ag_st1 hL, hM⟩) h
theorem ev_iconst {n : Int} {c : Int32} (hf : mm_fetch y pc = some (.iconst n, 1)) (hc : Int32.ofInt n = c) (h : ev X y (pc + 1) l (.inl c :: st) u R) : ev X y pc l st u R :=
  ev_q hf rfl (fun _ => rfl) (fun L M hL _ => by dsimp only [mm_step]; rw [hc]) h
theorem ev_bipush {n : Int} {c : Int32} (hf : mm_fetch y pc = some (.bipush n, 2)) (hc : (Int8.ofInt n).toInt32 = c) (h : ev X y (pc + 2) l (.inl c :: st) u R) : ev X y pc l st u R :=
  ev_q hf rfl (fun _ => rfl) (fun L M hL _ => by dsimp only [mm_step]; rw [hc]) h
theorem ev_sipush {n : Int} {c : Int32} (hf : mm_fetch y pc = some (.sipush n, 3)) (hc : (Int16.ofInt n).toInt32 = c) (h : ev X y (pc + 3) l (.inl c :: st) u R) : ev X y pc l st u R :=
  ev_q hf rfl (fun _ => rfl) (fun L M hL _ => by dsimp only [mm_step]; rw [hc]) h
theorem ev_null (hf : mm_fetch y pc = some (.aconst_null, 1)) (h : ev X y (pc + 1) l (.inr (.inl none) :: st) u R) : ev X y pc l st u R :=
  ev_q hf rfl (fun _ => rfl) (fun L M hL _ => rfl) h
theorem ev_ldc {r : Nat} {c : Int32} (hf : mm_fetch y pc = some (.ldc r, 2)) (hc : (mm_krf r).2.2.1 = .inl c) (h : ev X y (pc + 2) l (.inl c :: st) u R) : ev X y pc l st u R :=
  ev_q hf rfl (fun _ => rfl) (fun L M hL _ => by dsimp only [mm_step]; rw [hc]) h
theorem ev_ldcs {r j : Nat} (hf : mm_fetch y pc = some (.ldc r, 2)) (hc : (mm_krf r).2.2.1 = .inr j) (hj : Nat.blt j 24 = true) (h : ev X y (pc + 2) l (.inr (.inl (some (mm_txt j))) :: st) u R) : ev X y pc l st u R :=
  ev_q hf rfl (fun _ => rfl) (fun L M hL _ => by dsimp only [mm_step]; rw [hc]; dsimp only; rw [if_pos (by simpa [Nat.blt_eq] using hj)]) h
theorem ev_ldcw {r : Nat} {c : Int32} (hf : mm_fetch y pc = some (.ldc_w r, 3)) (hc : (mm_krf r).2.2.1 = .inl c) (h : ev X y (pc + 3) l (.inl c :: st) u R) : ev X y pc l st u R :=
  ev_q hf rfl (fun _ => rfl) (fun L M hL _ => by dsimp only [mm_step]; rw [hc]) h
theorem ev_ldc2 {r : Nat} {c : Int64} (hf : mm_fetch y pc = some (.ldc2_w r, 3)) (hc : (mm_k2f r).2.2.1 = c) (h : ev X y (pc + 3) l (.inr (.inr c) :: st) u R) : ev X y pc l st u R :=
  ev_q hf rfl (fun _ => rfl) (fun L M hL _ => by dsimp only [mm_step]; rw [hc]) h
theorem ev_iadd {a b : Int32} (hf : mm_fetch y pc = some (.iadd, 1)) (h : ev X y (pc + 1) l (.inl (a + b) :: st) u R) : ev X y pc l (.inl b :: .inl a :: st) u R := ev_q hf rfl (fun _ => rfl) (fun L M hL _ => rfl) h
theorem ev_isub {a b : Int32} (hf : mm_fetch y pc = some (.isub, 1)) (h : ev X y (pc + 1) l (.inl (a - b) :: st) u R) : ev X y pc l (.inl b :: .inl a :: st) u R := ev_q hf rfl (fun _ => rfl) (fun L M hL _ => rfl) h
theorem ev_imul {a b : Int32} (hf : mm_fetch y pc = some (.imul, 1)) (h : ev X y (pc + 1) l (.inl (a * b) :: st) u R) : ev X y pc l (.inl b :: .inl a :: st) u R := ev_q hf rfl (fun _ => rfl) (fun L M hL _ => rfl) h
theorem ev_iand {a b : Int32} (hf : mm_fetch y pc = some (.iand, 1)) (h : ev X y (pc + 1) l (.inl (a &&& b) :: st) u R) : ev X y pc l (.inl b :: .inl a :: st) u R := ev_q hf rfl (fun _ => rfl) (fun L M hL _ => rfl) h
theorem ev_ior {a b : Int32} (hf : mm_fetch y pc = some (.ior, 1)) (h : ev X y (pc + 1) l (.inl (a ||| b) :: st) u R) : ev X y pc l (.inl b :: .inl a :: st) u R := ev_q hf rfl (fun _ => rfl) (fun L M hL _ => rfl) h
def fm_shl (a b : Int32) : Int32 := a <<< (b &&& 31)
def fm_shr (a b : Int32) : Int32 := a >>> (b &&& 31)
def fm_rem (a b : Int32) : Int32 := a - a / b * b
def fm_i2c (x : Int32) : Int32 := (x.toUInt32 % 65536).toInt32
def fm_min (a b : Int32) : Int32 := if b < a then b else a
def fm_max (a b : Int32) : Int32 := if a < b then b else a
theorem ev_ishl {a b : Int32} (hf : mm_fetch y pc = some (.ishl, 1)) (h : ev X y (pc + 1) l (.inl (fm_shl a b) :: st) u R) : ev X y pc l (.inl b :: .inl a :: st) u R := ev_q hf rfl (fun _ => rfl) (fun L M hL _ => rfl) h
theorem ev_ishr {a b : Int32} (hf : mm_fetch y pc = some (.ishr, 1)) (h : ev X y (pc + 1) l (.inl (fm_shr a b) :: st) u R) : ev X y pc l (.inl b :: .inl a :: st) u R := ev_q hf rfl (fun _ => rfl) (fun L M hL _ => rfl) h
theorem ev_idiv {a b : Int32} (hf : mm_fetch y pc = some (.idiv, 1)) (hb : ¬ b = 0) (h : ev X y (pc + 1) l (.inl (a / b) :: st) u R) : ev X y pc l (.inl b :: .inl a :: st) u R := ev_q hf rfl (fun _ => rfl) (fun L M hL _ => by dsimp only [mm_step]; rw [if_neg hb]) h
theorem ev_irem {a b : Int32} (hf : mm_fetch y pc = some (.irem, 1)) (hb : ¬ b = 0) (h : ev X y (pc + 1) l (.inl (fm_rem a b) :: st) u R) : ev X y pc l (.inl b :: .inl a :: st) u R := ev_q hf rfl (fun _ => rfl) (fun L M hL _ => by dsimp only [mm_step, fm_rem]; rw [if_neg hb]) h
theorem ev_ladd {a b : Int64} (hf : mm_fetch y pc = some (.ladd, 1)) (h : ev X y (pc + 1) l (.inr (.inr (a + b)) :: st) u R) : ev X y pc l (.inr (.inr b) :: .inr (.inr a) :: st) u R := ev_q hf rfl (fun _ => rfl) (fun L M hL _ => rfl) h
theorem ev_lmul {a b : Int64} (hf : mm_fetch y pc = some (.lmul, 1)) (h : ev X y (pc + 1) l (.inr (.inr (a * b)) :: st) u R) : ev X y pc l (.inr (.inr b) :: .inr (.inr a) :: st) u R := ev_q hf rfl (fun _ => rfl) (fun L M hL _ => rfl) h
theorem ev_lcmp {a b : Int64} (hf : mm_fetch y pc = some (.lcmp, 1)) (h : ev X y (pc + 1) l (.inl (lg_cmp a b) :: st) u R) : ev X y pc l (.inr (.inr b) :: .inr (.inr a) :: st) u R := ev_q hf rfl (fun _ => rfl) (fun L M hL _ => rfl) h
theorem ev_i2l {a : Int32} (hf : mm_fetch y pc = some (.i2l, 1)) (h : ev X y (pc + 1) l (.inr (.inr a.toInt64) :: st) u R) : ev X y pc l (.inl a :: st) u R := ev_q hf rfl (fun _ => rfl) (fun L M hL _ => rfl) h
theorem ev_l2i {a : Int64} (hf : mm_fetch y pc = some (.l2i, 1)) (h : ev X y (pc + 1) l (.inl a.toInt32 :: st) u R) : ev X y pc l (.inr (.inr a) :: st) u R := ev_q hf rfl (fun _ => rfl) (fun L M hL _ => rfl) h
theorem ev_i2c {a : Int32} (hf : mm_fetch y pc = some (.i2c, 1)) (h : ev X y (pc + 1) l (.inl (fm_i2c a) :: st) u R) : ev X y pc l (.inl a :: st) u R := ev_q hf rfl (fun _ => rfl) (fun L M hL _ => rfl) h
theorem ev_dup {v : mm_V} (hf : mm_fetch y pc = some (.dup, 1)) (hv : mm_cat v = 1) (h : ev X y (pc + 1) l (v :: v :: st) u R) : ev X y pc l (v :: st) u R := ev_q hf rfl (fun _ => rfl) (fun L M hL _ => by dsimp only [mm_step]; rw [if_pos hv]) h
theorem ev_pop {v : mm_V} (hf : mm_fetch y pc = some (.pop, 1)) (hv : mm_cat v = 1) (h : ev X y (pc + 1) l st u R) : ev X y pc l (v :: st) u R := ev_q hf rfl (fun _ => rfl) (fun L M hL _ => by dsimp only [mm_step]; rw [if_pos hv]) h
theorem ev_dup2 {v w : mm_V} (hf : mm_fetch y pc = some (.dup2, 1)) (hv : mm_cat v = 1) (hw : mm_cat w = 1) (h : ev X y (pc + 1) l (v :: w :: v :: w :: st) u R) : ev X y pc l (v :: w :: st) u R := ev_q hf rfl (fun _ => rfl) (fun L M hL _ => by dsimp only [mm_step]; rw [if_pos ⟨hv, hw⟩]) h
theorem ev_goto {off : Int} {t : Nat} (hf : mm_fetch y pc = some (.goto off, 3)) (ht : mm_tgt pc off = some t) (h : ev X y t l st u R) : ev X y pc l st u R :=
  ev_q hf rfl (fun _ => rfl) (fun L M hL _ => by dsimp only [mm_step, mm_br]; rw [ht]; rfl) h
theorem ev_ifc {c : Jvm.ClassFile.Cond} {x : Int32} {off : Int} {t t1 : Nat} {b : Bool} (hf : mm_fetch y pc = some (.ifCond c off, 3)) (ht : mm_tgt pc off = some t) (hb : mm_cmp c x 0 = b) (h1 : (if b = true then t else pc + 3) = t1) (h : ev X y t1 l st u R) : ev X y pc l (.inl x :: st) u R :=
  ev_q hf rfl (fun _ => rfl) (fun L M hL _ => by dsimp only [mm_step, mm_br]; rw [ht]; dsimp only; rw [hb, h1]) h
theorem ev_icc {c : Jvm.ClassFile.Cond} {x z : Int32} {off : Int} {t t1 : Nat} {b : Bool} (hf : mm_fetch y pc = some (.if_icmp c off, 3)) (ht : mm_tgt pc off = some t) (hb : mm_cmp c x z = b) (h1 : (if b = true then t else pc + 3) = t1) (h : ev X y t1 l st u R) : ev X y pc l (.inl z :: .inl x :: st) u R :=
  ev_q hf rfl (fun _ => rfl) (fun L M hL _ => by dsimp only [mm_step, mm_br]; rw [ht]; dsimp only; rw [hb, h1]) h
theorem ev_if_eq {β : Type} {A B r : β} {x : Int32} {off : Int} {t : Nat} (hf : mm_fetch y pc = some (.ifCond .eq off, 3)) (ht : mm_tgt pc off = some t) (h : (if x = 0 then A else B) = r) (h1 : A = r → ev X y t l st u R) (h2 : B = r → ev X y (pc + 3) l st u R) : ev X y pc l (.inl x :: st) u R := by
  by_cases hc : x = 0
  · rw [if_pos hc] at h
    exact ev_ifc (b := true) hf ht (decide_eq_true hc) rfl (h1 h)
  · rw [if_neg hc] at h
    exact ev_ifc (b := false) hf ht (decide_eq_false hc) rfl (h2 h)
theorem ev_if_ne {β : Type} {A B r : β} {x : Int32} {off : Int} {t : Nat} (hf : mm_fetch y pc = some (.ifCond .ne off, 3)) (ht : mm_tgt pc off = some t) (h : (if x = 0 then B else A) = r) (h1 : A = r → ev X y t l st u R) (h2 : B = r → ev X y (pc + 3) l st u R) : ev X y pc l (.inl x :: st) u R := by
  by_cases hc : x = 0
  · rw [if_pos hc] at h
    exact ev_ifc (b := false) hf ht (by unfold mm_cmp; simp only [decide_eq_true hc]; rfl) rfl (h2 h)
  · rw [if_neg hc] at h
    exact ev_ifc (b := true) hf ht (by unfold mm_cmp; simp only [decide_eq_false hc]; rfl) rfl (h1 h)
theorem ev_if_lt {β : Type} {A B r : β} {x : Int32} {off : Int} {t : Nat} (hf : mm_fetch y pc = some (.ifCond .lt off, 3)) (ht : mm_tgt pc off = some t) (h : (if x < 0 then A else B) = r) (h1 : A = r → ev X y t l st u R) (h2 : B = r → ev X y (pc + 3) l st u R) : ev X y pc l (.inl x :: st) u R := by
  by_cases hc : x < 0
  · rw [if_pos hc] at h
    exact ev_ifc (b := true) hf ht (decide_eq_true hc) rfl (h1 h)
  · rw [if_neg hc] at h
    exact ev_ifc (b := false) hf ht (decide_eq_false hc) rfl (h2 h)
theorem ev_if_ge {β : Type} {A B r : β} {x : Int32} {off : Int} {t : Nat} (hf : mm_fetch y pc = some (.ifCond .ge off, 3)) (ht : mm_tgt pc off = some t) (h : (if x < 0 then B else A) = r) (h1 : A = r → ev X y t l st u R) (h2 : B = r → ev X y (pc + 3) l st u R) : ev X y pc l (.inl x :: st) u R := by
  by_cases hc : x < 0
  · rw [if_pos hc] at h
    exact ev_ifc (b := false) hf ht (decide_eq_false (fun e => absurd hc (Int32.not_lt.mpr e))) rfl (h2 h)
  · rw [if_neg hc] at h
    exact ev_ifc (b := true) hf ht (decide_eq_true (Int32.not_lt.mp hc)) rfl (h1 h)
theorem ev_if_gt {β : Type} {A B r : β} {x : Int32} {off : Int} {t : Nat} (hf : mm_fetch y pc = some (.ifCond .gt off, 3)) (ht : mm_tgt pc off = some t) (h : (if 0 < x then A else B) = r) (h1 : A = r → ev X y t l st u R) (h2 : B = r → ev X y (pc + 3) l st u R) : ev X y pc l (.inl x :: st) u R := by
  by_cases hc : 0 < x
  · rw [if_pos hc] at h
    exact ev_ifc (b := true) hf ht (decide_eq_true hc) rfl (h1 h)
  · rw [if_neg hc] at h
    exact ev_ifc (b := false) hf ht (decide_eq_false hc) rfl (h2 h)
theorem ev_if_le {β : Type} {A B r : β} {x : Int32} {off : Int} {t : Nat} (hf : mm_fetch y pc = some (.ifCond .le off, 3)) (ht : mm_tgt pc off = some t) (h : (if 0 < x then B else A) = r) (h1 : A = r → ev X y t l st u R) (h2 : B = r → ev X y (pc + 3) l st u R) : ev X y pc l (.inl x :: st) u R := by
  by_cases hc : 0 < x
  · rw [if_pos hc] at h
    exact ev_ifc (b := false) hf ht (decide_eq_false (fun e => absurd hc (Int32.not_lt.mpr e))) rfl (h2 h)
  · rw [if_neg hc] at h
    exact ev_ifc (b := true) hf ht (decide_eq_true (Int32.not_lt.mp hc)) rfl (h1 h)
theorem ev_ic_eq {β : Type} {A B r : β} {x z : Int32} {off : Int} {t : Nat} (hf : mm_fetch y pc = some (.if_icmp .eq off, 3)) (ht : mm_tgt pc off = some t) (h : (if x = z then A else B) = r) (h1 : A = r → ev X y t l st u R) (h2 : B = r → ev X y (pc + 3) l st u R) : ev X y pc l (.inl z :: .inl x :: st) u R := by
  by_cases hc : x = z
  · rw [if_pos hc] at h
    exact ev_icc (b := true) hf ht (decide_eq_true hc) rfl (h1 h)
  · rw [if_neg hc] at h
    exact ev_icc (b := false) hf ht (decide_eq_false hc) rfl (h2 h)
theorem ev_ic_ne {β : Type} {A B r : β} {x z : Int32} {off : Int} {t : Nat} (hf : mm_fetch y pc = some (.if_icmp .ne off, 3)) (ht : mm_tgt pc off = some t) (h : (if x = z then B else A) = r) (h1 : A = r → ev X y t l st u R) (h2 : B = r → ev X y (pc + 3) l st u R) : ev X y pc l (.inl z :: .inl x :: st) u R := by
  by_cases hc : x = z
  · rw [if_pos hc] at h
    exact ev_icc (b := false) hf ht (by unfold mm_cmp; simp only [decide_eq_true hc]; rfl) rfl (h2 h)
  · rw [if_neg hc] at h
    exact ev_icc (b := true) hf ht (by unfold mm_cmp; simp only [decide_eq_false hc]; rfl) rfl (h1 h)
theorem ev_ic_lt {β : Type} {A B r : β} {x z : Int32} {off : Int} {t : Nat} (hf : mm_fetch y pc = some (.if_icmp .lt off, 3)) (ht : mm_tgt pc off = some t) (h : (if x < z then A else B) = r) (h1 : A = r → ev X y t l st u R) (h2 : B = r → ev X y (pc + 3) l st u R) : ev X y pc l (.inl z :: .inl x :: st) u R := by
  by_cases hc : x < z
  · rw [if_pos hc] at h
    exact ev_icc (b := true) hf ht (decide_eq_true hc) rfl (h1 h)
  · rw [if_neg hc] at h
    exact ev_icc (b := false) hf ht (decide_eq_false hc) rfl (h2 h)
theorem ev_ic_ge {β : Type} {A B r : β} {x z : Int32} {off : Int} {t : Nat} (hf : mm_fetch y pc = some (.if_icmp .ge off, 3)) (ht : mm_tgt pc off = some t) (h : (if x < z then B else A) = r) (h1 : A = r → ev X y t l st u R) (h2 : B = r → ev X y (pc + 3) l st u R) : ev X y pc l (.inl z :: .inl x :: st) u R := by
  by_cases hc : x < z
  · rw [if_pos hc] at h
    exact ev_icc (b := false) hf ht (decide_eq_false (fun e => absurd hc (Int32.not_lt.mpr e))) rfl (h2 h)
  · rw [if_neg hc] at h
    exact ev_icc (b := true) hf ht (decide_eq_true (Int32.not_lt.mp hc)) rfl (h1 h)
theorem ev_ic_gt {β : Type} {A B r : β} {x z : Int32} {off : Int} {t : Nat} (hf : mm_fetch y pc = some (.if_icmp .gt off, 3)) (ht : mm_tgt pc off = some t) (h : (if z < x then A else B) = r) (h1 : A = r → ev X y t l st u R) (h2 : B = r → ev X y (pc + 3) l st u R) : ev X y pc l (.inl z :: .inl x :: st) u R := by
  by_cases hc : z < x
  · rw [if_pos hc] at h
    exact ev_icc (b := true) hf ht (decide_eq_true hc) rfl (h1 h)
  · rw [if_neg hc] at h
    exact ev_icc (b := false) hf ht (decide_eq_false hc) rfl (h2 h)
theorem ev_ic_le {β : Type} {A B r : β} {x z : Int32} {off : Int} {t : Nat} (hf : mm_fetch y pc = some (.if_icmp .le off, 3)) (ht : mm_tgt pc off = some t) (h : (if z < x then B else A) = r) (h1 : A = r → ev X y t l st u R) (h2 : B = r → ev X y (pc + 3) l st u R) : ev X y pc l (.inl z :: .inl x :: st) u R := by
  by_cases hc : z < x
  · rw [if_pos hc] at h
    exact ev_icc (b := false) hf ht (decide_eq_false (fun e => absurd hc (Int32.not_lt.mpr e))) rfl (h2 h)
  · rw [if_neg hc] at h
    exact ev_icc (b := true) hf ht (decide_eq_true (Int32.not_lt.mp hc)) rfl (h1 h)
/-- a guard that holds -/
theorem fm_ob {β : Type} {c : Prop} {hd : Decidable c} {A : Option β} {b : β} {G : Prop} (h : (@ite _ c hd A none) = some b) (k : c → A = some b → G) : G := by
  by_cases hc : c
  · rw [if_pos hc] at h
    exact k hc h
  · rw [if_neg hc] at h
    cases h
/-- a guard that must not hold -/
theorem fm_nb {β : Type} {c : Prop} {hd : Decidable c} {A : Option β} {b : β} {G : Prop} (h : (@ite _ c hd none A) = some b) (k : ¬ c → A = some b → G) : G := by
  by_cases hc : c
  · rw [if_pos hc] at h
    cases h
  · rw [if_neg hc] at h
    exact k hc h
theorem fm_sp {β : Type} {c : Prop} {hd : Decidable c} {A B r : β} {G : Prop} (h : (@ite _ c hd A B) = r) (h1 : c → A = r → G) (h2 : ¬ c → B = r → G) : G := by
  by_cases hc : c
  · rw [if_pos hc] at h
    exact h1 hc h
  · rw [if_neg hc] at h
    exact h2 hc h
def fm_let {α β : Type} (x : α) (f : α → β) : β := f x
theorem fm_lt_h {α β : Type} {x : α} {f : α → β} {r : β} {G : Prop} (h : fm_let x f = r) (k : ∀ z, x = z → f z = r → G) : G := k x rfl h
theorem fm_bd {α β : Type} {x : Option α} {f : α → Option β} {b : β} {G : Prop} (h : Option.bind x f = some b) (k : ∀ z, x = some z → f z = some b → G) : G := by
  cases x with
  | none => cases h
  | some z => exact k z rfl h
def fm_opt {β : Type} (x : Option Nat) (A : β) (B : Nat → β) : β := match x with
  | none => A
  | some a => B a
theorem fm_op {β : Type} {x : Option Nat} {A : β} {B : Nat → β} {r : β} {G : Prop} (h : fm_opt x A B = r) (h1 : x = none → A = r → G) (h2 : ∀ a, x = some a → B a = r → G) : G := by
  cases x with
  | none => exact h1 rfl h
  | some a => exact h2 a rfl h
abbrev fm_in (i : Int32) (n : Nat) : Prop := 0 ≤ i.toInt ∧ i.toInt < (n : Int)
theorem fm_in_ok {i : Int32} {n : Nat} (h : fm_in i n) : mm_in i n = true := by
  unfold mm_in
  have h0 : ¬ i < 0 := by
    rw [Int32.lt_iff_toInt_lt]
    simp
    exact h.1
  have h2 : i.toNatClampNeg < n := by
    rw [Int32.toNatClampNeg]
    omega
  simp [h0, h2]
theorem fm_in_nat {i : Int32} {n : Nat} (h : fm_in i n) : i.toNatClampNeg < n := by
  rw [Int32.toNatClampNeg]
  omega
/-! fields -/
def fm_fd (r : Nat) : Nat × Nat × Nat × Bool := ((mm_fld r).2.2.1, (mm_fld r).2.2.2.1, if (mm_fld r).2.2.2.1 < mm_N (mm_fld r).2.2.1 ∧ ¬ (mm_fld r).2.2.1 = 99 then (match mm_ty (mm_fld r).2.2.1 (mm_fld r).2.2.2.1 with
  | .int => 0
  | .boolean => 1
  | .object _ => 2
  | .array _ => 2
  | .long => 3
  | _ => 9) else 9, (mm_T (mm_fld r).2.2.1 (mm_fld r).2.2.2.1).2.2.2)
theorem fm_fd_ok {r ci j k : Nat} {b : Bool} (h : fm_fd r = (ci, j, k, b)) (hk : ¬ k = 9) : (mm_fld r).2.2.1 = ci ∧ (mm_fld r).2.2.2.1 = j ∧ j < mm_N ci ∧ ¬ ci = 99 ∧ (mm_T ci j).2.2.2 = b ∧ k = (match mm_ty ci j with | .int => 0 | .boolean => 1 | .object _ => 2 | .array _ => 2 | .long => 3 | _ => 9) := by
  unfold fm_fd at h
  injection h with h1 h2
  injection h2 with h2 h3
  injection h3 with h3 h4
  rw [h1, h2] at h3 h4
  by_cases hc : j < mm_N ci ∧ ¬ ci = 99
  · rw [if_pos hc] at h3
    exact ⟨h1, h2, hc.1, hc.2, h4, h3.symm⟩
  · rw [if_neg hc] at h3
    exact absurd h3.symm hk
theorem fm_fs_get {a ci j : Nat} (h : j < mm_N ci) : (fm_fs u a ci)[j]? = some (fm_fv u a ci j) := by
  unfold fm_fs
  rw [List.getElem?_map, List.getElem?_range h]
  rfl
theorem fm_fs_len {a ci : Nat} : (fm_fs u a ci).length = mm_N ci := by
  unfold fm_fs
  rw [List.length_map, List.length_range]
theorem ev_get {r ci j k a : Nat} {b : Bool} (hf : mm_fetch y pc = some (.getfield r, 3)) (hr : fm_fd r = (ci, j, k, b)) (hk : ¬ k = 9) (ht : fm_tm a = .inl ci) (h : ev X y (pc + 3) l (fm_fv u a ci j :: st) u R) : ev X y pc l (.inr (.inl (some a)) :: st) u R := by
  obtain ⟨h1, h2, h3, h4, h5, h6⟩ := fm_fd_ok hr hk
  refine ev_q hf rfl (fun _ => rfl) (fun L M hL hM => ?_) h
  dsimp only [mm_step]
  rw [fm_getO hM ht h4]
  dsimp only
  rw [h1, h2, if_pos ⟨rfl, h3⟩, fm_fs_get h3]
theorem fm_ty0 {ci j : Nat} (h : (0 : Nat) = (match mm_ty ci j with | .int => 0 | .boolean => 1 | .object _ => 2 | .array _ => 2 | .long => 3 | _ => 9)) : mm_ty ci j = .int := by
  split at h <;> first | assumption | cases h
theorem fm_ty1 {ci j : Nat} (h : (1 : Nat) = (match mm_ty ci j with | .int => 0 | .boolean => 1 | .object _ => 2 | .array _ => 2 | .long => 3 | _ => 9)) : mm_ty ci j = .boolean := by
  split at h <;> first | assumption | cases h
theorem fm_ty3 {ci j : Nat} (h : (3 : Nat) = (match mm_ty ci j with | .int => 0 | .boolean => 1 | .object _ => 2 | .array _ => 2 | .long => 3 | _ => 9)) : mm_ty ci j = .long := by
  split at h <;> first | assumption | cases h
theorem fm_fv_ref {a ci j : Nat} (h : (2 : Nat) = (match mm_ty ci j with | .int => 0 | .boolean => 1 | .object _ => 2 | .array _ => 2 | .long => 3 | _ => 9)) : fm_fv u a ci j = .inr (.inl (some (fm_ref ci a j))) := by
  unfold fm_fv
  split at h
  · cases h
  · cases h
  · rename_i hq; rw [hq]
  · rename_i hq; rw [hq]
  · cases h
  · cases h
theorem ev_getI {r ci j a : Nat} {b : Bool} (hf : mm_fetch y pc = some (.getfield r, 3)) (hr : fm_fd r = (ci, j, 0, b)) (ht : fm_tm a = .inl ci) (h : ev X y (pc + 3) l (.inl (fI u a j) :: st) u R) : ev X y pc l (.inr (.inl (some a)) :: st) u R := by
  refine ev_get hf hr (by decide) ht ?_
  unfold fm_fv
  rw [fm_ty0 (fm_fd_ok hr (by decide)).2.2.2.2.2]
  exact h
theorem ev_getZ {r ci j a : Nat} {b : Bool} (hf : mm_fetch y pc = some (.getfield r, 3)) (hr : fm_fd r = (ci, j, 1, b)) (ht : fm_tm a = .inl ci) (h : ev X y (pc + 3) l (.inl (fm_b01 (fI u a j)) :: st) u R) : ev X y pc l (.inr (.inl (some a)) :: st) u R := by
  refine ev_get hf hr (by decide) ht ?_
  unfold fm_fv
  rw [fm_ty1 (fm_fd_ok hr (by decide)).2.2.2.2.2]
  exact h
theorem ev_getJ {r ci j a : Nat} {b : Bool} (hf : mm_fetch y pc = some (.getfield r, 3)) (hr : fm_fd r = (ci, j, 3, b)) (ht : fm_tm a = .inl ci) (h : ev X y (pc + 3) l (.inr (.inr (fJ u a j)) :: st) u R) : ev X y pc l (.inr (.inl (some a)) :: st) u R := by
  refine ev_get hf hr (by decide) ht ?_
  unfold fm_fv
  rw [fm_ty3 (fm_fd_ok hr (by decide)).2.2.2.2.2]
  exact h
theorem ev_getR {r ci j a a1 : Nat} {b : Bool} (hf : mm_fetch y pc = some (.getfield r, 3)) (hr : fm_fd r = (ci, j, 2, b)) (ht : fm_tm a = .inl ci) (ha : fm_ref ci a j = a1) (h : ev X y (pc + 3) l (.inr (.inl (some a1)) :: st) u R) : ev X y pc l (.inr (.inl (some a)) :: st) u R := by
  refine ev_get hf hr (by decide) ht ?_
  rw [fm_fv_ref (fm_fd_ok hr (by decide)).2.2.2.2.2, ha]
  exact h
theorem fm_b01_id {v : Int32} (h : v = 0 ∨ v = 1) : fm_b01 v = v := by
  rcases h with rfl | rfl <;> rfl
theorem fm_b01_01 (v : Int32) : fm_b01 v = 0 ∨ fm_b01 v = 1 := by
  unfold fm_b01
  split
  · exact Or.inl rfl
  · exact Or.inr rfl
theorem fm_fs_set {u1 : fm} {a ci j : Nat} {v : mm_V} (hj : j < mm_N ci) (h1 : fm_fv u1 a ci j = v) (h2 : ∀ k, ¬ k = j → fm_fv u1 a ci k = fm_fv u a ci k) : (fm_fs u a ci).set j v = fm_fs u1 a ci := by
  apply List.ext_getElem?
  intro k
  rw [List.getElem?_set]
  by_cases hk : j = k
  · subst hk
    rw [if_pos rfl, if_pos (by rw [fm_fs_len]; exact hj), fm_fs_get hj, h1]
  · rw [if_neg hk]
    by_cases hl : k < mm_N ci
    · rw [fm_fs_get hl, fm_fs_get hl, h2 k (fun e => hk e.symm)]
    · rw [List.getElem?_eq_none (by rw [fm_fs_len]; omega), List.getElem?_eq_none (by rw [fm_fs_len]; omega)]
theorem ev_put {u1 : fm} {r ci j k a : Nat} {v : mm_V} (hf : mm_fetch y pc = some (.putfield r, 3)) (hr : fm_fd r = (ci, j, k, false)) (hk : ¬ k = 9) (ht : fm_tm a = .inl ci) (hok : mm_okv (mm_ty ci j) v = true) (h1 : fm_fv u1 a ci j = v) (h2 : ∀ k, ¬ k = j → fm_fv u1 a ci k = fm_fv u a ci k) (hI : ∀ b, ¬ b = a → ∀ k, fI u1 b k = fI u b k) (hJ : ∀ b, ¬ b = a → ∀ k, fJ u1 b k = fJ u b k) (hA : ∀ b k, fA u1 b k = fA u b k) (hG : ∀ b k, fG u1 b k = fG u b k) (hP : ∀ b k, fP u1 b k = fP u b k) (h : ev X y (pc + 3) l st u1 R) : ev X y pc l (v :: .inr (.inl (some a)) :: st) u R := by
  obtain ⟨e1, e2, e3, e4, e5, e6⟩ := fm_fd_ok hr hk
  refine ev_p hf rfl (fun _ => rfl) (fun L M hL hM => ⟨L, M.set a (.inl (ci, fm_fs u1 a ci)), ?_, hL, ?_⟩) h
  · dsimp only [mm_step]
    rw [fm_getO hM ht e4]
    dsimp only
    rw [e1, e2, if_pos ⟨rfl, e3, by rw [fm_fs_len]; exact e3, hok, fun e => by rw [e5] at e; cases e⟩, fm_fs_set e3 h1 h2]
  · refine fm_set hM (fm_lt ht e4) ?_ hI hJ (fun b _ k => hA b k) (fun b _ k => hG b k) (fun b _ k => hP b k)
    unfold fm_C
    rw [ht]
theorem ev_putI {u1 : fm} {r ci j a : Nat} {v : Int32} (hf : mm_fetch y pc = some (.putfield r, 3)) (hr : fm_fd r = (ci, j, 0, false)) (ht : fm_tm a = .inl ci) (hu : sI u a j v = u1) (h : ev X y (pc + 3) l st u1 R) : ev X y pc l (.inl v :: .inr (.inl (some a)) :: st) u R := by
  subst hu
  have hty := fm_ty0 (fm_fd_ok hr (by decide)).2.2.2.2.2
  refine ev_put (u1 := sI u a j v) hf hr (by decide) ht (by rw [hty]; rfl) ?_ (fun k hk => ?_) (fun b hb k => fm_u2_ne hb) (fun _ _ _ => rfl) (fun _ _ => rfl) (fun _ _ => rfl) (fun _ _ => rfl) h
  · unfold fm_fv
    rw [hty]
    dsimp only
    exact congrArg Sum.inl fm_u2_eq
  · unfold fm_fv
    rw [show fI (sI u a j v) a k = fI u a k from fm_u2_nk hk]
    rfl
theorem ev_putZ {u1 : fm} {r ci j a : Nat} {v : Int32} (hf : mm_fetch y pc = some (.putfield r, 3)) (hr : fm_fd r = (ci, j, 1, false)) (ht : fm_tm a = .inl ci) (hv : v = 0 ∨ v = 1) (hu : sI u a j v = u1) (h : ev X y (pc + 3) l st u1 R) : ev X y pc l (.inl v :: .inr (.inl (some a)) :: st) u R := by
  subst hu
  have hty := fm_ty1 (fm_fd_ok hr (by decide)).2.2.2.2.2
  refine ev_put (u1 := sI u a j v) hf hr (by decide) ht (by rw [hty]; unfold mm_okv; simpa using hv) ?_ (fun k hk => ?_) (fun b hb k => fm_u2_ne hb) (fun _ _ _ => rfl) (fun _ _ => rfl) (fun _ _ => rfl) (fun _ _ => rfl) h
  · unfold fm_fv
    rw [hty]
    dsimp only
    rw [show fI (sI u a j v) a j = v from fm_u2_eq, fm_b01_id hv]
  · unfold fm_fv
    rw [show fI (sI u a j v) a k = fI u a k from fm_u2_nk hk]
    rfl
theorem ev_putJ {u1 : fm} {r ci j a : Nat} {v : Int64} (hf : mm_fetch y pc = some (.putfield r, 3)) (hr : fm_fd r = (ci, j, 3, false)) (ht : fm_tm a = .inl ci) (hu : sJ u a j v = u1) (h : ev X y (pc + 3) l st u1 R) : ev X y pc l (.inr (.inr v) :: .inr (.inl (some a)) :: st) u R := by
  subst hu
  have hty := fm_ty3 (fm_fd_ok hr (by decide)).2.2.2.2.2
  refine ev_put (u1 := sJ u a j v) hf hr (by decide) ht (by rw [hty]; rfl) ?_ (fun k hk => ?_) (fun _ _ _ => rfl) (fun b hb k => fm_u2_ne hb) (fun _ _ => rfl) (fun _ _ => rfl) (fun _ _ => rfl) h
  · unfold fm_fv
    rw [hty]
    dsimp only
    exact congrArg (fun z => Sum.inr (Sum.inr z)) fm_u2_eq
  · unfold fm_fv
    rw [show fJ (sJ u a j v) a k = fJ u a k from fm_u2_nk hk]
    rfl
/-! rows -/
theorem ev_len {a t n : Nat} (hf : mm_fetch y pc = some (.arraylength, 1)) (ht : fm_tm a = .inr (t, n)) (h5 : Nat.blt t 5 = true) (h : ev X y (pc + 1) l (.inl (Int32.ofNat n) :: st) u R) : ev X y pc l (.inr (.inl (some a)) :: st) u R := by
  refine ev_q hf rfl (fun _ => rfl) (fun L M hL hM => ?_) h
  obtain ⟨f, h1, h2⟩ := fm_getA hM ht
  have h3 := fm_lt2 ht
  dsimp only [mm_step]
  rw [if_neg (show ¬ a = mm_scr by unfold mm_scr; omega), h1]
  dsimp only
  rw [if_pos (by simpa [Nat.blt_eq] using h5)]
theorem ev_iaload {a n : Nat} {i : Int32} (hf : mm_fetch y pc = some (.iaload, 1)) (ht : fm_tm a = .inr (0, n)) (hi : fm_in i n) (h : ev X y (pc + 1) l (.inl (fA u a i.toNatClampNeg) :: st) u R) : ev X y pc l (.inl i :: .inr (.inl (some a)) :: st) u R := by
  refine ev_q hf rfl (fun _ => rfl) (fun L M hL hM => ?_) h
  obtain ⟨f, h1, h2⟩ := fm_getA hM ht
  have h3 := fm_lt2 ht
  dsimp only [mm_step]
  rw [if_neg (show ¬ a = mm_scr by unfold mm_scr; omega), h1]
  rcases f with g | g | g
  · dsimp only
    rw [if_pos ⟨rfl, fm_in_ok hi⟩]
    rcases h2 with h2 | h2
    · rw [h2.2 _ (fm_in_nat hi)]
    · exact absurd h2.1 (by decide)
  · exact absurd h2.1 (by decide)
  · exact absurd h2.1 (by decide)
theorem ev_ialoadk {a n j : Nat} {i : Int32} (hf : mm_fetch y pc = some (.iaload, 1)) (ht : fm_tm a = .inr (0, n)) (hi : fm_in i n) (hj : i.toNatClampNeg = j) (h : ev X y (pc + 1) l (.inl (fA u a j) :: st) u R) : ev X y pc l (.inl i :: .inr (.inl (some a)) :: st) u R := by
  subst hj
  exact ev_iaload hf ht hi h
theorem ev_caload {a n : Nat} {i : Int32} (hf : mm_fetch y pc = some (.caload, 1)) (ht : fm_tm a = .inr (1, n)) (hi : fm_in i n) (h : ev X y (pc + 1) l (.inl (fA u a i.toNatClampNeg) :: st) u R) : ev X y pc l (.inl i :: .inr (.inl (some a)) :: st) u R := by
  refine ev_q hf rfl (fun _ => rfl) (fun L M hL hM => ?_) h
  obtain ⟨f, h1, h2⟩ := fm_getA hM ht
  dsimp only [mm_step]
  rw [h1]
  rcases f with g | g | g
  · dsimp only
    rw [if_pos ⟨rfl, fm_in_ok hi⟩]
    rcases h2 with h2 | h2
    · rw [h2.2 _ (fm_in_nat hi)]
    · exact absurd h2.1 (by decide)
  · exact absurd h2.1 (by decide)
  · exact absurd h2.1 (by decide)
theorem ev_baload {a n : Nat} {i : Int32} (hf : mm_fetch y pc = some (.baload, 1)) (ht : fm_tm a = .inr (2, n)) (hi : fm_in i n) (h : ev X y (pc + 1) l (.inl (fm_b01 (fA u a i.toNatClampNeg)) :: st) u R) : ev X y pc l (.inl i :: .inr (.inl (some a)) :: st) u R := by
  refine ev_q hf rfl (fun _ => rfl) (fun L M hL hM => ?_) h
  obtain ⟨f, h1, h2⟩ := fm_getA hM ht
  dsimp only [mm_step]
  rw [h1]
  rcases f with g | g | g
  · dsimp only
    rw [if_pos ⟨rfl, fm_in_ok hi⟩]
    rcases h2 with h2 | h2
    · exact absurd h2.1 (by decide)
    · rw [h2.2 _ (fm_in_nat hi)]
  · exact absurd h2.1 (by decide)
  · exact absurd h2.1 (by decide)
theorem ev_laload {a n : Nat} {i : Int32} (hf : mm_fetch y pc = some (.laload, 1)) (ht : fm_tm a = .inr (3, n)) (hi : fm_in i n) (h : ev X y (pc + 1) l (.inr (.inr (fG u a i.toNatClampNeg)) :: st) u R) : ev X y pc l (.inl i :: .inr (.inl (some a)) :: st) u R := by
  refine ev_q hf rfl (fun _ => rfl) (fun L M hL hM => ?_) h
  obtain ⟨f, h1, h2⟩ := fm_getA hM ht
  dsimp only [mm_step]
  rw [h1]
  rcases f with g | g | g
  · rcases h2 with h2 | h2
    · exact absurd h2.1 (by decide)
    · exact absurd h2.1 (by decide)
  · dsimp only
    rw [if_pos ⟨rfl, fm_in_ok hi⟩, h2.2 _ (fm_in_nat hi)]
  · exact absurd h2.1 (by decide)
theorem ev_aaload {a n : Nat} {i : Int32} (hf : mm_fetch y pc = some (.aaload, 1)) (ht : fm_tm a = .inr (4, n)) (hi : fm_in i n) (h : ev X y (pc + 1) l (.inr (.inl (some (3 + 3 * (fP u a i.toNatClampNeg % 60)))) :: st) u R) : ev X y pc l (.inl i :: .inr (.inl (some a)) :: st) u R := by
  refine ev_q hf rfl (fun _ => rfl) (fun L M hL hM => ?_) h
  obtain ⟨f, h1, h2⟩ := fm_getA hM ht
  dsimp only [mm_step]
  rw [h1]
  rcases f with g | g | g
  · rcases h2 with h2 | h2
    · exact absurd h2.1 (by decide)
    · exact absurd h2.1 (by decide)
  · exact absurd h2.1 (by decide)
  · dsimp only
    rw [if_pos ⟨rfl, fm_in_ok hi⟩, h2.2 _ (fm_in_nat hi)]
theorem ev_ast {i : Instr} {st0 : List mm_V} {a t n : Nat} {u1 : fm} (hf : mm_fetch y pc = some (i, 1)) (he : mm_isEnd i = false) (hc : ∀ M, mm_call M y i st0 = none) (ht : fm_tm a = .inr (t, n)) (hs : ∀ (L : mm_L) (M : mm_M) f, mm_ar M a = some (t, n, f) → fm_E u a t n f → ∃ f1, mm_step X y i pc L st0 M = some (pc + 1, L, st, M.set a (.inr (t, n, f1))) ∧ fm_E u1 a t n f1) (hI : ∀ b k, fI u1 b k = fI u b k) (hJ : ∀ b k, fJ u1 b k = fJ u b k) (hA : ∀ b, ¬ b = a → ∀ k, fA u1 b k = fA u b k) (hG : ∀ b, ¬ b = a → ∀ k, fG u1 b k = fG u b k) (hP : ∀ b, ¬ b = a → ∀ k, fP u1 b k = fP u b k) (h : ev X y (pc + 1) l st u1 R) : ev X y pc l st0 u R := by
  refine ev_p hf he hc (fun L M hL hM => ?_) h
  obtain ⟨f, h1, h2⟩ := fm_getA hM ht
  obtain ⟨f1, h3, h4⟩ := hs L M f h1 h2
  refine ⟨L, _, h3, hL, fm_set hM (fm_lt2 ht) ?_ (fun b _ k => hI b k) (fun b _ k => hJ b k) hA hG hP⟩
  unfold fm_C
  rw [ht]
  exact ⟨f1, rfl, h4⟩
theorem ev_iastore {a n : Nat} {i x : Int32} {u1 : fm} (hf : mm_fetch y pc = some (.iastore, 1)) (ht : fm_tm a = .inr (0, n)) (hi : fm_in i n) (hu : sA u a i.toNatClampNeg x = u1) (h : ev X y (pc + 1) l st u1 R) : ev X y pc l (.inl x :: .inl i :: .inr (.inl (some a)) :: st) u R := by
  subst hu
  refine ev_ast (u1 := sA u a i.toNatClampNeg x) hf rfl (fun _ => rfl) ht (fun L M f h1 h2 => ?_) (fun _ _ => rfl) (fun _ _ => rfl) (fun b hb k => fm_u2_ne hb) (fun _ _ _ => rfl) (fun _ _ _ => rfl) h
  rcases f with g | g | g
  · rcases h2 with h2 | h2
    · refine ⟨.inl (upd g i.toNatClampNeg x), ?_, Or.inl ⟨by decide, fun k hk => ?_⟩⟩
      · dsimp only [mm_step]
        rw [h1]
        dsimp only
        rw [if_pos ⟨rfl, fm_in_ok hi⟩]
      · unfold upd
        by_cases hki : k = i.toNatClampNeg
        · rw [if_pos hki, hki]
          exact (fm_u2_eq).symm
        · rw [if_neg hki, h2.2 k hk]
          exact (fm_u2_nk hki).symm
    · exact absurd h2.1 (by decide)
  · exact absurd h2.1 (by decide)
  · exact absurd h2.1 (by decide)
theorem ev_iastorek {a n j : Nat} {i x : Int32} {u1 : fm} (hf : mm_fetch y pc = some (.iastore, 1)) (ht : fm_tm a = .inr (0, n)) (hi : fm_in i n) (hj : i.toNatClampNeg = j) (hu : sA u a j x = u1) (h : ev X y (pc + 1) l st u1 R) : ev X y pc l (.inl x :: .inl i :: .inr (.inl (some a)) :: st) u R := by
  subst hj
  exact ev_iastore hf ht hi hu h
theorem ev_castore {a n : Nat} {i x : Int32} {u1 : fm} (hf : mm_fetch y pc = some (.castore, 1)) (ht : fm_tm a = .inr (1, n)) (hi : fm_in i n) (hu : sA u a i.toNatClampNeg (vp_nar .char x) = u1) (h : ev X y (pc + 1) l st u1 R) : ev X y pc l (.inl x :: .inl i :: .inr (.inl (some a)) :: st) u R := by
  subst hu
  refine ev_ast (u1 := sA u a i.toNatClampNeg (vp_nar .char x)) hf rfl (fun _ => rfl) ht (fun L M f h1 h2 => ?_) (fun _ _ => rfl) (fun _ _ => rfl) (fun b hb k => fm_u2_ne hb) (fun _ _ _ => rfl) (fun _ _ _ => rfl) h
  rcases f with g | g | g
  · rcases h2 with h2 | h2
    · refine ⟨.inl (upd g i.toNatClampNeg (vp_nar .char x)), ?_, Or.inl ⟨by decide, fun k hk => ?_⟩⟩
      · dsimp only [mm_step]
        rw [h1]
        dsimp only
        rw [if_pos ⟨rfl, fm_in_ok hi⟩]
      · unfold upd
        by_cases hki : k = i.toNatClampNeg
        · rw [if_pos hki, hki]
          exact (fm_u2_eq).symm
        · rw [if_neg hki, h2.2 k hk]
          exact (fm_u2_nk hki).symm
    · exact absurd h2.1 (by decide)
  · exact absurd h2.1 (by decide)
  · exact absurd h2.1 (by decide)
theorem fm_nar01 {x : Int32} (h : x = 0 ∨ x = 1) : vp_nar .boolean x = x := by
  rcases h with rfl | rfl <;> rfl
theorem ev_bastore {a n : Nat} {i x : Int32} {u1 : fm} (hf : mm_fetch y pc = some (.bastore, 1)) (ht : fm_tm a = .inr (2, n)) (hi : fm_in i n) (hx : x = 0 ∨ x = 1) (hu : sA u a i.toNatClampNeg x = u1) (h : ev X y (pc + 1) l st u1 R) : ev X y pc l (.inl x :: .inl i :: .inr (.inl (some a)) :: st) u R := by
  subst hu
  refine ev_ast (u1 := sA u a i.toNatClampNeg x) hf rfl (fun _ => rfl) ht (fun L M f h1 h2 => ?_) (fun _ _ => rfl) (fun _ _ => rfl) (fun b hb k => fm_u2_ne hb) (fun _ _ _ => rfl) (fun _ _ _ => rfl) h
  rcases f with g | g | g
  · rcases h2 with h2 | h2
    · exact absurd h2.1 (by decide)
    · refine ⟨.inl (upd g i.toNatClampNeg x), ?_, Or.inr ⟨rfl, fun k hk => ?_⟩⟩
      · dsimp only [mm_step]
        rw [h1]
        dsimp only
        rw [if_pos ⟨rfl, fm_in_ok hi⟩, fm_nar01 hx]
      · unfold upd
        by_cases hki : k = i.toNatClampNeg
        · rw [if_pos hki, hki, show fA (sA u a i.toNatClampNeg x) a i.toNatClampNeg = x from fm_u2_eq, fm_b01_id hx]
        · rw [if_neg hki, h2.2 k hk, show fA (sA u a i.toNatClampNeg x) a k = fA u a k from fm_u2_nk hki]
  · exact absurd h2.1 (by decide)
  · exact absurd h2.1 (by decide)
theorem ev_lastore {a n : Nat} {i : Int32} {x : Int64} {u1 : fm} (hf : mm_fetch y pc = some (.lastore, 1)) (ht : fm_tm a = .inr (3, n)) (hi : fm_in i n) (hu : sG u a i.toNatClampNeg x = u1) (h : ev X y (pc + 1) l st u1 R) : ev X y pc l (.inr (.inr x) :: .inl i :: .inr (.inl (some a)) :: st) u R := by
  subst hu
  refine ev_ast (u1 := sG u a i.toNatClampNeg x) hf rfl (fun _ => rfl) ht (fun L M f h1 h2 => ?_) (fun _ _ => rfl) (fun _ _ => rfl) (fun _ _ _ => rfl) (fun b hb k => fm_u2_ne hb) (fun _ _ _ => rfl) h
  rcases f with g | g | g
  · rcases h2 with h2 | h2
    · exact absurd h2.1 (by decide)
    · exact absurd h2.1 (by decide)
  · refine ⟨.inr (.inl (vp_updL g i.toNatClampNeg x)), ?_, rfl, fun k hk => ?_⟩
    · dsimp only [mm_step]
      rw [h1]
      dsimp only
      rw [if_pos ⟨rfl, fm_in_ok hi⟩]
    · unfold vp_updL
      by_cases hki : k = i.toNatClampNeg
      · rw [if_pos hki, hki]
        exact (fm_u2_eq).symm
      · rw [if_neg hki, h2.2 k hk]
        exact (fm_u2_nk hki).symm
  · exact absurd h2.1 (by decide)
/-- a message of the link -/
def fm_isL (m : Nat) : Prop := 3 + 3 * ((m - 3) / 3 % 60) = m
theorem fm_isL_lt {m : Nat} (h : fm_isL m) : 3 ≤ m ∧ m < 183 ∧ m % 3 = 0 := by
  unfold fm_isL at h
  omega
theorem fm_isL_tab : ∀ q, q < 60 → (fm_tm (3 + 3 * q) = .inl 4 ∧ fm_tm (3 + 3 * q + 1) = .inl 3 ∧ fm_tm (3 + 3 * q + 2) = .inr (0, 30)) := by
  decide +kernel
theorem fm_isL_mk (q : Nat) : fm_isL (3 + 3 * (q % 60)) := by
  unfold fm_isL
  omega
/-- a message: its cell, its media's, the media's row -/
def fm_isM (m : Nat) : Prop := fm_tm m = .inl 4 ∧ fm_tm (m + 1) = .inl 3 ∧ fm_tm (m + 2) = .inr (0, 30)
theorem fm_isL_M {m : Nat} (h : fm_isL m) : fm_isM m := by
  have h1 := fm_isL_tab ((m - 3) / 3 % 60) (Nat.mod_lt _ (by decide))
  unfold fm_isL at h
  rw [h] at h1
  exact h1
theorem ev_aastore {a n m : Nat} {i : Int32} {u1 : fm} (hf : mm_fetch y pc = some (.aastore, 1)) (ht : fm_tm a = .inr (4, n)) (hi : fm_in i n) (hm : fm_isL m) (hu : sP u a i.toNatClampNeg ((m - 3) / 3) = u1) (h : ev X y (pc + 1) l st u1 R) : ev X y pc l (.inr (.inl (some m)) :: .inl i :: .inr (.inl (some a)) :: st) u R := by
  subst hu
  refine ev_p hf rfl (fun _ => rfl) (fun L M hL hM => ?_) h
  obtain ⟨f, h1, h2⟩ := fm_getA hM ht
  have h3 := fm_getO hM (fm_isL_M hm).1 (by decide)
  rcases f with g | g | g
  · rcases h2 with h2 | h2
    · exact absurd h2.1 (by decide)
    · exact absurd h2.1 (by decide)
  · exact absurd h2.1 (by decide)
  · refine ⟨L, M.set a (.inr (4, n, .inr (.inr (va_up g i.toNatClampNeg (some m))))), ?_, hL, ?_⟩
    · dsimp only [mm_step]
      rw [h1, h3]
      dsimp only
      rw [if_pos ⟨rfl, rfl, fm_in_ok hi⟩]
    · refine fm_set hM (fm_lt2 ht) ?_ (fun _ _ _ => rfl) (fun _ _ _ => rfl) (fun _ _ _ => rfl) (fun _ _ _ => rfl) (fun b hb k => fm_u2_ne hb)
      unfold fm_C
      rw [ht]
      refine ⟨_, rfl, rfl, fun k hk => ?_⟩
      unfold va_up
      by_cases hki : k = i.toNatClampNeg
      · rw [if_pos hki, hki, show fP (sP u a i.toNatClampNeg ((m - 3) / 3)) a i.toNatClampNeg = (m - 3) / 3 from fm_u2_eq]
        exact congrArg some hm.symm
      · rw [if_neg hki, h2.2 k hk, show fP (sP u a i.toNatClampNeg ((m - 3) / 3)) a k = fP u a k from fm_u2_nk hki]
/-! the script -/
theorem ev_slen (hf : mm_fetch y pc = some (.arraylength, 1)) (h : ev X y (pc + 1) l (.inl (Int32.ofNat X.1) :: st) u R) : ev X y pc l (.inr (.inl (some mm_scr)) :: st) u R :=
  ev_q hf rfl (fun _ => rfl) (fun L M hL hM => by dsimp only [mm_step]; rw [if_pos rfl]) h
theorem ev_sload {i : Int32} (hf : mm_fetch y pc = some (.iaload, 1)) (hi : fm_in i X.1) (h : ev X y (pc + 1) l (.inl (X.2 i.toNatClampNeg) :: st) u R) : ev X y pc l (.inl i :: .inr (.inl (some mm_scr)) :: st) u R :=
  ev_q hf rfl (fun _ => rfl) (fun L M hL hM => by dsimp only [mm_step]; rw [if_pos rfl, if_pos (fm_in_ok hi)]) h
/-! switches -/
theorem ev_swd {x : Int32} {d lo hi : Int} {os : Array Int} {t len : Nat} (hf : mm_fetch y pc = some (.tableswitch d lo hi os, len)) (ht : mm_tgt pc d = some t) (hx : x.toInt < lo ∨ hi < x.toInt) (h : ev X y t l st u R) : ev X y pc l (.inl x :: st) u R :=
  ev_q hf rfl (fun _ => rfl) (fun L M hL hM => by dsimp only [mm_step]; rw [if_pos hx, ht]) h
theorem ev_swk {x : Int32} {d lo hi c off : Int} {os : Array Int} {t len : Nat} (hf : mm_fetch y pc = some (.tableswitch d lo hi os, len)) (hx : x.toInt = c) (hc : lo ≤ c ∧ c ≤ hi) (ho : os[(c - lo).toNat]? = some off) (ht : mm_tgt pc off = some t) (h : ev X y t l st u R) : ev X y pc l (.inl x :: st) u R :=
  ev_q hf rfl (fun _ => rfl) (fun L M hL hM => by dsimp only [mm_step]; rw [hx, if_neg (by omega), ho]; dsimp only; rw [ht]) h
/-! what the library answers -/
theorem ev_min {r : Nat} {a b : Int32} (hf : mm_fetch y pc = some (.invokestatic r, 3)) (hr : (mm_mr r).2.2.1 = 1001) (hy : 1 ≤ mm_fr y ∧ 21 ≤ mm_lo y) (hs : Nat.ble (st.map mm_cat).sum 8 = true) (h : ev X y (pc + 3) l (.inl (fm_min a b) :: st) u R) : ev X y pc l (.inl b :: .inl a :: st) u R := by
  refine ev_q hf rfl (fun M => ?_) (fun L M hL hM => ?_) h
  · dsimp only [mm_call]
    unfold mm_go
    rw [if_neg (by rw [hr]; omega)]
  · dsimp only [mm_step]
    rw [if_pos ⟨hy.1, hy.2, Nat.le_of_ble_eq_true hs⟩, if_pos hr]
    rfl
theorem ev_max {r : Nat} {a b : Int32} (hf : mm_fetch y pc = some (.invokestatic r, 3)) (hr : (mm_mr r).2.2.1 = 1002) (hy : 1 ≤ mm_fr y ∧ 21 ≤ mm_lo y) (hs : Nat.ble (st.map mm_cat).sum 8 = true) (h : ev X y (pc + 3) l (.inl (fm_max a b) :: st) u R) : ev X y pc l (.inl b :: .inl a :: st) u R := by
  refine ev_q hf rfl (fun M => ?_) (fun L M hL hM => ?_) h
  · dsimp only [mm_call]
    unfold mm_go
    rw [if_neg (by rw [hr]; omega)]
  · dsimp only [mm_step]
    rw [if_pos ⟨hy.1, hy.2, Nat.le_of_ble_eq_true hs⟩, if_neg (by rw [hr]; decide), if_pos hr]
    rfl
def fm_isS (w : Nat) : Prop := 1000001 ≤ w ∧ w < 1000025
def fm_sl (w : Nat) : Nat := mm_slen (w - 1000001)
theorem ev_strlen {r w : Nat} (hf : mm_fetch y pc = some (.invokevirtual r, 3)) (hr : (mm_mr r).2.2.1 = 1003) (hy : 2 ≤ mm_fr y ∧ 40 ≤ mm_lo y) (hs : Nat.ble (st.map mm_cat).sum 8 = true) (hw : fm_isS w) (h : ev X y (pc + 3) l (.inl (nI (fm_sl w)) :: st) u R) : ev X y pc l (.inr (.inl (some w)) :: st) u R := by
  refine ev_q hf rfl (fun M => ?_) (fun L M hL hM => ?_) h
  · dsimp only [mm_call]
    unfold mm_go
    rw [if_neg (by rw [hr]; omega)]
  · dsimp only [mm_step]
    rw [if_pos hr, if_pos ⟨hw.1, hw.2, hy.1, hy.2, Nat.le_of_ble_eq_true hs⟩]
    rfl
theorem ev_charAt {r w : Nat} {i : Int32} (hf : mm_fetch y pc = some (.invokevirtual r, 3)) (hr : (mm_mr r).2.2.1 = 1004) (hy : 4 ≤ mm_fr y ∧ 101 ≤ mm_lo y) (hs : Nat.ble (st.map mm_cat).sum 8 = true) (hw : fm_isS w) (hi : fm_in i (fm_sl w)) (h : ev X y (pc + 3) l (.inl (mm_sch (w - 1000001) i.toNatClampNeg) :: st) u R) : ev X y pc l (.inl i :: .inr (.inl (some w)) :: st) u R := by
  refine ev_q hf rfl (fun M => ?_) (fun L M hL hM => ?_) h
  · dsimp only [mm_call]
    unfold mm_go
    rw [if_neg (by rw [hr]; omega)]
  · dsimp only [mm_step]
    rw [if_neg (by rw [hr]; decide), if_pos hr, if_pos ⟨hw.1, hw.2, fm_in_ok hi, hy.1, hy.2, Nat.le_of_ble_eq_true hs⟩]
/-! calls -/
def fm_cg (y r k : Nat) : Option (Nat × Nat × Nat) := if (mm_mr r).2.2.1 < 175 ∧ mm_kd (mm_mr r).2.2.1 = k ∧ mm_fr (mm_mr r).2.2.1 + 1 ≤ mm_fr y ∧ 8 + (mm_mx (mm_mr r).2.2.1 + 11) + mm_lo (mm_mr r).2.2.1 ≤ mm_lo y ∧ mm_na (mm_mr r).2.2.1 ≤ mm_mx (mm_mr r).2.2.1 then some ((mm_mr r).2.2.1, mm_na (mm_mr r).2.2.1, mm_own (mm_mr r).2.2.1) else none
theorem fm_cg_go {r k z na ow : Nat} {st : List mm_V} (h : fm_cg y r k = some (z, na, ow)) (h1 : na ≤ st.length) (h2 : ((st.drop na).map mm_cat).sum ≤ 8) (h3 : ∀ v ∈ st.take na, mm_cat v = 1) : mm_go y r k st = some (z, (st.take na).reverse, st.drop na) ∧ mm_own z = ow := by
  unfold fm_cg at h
  by_cases hc : (mm_mr r).2.2.1 < 175 ∧ mm_kd (mm_mr r).2.2.1 = k ∧ mm_fr (mm_mr r).2.2.1 + 1 ≤ mm_fr y ∧ 8 + (mm_mx (mm_mr r).2.2.1 + 11) + mm_lo (mm_mr r).2.2.1 ≤ mm_lo y ∧ mm_na (mm_mr r).2.2.1 ≤ mm_mx (mm_mr r).2.2.1
  · rw [if_pos hc] at h
    injection h with h
    injection h with e1 e2
    injection e2 with e2 e3
    unfold mm_go
    rw [e1] at hc e2 e3 ⊢
    rw [e2] at hc ⊢
    rw [if_pos ⟨hc.1, hc.2.1, hc.2.2.1, hc.2.2.2.1, h1, hc.2.2.2.2, h2, h3⟩]
    exact ⟨rfl, e3⟩
  · rw [if_neg hc] at h
    cases h
/-- the stack of a call: arguments behind each other, the rest -/
def fm_spl (na : Nat) (st : List mm_V) : Bool := Nat.ble na st.length && (Nat.ble ((st.drop na).map mm_cat).sum 8 && (st.take na).all (fun v => Nat.beq (mm_cat v) 1))
theorem fm_spl_ok {na : Nat} {st : List mm_V} (h : fm_spl na st = true) : na ≤ st.length ∧ ((st.drop na).map mm_cat).sum ≤ 8 ∧ ∀ v ∈ st.take na, mm_cat v = 1 := by
  unfold fm_spl at h
  rw [Bool.and_eq_true, Bool.and_eq_true] at h
  exact ⟨Nat.le_of_ble_eq_true h.1, Nat.le_of_ble_eq_true h.2.1, fun v hv => Nat.eq_of_beq_eq_true (List.all_eq_true.mp h.2.2 v hv)⟩
theorem ev_tc {i : Instr} {st : List mm_V} {len z m : Nat} {l0 : List (Option mm_V)} {As rest vs : List mm_V} {u1 : fm} (hf : mm_fetch y pc = some (i, len)) (he : mm_isEnd i = false) (hc : ∀ M, fm_R u M → mm_call M y i st = some (z, As, rest)) (hl : l0 = As.map some ++ List.replicate m none) (hcal : ev X z 0 l0 [] u (vs, u1)) (h : ev X y (pc + 3) l (vs ++ rest) u1 R) : ev X y pc l st u R := by
  intro L M hL hM
  obtain ⟨p1, L1, s1, M1, i1, n1, k1, k2, k3, k4⟩ := hcal (mm_locals As) M (fm_ag_locals hl) hM
  obtain ⟨pcE, LE, stE, ME, iE, lenE, j1, j2⟩ := h L M1 hL k4
  exact ⟨pcE, LE, stE, ME, iE, lenE, mm_tc hf he (hc M hM) k1 k2 k3 j1, j2⟩
theorem ev_callS {st : List mm_V} {r z na ow m : Nat} {l0 : List (Option mm_V)} {vs : List mm_V} {u1 : fm} (hf : mm_fetch y pc = some (.invokestatic r, 3)) (hg : fm_cg y r 2 = some (z, na, ow)) (hs : fm_spl na st = true) (hl : l0 = ((st.take na).reverse).map some ++ List.replicate m none) (hcal : ev X z 0 l0 [] u (vs, u1)) (h : ev X y (pc + 3) l (vs ++ st.drop na) u1 R) : ev X y pc l st u R := by
  have hs := fm_spl_ok hs
  exact ev_tc hf rfl (fun M _ => (fm_cg_go hg hs.1 hs.2.1 hs.2.2).1) hl hcal h
theorem ev_callV {st : List mm_V} {r z na ow m a : Nat} {As : List mm_V} {l0 : List (Option mm_V)} {vs : List mm_V} {u1 : fm} (hf : mm_fetch y pc = some (.invokevirtual r, 3)) (hg : fm_cg y r 0 = some (z, na, ow)) (hw : Nat.blt ow 11 && !(Nat.beq ow 8) = true) (hs : fm_spl na st = true) (hA : (st.take na).reverse = .inr (.inl (some a)) :: As) (ht : fm_tm a = .inl ow) (hl : l0 = (.inr (.inl (some a)) :: As).map some ++ List.replicate m none) (hcal : ev X z 0 l0 [] u (vs, u1)) (h : ev X y (pc + 3) l (vs ++ st.drop na) u1 R) : ev X y pc l st u R := by
  have hs := fm_spl_ok hs
  rw [Bool.and_eq_true] at hw
  have hw1 : ow < 11 := by simpa [Nat.blt_eq] using hw.1
  have hw2 : ¬ ow = 8 := by
    intro e
    have := hw.2
    rw [e] at this
    exact absurd this (by decide)
  refine ev_tc hf rfl (fun M hM => ?_) hl hcal h
  have hgo := fm_cg_go hg hs.1 hs.2.1 hs.2.2
  dsimp only [mm_call]
  rw [hgo.1, hA]
  dsimp only
  rw [fm_getO hM ht (by omega)]
  dsimp only
  rw [if_pos ⟨hgo.2.symm, hw1, hw2⟩]
theorem fm_ifs {x z : Int32} (h : (if x = 0 ∨ x = 1 then some [(Sum.inl x : mm_V)] else none) = some [.inl z]) : z = 0 ∨ z = 1 := by
  by_cases hx : x = 0 ∨ x = 1
  · rw [if_pos hx] at h
    injection h with h
    injection h with h
    injection h with h
    rw [← h]
    exact hx
  · rw [if_neg hx] at h
    cases h
/-- what a call of an own method gives, where its answer is a boolean -/
theorem ev_bool {z : Nat} {l0 : List (Option mm_V)} {x : Int32} {u1 : fm} (hz : mm_rt z = some .boolean) {L : mm_L} {M : mm_M} (hL : fm_ag l0 L) (hM : fm_R u M) (hcal : ev X z 0 l0 [] u ([.inl x], u1)) : x = 0 ∨ x = 1 := by
  obtain ⟨p1, L1, s1, M1, i1, n1, k1, k2, k3, k4⟩ := hcal L M hL hM
  unfold mm_end at k3
  rw [hz] at k3
  split at k3
  · rename_i h; cases h
  · exact fm_ifs k3
  · rename_i h; cases h
  · rename_i h; cases h
  · rename_i h; cases h
  · cases k3
theorem ev_callSZ {st : List mm_V} {r z na ow m : Nat} {l0 : List (Option mm_V)} {x : Int32} {u1 : fm} (hf : mm_fetch y pc = some (.invokestatic r, 3)) (hg : fm_cg y r 2 = some (z, na, ow)) (hz : mm_rt z = some .boolean) (hs : fm_spl na st = true) (hl : l0 = ((st.take na).reverse).map some ++ List.replicate m none) (hcal : ev X z 0 l0 [] u ([.inl x], u1)) (h : (x = 0 ∨ x = 1) → ev X y (pc + 3) l (.inl x :: st.drop na) u1 R) : ev X y pc l st u R := fun L M hL hM =>
  ev_callS hf hg hs hl hcal (h (ev_bool hz (fm_ag_locals hl) hM hcal)) L M hL hM
theorem ev_callVZ {st : List mm_V} {r z na ow m a : Nat} {As : List mm_V} {l0 : List (Option mm_V)} {x : Int32} {u1 : fm} (hf : mm_fetch y pc = some (.invokevirtual r, 3)) (hg : fm_cg y r 0 = some (z, na, ow)) (hw : Nat.blt ow 11 && !(Nat.beq ow 8) = true) (hz : mm_rt z = some .boolean) (hs : fm_spl na st = true) (hA : (st.take na).reverse = .inr (.inl (some a)) :: As) (ht : fm_tm a = .inl ow) (hl : l0 = (.inr (.inl (some a)) :: As).map some ++ List.replicate m none) (hcal : ev X z 0 l0 [] u ([.inl x], u1)) (h : (x = 0 ∨ x = 1) → ev X y (pc + 3) l (.inl x :: st.drop na) u1 R) : ev X y pc l st u R := fun L M hL hM =>
  ev_callV hf hg hw hs hA ht hl hcal (h (ev_bool hz (fm_ag_locals hl) hM hcal)) L M hL hM
/-! ends -/
theorem ev_end {i : Instr} {len : Nat} {vs : List mm_V} (hf : mm_fetch y pc = some (i, len)) (he : mm_isEnd i = true) (hv : mm_end y i st = some vs) : ev X y pc l st u (vs, u) := by
  intro L M hL hM
  refine ⟨pc, L, st, M, i, len, ⟨1, ?_⟩, hf, hv, hM⟩
  unfold mm_run
  rw [hf]
  dsimp only
  rw [if_pos he]
theorem ev_irt {x : Int32} (hf : mm_fetch y pc = some (.ireturn, 1)) (hr : mm_rt y = some .int) : ev X y pc l [.inl x] u ([.inl x], u) := ev_end hf rfl (by unfold mm_end; rw [hr])
theorem ev_zrt {x : Int32} (hf : mm_fetch y pc = some (.ireturn, 1)) (hr : mm_rt y = some .boolean) (hx : x = 0 ∨ x = 1) : ev X y pc l [.inl x] u ([.inl x], u) := ev_end hf rfl (by unfold mm_end; rw [hr]; dsimp only; rw [if_pos hx])
theorem ev_vrt (hf : mm_fetch y pc = some (.return_, 1)) (hr : mm_rt y = none) : ev X y pc l [] u ([], u) := ev_end hf rfl (by unfold mm_end; rw [hr])
theorem ev_art {x : Option Nat} {c : String} (hf : mm_fetch y pc = some (.areturn, 1)) (hr : mm_rt y = some (.object c)) : ev X y pc l [.inr (.inl x)] u ([.inr (.inl x)], u) := ev_end hf rfl (by unfold mm_end; rw [hr])
theorem ev_lrt {x : Int64} (hf : mm_fetch y pc = some (.lreturn, 1)) (hr : mm_rt y = some .long) : ev X y pc l [.inr (.inr x)] u ([.inr (.inr x)], u) := ev_end hf rfl (by unfold mm_end; rw [hr])
theorem ev_R {R1 : List mm_V × fm} (h : ev X y pc l st u R1) (e : R1 = R) : ev X y pc l st u R := e ▸ h
end EV2
