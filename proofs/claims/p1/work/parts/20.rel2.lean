/-! the boxes' machine speaks of the small machine -/
def ax_gi (ρ : Nat → Int32) (v : ax_I) (x : Int32) : Prop := v.1 ≤ x.toInt ∧ x.toInt ≤ v.2.1 ∧ (v.2.2 = 0 ∨ x = ρ v.2.2)
def ax_gj (ρ : Nat → Int32) (v : ax_I) (x : Int64) : Prop := v.1 ≤ x.toInt ∧ x.toInt ≤ v.2.1 ∧ (v.2.2 = 0 ∨ x = (ρ v.2.2).toInt64)
def ax_g (ρ : Nat → Int32) (a : ax_V) (v : mm_V) : Prop := match a, v with
  | .inl a, .inl x => ax_gi ρ a x
  | .inr (.inl r), .inr (.inl q) => q = r
  | .inr (.inr a), .inr (.inr x) => ax_gj ρ a x
  | _, _ => False
def ax_gl (ρ : Nat → Int32) : List ax_V → List mm_V → Prop
  | [], [] => True
  | a :: as, v :: vs => ax_g ρ a v ∧ ax_gl ρ as vs
  | _, _ => False
def ax_gL (ρ : Nat → Int32) : ax_L → mm_L → Prop
  | [], [] => True
  | a :: as, v :: vs => (a.1 = v.1 ∧ ax_g ρ a.2 v.2) ∧ ax_gL ρ as vs
  | _, _ => False
def ax_rv (f : (Nat → Int32) ⊕ ((Nat → Int64) ⊕ (Nat → Option Nat))) (j : Nat) : mm_V := match f with
  | .inl f => .inl (f j)
  | .inr (.inl f) => .inr (.inr (f j))
  | .inr (.inr f) => .inr (.inl (f j))
def ax_gc (ρ : Nat → Int32) (a : ax_C) (c : mm_C) : Prop := match a, c with
  | .inl a, .inl q => q.1 = a.1 ∧ ax_gl ρ a.2 q.2
  | .inr a, .inr q => q.1 = a.1 ∧ q.2.1 = a.2.1 ∧ ∀ j, j < a.2.1 → ax_g ρ (ax_rd a.2.2.1 a.2.2.2 j) (ax_rv q.2.2 j)
  | _, _ => False
def ax_gm (ρ : Nat → Int32) (A : ax_M) (M : mm_M) : Prop := M.length = ax_len A ∧ ∀ (k : Nat) (a : ax_C), ax_get A k = some a → ∃ c, M[k]? = some c ∧ ax_gc ρ a c
def ax_gx (ρ : Nat → Int32) (XA : Nat × (Nat → ax_I)) (X : Nat × (Nat → Int32)) : Prop := X.1 = XA.1 ∧ ∀ j, j < XA.1 → ax_gi ρ (XA.2 j) (X.2 j)
section AX
variable {ρ : Nat → Int32}
theorem ax_g_cat {a : ax_V} {v : mm_V} (h : ax_g ρ a v) : mm_cat v = ax_cat a := by
  rcases a with a | r | a <;> rcases v with x | q | x <;> first | rfl | (exact absurd h (fun z => z))
theorem ax_gl_i {v : ax_I} {st : List ax_V} {st' : List mm_V} (h : ax_gl ρ (.inl v :: st) st') : ∃ x st1, st' = .inl x :: st1 ∧ ax_gi ρ v x ∧ ax_gl ρ st st1 := by
  rcases st' with _ | ⟨(x | q | x), st1⟩
  · exact absurd h (fun z => z)
  · exact ⟨x, st1, rfl, h.1, h.2⟩
  · exact absurd h.1 (fun z => z)
  · exact absurd h.1 (fun z => z)
theorem ax_gl_r {r : Option Nat} {st : List ax_V} {st' : List mm_V} (h : ax_gl ρ (.inr (.inl r) :: st) st') : ∃ st1, st' = .inr (.inl r) :: st1 ∧ ax_gl ρ st st1 := by
  rcases st' with _ | ⟨(x | q | x), st1⟩
  · exact absurd h (fun z => z)
  · exact absurd h.1 (fun z => z)
  · have h1 : q = r := h.1
    subst h1
    exact ⟨st1, rfl, h.2⟩
  · exact absurd h.1 (fun z => z)
theorem ax_gl_l {v : ax_I} {st : List ax_V} {st' : List mm_V} (h : ax_gl ρ (.inr (.inr v) :: st) st') : ∃ x st1, st' = .inr (.inr x) :: st1 ∧ ax_gj ρ v x ∧ ax_gl ρ st st1 := by
  rcases st' with _ | ⟨(x | q | x), st1⟩
  · exact absurd h (fun z => z)
  · exact absurd h.1 (fun z => z)
  · exact absurd h.1 (fun z => z)
  · exact ⟨x, st1, rfl, h.1, h.2⟩
theorem ax_gl_c {v : ax_V} {st : List ax_V} {st' : List mm_V} (h : ax_gl ρ (v :: st) st') : ∃ w st1, st' = w :: st1 ∧ ax_g ρ v w ∧ ax_gl ρ st st1 := by
  rcases st' with _ | ⟨w, st1⟩
  · exact absurd h (fun z => z)
  · exact ⟨w, st1, rfl, h.1, h.2⟩
theorem ax_gl_n {st' : List mm_V} (h : ax_gl ρ [] st') : st' = [] := by
  cases st' with
  | nil => rfl
  | cons a b => exact absurd h (fun z => z)
theorem ax_gl_len : ∀ {as : List ax_V} {vs : List mm_V}, ax_gl ρ as vs → vs.length = as.length := by
  intro as
  induction as with
  | nil => intro vs h; rw [ax_gl_n h]; rfl
  | cons a as ih =>
    intro vs h
    obtain ⟨w, st1, rfl, -, h2⟩ := ax_gl_c h
    simp [ih h2]
theorem ax_gl_app : ∀ {as cs : List ax_V} {vs ws : List mm_V}, ax_gl ρ as vs → ax_gl ρ cs ws → ax_gl ρ (as ++ cs) (vs ++ ws) := by
  intro as
  induction as with
  | nil => intro cs vs ws h h2; rw [ax_gl_n h]; exact h2
  | cons a as ih =>
    intro cs vs ws h h2
    obtain ⟨w, st1, rfl, h1, h3⟩ := ax_gl_c h
    exact ⟨h1, ih h3 h2⟩
theorem ax_gl_rev : ∀ {as : List ax_V} {vs : List mm_V}, ax_gl ρ as vs → ax_gl ρ as.reverse vs.reverse := by
  intro as
  induction as with
  | nil => intro vs h; rw [ax_gl_n h]; exact trivial
  | cons a as ih =>
    intro vs h
    obtain ⟨w, st1, rfl, h1, h3⟩ := ax_gl_c h
    rw [List.reverse_cons, List.reverse_cons]
    exact ax_gl_app (ih h3) ⟨h1, trivial⟩
theorem ax_gl_take : ∀ (n : Nat) {as : List ax_V} {vs : List mm_V}, ax_gl ρ as vs → ax_gl ρ (as.take n) (vs.take n) ∧ ax_gl ρ (as.drop n) (vs.drop n) := by
  intro n
  induction n with
  | zero => intro as vs h; exact ⟨trivial, h⟩
  | succ n ih =>
    intro as vs h
    cases as with
    | nil => rw [ax_gl_n h]; exact ⟨trivial, trivial⟩
    | cons a as =>
      obtain ⟨w, st1, rfl, h1, h3⟩ := ax_gl_c h
      exact ⟨⟨h1, (ih h3).1⟩, (ih h3).2⟩
theorem ax_gl_cat : ∀ {as : List ax_V} {vs : List mm_V}, ax_gl ρ as vs → vs.map mm_cat = as.map ax_cat := by
  intro as
  induction as with
  | nil => intro vs h; rw [ax_gl_n h]; rfl
  | cons a as ih =>
    intro vs h
    obtain ⟨w, st1, rfl, h1, h3⟩ := ax_gl_c h
    rw [List.map_cons, List.map_cons, ih h3, ax_g_cat h1]
theorem ax_gl_at : ∀ {as : List ax_V} {vs : List mm_V} {k : Nat} {v : ax_V}, ax_gl ρ as vs → as[k]? = some v → ∃ w, vs[k]? = some w ∧ ax_g ρ v w := by
  intro as
  induction as with
  | nil => intro vs k v h h2; cases h2
  | cons a as ih =>
    intro vs k v h h2
    obtain ⟨w, st1, rfl, h1, h3⟩ := ax_gl_c h
    cases k with
    | zero => cases h2; exact ⟨w, rfl, h1⟩
    | succ k =>
      rw [List.getElem?_cons_succ] at h2
      obtain ⟨w2, h4, h5⟩ := ih h3 h2
      exact ⟨w2, by rw [List.getElem?_cons_succ]; exact h4, h5⟩
theorem ax_gl_set : ∀ {as : List ax_V} {vs : List mm_V} {k : Nat} {v : ax_V} {w : mm_V}, ax_gl ρ as vs → ax_g ρ v w → ax_gl ρ (as.set k v) (vs.set k w) := by
  intro as
  induction as with
  | nil => intro vs k v w h h2; rw [ax_gl_n h]; exact trivial
  | cons a as ih =>
    intro vs k v w h h2
    obtain ⟨w1, st1, rfl, h1, h3⟩ := ax_gl_c h
    cases k with
    | zero => exact ⟨h2, h3⟩
    | succ k => exact ⟨h1, ih h3 h2⟩
theorem ax_gL_lk : ∀ {A : ax_L} {L : mm_L} {i : Nat} {v : ax_V}, ax_gL ρ A L → ax_lk A i = some v → ∃ w, mm_lk L i = some w ∧ ax_g ρ v w := by
  intro A
  induction A with
  | nil => intro L i v h h2; cases h2
  | cons a A ih =>
    intro L i v h h2
    cases L with
    | nil => exact absurd h (fun z => z)
    | cons q L =>
      unfold ax_lk at h2
      unfold mm_lk
      rw [← h.1.1]
      split at h2
      · rename_i he
        cases h2
        rw [if_pos he]
        exact ⟨q.2, rfl, h.1.2⟩
      · rename_i he
        rw [if_neg he]
        exact ih h.2 h2
theorem ax_gL_fil (f : Nat → Nat → Bool) : ∀ {A : ax_L} {L : mm_L}, ax_gL ρ A L → ax_gL ρ (A.filter fun q => f q.1 (ax_cat q.2)) (L.filter fun q => f q.1 (mm_cat q.2)) := by
  intro A
  induction A with
  | nil =>
    intro L h
    cases L with
    | nil => exact trivial
    | cons q L => exact absurd h (fun z => z)
  | cons a A ih =>
    intro L h
    cases L with
    | nil => exact absurd h (fun z => z)
    | cons q L =>
      rw [List.filter_cons, List.filter_cons, ← h.1.1, ax_g_cat h.1.2]
      split
      · exact ⟨h.1, ih h.2⟩
      · exact ih h.2
theorem ax_gL_st1 {A : ax_L} {L : mm_L} {i : Nat} {v : ax_V} {w : mm_V} (h : ax_gL ρ A L) (hv : ax_g ρ v w) : ax_gL ρ (ax_st1 i v A) (mm_st1 i w L) := ⟨⟨rfl, hv⟩, ax_gL_fil (fun k c => !(k == i) && !(k + 1 == i && c == 2)) h⟩
theorem ax_gL_st2 {A : ax_L} {L : mm_L} {i : Nat} {v : ax_V} {w : mm_V} (h : ax_gL ρ A L) (hv : ax_g ρ v w) : ax_gL ρ (ax_st2 i v A) (mm_st2 i w L) := ⟨⟨rfl, hv⟩, ax_gL_fil (fun k c => !(k == i) && (!(k == i + 1) && !(k + 1 == i && c == 2))) h⟩
theorem ax_gL_from : ∀ {as : List ax_V} {vs : List mm_V} (i : Nat), ax_gl ρ as vs → ax_gL ρ (ax_lfrom i as) (mm_lfrom i vs) := by
  intro as
  induction as with
  | nil => intro vs i h; rw [ax_gl_n h]; exact trivial
  | cons a as ih =>
    intro vs i h
    obtain ⟨w, st1, rfl, h1, h3⟩ := ax_gl_c h
    exact ⟨⟨rfl, h1⟩, ih (i + 1) h3⟩
theorem ax_sg_g (x : Int32) : ax_gi ρ (ax_sg x) x := ⟨Int.le_refl _, Int.le_refl _, Or.inl rfl⟩
theorem ax_sl_g (x : Int64) : ax_gj ρ (ax_sl x) x := ⟨Int.le_refl _, Int.le_refl _, Or.inl rfl⟩
theorem ax_val_e {v : ax_I} {x z : Int32} (h : ax_gi ρ v x) (hv : ax_val v = some z) : x = z := by
  unfold ax_val at hv
  split at hv
  · rename_i he
    cases hv
    have h1 : x.toInt = v.1 := by have := h.1; have := h.2.1; omega
    rw [← h1, Int32.ofInt_toInt]
  · cases hv
theorem ax_valL_e {v : ax_I} {x z : Int64} (h : ax_gj ρ v x) (hv : ax_valL v = some z) : x = z := by
  unfold ax_valL at hv
  split at hv
  · rename_i he
    cases hv
    have h1 : x.toInt = v.1 := by have := h.1; have := h.2.1; omega
    rw [← h1, Int64.ofInt_toInt]
  · cases hv
theorem ax_top_g (x : Int32) : ax_gi ρ ax_top x := by
  refine ⟨?_, ?_, Or.inl rfl⟩
  · have := Int32.le_toInt x
    show (-2147483648 : Int) ≤ x.toInt
    omega
  · have := Int32.toInt_lt x
    show x.toInt ≤ (2147483647 : Int)
    omega
theorem ax_bin_g {f : Int32 → Int32 → Int32} {v w : ax_I} {x y : Int32} (hx : ax_gi ρ v x) (hy : ax_gi ρ w y) : ax_gi ρ (ax_bin f v w) (f x y) := by
  unfold ax_bin
  split
  · rename_i x1 y1 h1 h2
    rw [ax_val_e hx h1, ax_val_e hy h2]
    exact ax_sg_g _
  · exact ax_top_g _
theorem ax_zero {v : ax_I} {x : Int32} (h : ax_gi ρ v x) (h0 : v.1 = 0 ∧ v.2.1 = 0) : x = 0 := by
  have h1 : x.toInt = (0 : Int32).toInt := by
    have := h.1
    have := h.2.1
    rw [Int32.toInt_zero]
    omega
  exact Int32.toInt_inj.mp h1
theorem ax_add_g {v w : ax_I} {x y : Int32} (hx : ax_gi ρ v x) (hy : ax_gi ρ w y) : ax_gi ρ (ax_add v w) (x + y) := by
  unfold ax_add
  split
  · rename_i h
    rw [ax_zero hx h, Int32.zero_add]
    exact hy
  · split
    · rename_i h
      rw [ax_zero hy h, Int32.add_zero]
      exact hx
    · exact ax_bin_g hx hy
theorem ax_cmp_g {c : Jvm.ClassFile.Cond} {v w : ax_I} {x y : Int32} {bb : Bool} (hx : ax_gi ρ v x) (hy : ax_gi ρ w y) (h : ax_cmp c v w = some bb) : mm_cmp c x y = bb := by
  obtain ⟨x1, x2, x3⟩ := hx
  obtain ⟨y1, y2, y3⟩ := hy
  have heq : (x = y) ↔ (x.toInt = y.toInt) := Int32.toInt_inj.symm
  cases c with
  | lt =>
    dsimp only [ax_cmp] at h
    simp only [mm_cmp, Int32.lt_iff_toInt_lt]
    split at h
    · cases h; rw [decide_eq_true_eq]; omega
    · split at h
      · cases h; rw [decide_eq_false_iff_not]; omega
      · cases h
  | ge =>
    dsimp only [ax_cmp] at h
    simp only [mm_cmp, Int32.le_iff_toInt_le]
    split at h
    · cases h; rw [decide_eq_true_eq]; omega
    · split at h
      · cases h; rw [decide_eq_false_iff_not]; omega
      · cases h
  | gt =>
    dsimp only [ax_cmp] at h
    simp only [mm_cmp, Int32.lt_iff_toInt_lt]
    split at h
    · cases h; rw [decide_eq_true_eq]; omega
    · split at h
      · cases h; rw [decide_eq_false_iff_not]; omega
      · cases h
  | le =>
    dsimp only [ax_cmp] at h
    simp only [mm_cmp, Int32.le_iff_toInt_le]
    split at h
    · cases h; rw [decide_eq_true_eq]; omega
    · split at h
      · cases h; rw [decide_eq_false_iff_not]; omega
      · cases h
  | eq =>
    dsimp only [ax_cmp] at h
    simp only [mm_cmp]
    split at h
    · cases h
      rw [decide_eq_false_iff_not, heq]
      omega
    · split at h
      · rename_i hh
        cases h
        rw [decide_eq_true_eq]
        rcases hh with hh | ⟨h1, h2⟩
        · rw [heq]; omega
        · rcases x3 with x3 | x3
          · exact absurd x3 h2
          · rcases y3 with y3 | y3
            · rw [h1] at h2; exact absurd y3 h2
            · rw [x3, y3, h1]
      · cases h
  | ne =>
    dsimp only [ax_cmp] at h
    simp only [mm_cmp]
    split at h
    · cases h
      have : ¬ x = y := by rw [heq]; omega
      simp [this]
    · split at h
      · rename_i hh
        cases h
        have : x = y := by
          rcases hh with hh | ⟨h1, h2⟩
          · rw [heq]; omega
          · rcases x3 with x3 | x3
            · exact absurd x3 h2
            · rcases y3 with y3 | y3
              · rw [h1] at h2; exact absurd y3 h2
              · rw [x3, y3, h1]
        simp [this]
      · cases h
theorem ax_c16 {x : Int32} (h0 : 0 ≤ x.toInt) (h1 : x.toInt ≤ 65535) : (x.toUInt32 % 65536).toInt32 = x := by
  obtain ⟨n, hn, rfl⟩ : ∃ n : Nat, n ≤ 65535 ∧ x = nI n := by
    refine ⟨x.toInt.toNat, by omega, Int32.toInt_inj.mp ?_⟩
    rw [nI_toInt (by omega)]
    omega
  rw [pk_char, pk_tn (by omega), Nat.mod_eq_of_lt (by omega)]
theorem ax_c16b {x : Int32} (h0 : 0 ≤ x.toInt) (h1 : x.toInt ≤ 65535) : x.toUInt32.toUInt16.toUInt32.toInt32 = x := by
  obtain ⟨n, hn, rfl⟩ : ∃ n : Nat, n ≤ 65535 ∧ x = nI n := by
    refine ⟨x.toInt.toNat, by omega, Int32.toInt_inj.mp ?_⟩
    rw [nI_toInt (by omega)]
    omega
  have h2 := (pk_charN (q := n) (by omega)).1
  have h3 : vp_nar .char (nI n) = nI n := by
    unfold vp_nar
    rw [h2]
  rw [vp_nar_char] at h3
  exact h3
theorem ax_ob_at {M : ax_M} {a : Nat} {q : Nat × List ax_V} (h : ax_ob M a = some q) : ax_get M a = some (.inl q) := by
  unfold ax_ob at h
  split at h
  · rename_i q1 h1
    cases h
    exact h1
  · cases h
theorem ax_ar_at {M : ax_M} {a : Nat} {q : Nat × Nat × ax_V × List (Nat × ax_V)} (h : ax_ar M a = some q) : ax_get M a = some (.inr q) := by
  unfold ax_ar at h
  split at h
  · rename_i q1 h1
    cases h
    exact h1
  · cases h
theorem ax_gm_ob {A : ax_M} {M : mm_M} {a ci : Nat} {fs : List ax_V} (h : ax_gm ρ A M) (ho : ax_ob A a = some (ci, fs)) : ∃ fs', mm_ob M a = some (ci, fs') ∧ ax_gl ρ fs fs' := by
  obtain ⟨c, h1, h2⟩ := h.2 a _ (ax_ob_at ho)
  rcases c with q | q
  · obtain ⟨ci', fs'⟩ := q
    have h3 : ci' = ci := h2.1
    subst h3
    refine ⟨fs', ?_, h2.2⟩
    unfold mm_ob
    rw [h1]
  · exact absurd h2 (fun z => z)
theorem ax_gm_ar {A : ax_M} {M : mm_M} {a t n : Nat} {d : ax_V} {ov : List (Nat × ax_V)} (h : ax_gm ρ A M) (ho : ax_ar A a = some (t, n, d, ov)) : ∃ f, mm_ar M a = some (t, n, f) ∧ ∀ j, j < n → ax_g ρ (ax_rd d ov j) (ax_rv f j) := by
  obtain ⟨c, h1, h2⟩ := h.2 a _ (ax_ar_at ho)
  rcases c with q | q
  · exact absurd h2 (fun z => z)
  · obtain ⟨t', n', f⟩ := q
    have h3 : t' = t := h2.1
    have h4 : n' = n := h2.2.1
    subst h3
    subst h4
    refine ⟨f, ?_, h2.2.2⟩
    unfold mm_ar
    rw [h1]
theorem ax_len_put {A : ax_M} {k : Nat} {c : ax_C} : ax_len (ax_put A k c) = ax_len A := by
  unfold ax_put
  split
  · rename_i b hb
    unfold ax_len
    have hlt := (List.getElem?_eq_some_iff.mp hb).1
    have e : (A.set (k / 16) (b.set (k % 16) c)).map List.length = A.map List.length := by
      apply List.ext_getElem?
      intro j
      rw [List.getElem?_map, List.getElem?_map, List.getElem?_set]
      by_cases hj : k / 16 = j
      · subst hj
        rw [if_pos rfl, if_pos hlt, hb]
        show some ((b.set (k % 16) c).length) = some b.length
        rw [List.length_set]
      · rw [if_neg hj]
    rw [e]
  · rfl
theorem ax_get_put {A : ax_M} {k j : Nat} {c a : ax_C} (h : ax_get (ax_put A k c) j = some a) : (j = k ∧ a = c ∧ ∃ a0, ax_get A k = some a0) ∨ (¬ j = k ∧ ax_get A j = some a) := by
  unfold ax_put at h
  split at h
  · rename_i b hb
    have hlt := (List.getElem?_eq_some_iff.mp hb).1
    unfold ax_get at h
    rw [List.getElem?_set] at h
    by_cases hj : k / 16 = j / 16
    · rw [if_pos hj, if_pos hlt] at h
      dsimp only at h
      rw [List.getElem?_set] at h
      by_cases hm : k % 16 = j % 16
      · have e : j = k := by omega
        rw [if_pos hm] at h
        split at h
        · rename_i hl2
          cases h
          refine Or.inl ⟨e, rfl, ?_⟩
          unfold ax_get
          rw [hb]
          exact ⟨_, List.getElem?_eq_getElem hl2⟩
        · cases h
      · rw [if_neg hm] at h
        refine Or.inr ⟨by omega, ?_⟩
        unfold ax_get
        rw [← hj, hb]
        exact h
    · rw [if_neg hj] at h
      refine Or.inr ⟨by omega, ?_⟩
      unfold ax_get
      exact h
  · rename_i hb
    by_cases e : j = k
    · subst e
      unfold ax_get at h
      rw [hb] at h
      cases h
    · exact Or.inr ⟨e, h⟩
theorem ax_gm_set {A : ax_M} {M : mm_M} {k : Nat} {a : ax_C} {c : mm_C} (h : ax_gm ρ A M) (hc : ax_gc ρ a c) : ax_gm ρ (ax_put A k a) (M.set k c) := by
  refine ⟨by rw [List.length_set, ax_len_put]; exact h.1, fun j a1 ha => ?_⟩
  rcases ax_get_put ha with ⟨rfl, rfl, a0, h0⟩ | ⟨hj, h0⟩
  · obtain ⟨c0, h1, -⟩ := h.2 _ _ h0
    have h2 := (List.getElem?_eq_some_iff.mp h1).1
    exact ⟨c, by rw [List.getElem?_set, if_pos rfl, if_pos h2], hc⟩
  · obtain ⟨c0, h1, h2⟩ := h.2 j _ h0
    exact ⟨c0, by rw [List.getElem?_set, if_neg (fun q => hj q.symm)]; exact h1, h2⟩
theorem ax_in_e {v : ax_I} {x : Int32} {n j : Nat} (hx : ax_gi ρ v x) (h : ax_in v n = some j) : mm_in x n = true ∧ x.toNatClampNeg = j ∧ j < n := by
  unfold ax_in at h
  split at h
  · rename_i x1 h1
    split at h
    · rename_i h2
      cases h
      rw [ax_val_e hx h1]
      refine ⟨h2, rfl, ?_⟩
      have h3 := mm_in_vp h2
      exact Nat.not_le.mp fun q => h3 (Or.inr q)
    · cases h
  · cases h
theorem ax_rd_cons (d v : ax_V) (ov : List (Nat × ax_V)) (j k : Nat) : ax_rd d ((j, v) :: ov) k = if j = k then v else ax_rd d ov k := by
  unfold ax_rd
  show (if j = k then some v else ax_lk ov k).getD d = _
  split <;> rfl
theorem ax_okv_g {ty : FieldType} {a : ax_V} {v : mm_V} (h : ax_okv ty a = true) (hg : ax_g ρ a v) : mm_okv ty v = true := by
  unfold ax_okv at h
  split at h
  · rcases v with x | q | x
    · rfl
    · exact absurd hg (fun z => z)
    · exact absurd hg (fun z => z)
  · rename_i a1
    rcases v with x | q | x
    · have hg : ax_gi ρ a1 x := hg
      simp only [Bool.and_eq_true, decide_eq_true_eq] at h
      have h1 : x.toInt = 0 ∨ x.toInt = 1 := by have := hg.1; have := hg.2.1; omega
      show (decide (x = 0) || decide (x = 1)) = true
      simp only [Bool.or_eq_true, decide_eq_true_eq]
      rcases h1 with h1 | h1
      · exact Or.inl (Int32.toInt_inj.mp (h1.trans (by decide)))
      · exact Or.inr (Int32.toInt_inj.mp (h1.trans (by decide)))
    · exact absurd hg (fun z => z)
    · exact absurd hg (fun z => z)
  · rcases v with x | q | x
    · exact absurd hg (fun z => z)
    · rfl
    · exact absurd hg (fun z => z)
  · rcases v with x | q | x
    · exact absurd hg (fun z => z)
    · rfl
    · exact absurd hg (fun z => z)
  · rcases v with x | q | x
    · exact absurd hg (fun z => z)
    · exact absurd hg (fun z => z)
    · rfl
  · cases h
end AX
