/-! FLAT MEMORY: what stands in the 256 cells behind the constructors, as plain functions; the cells' kinds never change -/
/-- fields, long fields, rows of ints, rows of longs, the row of places (numbers of messages) -/
abbrev fm : Type := (Nat → Nat → Int32) × (Nat → Nat → Int64) × (Nat → Nat → Int32) × (Nat → Nat → Int64) × (Nat → Nat → Nat)
def fI (u : fm) : Nat → Nat → Int32 := u.1
def fJ (u : fm) : Nat → Nat → Int64 := u.2.1
def fA (u : fm) : Nat → Nat → Int32 := u.2.2.1
def fG (u : fm) : Nat → Nat → Int64 := u.2.2.2.1
def fP (u : fm) : Nat → Nat → Nat := u.2.2.2.2
def fm_u2 {α : Type} (f : Nat → Nat → α) (a j : Nat) (v : α) : Nat → Nat → α := fun b k => if k = j ∧ b = a then v else f b k
def sI (u : fm) (a j : Nat) (v : Int32) : fm := (fm_u2 u.1 a j v, u.2)
def sJ (u : fm) (a j : Nat) (v : Int64) : fm := (u.1, fm_u2 u.2.1 a j v, u.2.2)
def sA (u : fm) (a j : Nat) (v : Int32) : fm := (u.1, u.2.1, fm_u2 u.2.2.1 a j v, u.2.2.2)
def sG (u : fm) (a j : Nat) (v : Int64) : fm := (u.1, u.2.1, u.2.2.1, fm_u2 u.2.2.2.1 a j v, u.2.2.2.2)
def sP (u : fm) (a j : Nat) (v : Nat) : fm := (u.1, u.2.1, u.2.2.1, u.2.2.2.1, fm_u2 u.2.2.2.2 a j v)
/-- the kinds of the cells: an object's class, or an array's type and length -/
def fm_tl : List (Nat ⊕ (Nat × Nat)) := [.inl 9, .inl 2, .inr (4, 60), .inl 4, .inl 3, .inr (0, 30), .inl 4, .inl 3, .inr (0, 30), .inl 4, .inl 3, .inr (0, 30), .inl 4, .inl 3, .inr (0, 30), .inl 4, .inl 3, .inr (0, 30), .inl 4, .inl 3, .inr (0, 30), .inl 4, .inl 3, .inr (0, 30), .inl 4, .inl 3, .inr (0, 30), .inl 4, .inl 3, .inr (0, 30), .inl 4, .inl 3, .inr (0, 30), .inl 4, .inl 3, .inr (0, 30), .inl 4, .inl 3, .inr (0, 30), .inl 4, .inl 3, .inr (0, 30), .inl 4, .inl 3, .inr (0, 30), .inl 4, .inl 3, .inr (0, 30), .inl 4, .inl 3, .inr (0, 30), .inl 4, .inl 3, .inr (0, 30), .inl 4, .inl 3, .inr (0, 30), .inl 4, .inl 3, .inr (0, 30), .inl 4, .inl 3, .inr (0, 30), .inl 4, .inl 3, .inr (0, 30), .inl 4, .inl 3, .inr (0, 30), .inl 4, .inl 3, .inr (0, 30), .inl 4, .inl 3, .inr (0, 30), .inl 4, .inl 3, .inr (0, 30), .inl 4, .inl 3, .inr (0, 30), .inl 4, .inl 3, .inr (0, 30), .inl 4, .inl 3, .inr (0, 30), .inl 4, .inl 3, .inr (0, 30), .inl 4, .inl 3, .inr (0, 30), .inl 4, .inl 3, .inr (0, 30), .inl 4, .inl 3, .inr (0, 30), .inl 4, .inl 3, .inr (0, 30), .inl 4, .inl 3, .inr (0, 30), .inl 4, .inl 3, .inr (0, 30), .inl 4, .inl 3, .inr (0, 30), .inl 4, .inl 3, .inr (0, 30), .inl 4, .inl 3, .inr (0, 30), .inl 4, .inl 3, .inr (0, 30), .inl 4, .inl 3, .inr (0, 30), .inl 4, .inl 3, .inr (0, 30), .inl 4, .inl 3, .inr (0, 30), .inl 4, .inl 3, .inr (0, 30), .inl 4, .inl 3, .inr (0, 30), .inl 4, .inl 3, .inr (0, 30), .inl 4, .inl 3, .inr (0, 30), .inl 4, .inl 3, .inr (0, 30), .inl 4, .inl 3, .inr (0, 30), .inl 4, .inl 3, .inr (0, 30), .inl 4, .inl 3, .inr (0, 30), .inl 4, .inl 3, .inr (0, 30), .inl 4, .inl 3, .inr (0, 30), .inl 4, .inl 3, .inr (0, 30), .inl 4, .inl 3, .inr (0, 30), .inl 4, .inl 3, .inr (0, 30), .inl 4, .inl 3, .inr (0, 30), .inl 4, .inl 3, .inr (0, 30), .inl 4, .inl 3, .inr (0, 30), .inl 4, .inl 3, .inr (0, 30), .inl 4, .inl 3, .inr (0, 30), .inl 0, .inl 3, .inr (0, 30), .inl 1, .inl 3, .inr (0, 30), .inl 3, .inr (0, 30), .inl 7, .inl 4, .inl 3, .inr (0, 30), .inl 4, .inl 3, .inr (0, 30), .inl 0, .inl 3, .inr (0, 30), .inl 1, .inl 3, .inr (0, 30), .inl 3, .inr (0, 30), .inl 7, .inl 4, .inl 3, .inr (0, 30), .inl 4, .inl 3, .inr (0, 30), .inl 6, .inr (1, 500), .inl 6, .inr (1, 500), .inl 6, .inr (1, 100), .inl 5, .inl 4, .inl 3, .inr (0, 30), .inl 10, .inr (0, 3050), .inr (0, 2), .inr (0, 2), .inr (0, 2), .inr (0, 2), .inr (0, 2), .inr (0, 2), .inr (0, 2), .inr (0, 2), .inr (0, 2), .inr (0, 2), .inr (0, 2), .inr (0, 2), .inr (0, 6), .inr (0, 6), .inr (2, 2), .inr (0, 2), .inr (0, 2), .inr (2, 2), .inr (0, 100), .inr (0, 100), .inr (0, 100), .inr (0, 2), .inr (0, 60), .inr (3, 2), .inr (3, 2), .inr (3, 2), .inr (0, 50), .inr (0, 50), .inr (0, 500), .inr (2, 6), .inr (0, 500)]
def fm_tm (a : Nat) : Nat ⊕ (Nat × Nat) := fm_tl.getD a (.inl 99)
def fm_ln (a : Nat) : Nat := match fm_tm a with
  | .inl _ => 0
  | .inr q => q.2
/-- where the fields that are references point: a cell, or so many cells further -/
def fm_rt : List (List (Nat ⊕ Nat)) := [[.inl 0, .inl 0, .inl 1, .inr 1, .inr 3, .inr 8, .inr 9, .inr 12, .inl 0, .inl 0, .inl 0, .inl 0, .inl 0, .inl 0, .inl 0, .inl 0],
  [.inr 1, .inr 3, .inl 0, .inl 0, .inl 0, .inl 0, .inl 0],
  [.inl 2, .inl 0],
  [.inr 1, .inl 0],
  [.inr 1, .inl 0, .inl 0, .inl 0, .inl 0, .inl 0, .inl 0, .inl 0, .inl 0, .inl 0, .inl 0, .inl 0, .inl 0],
  [.inl 213, .inl 0, .inl 0, .inl 0, .inl 0],
  [.inr 1, .inl 0],
  [.inl 0, .inl 0, .inl 0, .inl 0, .inl 0],
  [],
  [.inl 1, .inl 183, .inl 198, .inl 213, .inl 215, .inl 217, .inl 219, .inl 220, .inl 0],
  [.inl 224, .inl 0, .inl 0, .inl 225, .inl 226, .inl 227, .inl 228, .inl 229, .inl 230, .inl 231, .inl 232, .inl 233, .inl 234, .inl 235, .inl 236, .inl 237, .inl 238, .inl 239, .inl 240, .inl 241, .inl 242, .inl 243, .inl 244, .inl 245, .inl 246, .inl 247, .inl 248, .inl 249, .inl 250, .inl 251, .inl 252, .inl 253, .inl 0, .inl 0, .inl 0, .inl 254, .inl 255, .inl 0]]
def fm_ref (ci a j : Nat) : Nat := match (fm_rt.getD ci []).getD j (.inl 0) with
  | .inl k => k
  | .inr d => a + d
def fm_b01 (x : Int32) : Int32 := if x = 0 then 0 else 1
def fm_fv (u : fm) (a ci j : Nat) : mm_V := match mm_ty ci j with
  | .int => .inl (fI u a j)
  | .boolean => .inl (fm_b01 (fI u a j))
  | .long => .inr (.inr (fJ u a j))
  | _ => .inr (.inl (some (fm_ref ci a j)))
def fm_fs (u : fm) (a ci : Nat) : List mm_V := (List.range (mm_N ci)).map (fm_fv u a ci)
def fm_E (u : fm) (a t n : Nat) (f : (Nat → Int32) ⊕ ((Nat → Int64) ⊕ (Nat → Option Nat))) : Prop := match f with
  | .inl g => (t < 2 ∧ ∀ k, k < n → g k = fA u a k) ∨ (t = 2 ∧ ∀ k, k < n → g k = fm_b01 (fA u a k))
  | .inr (.inl g) => t = 3 ∧ ∀ k, k < n → g k = fG u a k
  | .inr (.inr g) => t = 4 ∧ ∀ k, k < n → g k = some (3 + 3 * (fP u a k % 60))
def fm_C (u : fm) (a : Nat) (c : mm_C) : Prop := match fm_tm a with
  | .inl ci => c = .inl (ci, fm_fs u a ci)
  | .inr (t, n) => ∃ f, c = .inr (t, n, f) ∧ fm_E u a t n f
def fm_R (u : fm) (M : mm_M) : Prop := M.length = 256 ∧ ∀ a, a < 256 → ∃ c, M[a]? = some c ∧ fm_C u a c
theorem fm_tl_len : fm_tl.length = 256 := by decide +kernel
theorem fm_lt {a ci : Nat} (h : fm_tm a = .inl ci) (hc : ¬ ci = 99) : a < 256 := by
  apply Decidable.byContradiction
  intro hn
  unfold fm_tm at h
  rw [List.getD_eq_getElem?_getD, List.getElem?_eq_none (by rw [fm_tl_len]; omega)] at h
  cases h
  exact hc rfl
theorem fm_lt2 {a : Nat} {q : Nat × Nat} (h : fm_tm a = .inr q) : a < 256 := by
  apply Decidable.byContradiction
  intro hn
  unfold fm_tm at h
  rw [List.getD_eq_getElem?_getD, List.getElem?_eq_none (by rw [fm_tl_len]; omega)] at h
  cases h
theorem fm_getO {u : fm} {M : mm_M} {a ci : Nat} (hR : fm_R u M) (h : fm_tm a = .inl ci) (hc : ¬ ci = 99) : mm_ob M a = some (ci, fm_fs u a ci) := by
  obtain ⟨c, h1, h2⟩ := hR.2 a (fm_lt h hc)
  unfold fm_C at h2
  rw [h] at h2
  dsimp only at h2
  unfold mm_ob
  rw [h1, h2]
theorem fm_getA {u : fm} {M : mm_M} {a t n : Nat} (hR : fm_R u M) (h : fm_tm a = .inr (t, n)) : ∃ f, mm_ar M a = some (t, n, f) ∧ fm_E u a t n f := by
  obtain ⟨c, h1, h2⟩ := hR.2 a (fm_lt2 h)
  unfold fm_C at h2
  rw [h] at h2
  dsimp only at h2
  obtain ⟨f, rfl, h3⟩ := h2
  refine ⟨f, ?_, h3⟩
  unfold mm_ar
  rw [h1]
theorem fm_E_same {u v : fm} {b t n : Nat} {f : (Nat → Int32) ⊕ ((Nat → Int64) ⊕ (Nat → Option Nat))} (hA : ∀ k, fA v b k = fA u b k) (hG : ∀ k, fG v b k = fG u b k) (hP : ∀ k, fP v b k = fP u b k) (h : fm_E u b t n f) : fm_E v b t n f := by
  unfold fm_E at h ⊢
  simp only [hA, hG, hP]
  exact h
theorem fm_C_same {u v : fm} {b : Nat} {c : mm_C} (hI : ∀ k, fI v b k = fI u b k) (hJ : ∀ k, fJ v b k = fJ u b k) (hA : ∀ k, fA v b k = fA u b k) (hG : ∀ k, fG v b k = fG u b k) (hP : ∀ k, fP v b k = fP u b k) (h : fm_C u b c) : fm_C v b c := by
  unfold fm_C at h ⊢
  cases ht : fm_tm b with
  | inl ci =>
    rw [ht] at h
    dsimp only at h ⊢
    rw [h]
    congr 2
    unfold fm_fs
    apply List.map_congr_left
    intro j _
    unfold fm_fv
    rw [hI, hJ]
  | inr q =>
    obtain ⟨t, n⟩ := q
    rw [ht] at h
    dsimp only at h ⊢
    obtain ⟨f, h1, h2⟩ := h
    exact ⟨f, h1, fm_E_same hA hG hP h2⟩
theorem fm_set {u v : fm} {M : mm_M} {a : Nat} {c : mm_C} (hR : fm_R u M) (ha : a < 256) (hc : fm_C v a c) (hI : ∀ b, ¬ b = a → ∀ k, fI v b k = fI u b k) (hJ : ∀ b, ¬ b = a → ∀ k, fJ v b k = fJ u b k) (hA : ∀ b, ¬ b = a → ∀ k, fA v b k = fA u b k) (hG : ∀ b, ¬ b = a → ∀ k, fG v b k = fG u b k) (hP : ∀ b, ¬ b = a → ∀ k, fP v b k = fP u b k) : fm_R v (M.set a c) := by
  refine ⟨by rw [List.length_set]; exact hR.1, fun b hb => ?_⟩
  by_cases hab : b = a
  · subst hab
    refine ⟨c, ?_, hc⟩
    rw [List.getElem?_set_self (by rw [hR.1]; exact hb)]
  · obtain ⟨c1, h1, h2⟩ := hR.2 b hb
    refine ⟨c1, ?_, fm_C_same (hI b hab) (hJ b hab) (hA b hab) (hG b hab) (hP b hab) h2⟩
    rw [List.getElem?_set_ne (fun e => hab e.symm)]
    exact h1
theorem fm_u2_ne {α : Type} {f : Nat → Nat → α} {a j b k : Nat} {v : α} (h : ¬ b = a) : fm_u2 f a j v b k = f b k := by
  unfold fm_u2
  rw [if_neg (fun e => h e.2)]
theorem fm_u2_nk {α : Type} {f : Nat → Nat → α} {a j b k : Nat} {v : α} (h : ¬ k = j) : fm_u2 f a j v b k = f b k := by
  unfold fm_u2
  rw [if_neg (fun e => h e.1)]
theorem fm_u2_eq {α : Type} {f : Nat → Nat → α} {a j : Nat} {v : α} : fm_u2 f a j v a j = v := by
  unfold fm_u2
  rw [if_pos ⟨rfl, rfl⟩]
/-- locals: what is known of them -/
def fm_ag (l : List (Option mm_V)) (L : mm_L) : Prop := ∀ (k : Nat) (v : mm_V), l[k]? = some (some v) → mm_lk L k = some v
/-- from here it ends with these values and this memory -/
def ev (X : Nat × (Nat → Int32)) (y pc : Nat) (l : List (Option mm_V)) (st : List mm_V) (u : fm) (R : List mm_V × fm) : Prop :=
  ∀ (L : mm_L) (M : mm_M), fm_ag l L → fm_R u M → ∃ (pcE : Nat) (LE : mm_L) (stE : List mm_V) (ME : mm_M) (iE : Instr) (lenE : Nat), mm_to X y pc L st M (pcE, LE, stE, ME) ∧ mm_fetch y pcE = some (iE, lenE) ∧ mm_end y iE stE = some R.1 ∧ fm_R R.2 ME
def fm_nl (o : Option mm_V) : Option mm_V := match o with
  | some (.inr (.inr _)) => none
  | o => o
def fm_st1 : Nat → mm_V → List (Option mm_V) → List (Option mm_V)
  | _, _, [] => []
  | 0, v, _ :: l => some v :: l
  | 1, _, [o] => [fm_nl o]
  | 1, v, o :: _ :: l => fm_nl o :: some v :: l
  | k + 2, v, o :: l => o :: fm_st1 (k + 1) v l
def fm_st2 : Nat → mm_V → List (Option mm_V) → List (Option mm_V)
  | k, v, l => (fm_st1 k v l).set (k + 1) none
theorem fm_nl_ok {o : Option mm_V} {v : mm_V} (h : fm_nl o = some v) : o = some v ∧ mm_cat v = 1 := by
  rcases o with _ | v1 | v1 | v1
  · cases h
  · cases h; exact ⟨rfl, rfl⟩
  · cases h; exact ⟨rfl, rfl⟩
  · cases h
theorem fm_st1_ok : ∀ (k : Nat) (v : mm_V) (l : List (Option mm_V)) (j : Nat) (w : mm_V), (fm_st1 k v l)[j]? = some (some w) → (j = k ∧ w = v) ∨ (¬ j = k ∧ l[j]? = some (some w) ∧ (j + 1 = k → mm_cat w = 1)) := by
  intro k v l
  induction k, v, l using fm_st1.induct with
  | case1 k v => intro j w h; simp [fm_st1] at h
  | case2 v o l =>
    intro j w h
    cases j with
    | zero => simp [fm_st1] at h; exact Or.inl ⟨rfl, h.symm⟩
    | succ j => simp [fm_st1] at h; exact Or.inr ⟨by omega, by simpa using h, fun e => by omega⟩
  | case3 v o =>
    intro j w h
    cases j with
    | zero =>
      simp [fm_st1] at h
      have h2 := fm_nl_ok h
      exact Or.inr ⟨by omega, by simp [h2.1], fun _ => h2.2⟩
    | succ j => simp [fm_st1] at h
  | case4 v o o2 l =>
    intro j w h
    match j with
    | 0 =>
      simp [fm_st1] at h
      have h2 := fm_nl_ok h
      exact Or.inr ⟨by omega, by simp [h2.1], fun _ => h2.2⟩
    | 1 => simp [fm_st1] at h; exact Or.inl ⟨rfl, h.symm⟩
    | j + 2 => simp [fm_st1] at h; exact Or.inr ⟨by omega, by simpa using h, fun e => by omega⟩
  | case5 k v o l ih =>
    intro j w h
    cases j with
    | zero => simp [fm_st1] at h; exact Or.inr ⟨by omega, by simp [h], fun e => by omega⟩
    | succ j =>
      simp only [fm_st1, List.getElem?_cons_succ] at h
      rcases ih j w h with h1 | h1
      · exact Or.inl ⟨by omega, h1.2⟩
      · exact Or.inr ⟨by omega, by simpa using h1.2.1, fun e => h1.2.2 (by omega)⟩
theorem fm_lk_cons {i : Nat} {v : mm_V} {L : mm_L} {k : Nat} : mm_lk ((i, v) :: L) k = if i = k then some v else mm_lk L k := rfl
theorem fm_lk_filter {f : Nat × mm_V → Bool} {k : Nat} {v : mm_V} : ∀ {L : mm_L}, mm_lk L k = some v → f (k, v) = true → mm_lk (L.filter f) k = some v := by
  intro L
  induction L with
  | nil => intro h; cases h
  | cons q L ih =>
    intro h hf
    obtain ⟨i, w⟩ := q
    rw [fm_lk_cons] at h
    by_cases hi : i = k
    · rw [if_pos hi] at h
      cases h
      subst hi
      rw [List.filter_cons_of_pos hf, fm_lk_cons, if_pos rfl]
    · rw [if_neg hi] at h
      by_cases hq : f (i, w) = true
      · rw [List.filter_cons_of_pos hq, fm_lk_cons, if_neg hi]
        exact ih h hf
      · rw [List.filter_cons_of_neg hq]
        exact ih h hf
theorem fm_ag_st1 {l : List (Option mm_V)} {L : mm_L} {k : Nat} {v : mm_V} (h : fm_ag l L) : fm_ag (fm_st1 k v l) (mm_st1 k v L) := by
  intro j w hj
  unfold mm_st1
  rw [fm_lk_cons]
  rcases fm_st1_ok k v l j w hj with h1 | h1
  · rw [if_pos h1.1.symm, h1.2]
  · rw [if_neg (fun e => h1.1 e.symm)]
    apply fm_lk_filter (h j w h1.2.1)
    have h3 := h1.2.2
    by_cases hk : j + 1 = k
    · simp [h1.1, hk, h3 hk]
    · simp [h1.1, hk]
theorem fm_ag_st2 {l : List (Option mm_V)} {L : mm_L} {k : Nat} {v : mm_V} (h : fm_ag l L) : fm_ag (fm_st2 k v l) (mm_st2 k v L) := by
  intro j w hj
  unfold fm_st2 at hj
  by_cases hjk : j = k + 1
  · subst hjk
    rw [List.getElem?_set] at hj
    simp at hj
  · rw [List.getElem?_set_ne (fun e => hjk e.symm)] at hj
    unfold mm_st2
    rw [fm_lk_cons]
    rcases fm_st1_ok k v l j w hj with h1 | h1
    · rw [if_pos h1.1.symm, h1.2]
    · rw [if_neg (fun e => h1.1 e.symm)]
      apply fm_lk_filter (h j w h1.2.1)
      have h3 := h1.2.2
      by_cases hk : j + 1 = k
      · simp [h1.1, hk, h3 hk, hjk]
      · simp [h1.1, hk, hjk]
theorem fm_lfrom_lk : ∀ (As : List mm_V) (i k : Nat), mm_lk (mm_lfrom i As) (i + k) = As[k]? := by
  intro As
  induction As with
  | nil => intro i k; simp [mm_lfrom, mm_lk]
  | cons a As ih =>
    intro i k
    unfold mm_lfrom
    rw [fm_lk_cons]
    cases k with
    | zero => simp
    | succ k =>
      rw [if_neg (by omega), show i + (k + 1) = (i + 1) + k by omega, ih]
      simp
theorem fm_ag_locals {l : List (Option mm_V)} {As : List mm_V} {m : Nat} (h : l = As.map some ++ List.replicate m none) : fm_ag l (mm_locals As) := by
  intro k v hk
  unfold mm_locals
  have h1 := fm_lfrom_lk As 0 k
  rw [Nat.zero_add] at h1
  rw [h1]
  rw [h] at hk
  by_cases hl : k < As.length
  · rw [List.getElem?_append_left (by rw [List.length_map]; exact hl), List.getElem?_map] at hk
    rw [List.getElem?_eq_getElem hl] at hk ⊢
    simp at hk
    rw [hk]
  · rw [List.getElem?_append_right (by rw [List.length_map]; omega)] at hk
    rw [List.getElem?_replicate] at hk
    split at hk
    · simp at hk
    · cases hk
section EV
variable {X : Nat × (Nat → Int32)} {y pc : Nat} {l : List (Option mm_V)} {st : List mm_V} {u : fm} {R : List mm_V × fm}
/-- one step -/
theorem ev_p {i : Instr} {len pc1 : Nat} {l1 : List (Option mm_V)} {st1 : List mm_V} {u1 : fm} (hf : mm_fetch y pc = some (i, len)) (he : mm_isEnd i = false) (hc : ∀ M, mm_call M y i st = none) (hs : ∀ (L : mm_L) (M : mm_M), fm_ag l L → fm_R u M → ∃ L1 M1, mm_step X y i pc L st M = some (pc1, L1, st1, M1) ∧ fm_ag l1 L1 ∧ fm_R u1 M1) (k : ev X y pc1 l1 st1 u1 R) : ev X y pc l st u R := by
  intro L M hL hM
  obtain ⟨L1, M1, h1, h2, h3⟩ := hs L M hL hM
  obtain ⟨pcE, LE, stE, ME, iE, lenE, k1, k2⟩ := k L1 M1 h2 h3
  exact ⟨pcE, LE, stE, ME, iE, lenE, mm_t hf he (hc M) h1 k1, k2⟩
/-- one step that leaves locals and memory -/
theorem ev_q {i : Instr} {len pc1 : Nat} {st1 : List mm_V} (hf : mm_fetch y pc = some (i, len)) (he : mm_isEnd i = false) (hc : ∀ M, mm_call M y i st = none) (hs : ∀ (L : mm_L) (M : mm_M), fm_ag l L → fm_R u M → mm_step X y i pc L st M = some (pc1, L, st1, M)) (k : ev X y pc1 l st1 u R) : ev X y pc l st u R :=
  ev_p hf he hc (fun L M hL hM => ⟨L, M, hs L M hL hM, hL, hM⟩) k
end EV
