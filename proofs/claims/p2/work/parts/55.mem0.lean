/-! the flat memory behind the constructors -/
def fm_0 : fm := (fun a j => if (a = 183 ∧ j = 1) ∨ (a = 198 ∧ j = 0) then 1 else 0, fun _ _ => 0, fun _ _ => 0, fun a _ => if a = 248 ∨ a = 250 then -1 else 0, fun _ k => k)
def fm_veq (x y : mm_V) : Bool := match x, y with
  | .inl x, .inl y => decide (x = y)
  | .inr (.inl a), .inr (.inl b) => decide (a = b)
  | .inr (.inr x), .inr (.inr y) => decide (x = y)
  | _, _ => false
def fm_leq : List mm_V → List mm_V → Bool
  | [], [] => true
  | x :: xs, y :: ys => fm_veq x y && fm_leq xs ys
  | _, _ => false
theorem fm_veq_ok {x y : mm_V} (h : fm_veq x y = true) : x = y := by
  unfold fm_veq at h
  split at h
  · rw [of_decide_eq_true h]
  · rw [of_decide_eq_true h]
  · rw [of_decide_eq_true h]
  · cases h
theorem fm_leq_ok : ∀ {xs ys : List mm_V}, fm_leq xs ys = true → xs = ys := by
  intro xs
  induction xs with
  | nil =>
    intro ys h
    cases ys with
    | nil => rfl
    | cons y ys => cases h
  | cons x xs ih =>
    intro ys h
    cases ys with
    | nil => cases h
    | cons y ys =>
      rw [fm_leq, Bool.and_eq_true] at h
      rw [fm_veq_ok h.1, ih h.2]
def fm_eeq (u : fm) (a t n : Nat) (f : (Nat → Int32) ⊕ ((Nat → Int64) ⊕ (Nat → Option Nat))) : Bool := match f with
  | .inl g => (Nat.blt t 2 && (List.range n).all (fun k => decide (g k = fA u a k))) || (Nat.beq t 2 && (List.range n).all (fun k => decide (g k = fm_b01 (fA u a k))))
  | .inr (.inl g) => Nat.beq t 3 && (List.range n).all (fun k => decide (g k = fG u a k))
  | .inr (.inr g) => Nat.beq t 4 && (List.range n).all (fun k => decide (g k = some (3 + 3 * (fP u a k % 60))))
theorem fm_eeq_ok {u : fm} {a t n : Nat} {f : (Nat → Int32) ⊕ ((Nat → Int64) ⊕ (Nat → Option Nat))} (h : fm_eeq u a t n f = true) : fm_E u a t n f := by
  have al : ∀ {p : Nat → Bool}, (List.range n).all p = true → ∀ k, k < n → p k = true := fun h k hk => List.all_eq_true.mp h k (List.mem_range.mpr hk)
  rcases f with g | g | g
  · unfold fm_eeq at h
    simp only [Bool.or_eq_true, Bool.and_eq_true] at h
    rcases h with h | h
    · exact Or.inl ⟨by simpa [Nat.blt_eq] using h.1, fun k hk => of_decide_eq_true (al h.2 k hk)⟩
    · exact Or.inr ⟨Nat.eq_of_beq_eq_true h.1, fun k hk => of_decide_eq_true (al h.2 k hk)⟩
  · unfold fm_eeq at h
    simp only [Bool.and_eq_true] at h
    exact ⟨Nat.eq_of_beq_eq_true h.1, fun k hk => of_decide_eq_true (al h.2 k hk)⟩
  · unfold fm_eeq at h
    simp only [Bool.and_eq_true] at h
    exact ⟨Nat.eq_of_beq_eq_true h.1, fun k hk => of_decide_eq_true (al h.2 k hk)⟩
def fm_ceq (u : fm) (a : Nat) (c : mm_C) : Bool := match fm_tm a, c with
  | .inl ci, .inl q => Nat.beq q.1 ci && fm_leq q.2 (fm_fs u a ci)
  | .inr tn, .inr q => Nat.beq q.1 tn.1 && (Nat.beq q.2.1 tn.2 && fm_eeq u a tn.1 tn.2 q.2.2)
  | _, _ => false
theorem fm_ceq_ok {u : fm} {a : Nat} {c : mm_C} (h : fm_ceq u a c = true) : fm_C u a c := by
  unfold fm_ceq at h
  unfold fm_C
  cases ht : fm_tm a with
  | inl ci =>
    rw [ht] at h
    rcases c with q | q
    · obtain ⟨q1, q2⟩ := q
      simp only [Bool.and_eq_true] at h
      dsimp only
      rw [Nat.eq_of_beq_eq_true h.1, fm_leq_ok h.2]
    · cases h
  | inr tn =>
    rw [ht] at h
    obtain ⟨t, n⟩ := tn
    rcases c with q | q
    · cases h
    · obtain ⟨q1, q2, q3⟩ := q
      simp only [Bool.and_eq_true] at h
      dsimp only
      refine ⟨q3, ?_, fm_eeq_ok h.2.2⟩
      rw [Nat.eq_of_beq_eq_true h.1, Nat.eq_of_beq_eq_true h.2.1]
def fm_chk (u : fm) (M : mm_M) : Bool := Nat.beq M.length 256 && (List.range 256).all (fun a => match M[a]? with
  | some c => fm_ceq u a c
  | none => false)
theorem fm_chk_ok {u : fm} {M : mm_M} (h : fm_chk u M = true) : fm_R u M := by
  unfold fm_chk at h
  rw [Bool.and_eq_true] at h
  refine ⟨Nat.eq_of_beq_eq_true h.1, fun a ha => ?_⟩
  have h2 := List.all_eq_true.mp h.2 a (List.mem_range.mpr ha)
  cases hc : M[a]? with
  | none => rw [hc] at h2; cases h2
  | some c => rw [hc] at h2; exact ⟨c, rfl, fm_ceq_ok h2⟩
