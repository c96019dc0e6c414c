/-! one telling within another: stacks, locals, memories -/
def ax_subl : List ax_V → List ax_V → Bool
  | [], [] => true
  | a :: as, b :: bs => ax_subv a b && ax_subl as bs
  | _, _ => false
def ax_subL : List (Nat × ax_V) → List (Nat × ax_V) → Bool
  | [], [] => true
  | a :: as, b :: bs => decide (a.1 = b.1) && ax_subv a.2 b.2 && ax_subL as bs
  | _, _ => false
def ax_subc (a b : ax_C) : Bool := match a, b with
  | .inl a, .inl b => decide (a.1 = b.1) && ax_subl a.2 b.2
  | .inr a, .inr b => decide (a.1 = b.1) && decide (a.2.1 = b.2.1) && ax_subv a.2.2.1 b.2.2.1 && ax_subL a.2.2.2 b.2.2.2
  | _, _ => false
def ax_subb : List ax_C → List ax_C → Bool
  | [], [] => true
  | a :: as, b :: bs => ax_subc a b && ax_subb as bs
  | _, _ => false
def ax_subm : ax_M → ax_M → Bool
  | [], [] => true
  | a :: as, b :: bs => ax_subb a b && ax_subm as bs
  | _, _ => false
section AXB
variable {ρ : Nat → Int32}
theorem ax_subl_ok : ∀ {as bs : List ax_V} {vs : List mm_V}, ax_subl as bs = true → ax_gl ρ as vs → ax_gl ρ bs vs := by
  intro as
  induction as with
  | nil =>
    intro bs vs h g
    cases bs with
    | nil => exact g
    | cons b bs => cases h
  | cons a as ih =>
    intro bs vs h g
    cases bs with
    | nil => cases h
    | cons b bs =>
      rw [ax_subl, Bool.and_eq_true] at h
      obtain ⟨w, st1, rfl, h1, h3⟩ := ax_gl_c g
      exact ⟨ax_subv_ok h.1 h1, ih h.2 h3⟩
theorem ax_subL_ok : ∀ {as bs : ax_L} {L : mm_L}, ax_subL as bs = true → ax_gL ρ as L → ax_gL ρ bs L := by
  intro as
  induction as with
  | nil =>
    intro bs L h g
    cases bs with
    | nil => exact g
    | cons b bs => cases h
  | cons a as ih =>
    intro bs L h g
    cases bs with
    | nil => cases h
    | cons b bs =>
      cases L with
      | nil => exact absurd g (fun z => z)
      | cons q L =>
        rw [ax_subL, Bool.and_eq_true, Bool.and_eq_true, decide_eq_true_eq] at h
        exact ⟨⟨by rw [← h.1.1]; exact g.1.1, ax_subv_ok h.1.2 g.1.2⟩, ih h.2 g.2⟩
theorem ax_sub_rd {d e : ax_V} : ∀ {as bs : List (Nat × ax_V)}, ax_subv d e = true → ax_subL as bs = true → ∀ j, ax_subv (ax_rd d as j) (ax_rd e bs j) = true := by
  intro as
  induction as with
  | nil =>
    intro bs h1 h j
    cases bs with
    | nil => exact h1
    | cons b bs => cases h
  | cons a as ih =>
    intro bs h1 h j
    cases bs with
    | nil => cases h
    | cons b bs =>
      rw [ax_subL, Bool.and_eq_true, Bool.and_eq_true, decide_eq_true_eq] at h
      obtain ⟨a1, a2⟩ := a
      obtain ⟨b1, b2⟩ := b
      dsimp only at h
      rw [ax_rd_cons, ax_rd_cons, ← h.1.1]
      split
      · exact h.1.2
      · exact ih h1 h.2 j
theorem ax_subc_ok {a b : ax_C} {c : mm_C} (h : ax_subc a b = true) (g : ax_gc ρ a c) : ax_gc ρ b c := by
  unfold ax_subc at h
  split at h
  · rename_i a1 b1
    simp only [Bool.and_eq_true, decide_eq_true_eq] at h
    rcases c with c | c
    · exact ⟨by rw [← h.1]; exact g.1, ax_subl_ok h.2 g.2⟩
    · exact absurd g (fun z => z)
  · rename_i a1 b1
    simp only [Bool.and_eq_true, decide_eq_true_eq] at h
    rcases c with c | c
    · exact absurd g (fun z => z)
    · obtain ⟨g1, g2, g3⟩ := g
      refine ⟨by rw [g1]; exact h.1.1.1, by rw [g2]; exact h.1.1.2, fun j hj => ?_⟩
      have hj' : j < a1.2.1 := by rw [h.1.1.2]; exact hj
      exact ax_subv_ok (ax_sub_rd h.1.2 h.2 j) (g3 j hj')
  · cases h
theorem ax_subb_ok : ∀ {as bs : List ax_C}, ax_subb as bs = true → as.length = bs.length ∧ ∀ (k : Nat) (b : ax_C), bs[k]? = some b → ∃ a, as[k]? = some a ∧ ax_subc a b = true := by
  intro as
  induction as with
  | nil =>
    intro bs h
    cases bs with
    | nil => exact ⟨rfl, fun k b hb => by cases hb⟩
    | cons b bs => cases h
  | cons a as ih =>
    intro bs h
    cases bs with
    | nil => cases h
    | cons b bs =>
      rw [ax_subb, Bool.and_eq_true] at h
      obtain ⟨h1, h2⟩ := ih h.2
      refine ⟨by simp [h1], fun k x hx => ?_⟩
      cases k with
      | zero => cases hx; exact ⟨a, rfl, h.1⟩
      | succ k => rw [List.getElem?_cons_succ] at hx ⊢; exact h2 k x hx
theorem ax_subm_ok' : ∀ {A B : ax_M}, ax_subm A B = true → A.map List.length = B.map List.length ∧ ∀ (k : Nat) (b : List ax_C), B[k]? = some b → ∃ a, A[k]? = some a ∧ ax_subb a b = true := by
  intro A
  induction A with
  | nil =>
    intro B h
    cases B with
    | nil => exact ⟨rfl, fun k b hb => by cases hb⟩
    | cons b B => cases h
  | cons a A ih =>
    intro B h
    cases B with
    | nil => cases h
    | cons b B =>
      rw [ax_subm, Bool.and_eq_true] at h
      obtain ⟨h1, h2⟩ := ih h.2
      refine ⟨by rw [List.map_cons, List.map_cons, h1, (ax_subb_ok h.1).1], fun k x hx => ?_⟩
      cases k with
      | zero => cases hx; exact ⟨a, rfl, h.1⟩
      | succ k => rw [List.getElem?_cons_succ] at hx ⊢; exact h2 k x hx
theorem ax_subm_ok {A B : ax_M} {M : mm_M} (h : ax_subm A B = true) (g : ax_gm ρ A M) : ax_gm ρ B M := by
  obtain ⟨h1, h2⟩ := ax_subm_ok' h
  refine ⟨by rw [g.1]; unfold ax_len; rw [h1], fun k b hb => ?_⟩
  unfold ax_get at hb
  split at hb
  · rename_i bl hbl
    obtain ⟨al, h3, h4⟩ := h2 _ _ hbl
    obtain ⟨a, h5, h6⟩ := (ax_subb_ok h4).2 _ _ hb
    have h7 : ax_get A k = some a := by
      unfold ax_get
      rw [h3]
      exact h5
    obtain ⟨c, h8, h9⟩ := g.2 k a h7
    exact ⟨c, h8, ax_subc_ok h6 h9⟩
  · cases hb
/-- a whole state within another -/
def ax_subS (A B : ax_S) : Bool := decide (A.1 = B.1) && ax_subL A.2.1 B.2.1 && ax_subl A.2.2.1 B.2.2.1 && ax_subm A.2.2.2 B.2.2.2
theorem ax_subS_ok {A B : ax_S} {S : mm_S} (h : ax_subS A B = true) (g : ax_gS ρ A S) : ax_gS ρ B S := by
  unfold ax_subS at h
  simp only [Bool.and_eq_true, decide_eq_true_eq] at h
  exact ⟨by rw [g.1]; exact h.1.1.1, ax_subL_ok h.1.1.2 g.2.1, ax_subl_ok h.1.2 g.2.2.1, ax_subm_ok h.2 g.2.2.2⟩
/-- the same, where one row is told less of first -/
def ax_subW (k : Nat) (c : ax_C) (A B : ax_S) : Bool := match ax_get A.2.2.2 k with
  | some a => ax_suba a c && ax_subS (A.1, A.2.1, A.2.2.1, ax_put A.2.2.2 k c) B
  | none => false
theorem ax_subW_ok {k : Nat} {c : ax_C} {A B : ax_S} {S : mm_S} (h : ax_subW k c A B = true) (g : ax_gS ρ A S) : ax_gS ρ B S := by
  unfold ax_subW at h
  split at h
  · rename_i a ha
    rw [Bool.and_eq_true] at h
    exact ax_subS_ok h.2 ⟨g.1, g.2.1, g.2.2.1, ax_gm_weak g.2.2.2 ha h.1⟩
  · cases h
/-- a stretch, all of whose ends lie within one of some states -/
def ax_segs (X : Nat × (Nat → ax_I)) (stop n y : Nat) (A : ax_S) (P : ax_S → Bool) : Bool := match ax_seg X stop n y A.1 A.2.1 A.2.2.1 A.2.2.2 with
  | some rs => rs.all P
  | none => false
theorem ax_segs_ok {XA : Nat × (Nat → ax_I)} {X : Nat × (Nat → Int32)} {stop n y : Nat} {A : ax_S} {P : ax_S → Bool} {S : mm_S} (gX : ax_gx ρ XA X) (g : ax_gS ρ A S) (h : ax_segs XA stop n y A P = true) : ∃ E, P E = true ∧ ∃ S1 : mm_S, ax_gS ρ E S1 ∧ mm_sh S.2.2.2 <+: mm_sh S1.2.2.2 ∧ ∀ R, mm_to X y S1.1 S1.2.1 S1.2.2.1 S1.2.2.2 R → mm_to X y S.1 S.2.1 S.2.2.1 S.2.2.2 R := by
  unfold ax_segs at h
  cases hr : ax_seg XA stop n y A.1 A.2.1 A.2.2.1 A.2.2.2 with
  | none => rw [hr] at h; cases h
  | some rs =>
    rw [hr] at h
    obtain ⟨E, hE, S1, h1, h2, h3⟩ := ax_seg_ok gX stop n y A.1 A.2.1 A.2.2.1 A.2.2.2 S.2.1 S.2.2.1 S.2.2.2 rs g.2.1 g.2.2.1 g.2.2.2 hr
    exact ⟨E, List.all_eq_true.mp h E hE, S1, h1, h2, fun R hR => by rw [g.1]; exact h3 R hR⟩
def ax_runs (X : Nat × (Nat → ax_I)) (n y : Nat) (A : ax_S) (P : ax_S → Bool) : Bool := match ax_run X n y A.1 A.2.1 A.2.2.1 A.2.2.2 with
  | some rs => rs.all P
  | none => false
theorem ax_runs_ok {XA : Nat × (Nat → ax_I)} {X : Nat × (Nat → Int32)} {n y : Nat} {A : ax_S} {P : ax_S → Bool} {S : mm_S} (gX : ax_gx ρ XA X) (g : ax_gS ρ A S) (h : ax_runs XA n y A P = true) : ∃ E, P E = true ∧ ∃ S1 : mm_S, ax_gS ρ E S1 ∧ mm_to X y S.1 S.2.1 S.2.2.1 S.2.2.2 S1 := by
  unfold ax_runs at h
  cases hr : ax_run XA n y A.1 A.2.1 A.2.2.1 A.2.2.2 with
  | none => rw [hr] at h; cases h
  | some rs =>
    rw [hr] at h
    obtain ⟨E, hE, S1, h1, h2⟩ := ax_run_ok gX n y A.1 A.2.1 A.2.2.1 A.2.2.2 S.2.1 S.2.2.1 S.2.2.2 rs g.2.1 g.2.2.1 g.2.2.2 hr
    exact ⟨E, List.all_eq_true.mp h E hE, S1, h2, ⟨n, by rw [g.1]; exact h1⟩⟩
/-- a call, told by boxes -/
def ax_calls (A : ax_S) (y : Nat) (i : Instr) (z : Nat) (As rest : List ax_V) : Bool := match ax_call A.2.2.2 y i A.2.2.1 with
  | some (z1, As1, rest1) => decide (z1 = z) && ax_subl As1 As && ax_subl rest1 rest
  | none => false
theorem ax_calls_ok {A : ax_S} {y : Nat} {i : Instr} {z : Nat} {As rest : List ax_V} {S : mm_S} (g : ax_gS ρ A S) (h : ax_calls A y i z As rest = true) : ∃ As' rest', mm_call S.2.2.2 y i S.2.2.1 = some (z, As', rest') ∧ ax_gl ρ As As' ∧ ax_gl ρ rest rest' := by
  unfold ax_calls at h
  split at h
  · rename_i z1 As1 rest1 hc
    simp only [Bool.and_eq_true, decide_eq_true_eq] at h
    obtain ⟨As2, rest2, h1, h2, h3⟩ := ax_call_ok g.2.2.1 g.2.2.2 hc
    exact ⟨As2, rest2, by rw [h1, h.1.1], ax_subl_ok h.1.2 h2, ax_subl_ok h.2 h3⟩
  · cases h
end AXB
