/-! runs that don't touch the script -/
def mm_scrTop (i : Instr) (st : List mm_V) : Bool := match i, st with
  | .arraylength, .inr (.inl (some a)) :: _ => decide (a = mm_scr)
  | .iaload, _ :: .inr (.inl (some a)) :: _ => decide (a = mm_scr)
  | _, _ => false
def mm_X0 : Nat × (Nat → Int32) := (0, fun _ => 0)
def mm_runZ : Nat → Nat → Nat → mm_L → List mm_V → mm_M → Option mm_S
  | 0, _, _, _, _, _ => none
  | n + 1, y, pc, L, st, M => match mm_fetch y pc with
    | none => none
    | some (i, _) =>
      if mm_isEnd i then some (pc, L, st, M)
      else if mm_scrTop i st then none
      else match mm_call M y i st with
        | some (z, As, rest) => (match mm_runZ n z 0 (mm_locals As) [] M with
          | none => none
          | some (pc1, _, st1, M1) => (match mm_fetch z pc1 with
            | none => none
            | some (i1, _) => (match mm_end z i1 st1 with
              | none => none
              | some vs => mm_runZ n y (pc + 3) L (vs ++ rest) M1)))
        | none => (match mm_step mm_X0 y i pc L st M with
          | none => none
          | some (pc1, L1, st1, M1) => mm_runZ n y pc1 L1 st1 M1)
theorem mm_stepZ {X : Nat × (Nat → Int32)} {y pc : Nat} {i : Instr} {L : mm_L} {st : List mm_V} {M : mm_M} (h : mm_scrTop i st = false) : mm_step mm_X0 y i pc L st M = mm_step X y i pc L st M := by
  cases i with
  | arraylength =>
    rcases st with _ | ⟨(v | (_ | a) | v), st⟩ <;> first | rfl | skip
    have h1 : ¬ a = mm_scr := by simpa [mm_scrTop] using h
    dsimp only [mm_step]
    rw [if_neg h1, if_neg h1]
  | iaload =>
    rcases st with _ | ⟨(i1 | r1 | i1), _ | ⟨(v | (_ | a) | v), st⟩⟩ <;> first | rfl | skip
    have h1 : ¬ a = mm_scr := by simpa [mm_scrTop] using h
    dsimp only [mm_step]
    rw [if_neg h1, if_neg h1]
  | _ => rfl
theorem mm_runZ_ok {X : Nat × (Nat → Int32)} : ∀ (n y pc : Nat) (L : mm_L) (st : List mm_V) (M : mm_M) (S : mm_S), mm_runZ n y pc L st M = some S → mm_run X n y pc L st M = some S := by
  intro n
  induction n with
  | zero => intro y pc L st M S h; cases h
  | succ n ih =>
    intro y pc L st M S h
    rw [mm_runZ] at h
    rw [mm_run]
    cases hf : mm_fetch y pc with
    | none => rw [hf] at h; cases h
    | some q =>
      obtain ⟨i, len⟩ := q
      rw [hf] at h
      dsimp only at h ⊢
      by_cases he : mm_isEnd i = true
      · rw [if_pos he] at h ⊢
        exact h
      · rw [if_neg he] at h ⊢
        by_cases hs : mm_scrTop i st = true
        · rw [if_pos hs] at h
          cases h
        · rw [if_neg hs] at h
          cases hcall : mm_call M y i st with
          | some q =>
            obtain ⟨z, As, rest⟩ := q
            rw [hcall] at h
            dsimp only at h ⊢
            cases hrun : mm_runZ n z 0 (mm_locals As) [] M with
            | none => rw [hrun] at h; cases h
            | some q =>
              obtain ⟨pcE, LE, stE, ME⟩ := q
              rw [hrun] at h
              rw [ih _ _ _ _ _ _ hrun]
              dsimp only at h ⊢
              cases hfE : mm_fetch z pcE with
              | none => rw [hfE] at h; cases h
              | some q =>
                obtain ⟨iE, lenE⟩ := q
                rw [hfE] at h
                dsimp only at h ⊢
                cases hend : mm_end z iE stE with
                | none => rw [hend] at h; cases h
                | some vs =>
                  rw [hend] at h
                  dsimp only at h ⊢
                  exact ih _ _ _ _ _ _ h
          | none =>
            rw [hcall] at h
            dsimp only at h ⊢
            have hs' : mm_scrTop i st = false := by simpa using hs
            rw [← mm_stepZ (X := X) hs']
            cases hstep : mm_step mm_X0 y i pc L st M with
            | none => rw [hstep] at h; cases h
            | some q =>
              obtain ⟨pc1, L1, st1, M1⟩ := q
              rw [hstep] at h
              dsimp only at h ⊢
              exact ih _ _ _ _ _ _ h
theorem mm_sh_same {A M : mm_M} (h : mm_sh A <+: mm_sh M) (hl : A.length = M.length) : mm_sh M = mm_sh A := by
  obtain ⟨t, ht⟩ := h
  have h1 := congrArg List.length ht
  rw [List.length_append, List.length_map, List.length_map] at h1
  have h2 : t = [] := List.length_eq_zero_iff.mp (by omega)
  rw [h2, List.append_nil] at ht
  exact ht.symm
