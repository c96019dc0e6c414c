section MT
variable {X : Nat × (Nat → Int32)} {y pc : Nat}
/-- more steps do no harm -/
theorem mm_run_more : ∀ (n y pc : Nat) (L : mm_L) (st : List mm_V) (M : mm_M) (S : mm_S), mm_run X n y pc L st M = some S → mm_run X (n + 1) y pc L st M = some S := by
  intro n
  induction n with
  | zero => intro y pc L st M S h; cases h
  | succ n ih =>
    intro y pc L st M S h
    rw [mm_run] at h ⊢
    cases hf : mm_fetch y pc with
    | none => rw [hf] at h; cases h
    | some q =>
      obtain ⟨i, len⟩ := q
      rw [hf] at h
      dsimp only at h ⊢
      by_cases he : mm_isEnd i = true
      · rw [if_pos he] at h ⊢
        exact h
      · rw [if_neg he] at h ⊢
        cases hcall : mm_call M y i st with
        | some q =>
          obtain ⟨z, As, rest⟩ := q
          rw [hcall] at h
          dsimp only at h ⊢
          cases hrun : mm_run X n z 0 (mm_locals As) [] M with
          | none => rw [hrun] at h; cases h
          | some q =>
            obtain ⟨pcE, LE, stE, ME⟩ := q
            rw [hrun] at h
            rw [ih _ _ _ _ _ _ hrun]
            dsimp only at h ⊢
            cases hfE : mm_fetch z pcE with
            | none => rw [hfE] at h; cases h
            | some q =>
              obtain ⟨iE, lenE⟩ := q
              rw [hfE] at h
              dsimp only at h ⊢
              cases hend : mm_end z iE stE with
              | none => rw [hend] at h; cases h
              | some vs =>
                rw [hend] at h
                dsimp only at h ⊢
                exact ih _ _ _ _ _ _ h
        | none =>
          rw [hcall] at h
          dsimp only at h ⊢
          cases hstep : mm_step X y i pc L st M with
          | none => rw [hstep] at h; cases h
          | some q =>
            obtain ⟨pc1, L1, st1, M1⟩ := q
            rw [hstep] at h
            dsimp only at h ⊢
            exact ih _ _ _ _ _ _ h
theorem mm_run_add {n y pc : Nat} {L : mm_L} {st : List mm_V} {M : mm_M} {S : mm_S} (h : mm_run X n y pc L st M = some S) : ∀ k, mm_run X (n + k) y pc L st M = some S := by
  intro k
  induction k with
  | zero => exact h
  | succ k ih => exact mm_run_more _ _ _ _ _ _ _ ih
/-- it comes to S -/
def mm_to (X : Nat × (Nat → Int32)) (y pc : Nat) (L : mm_L) (st : List mm_V) (M : mm_M) (S : mm_S) : Prop := ∃ n, mm_run X n y pc L st M = some S
theorem mm_t {i : Instr} {len pc1 : Nat} {L L1 : mm_L} {st st1 : List mm_V} {M M1 : mm_M} {S : mm_S} (hf : mm_fetch y pc = some (i, len)) (he : mm_isEnd i = false) (hc : mm_call M y i st = none) (hs : mm_step X y i pc L st M = some (pc1, L1, st1, M1)) (k : mm_to X y pc1 L1 st1 M1 S) : mm_to X y pc L st M S := by
  obtain ⟨n, hn⟩ := k
  refine ⟨n + 1, ?_⟩
  unfold mm_run
  rw [hf]
  dsimp only
  rw [if_neg (by rw [he]; decide), hc]
  dsimp only
  rw [hs]
  exact hn
theorem mm_tc {i iE : Instr} {len lenE z pcE : Nat} {As rest vs : List mm_V} {LE : mm_L} {stE : List mm_V} {L : mm_L} {st : List mm_V} {M ME : mm_M} {S : mm_S} (hf : mm_fetch y pc = some (i, len)) (he : mm_isEnd i = false) (hc : mm_call M y i st = some (z, As, rest)) (hr : mm_to X z 0 (mm_locals As) [] M (pcE, LE, stE, ME)) (hfE : mm_fetch z pcE = some (iE, lenE)) (hend : mm_end z iE stE = some vs) (k : mm_to X y (pc + 3) L (vs ++ rest) ME S) : mm_to X y pc L st M S := by
  obtain ⟨n1, h1⟩ := hr
  obtain ⟨n2, h2⟩ := k
  refine ⟨n1 + n2 + 1, ?_⟩
  unfold mm_run
  rw [hf]
  dsimp only
  rw [if_neg (by rw [he]; decide), hc]
  dsimp only
  rw [mm_run_add h1 n2]
  dsimp only
  rw [hfE]
  dsimp only
  rw [hend]
  dsimp only
  rw [Nat.add_comm n1 n2]
  exact mm_run_add h2 n1
end MT
