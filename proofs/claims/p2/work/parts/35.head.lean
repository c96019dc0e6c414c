/-! the law, from its entry to its loop, and from the loop's head to a call -/
theorem mm_go_190 : mm_go 175 190 1 [.inr (.inl (some 0)), .inr (.inl (some 0))] = some (85, [.inr (.inl (some 0))], [.inr (.inl (some 0))]) := by
  unfold mm_go
  rw [if_pos (by decide +kernel), show (mm_mr 190).2.2.1 = 85 by decide +kernel, show mm_na 85 = 1 by decide +kernel]
  rfl
theorem mm_go_191 : mm_go 175 191 1 [.inr (.inl (some 223)), .inr (.inl (some 223))] = some (104, [.inr (.inl (some 223))], [.inr (.inl (some 223))]) := by
  unfold mm_go
  rw [if_pos (by decide +kernel), show (mm_mr 191).2.2.1 = 104 by decide +kernel, show mm_na 104 = 1 by decide +kernel]
  rfl
section LH
variable {X : Nat × (Nat → Int32)} {S : mm_S}
theorem mm_RC_e : ∃ LE, mm_RC = some (119, LE, [], mm_MC) := by
  have h := mm_f1
  unfold mm_MC
  cases hq : mm_RC with
  | none => rw [hq] at h; cases h
  | some q =>
    obtain ⟨a, b, c, d⟩ := q
    rw [hq] at h
    cases h
    exact ⟨b, rfl⟩
theorem mm_RM_e : ∃ LE, mm_RM = some (261, LE, [], mm_M0) := by
  have h := mm_f3
  unfold mm_M0
  cases hq : mm_RM with
  | none => rw [hq] at h; cases h
  | some q =>
    obtain ⟨a, b, c, d⟩ := q
    rw [hq] at h
    cases h
    exact ⟨b, rfl⟩
theorem mm_s_new {y pc r ci : Nat} {L : mm_L} {st : List mm_V} {M : mm_M} (hr : (mm_crf r).2.2.1 = ci) (h11 : ci < 11) (hl : M.length < 1000000) : mm_step X y (.new r) pc L st M = some (pc + 3, L, .inr (.inl (some M.length)) :: st, M ++ [mm_def ci]) := by
  dsimp only [mm_step]
  rw [hr, if_pos h11]
  unfold mm_new
  rw [if_pos hl]
  rfl
theorem mm_c_init {y r z a : Nat} {st : List mm_V} {M : mm_M} (h : mm_go y r 1 (.inr (.inl (some a)) :: st) = some (z, [.inr (.inl (some a))], st)) : mm_call M y (.invokespecial r) (.inr (.inl (some a)) :: st) = some (z, [.inr (.inl (some a))], st) := by
  dsimp only [mm_call]
  rw [h]
abbrev mm_L0 : mm_L := [(3, .inl 0), (2, .inr (.inl (some 223))), (1, .inr (.inl (some 0))), (0, .inr (.inl (some mm_scr)))]
theorem mm_head (k : mm_to X 175 18 mm_L0 [] mm_M0 S) : mm_to X 175 0 [(0, .inr (.inl (some mm_scr)))] [] [] S := by
  obtain ⟨LC, hRC⟩ := mm_RC_e
  obtain ⟨LM, hRM⟩ := mm_RM_e
  refine mm_t (i := .new 12) (len := 3) (by decide +kernel) rfl rfl (mm_s_new (ci := 9) (by decide +kernel) (by decide) (by decide)) ?_
  refine mm_t (i := .dup) (len := 1) (by decide +kernel) rfl rfl rfl ?_
  refine mm_tc (i := .invokespecial 190) (len := 3) (z := 85) (As := [.inr (.inl (some 0))]) (rest := [.inr (.inl (some 0))]) (iE := .return_) (lenE := 1) (vs := []) (by decide +kernel) rfl (mm_c_init mm_go_190) ⟨20000, mm_runZ_ok _ _ _ _ _ _ _ hRC⟩ (by decide +kernel) (by decide +kernel) ?_
  refine mm_t (i := .astore_n 1) (len := 1) (pc1 := 8) (L1 := [(1, .inr (.inl (some 0))), (0, .inr (.inl (some mm_scr)))]) (st1 := []) (M1 := mm_MC) (by decide +kernel) rfl rfl rfl ?_
  refine mm_t (i := .new 13) (len := 3) (by decide +kernel) rfl rfl (mm_s_new (ci := 10) (by decide +kernel) (by decide) (by rw [mm_f2]; decide)) ?_
  rw [mm_f2]
  refine mm_t (i := .dup) (len := 1) (by decide +kernel) rfl rfl rfl ?_
  refine mm_tc (i := .invokespecial 191) (len := 3) (z := 104) (As := [.inr (.inl (some 223))]) (rest := [.inr (.inl (some 223))]) (iE := .return_) (lenE := 1) (vs := []) (by decide +kernel) rfl (mm_c_init mm_go_191) ⟨20000, mm_runZ_ok _ _ _ _ _ _ _ hRM⟩ (by decide +kernel) (by decide +kernel) ?_
  refine mm_t (i := .astore_n 2) (len := 1) (pc1 := 16) (L1 := [(2, .inr (.inl (some 223))), (1, .inr (.inl (some 0))), (0, .inr (.inl (some mm_scr)))]) (st1 := []) (M1 := mm_M0) (by decide +kernel) rfl rfl rfl ?_
  refine mm_t (i := .iconst 0) (len := 1) (pc1 := 17) (by decide +kernel) rfl rfl rfl ?_
  refine mm_t (i := .istore_n 3) (len := 1) (pc1 := 18) (L1 := mm_L0) (st1 := []) (M1 := mm_M0) (by decide +kernel) rfl rfl rfl ?_
  exact k
end LH
