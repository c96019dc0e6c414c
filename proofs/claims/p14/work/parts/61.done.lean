/-! the whole: from the entry to the law's answer -/
theorem fm_ag0 : fm_ag [some (.inr (.inl (some mm_scr))), some (.inr (.inl (some 0))), some (.inr (.inl (some 223))), some (.inl 0)] mm_L0 := by
  intro k v h
  match k, h with
  | 0, h => cases h; rfl
  | 1, h => cases h; rfl
  | 2, h => cases h; rfl
  | 3, h => cases h; rfl
  | k + 4, h => simp at h
theorem mm_end1 {i : Instr} {st : List mm_V} (h : mm_end 175 i st = some [.inl 1]) : i = .ireturn ∧ st = [.inl 1] := by
  unfold mm_end at h
  rw [rt_175] at h
  split at h
  · rename_i q; cases q
  · rename_i x q
    by_cases hx : x = 0 ∨ x = 1
    · rw [if_pos hx] at h
      injection h with h
      injection h with h
      injection h with h
      rw [h]
      exact ⟨rfl, rfl⟩
    · rw [if_neg hx] at h
      cases h
  · rename_i q; cases q
  · rename_i q; cases q
  · rename_i q; cases q
  · cases h
theorem mm_done : mm_goal 2048 := by
  intro X hX
  have k_N : ((fm_N : Nat) : Int) = 4294967296 := rfl
  have l_0 : (0 : Int32).toInt = 0 := rfl
  obtain ⟨p, hp, h1⟩ := jL hX fm_N 0 fm_0 (by decide) (by decide) (by omega) (show lI (25000 * (0 : Int32).toInt) fm_0 from fm_mI0)
  have hK := jK175 (X := X) (u := fm_0) (r := p) hp
  obtain ⟨pcE, LE, stE, ME, iE, lenE, ⟨n, hr⟩, k2, k3, k4⟩ := hK mm_L0 mm_M0 fm_ag0 (fm_chk_ok fm_M0)
  rw [h1] at k3
  obtain ⟨rfl, rfl⟩ := mm_end1 k3
  obtain ⟨n2, hn2⟩ := mm_head ⟨n, hr⟩
  have hsh := mm_sh_same (mm_run_pre _ _ _ _ _ _ _ hr) (by rw [mm_f5.1]; exact k4.1.symm)
  exact ⟨n2, pcE, lenE, LE, ME, hn2, k2, by rw [k4.1]; decide, by rw [hsh]; exact mm_f5.2⟩
