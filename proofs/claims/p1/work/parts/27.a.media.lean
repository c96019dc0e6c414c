/-! media on fresh objects, port and formats in range: the loop over the formats -/
def pm_X (g : Int) : Nat × (Nat → ax_I) := mm_bx (g, g) (1, 65535) (1, 255)
def pm_P : ax_V := .inl (1, 65535, 2)
def pm_F : ax_V := .inl (1, 255, 3)
def pm_arr (lo hi : Int) : ax_C := .inr (0, 30, .inl ax_top, [(1, .inl (lo, hi, 0))])
/-- the memory within the loop: the agent's own media at mo, its row at ra -/
def pm_B (mo ra : Nat) : ax_M := ax_put ax_M0 mo (.inl (3, [.inr (.inl (some ra)), .inl (1, 1, 0)]))
def pm_J (mo ra : Nat) (lo hi : Int) : ax_M := ax_put (pm_B mo ra) ra (pm_arr lo hi)
def pm_L (mo : Nat) (f : Int) : ax_L := [(3, .inl (f, f, 0)), (0, .inr (.inl (some mo))), (1, pm_P), (2, pm_F)]
def pm_S (mo ra : Nat) (pc : Nat) (f s : Int) : ax_S := (pc, pm_L mo f, [], pm_J mo ra s s)
def pm_chk (g : Int) (mo ra f s : Nat) : Bool := ax_segs (pm_X g) 35 500 37 (pm_S mo ra 12 f s) (fun A => ax_subW ra (pm_arr s s) A (pm_S mo ra 35 (f + 1) s) || ax_subW ra (pm_arr (s + 1) (s + 1)) A (pm_S mo ra 35 (f + 1) (s + 1)))
def pm_back (g : Int) (mo ra f s : Nat) : Bool := ax_segs (pm_X g) 12 500 37 (pm_S mo ra 35 f s) (fun A => ax_subS A (pm_S mo ra 12 f s))
def pm_E (mo ra : Nat) : ax_S := (39, pm_L mo 8, [.inl (1, 1, 0)], pm_J mo ra 0 8)
def pm_end (g : Int) (mo ra s : Nat) : Bool := ax_segs (pm_X g) 39 500 37 (pm_S mo ra 12 8 s) (fun A => ax_subW ra (pm_arr 0 8) A (pm_E mo ra))
def pm_go (g : Int) (mo ra : Nat) : Bool := ax_segs (pm_X g) 12 500 37 (0, ax_lfrom 0 [.inr (.inl (some mo)), pm_P, pm_F], [], ax_M0) (fun A => ax_subW ra (pm_arr 0 0) A (pm_S mo ra 12 0 0))
def pm_L86 (g : Int) (me : Nat) : ax_L := [(4, .inr (.inl (some me))), (0, .inr (.inl (some 0))), (1, .inl (g, g, 1)), (2, pm_P), (3, pm_F)]
def pm_A44 (g : Int) (me mo : Nat) : ax_S := (44, pm_L86 g me, [pm_F, pm_P, .inr (.inl (some mo))], ax_M0)
def pm_86a (g : Int) (me mo : Nat) : Bool := ax_segs (pm_X g) 44 500 86 (0, ax_lfrom 0 [.inr (.inl (some 0)), .inl (g, g, 1), pm_P, pm_F], [], ax_M0) (fun A => ax_subS A (pm_A44 g me mo))
def pm_A62 (g : Int) (me mo ra : Nat) : ax_S := (62, pm_L86 g me, [.inl (1, 1, 0)], pm_J mo ra 0 8)
def pm_86b (g : Int) (me mo ra : Nat) : Bool := ax_runs (pm_X g) 500 86 (47, pm_L86 g me, [.inl (1, 1, 0)], pm_J mo ra 0 8) (fun A => ax_subS A (pm_A62 g me mo ra))
def pm_A124 (g : Int) : ax_S := (124, ax_L0, [pm_F, pm_P, .inl (g, g, 1), .inr (.inl (some 0))], ax_M0)
def pm_175a (g : Int) : Bool := ax_segs (pm_X g) 124 500 175 (108, ax_L0, [], ax_M0) (fun A => ax_subS A (pm_A124 g))
def pm_175b (g : Int) (mo ra : Nat) : Bool := ax_runs (pm_X g) 5000 175 (127, ax_L0, [.inl (1, 1, 0)], pm_J mo ra 0 8) (fun A => ax_fin 256 [A])
def pm_call1 (g : Int) (me mo : Nat) : Bool := ax_calls (pm_A44 g me mo) 86 (.invokevirtual 112) 37 [.inr (.inl (some mo)), pm_P, pm_F] []
def pm_call2 (g : Int) : Bool := ax_calls (pm_A124 g) 175 (.invokevirtual 192) 86 [.inr (.inl (some 0)), .inl (g, g, 1), pm_P, pm_F] []
/-- all that a program must try -/
def pm_all (g : Int) (me mo ra : Nat) : Prop := (∀ f, f < 8 → ∀ s, s < f + 1 → pm_chk g mo ra f s = true) ∧ (∀ f, f < 9 → ∀ s, s < f + 1 → pm_back g mo ra f s = true) ∧ (∀ s, s < 9 → pm_end g mo ra s = true) ∧ pm_go g mo ra = true ∧ pm_86a g me mo = true ∧ pm_86b g me mo ra = true ∧ pm_175a g = true ∧ pm_175b g mo ra = true ∧ pm_call1 g me mo = true ∧ pm_call2 g = true
theorem pm_k1 : ∀ f, f < 8 → ∀ s, s < f + 1 → pm_chk 0 184 185 f s = true := by decide +kernel
theorem pm_r1 : ∀ f, f < 9 → ∀ s, s < f + 1 → pm_back 0 184 185 f s = true := by decide +kernel
theorem pm_e1 : ∀ s, s < 9 → pm_end 0 184 185 s = true := by decide +kernel
theorem pm_all0 : pm_all 0 183 184 185 := ⟨pm_k1, pm_r1, pm_e1, by decide +kernel, by decide +kernel, by decide +kernel, by decide +kernel, by decide +kernel, by decide +kernel, by decide +kernel⟩
