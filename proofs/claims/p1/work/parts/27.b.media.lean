theorem pm_k2 : ∀ f, f < 8 → ∀ s, s < f + 1 → pm_chk 1 199 200 f s = true := by decide +kernel
theorem pm_r2 : ∀ f, f < 9 → ∀ s, s < f + 1 → pm_back 1 199 200 f s = true := by decide +kernel
theorem pm_e2 : ∀ s, s < 9 → pm_end 1 199 200 s = true := by decide +kernel
theorem pm_all1 : pm_all 1 198 199 200 := ⟨pm_k2, pm_r2, pm_e2, by decide +kernel, by decide +kernel, by decide +kernel, by decide +kernel, by decide +kernel, by decide +kernel, by decide +kernel⟩
