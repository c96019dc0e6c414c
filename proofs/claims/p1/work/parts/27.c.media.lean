section PM
variable {X : Nat × (Nat → Int32)} {g : Int} {me mo ra : Nat}
theorem pm_loop {ρ : Nat → Int32} (hall : pm_all g me mo ra) (gX : ax_gx ρ (pm_X g) X) : ∀ (k f s : Nat) (S : mm_S), f + k = 8 → s < f + 1 → ax_gS ρ (pm_S mo ra 12 f s) S → ∃ S1, mm_to X 37 S.1 S.2.1 S.2.2.1 S.2.2.2 S1 ∧ ax_gS ρ (pm_E mo ra) S1 := by
  intro k
  induction k with
  | zero =>
    intro f s S hf hs hg
    have h8 : f = 8 := by omega
    subst h8
    obtain ⟨E, hE, S1, g1, -, h1⟩ := ax_segs_ok gX hg (hall.2.2.1 s hs)
    have g2 := ax_subW_ok hE g1
    refine ⟨S1, h1 S1 ⟨1, ?_⟩, g2⟩
    obtain ⟨p1, L1, st1, M1⟩ := S1
    have e1 : p1 = 39 := g2.1
    subst e1
    show mm_run X 1 37 39 L1 st1 M1 = _
    rw [mm_run, show mm_fetch 37 39 = some (.ireturn, 1) by decide +kernel]
    rfl
  | succ k ih =>
    intro f s S hf hs hg
    obtain ⟨E, hE, S1, g1, -, h1⟩ := ax_segs_ok gX hg (hall.1 f (by omega) s hs)
    rw [Bool.or_eq_true] at hE
    rcases hE with hE | hE
    · have g2 := ax_subW_ok hE g1
      obtain ⟨E2, hE2, S2, g3, -, h2⟩ := ax_segs_ok (A := pm_S mo ra 35 (f + 1 : Nat) s) gX (by exact_mod_cast g2) (hall.2.1 (f + 1) (by omega) s (by omega))
      have g4 := ax_subS_ok hE2 g3
      obtain ⟨S3, h3, g5⟩ := ih (f + 1) s S2 (by omega) (by omega) g4
      exact ⟨S3, h1 _ (h2 _ h3), g5⟩
    · have g2 := ax_subW_ok hE g1
      obtain ⟨E2, hE2, S2, g3, -, h2⟩ := ax_segs_ok (A := pm_S mo ra 35 (f + 1 : Nat) (s + 1 : Nat)) gX (by exact_mod_cast g2) (hall.2.1 (f + 1) (by omega) (s + 1) (by omega))
      have g4 := ax_subS_ok hE2 g3
      obtain ⟨S3, h3, g5⟩ := ih (f + 1) (s + 1) S2 (by omega) (by omega) g4
      exact ⟨S3, h1 _ (h2 _ h3), g5⟩
theorem pm_86 {ρ : Nat → Int32} {As : List mm_V} {M : mm_M} (hall : pm_all g me mo ra) (gX : ax_gx ρ (pm_X g) X) (gA : ax_gl ρ [.inr (.inl (some 0)), .inl (g, g, 1), pm_P, pm_F] As) (gM : ax_gm ρ ax_M0 M) : ∃ S1, mm_to X 86 0 (mm_locals As) [] M S1 ∧ ax_gS ρ (pm_A62 g me mo ra) S1 := by
  obtain ⟨hk, hb, he, hgo, h86a, h86b, h175a, h175b, hc1, hc2⟩ := id hall
  obtain ⟨E, hE, S1, g1, -, h1⟩ := ax_segs_ok (A := (0, ax_lfrom 0 [.inr (.inl (some 0)), .inl (g, g, 1), pm_P, pm_F], [], ax_M0)) (S := (0, mm_locals As, [], M)) gX ⟨rfl, ax_gL_from 0 gA, trivial, gM⟩ h86a
  have g2 := ax_subS_ok hE g1
  obtain ⟨As2, rest2, hcall, gAs, grest⟩ := ax_calls_ok g2 hc1
  have gM1 : ax_gm ρ ax_M0 S1.2.2.2 := g2.2.2.2
  obtain ⟨E3, hE3, S3, g3, -, h3⟩ := ax_segs_ok (A := (0, ax_lfrom 0 [.inr (.inl (some mo)), pm_P, pm_F], [], ax_M0)) (S := (0, mm_locals As2, [], S1.2.2.2)) gX ⟨rfl, ax_gL_from 0 gAs, trivial, gM1⟩ hgo
  have g4 := ax_subW_ok hE3 g3
  obtain ⟨S4, h4, g5⟩ := pm_loop hall gX 8 0 0 S3 (by omega) (by omega) g4
  have hr := h3 _ h4
  obtain ⟨p4, L4, st4, M4⟩ := S4
  have e4 : p4 = 39 := g5.1
  subst e4
  obtain ⟨x, st5, e5, gx, gn⟩ := ax_gl_i g5.2.2.1
  have e6 : st5 = [] := ax_gl_n gn
  have ex : x = 1 := Int32.toInt_inj.mp (by
    have a1 := gx.1
    have a2 := gx.2.1
    dsimp only at a1 a2
    rw [show (1 : Int32).toInt = 1 by decide]
    omega)
  dsimp only at e5
  subst e6
  subst ex
  subst e5
  have grest0 : rest2 = [] := ax_gl_n grest
  subst grest0
  obtain ⟨p1, L1, st1, M1⟩ := S1
  have e1 : p1 = 44 := g2.1
  subst e1
  obtain ⟨E7, hE7, S7, g7, h7⟩ := ax_runs_ok (A := (47, pm_L86 g me, [.inl (1, 1, 0)], pm_J mo ra 0 8)) (S := (47, L1, [.inl 1], M4)) gX ⟨rfl, g2.2.1, ⟨⟨by decide, by decide, Or.inl rfl⟩, trivial⟩, g5.2.2.2⟩ h86b
  refine ⟨S7, h1 _ ?_, ax_subS_ok hE7 g7⟩
  have f44 : mm_fetch 86 44 = some (.invokevirtual 112, 3) := by decide +kernel
  exact mm_tc (i := .invokevirtual 112) (len := 3) (iE := .ireturn) (lenE := 1) (vs := [.inl 1]) f44 rfl hcall hr (by decide +kernel) (by unfold mm_end; rw [show mm_rt 37 = some .boolean by decide +kernel]; rfl) h7
theorem pm_law0 {M : mm_M} (gM : ax_gm X.2 ax_M0 M) (hM : mm_sh M = mm_sh mm_M0) (hall : pm_all g me mo ra) (h4 : X.1 = 4) (h1 : g ≤ (X.2 1).toInt ∧ (X.2 1).toInt ≤ g) (h2 : (1 : Int) ≤ (X.2 2).toInt ∧ (X.2 2).toInt ≤ 65535) (h3 : (1 : Int) ≤ (X.2 3).toInt ∧ (X.2 3).toInt ≤ 255) : ∃ S, mm_to X 175 108 mm_L0 [] M S ∧ mm_fin S := by
  have gX : ax_gx X.2 (pm_X g) X := mm_bx_g h4 h1 h2 h3
  obtain ⟨hk, hb, he, hgo, h86a, h86b, h175a, h175b, hc1, hc2⟩ := id hall
  obtain ⟨E, hE, S1, g1, hp1, k1⟩ := ax_segs_ok (A := (108, ax_L0, [], ax_M0)) (S := (108, mm_L0, [], M)) gX ⟨rfl, ax_L0_g, trivial, gM⟩ h175a
  have g2 := ax_subS_ok hE g1
  obtain ⟨As2, rest2, hcall, gAs, grest⟩ := ax_calls_ok g2 hc2
  obtain ⟨S4, hr, g5⟩ := pm_86 hall gX gAs g2.2.2.2
  have grest0 : rest2 = [] := ax_gl_n grest
  subst grest0
  obtain ⟨p4, L4, st4, M4⟩ := S4
  have e4 : p4 = 62 := g5.1
  subst e4
  obtain ⟨x, st5, e5, gx, gn⟩ := ax_gl_i g5.2.2.1
  have e6 : st5 = [] := ax_gl_n gn
  have ex : x = 1 := Int32.toInt_inj.mp (by
    have a1 := gx.1
    have a2 := gx.2.1
    dsimp only at a1 a2
    rw [show (1 : Int32).toInt = 1 by decide]
    omega)
  dsimp only at e5
  subst e6
  subst ex
  subst e5
  obtain ⟨p1, L1, st1, M1⟩ := S1
  have e1 : p1 = 124 := g2.1
  subst e1
  obtain ⟨E7, hE7, S7, g7, k7⟩ := ax_runs_ok (A := (127, ax_L0, [.inl (1, 1, 0)], pm_J mo ra 0 8)) (S := (127, L1, [.inl 1], M4)) gX ⟨rfl, g2.2.1, ⟨⟨by decide, by decide, Or.inl rfl⟩, trivial⟩, g5.2.2.2⟩ h175b
  have hto : mm_to X 175 108 mm_L0 [] M S7 := k1 _ (mm_tc (i := .invokevirtual 192) (len := 3) (iE := .ireturn) (lenE := 1) (vs := [.inl 1]) (show mm_fetch 175 124 = some (.invokevirtual 192, 3) by decide +kernel) rfl hcall hr (by decide +kernel) (by unfold mm_end; rw [show mm_rt 86 = some .int by decide +kernel]) k7)
  refine ⟨S7, hto, ?_⟩
  obtain ⟨n, hn⟩ := hto
  have hpre := mm_run_pre _ _ _ _ _ _ _ hn
  have h9 := List.all_eq_true.mp hE7 E7 List.mem_cons_self
  simp only [Bool.and_eq_true, decide_eq_true_eq] at h9
  obtain ⟨pcF, LF, stF, MF⟩ := S7
  obtain ⟨q1, q2, q3, q4⟩ := g7
  dsimp only at q1 q2 q3 q4 hpre
  have hlen : MF.length = 256 := by rw [q4.1, h9.2]
  have hl0 : M.length = 256 := by
    have e := congrArg List.length hM
    rw [List.length_map, List.length_map, mm_f5.1] at e
    exact e
  have hsh := mm_sh_same hpre (by rw [hl0, hlen])
  refine ⟨1, LF, MF, pcF, ?_, by rw [q1]; exact h9.1.2, by omega, by rw [hsh, hM]; exact mm_f5.2⟩
  rw [h9.1.1] at q3
  obtain ⟨x2, st6, rfl, w1, w2⟩ := ax_gl_i q3
  rw [ax_gl_n w2]
  have h5 : x2 = 1 := Int32.toInt_inj.mp (by
    have a1 := w1.1
    have a2 := w1.2.1
    dsimp only at a1 a2
    rw [show (1 : Int32).toInt = 1 by decide]
    omega)
  rw [h5]
theorem pm_law (hall : pm_all g me mo ra) (h4 : X.1 = 4) (h1 : g ≤ (X.2 1).toInt ∧ (X.2 1).toInt ≤ g) (h2 : (1 : Int) ≤ (X.2 2).toInt ∧ (X.2 2).toInt ≤ 65535) (h3 : (1 : Int) ≤ (X.2 3).toInt ∧ (X.2 3).toInt ≤ 255) : ∃ S, mm_to X 175 108 mm_L0 [] mm_M0 S ∧ mm_fin S := pm_law0 mm_M0_g rfl hall h4 h1 h2 h3
end PM
