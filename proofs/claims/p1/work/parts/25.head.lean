/-! the law, from its entry to its loop, and from the loop's head to a call -/
theorem mm_go_190 : mm_go 175 190 1 [.inr (.inl (some 0)), .inr (.inl (some 0))] = some (85, [.inr (.inl (some 0))], [.inr (.inl (some 0))]) := by
  unfold mm_go
  rw [if_pos (by decide +kernel), show (mm_mr 190).2.2.1 = 85 by decide +kernel, show mm_na 85 = 1 by decide +kernel]
  rfl
theorem mm_go_191 : mm_go 175 191 1 [.inr (.inl (some 223)), .inr (.inl (some 223))] = some (104, [.inr (.inl (some 223))], [.inr (.inl (some 223))]) := by
  unfold mm_go
  rw [if_pos (by decide +kernel), show (mm_mr 191).2.2.1 = 104 by decide +kernel, show mm_na 104 = 1 by decide +kernel]
  rfl
section LH
variable {X : Nat × (Nat → Int32)} {S : mm_S}
theorem mm_RC_e : ∃ LE, mm_RC = some (119, LE, [], mm_MC) := by
  have h := mm_f1
  unfold mm_MC
  cases hq : mm_RC with
  | none => rw [hq] at h; cases h
  | some q =>
    obtain ⟨a, b, c, d⟩ := q
    rw [hq] at h
    cases h
    exact ⟨b, rfl⟩
theorem mm_RM_e : ∃ LE, mm_RM = some (261, LE, [], mm_M0) := by
  have h := mm_f3
  unfold mm_M0
  cases hq : mm_RM with
  | none => rw [hq] at h; cases h
  | some q =>
    obtain ⟨a, b, c, d⟩ := q
    rw [hq] at h
    cases h
    exact ⟨b, rfl⟩
theorem mm_s_new {y pc r ci : Nat} {L : mm_L} {st : List mm_V} {M : mm_M} (hr : (mm_crf r).2.2.1 = ci) (h11 : ci < 11) (hl : M.length < 1000000) : mm_step X y (.new r) pc L st M = some (pc + 3, L, .inr (.inl (some M.length)) :: st, M ++ [mm_def ci]) := by
  dsimp only [mm_step]
  rw [hr, if_pos h11]
  unfold mm_new
  rw [if_pos hl]
  rfl
theorem mm_c_init {y r z a : Nat} {st : List mm_V} {M : mm_M} (h : mm_go y r 1 (.inr (.inl (some a)) :: st) = some (z, [.inr (.inl (some a))], st)) : mm_call M y (.invokespecial r) (.inr (.inl (some a)) :: st) = some (z, [.inr (.inl (some a))], st) := by
  dsimp only [mm_call]
  rw [h]
abbrev mm_L0 : mm_L := [(3, .inl 0), (2, .inr (.inl (some 223))), (1, .inr (.inl (some 0))), (0, .inr (.inl (some mm_scr)))]
theorem mm_head (k : mm_to X 175 18 mm_L0 [] mm_M0 S) : mm_to X 175 0 [(0, .inr (.inl (some mm_scr)))] [] [] S := by
  obtain ⟨LC, hRC⟩ := mm_RC_e
  obtain ⟨LM, hRM⟩ := mm_RM_e
  refine mm_t (i := .new 12) (len := 3) (by decide +kernel) rfl rfl (mm_s_new (ci := 9) (by decide +kernel) (by decide) (by decide)) ?_
  refine mm_t (i := .dup) (len := 1) (by decide +kernel) rfl rfl rfl ?_
  refine mm_tc (i := .invokespecial 190) (len := 3) (z := 85) (As := [.inr (.inl (some 0))]) (rest := [.inr (.inl (some 0))]) (iE := .return_) (lenE := 1) (vs := []) (by decide +kernel) rfl (mm_c_init mm_go_190) ⟨20000, mm_runZ_ok _ _ _ _ _ _ _ hRC⟩ (by decide +kernel) (by decide +kernel) ?_
  refine mm_t (i := .astore_n 1) (len := 1) (pc1 := 8) (L1 := [(1, .inr (.inl (some 0))), (0, .inr (.inl (some mm_scr)))]) (st1 := []) (M1 := mm_MC) (by decide +kernel) rfl rfl rfl ?_
  refine mm_t (i := .new 13) (len := 3) (by decide +kernel) rfl rfl (mm_s_new (ci := 10) (by decide +kernel) (by decide) (by rw [mm_f2]; decide)) ?_
  rw [mm_f2]
  refine mm_t (i := .dup) (len := 1) (by decide +kernel) rfl rfl rfl ?_
  refine mm_tc (i := .invokespecial 191) (len := 3) (z := 104) (As := [.inr (.inl (some 223))]) (rest := [.inr (.inl (some 223))]) (iE := .return_) (lenE := 1) (vs := []) (by decide +kernel) rfl (mm_c_init mm_go_191) ⟨20000, mm_runZ_ok _ _ _ _ _ _ _ hRM⟩ (by decide +kernel) (by decide +kernel) ?_
  refine mm_t (i := .astore_n 2) (len := 1) (pc1 := 16) (L1 := [(2, .inr (.inl (some 223))), (1, .inr (.inl (some 0))), (0, .inr (.inl (some mm_scr)))]) (st1 := []) (M1 := mm_M0) (by decide +kernel) rfl rfl rfl ?_
  refine mm_t (i := .iconst 0) (len := 1) (pc1 := 17) (by decide +kernel) rfl rfl rfl ?_
  refine mm_t (i := .istore_n 3) (len := 1) (pc1 := 18) (L1 := mm_L0) (st1 := []) (M1 := mm_M0) (by decide +kernel) rfl rfl rfl ?_
  exact k
def mm_tg (j : Nat) : Nat := ([108, 151, 174, 197, 220, 243, 266, 289, 312, 325, 358, 381, 404, 427, 460] : List Nat).getD j 503
theorem mm_sw : ∀ j, j < 16 → ∀ (L : mm_L) (M : mm_M), mm_step X 175 (.tableswitch 471 0 14 #[76, 119, 142, 165, 188, 211, 234, 257, 280, 293, 326, 349, 372, 395, 428]) 32 L [.inl (nI j)] M = some (mm_tg j, L, [], M) := by
  intro j hj L M
  match j, hj with
  | 0, _ => rfl
  | 1, _ => rfl
  | 2, _ => rfl
  | 3, _ => rfl
  | 4, _ => rfl
  | 5, _ => rfl
  | 6, _ => rfl
  | 7, _ => rfl
  | 8, _ => rfl
  | 9, _ => rfl
  | 10, _ => rfl
  | 11, _ => rfl
  | 12, _ => rfl
  | 13, _ => rfl
  | 14, _ => rfl
  | 15, _ => rfl
  | n + 16, h => exact absurd h (by omega)
theorem mm_disp {M : mm_M} {j : Nat} (h4 : X.1 = 4) (hj : j < 16) (hx : X.2 0 &&& 15 = nI j) (k : mm_to X 175 (mm_tg j) mm_L0 [] M S) : mm_to X 175 18 mm_L0 [] M S := by
  refine mm_t (i := .iload_n 3) (len := 1) (pc1 := 19) (by decide +kernel) rfl rfl rfl ?_
  refine mm_t (i := .aload_n 0) (len := 1) (pc1 := 20) (by decide +kernel) rfl rfl rfl ?_
  refine mm_t (i := .arraylength) (len := 1) (pc1 := 21) (L1 := mm_L0) (st1 := [.inl 4, .inl 0]) (M1 := M) (by decide +kernel) rfl rfl (by dsimp only [mm_step]; rw [if_pos rfl, h4]; rfl) ?_
  refine mm_t (i := .iconst 4) (len := 1) (pc1 := 22) (by decide +kernel) rfl rfl rfl ?_
  refine mm_t (i := .isub) (len := 1) (pc1 := 23) (L1 := mm_L0) (st1 := [.inl 0, .inl 0]) (M1 := M) (by decide +kernel) rfl rfl (by dsimp only [mm_step]; rw [show (4 : Int32) - Int32.ofInt 4 = 0 by decide]) ?_
  refine mm_t (i := .if_icmp .gt 486) (len := 3) (pc1 := 26) (L1 := mm_L0) (st1 := []) (M1 := M) (by decide +kernel) rfl rfl (by dsimp only [mm_step, mm_br]; rw [show mm_tgt 23 486 = some 509 by decide]; dsimp only; rw [if_neg (by decide)]) ?_
  refine mm_t (i := .aload_n 0) (len := 1) (pc1 := 27) (by decide +kernel) rfl rfl rfl ?_
  refine mm_t (i := .iload_n 3) (len := 1) (pc1 := 28) (by decide +kernel) rfl rfl rfl ?_
  refine mm_t (i := .iaload) (len := 1) (pc1 := 29) (L1 := mm_L0) (st1 := [.inl (X.2 0)]) (M1 := M) (by decide +kernel) rfl rfl (by dsimp only [mm_step]; rw [if_pos rfl, h4, if_pos (by decide)]; rfl) ?_
  refine mm_t (i := .bipush 15) (len := 2) (pc1 := 31) (by decide +kernel) rfl rfl rfl ?_
  refine mm_t (i := .iand) (len := 1) (pc1 := 32) (L1 := mm_L0) (st1 := [.inl (nI j)]) (M1 := M) (by decide +kernel) rfl rfl (by dsimp only [mm_step]; rw [show (Int8.ofInt 15).toInt32 = 15 by decide, hx]) ?_
  exact mm_t (i := .tableswitch 471 0 14 #[76, 119, 142, 165, 188, 211, 234, 257, 280, 293, 326, 349, 372, 395, 428]) (len := 76) (by decide +kernel) rfl rfl (mm_sw j hj mm_L0 M) k
end LH
/-- the end that is wanted -/
def mm_fin (S : mm_S) : Prop := ∃ len LF MF pcF, S = (pcF, LF, [.inl 1], MF) ∧ mm_fetch 175 pcF = some (.ireturn, len) ∧ MF.length ≤ 600000 ∧ (mm_sh MF).sum ≤ 7302250
def ax_fin (n : Nat) (rs : List ax_S) : Bool := rs.all (fun A => decide (A.2.2.1 = [.inl (1, 1, 0)]) && decide (mm_fetch 175 A.1 = some (.ireturn, 1)) && decide (ax_len A.2.2.2 = n))
abbrev ax_L0 : ax_L := [(3, .inl (0, 0, 0)), (2, .inr (.inl (some 223))), (1, .inr (.inl (some 0))), (0, .inr (.inl (some mm_scr)))]
def ax_good (XA : Nat × (Nat → ax_I)) (pc : Nat) (A : ax_M) : Bool := match ax_run XA 5000 175 pc ax_L0 [] A with
  | some rs => ax_fin (ax_len A) rs
  | none => false
theorem ax_L0_g {ρ : Nat → Int32} : ax_gL ρ ax_L0 mm_L0 := ⟨⟨rfl, by decide, by decide, Or.inl rfl⟩, ⟨rfl, rfl⟩, ⟨rfl, rfl⟩, ⟨rfl, rfl⟩, trivial⟩
theorem ax_good_ok {ρ : Nat → Int32} {XA : Nat × (Nat → ax_I)} {X : Nat × (Nat → Int32)} {pc : Nat} {A : ax_M} {M : mm_M} (h : ax_good XA pc A = true) (gX : ax_gx ρ XA X) (gM : ax_gm ρ A M) (hM : mm_sh M = mm_sh mm_M0) : ∃ S, mm_to X 175 pc mm_L0 [] M S ∧ mm_fin S := by
  unfold ax_good at h
  cases hr : ax_run XA 5000 175 pc ax_L0 [] A with
  | none => rw [hr] at h; cases h
  | some rs =>
    rw [hr] at h
    obtain ⟨E, hE, ⟨pcF, LF, stF, MF⟩, h1, g1, g2, g3, g4⟩ := ax_run_ok gX 5000 175 pc ax_L0 [] A mm_L0 [] M rs ax_L0_g (show ax_gl ρ [] [] from trivial) gM hr
    have h2 := List.all_eq_true.mp h E hE
    simp only [Bool.and_eq_true, decide_eq_true_eq] at h2
    dsimp only at g1 g2 g3 g4
    have hlen : M.length = MF.length := by rw [gM.1, g4.1, h2.2]
    have hsh := mm_sh_same (mm_run_pre _ _ _ _ _ _ _ h1) hlen
    dsimp only at hsh
    have hl0 : M.length = 256 := by
      have e := congrArg List.length hM
      rw [List.length_map, List.length_map, mm_f5.1] at e
      exact e
    refine ⟨_, ⟨5000, h1⟩, 1, LF, MF, pcF, ?_, by rw [g1]; exact h2.1.2, by omega, by rw [hsh, hM]; exact mm_f5.2⟩
    rw [h2.1.1] at g3
    obtain ⟨x, st2, rfl, h3, h4⟩ := ax_gl_i g3
    rw [ax_gl_n h4]
    have h5 : x = 1 := Int32.toInt_inj.mp (by
      have a1 := h3.1
      have a2 := h3.2.1
      dsimp only at a1 a2
      rw [show (1 : Int32).toInt = 1 by decide]
      omega)
    rw [h5]
def mm_bx (b1 b2 b3 : Int × Int) : Nat × (Nat → ax_I) := (4, fun k => match k with
  | 1 => (b1.1, b1.2, 1)
  | 2 => (b2.1, b2.2, 2)
  | 3 => (b3.1, b3.2, 3)
  | _ => ax_top)
theorem mm_bx_g {X : Nat × (Nat → Int32)} {b1 b2 b3 : Int × Int} (h4 : X.1 = 4) (h1 : b1.1 ≤ (X.2 1).toInt ∧ (X.2 1).toInt ≤ b1.2) (h2 : b2.1 ≤ (X.2 2).toInt ∧ (X.2 2).toInt ≤ b2.2) (h3 : b3.1 ≤ (X.2 3).toInt ∧ (X.2 3).toInt ≤ b3.2) : ax_gx X.2 (mm_bx b1 b2 b3) X := by
  refine ⟨h4, fun j hj => ?_⟩
  match j, hj with
  | 0, _ => exact ax_top_g _
  | 1, _ => exact ⟨h1.1, h1.2, Or.inr rfl⟩
  | 2, _ => exact ⟨h2.1, h2.2, Or.inr rfl⟩
  | 3, _ => exact ⟨h3.1, h3.2, Or.inr rfl⟩
theorem mm_M0_g {ρ : Nat → Int32} : ax_gm ρ ax_M0 mm_M0 := ax_chkm_ok mm_f4
/-- a call of a kind, at boxes that a program has tried -/
theorem mm_box {X : Nat × (Nat → Int32)} {b1 b2 b3 : Int × Int} {pc : Nat} (h : ax_good (mm_bx b1 b2 b3) pc ax_M0 = true) (h4 : X.1 = 4) (h1 : b1.1 ≤ (X.2 1).toInt ∧ (X.2 1).toInt ≤ b1.2) (h2 : b2.1 ≤ (X.2 2).toInt ∧ (X.2 2).toInt ≤ b2.2) (h3 : b3.1 ≤ (X.2 3).toInt ∧ (X.2 3).toInt ≤ b3.2) : ∃ S, mm_to X 175 pc mm_L0 [] mm_M0 S ∧ mm_fin S := ax_good_ok h (mm_bx_g h4 h1 h2 h3) mm_M0_g rfl
