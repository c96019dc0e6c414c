/-! each instruction of the boxes' machine -/
section AXS
variable {ρ : Nat → Int32} {XA : Nat × (Nat → ax_I)} {X : Nat × (Nat → Int32)} {y pc pc1 : Nat} {L L1 : ax_L} {st st1 : List ax_V} {M M1 : ax_M} {L' : mm_L} {st' : List mm_V} {M' : mm_M}
/-- what a step gives -/
def ax_ok (ρ : Nat → Int32) (X : Nat × (Nat → Int32)) (y : Nat) (i : Instr) (pc : Nat) (L' : mm_L) (st' : List mm_V) (M' : mm_M) (pc1 : Nat) (L1 : ax_L) (st1 : List ax_V) (M1 : ax_M) : Prop := ∃ (L2 : mm_L) (st2 : List mm_V) (M2 : mm_M), mm_step X y i pc L' st' M' = some (pc1, L2, st2, M2) ∧ ax_gL ρ L1 L2 ∧ ax_gl ρ st1 st2 ∧ ax_gm ρ M1 M2
theorem ax_x_aload_n (k : Fin 4) (gX : ax_gx ρ XA X) (gL : ax_gL ρ L L') (gs : ax_gl ρ st st') (gM : ax_gm ρ M M') (h : ax_step XA y (.aload_n k) pc L st M = some (pc1, L1, st1, M1)) : ax_ok ρ X y (.aload_n k) pc L' st' M' pc1 L1 st1 M1 := by
  dsimp only [ax_step] at h
  split at h <;> cases h
  rename_i r hk
  obtain ⟨w, h1, h2⟩ := ax_gL_lk gL hk
  rcases w with x | q | x
  · exact absurd h2 (fun z => z)
  · have h3 : q = r := h2
    subst h3
    exact ⟨L', .inr (.inl q) :: st', M', by dsimp only [mm_step]; rw [h1], gL, ⟨rfl, gs⟩, gM⟩
  · exact absurd h2 (fun z => z)
theorem ax_x_aload (k : Nat) (gX : ax_gx ρ XA X) (gL : ax_gL ρ L L') (gs : ax_gl ρ st st') (gM : ax_gm ρ M M') (h : ax_step XA y (.aload k) pc L st M = some (pc1, L1, st1, M1)) : ax_ok ρ X y (.aload k) pc L' st' M' pc1 L1 st1 M1 := by
  dsimp only [ax_step] at h
  split at h <;> cases h
  rename_i r hk
  obtain ⟨w, h1, h2⟩ := ax_gL_lk gL hk
  rcases w with x | q | x
  · exact absurd h2 (fun z => z)
  · have h3 : q = r := h2
    subst h3
    exact ⟨L', .inr (.inl q) :: st', M', by dsimp only [mm_step]; rw [h1], gL, ⟨rfl, gs⟩, gM⟩
  · exact absurd h2 (fun z => z)
theorem ax_x_iload_n (k : Fin 4) (gX : ax_gx ρ XA X) (gL : ax_gL ρ L L') (gs : ax_gl ρ st st') (gM : ax_gm ρ M M') (h : ax_step XA y (.iload_n k) pc L st M = some (pc1, L1, st1, M1)) : ax_ok ρ X y (.iload_n k) pc L' st' M' pc1 L1 st1 M1 := by
  dsimp only [ax_step] at h
  split at h <;> cases h
  rename_i v hk
  obtain ⟨w, h1, h2⟩ := ax_gL_lk gL hk
  rcases w with x | q | x
  · exact ⟨L', .inl x :: st', M', by dsimp only [mm_step]; rw [h1], gL, ⟨h2, gs⟩, gM⟩
  · exact absurd h2 (fun z => z)
  · exact absurd h2 (fun z => z)
theorem ax_x_iload (k : Nat) (gX : ax_gx ρ XA X) (gL : ax_gL ρ L L') (gs : ax_gl ρ st st') (gM : ax_gm ρ M M') (h : ax_step XA y (.iload k) pc L st M = some (pc1, L1, st1, M1)) : ax_ok ρ X y (.iload k) pc L' st' M' pc1 L1 st1 M1 := by
  dsimp only [ax_step] at h
  split at h <;> cases h
  rename_i v hk
  obtain ⟨w, h1, h2⟩ := ax_gL_lk gL hk
  rcases w with x | q | x
  · exact ⟨L', .inl x :: st', M', by dsimp only [mm_step]; rw [h1], gL, ⟨h2, gs⟩, gM⟩
  · exact absurd h2 (fun z => z)
  · exact absurd h2 (fun z => z)
theorem ax_x_lload_n (k : Fin 4) (gX : ax_gx ρ XA X) (gL : ax_gL ρ L L') (gs : ax_gl ρ st st') (gM : ax_gm ρ M M') (h : ax_step XA y (.lload_n k) pc L st M = some (pc1, L1, st1, M1)) : ax_ok ρ X y (.lload_n k) pc L' st' M' pc1 L1 st1 M1 := by
  dsimp only [ax_step] at h
  split at h <;> cases h
  rename_i v hk
  obtain ⟨w, h1, h2⟩ := ax_gL_lk gL hk
  rcases w with x | q | x
  · exact absurd h2 (fun z => z)
  · exact absurd h2 (fun z => z)
  · exact ⟨L', .inr (.inr x) :: st', M', by dsimp only [mm_step]; rw [h1], gL, ⟨h2, gs⟩, gM⟩
theorem ax_x_lload (k : Nat) (gX : ax_gx ρ XA X) (gL : ax_gL ρ L L') (gs : ax_gl ρ st st') (gM : ax_gm ρ M M') (h : ax_step XA y (.lload k) pc L st M = some (pc1, L1, st1, M1)) : ax_ok ρ X y (.lload k) pc L' st' M' pc1 L1 st1 M1 := by
  dsimp only [ax_step] at h
  split at h <;> cases h
  rename_i v hk
  obtain ⟨w, h1, h2⟩ := ax_gL_lk gL hk
  rcases w with x | q | x
  · exact absurd h2 (fun z => z)
  · exact absurd h2 (fun z => z)
  · exact ⟨L', .inr (.inr x) :: st', M', by dsimp only [mm_step]; rw [h1], gL, ⟨h2, gs⟩, gM⟩
theorem ax_x_istore_n (k : Fin 4) (gX : ax_gx ρ XA X) (gL : ax_gL ρ L L') (gs : ax_gl ρ st st') (gM : ax_gm ρ M M') (h : ax_step XA y (.istore_n k) pc L st M = some (pc1, L1, st1, M1)) : ax_ok ρ X y (.istore_n k) pc L' st' M' pc1 L1 st1 M1 := by
  dsimp only [ax_step] at h
  rcases st with _ | ⟨(v | r | v), st⟩ <;> dsimp only at h <;> first | (cases h; done) | skip
  split at h <;> cases h
  rename_i hm
  obtain ⟨x, st2, rfl, h1, gs1⟩ := ax_gl_i gs
  exact ⟨_, st2, M', by dsimp only [mm_step]; rw [if_pos hm], ax_gL_st1 (v := .inl v) (w := .inl x) gL h1, gs1, gM⟩
theorem ax_x_istore (k : Nat) (gX : ax_gx ρ XA X) (gL : ax_gL ρ L L') (gs : ax_gl ρ st st') (gM : ax_gm ρ M M') (h : ax_step XA y (.istore k) pc L st M = some (pc1, L1, st1, M1)) : ax_ok ρ X y (.istore k) pc L' st' M' pc1 L1 st1 M1 := by
  dsimp only [ax_step] at h
  rcases st with _ | ⟨(v | r | v), st⟩ <;> dsimp only at h <;> first | (cases h; done) | skip
  split at h <;> cases h
  rename_i hm
  obtain ⟨x, st2, rfl, h1, gs1⟩ := ax_gl_i gs
  exact ⟨_, st2, M', by dsimp only [mm_step]; rw [if_pos hm], ax_gL_st1 (v := .inl v) (w := .inl x) gL h1, gs1, gM⟩
theorem ax_x_lstore_n (k : Fin 4) (gX : ax_gx ρ XA X) (gL : ax_gL ρ L L') (gs : ax_gl ρ st st') (gM : ax_gm ρ M M') (h : ax_step XA y (.lstore_n k) pc L st M = some (pc1, L1, st1, M1)) : ax_ok ρ X y (.lstore_n k) pc L' st' M' pc1 L1 st1 M1 := by
  dsimp only [ax_step] at h
  rcases st with _ | ⟨(v | r | v), st⟩ <;> dsimp only at h <;> first | (cases h; done) | skip
  split at h <;> cases h
  rename_i hm
  obtain ⟨x, st2, rfl, h1, gs1⟩ := ax_gl_l gs
  exact ⟨_, st2, M', by dsimp only [mm_step]; rw [if_pos hm], ax_gL_st2 (v := .inr (.inr v)) (w := .inr (.inr x)) gL h1, gs1, gM⟩
theorem ax_x_lstore (k : Nat) (gX : ax_gx ρ XA X) (gL : ax_gL ρ L L') (gs : ax_gl ρ st st') (gM : ax_gm ρ M M') (h : ax_step XA y (.lstore k) pc L st M = some (pc1, L1, st1, M1)) : ax_ok ρ X y (.lstore k) pc L' st' M' pc1 L1 st1 M1 := by
  dsimp only [ax_step] at h
  rcases st with _ | ⟨(v | r | v), st⟩ <;> dsimp only at h <;> first | (cases h; done) | skip
  split at h <;> cases h
  rename_i hm
  obtain ⟨x, st2, rfl, h1, gs1⟩ := ax_gl_l gs
  exact ⟨_, st2, M', by dsimp only [mm_step]; rw [if_pos hm], ax_gL_st2 (v := .inr (.inr v)) (w := .inr (.inr x)) gL h1, gs1, gM⟩
theorem ax_x_astore_n (k : Fin 4) (gX : ax_gx ρ XA X) (gL : ax_gL ρ L L') (gs : ax_gl ρ st st') (gM : ax_gm ρ M M') (h : ax_step XA y (.astore_n k) pc L st M = some (pc1, L1, st1, M1)) : ax_ok ρ X y (.astore_n k) pc L' st' M' pc1 L1 st1 M1 := by
  dsimp only [ax_step] at h
  rcases st with _ | ⟨(v | r | v), st⟩ <;> dsimp only at h <;> first | (cases h; done) | skip
  split at h <;> cases h
  rename_i hm
  obtain ⟨st2, rfl, gs1⟩ := ax_gl_r gs
  exact ⟨_, st2, M', by dsimp only [mm_step]; rw [if_pos hm], ax_gL_st1 (v := .inr (.inl r)) (w := .inr (.inl r)) gL rfl, gs1, gM⟩
theorem ax_x_astore (k : Nat) (gX : ax_gx ρ XA X) (gL : ax_gL ρ L L') (gs : ax_gl ρ st st') (gM : ax_gm ρ M M') (h : ax_step XA y (.astore k) pc L st M = some (pc1, L1, st1, M1)) : ax_ok ρ X y (.astore k) pc L' st' M' pc1 L1 st1 M1 := by
  dsimp only [ax_step] at h
  rcases st with _ | ⟨(v | r | v), st⟩ <;> dsimp only at h <;> first | (cases h; done) | skip
  split at h <;> cases h
  rename_i hm
  obtain ⟨st2, rfl, gs1⟩ := ax_gl_r gs
  exact ⟨_, st2, M', by dsimp only [mm_step]; rw [if_pos hm], ax_gL_st1 (v := .inr (.inl r)) (w := .inr (.inl r)) gL rfl, gs1, gM⟩
theorem ax_x_iinc (k : Nat) (n : Int) (gX : ax_gx ρ XA X) (gL : ax_gL ρ L L') (gs : ax_gl ρ st st') (gM : ax_gm ρ M M') (h : ax_step XA y (.iinc k n) pc L st M = some (pc1, L1, st1, M1)) : ax_ok ρ X y (.iinc k n) pc L' st' M' pc1 L1 st1 M1 := by
  dsimp only [ax_step] at h
  split at h
  · rename_i v hk
    split at h <;> cases h
    rename_i hm
    obtain ⟨w, h1, h2⟩ := ax_gL_lk gL hk
    rcases w with x | q | x
    · exact ⟨_, st', M', by dsimp only [mm_step]; rw [h1]; dsimp only; rw [if_pos hm], ax_gL_st1 (w := .inl (x + Int32.ofInt n)) gL (ax_bin_g (f := (· + ·)) h2 (ax_sg_g _)), gs, gM⟩
    · exact absurd h2 (fun z => z)
    · exact absurd h2 (fun z => z)
  · cases h
theorem ax_x_iconst (n : Int) (gX : ax_gx ρ XA X) (gL : ax_gL ρ L L') (gs : ax_gl ρ st st') (gM : ax_gm ρ M M') (h : ax_step XA y (.iconst n) pc L st M = some (pc1, L1, st1, M1)) : ax_ok ρ X y (.iconst n) pc L' st' M' pc1 L1 st1 M1 := by
  dsimp only [ax_step] at h
  cases h
  exact ⟨L', _, M', rfl, gL, ⟨ax_sg_g _, gs⟩, gM⟩
theorem ax_x_bipush (n : Int) (gX : ax_gx ρ XA X) (gL : ax_gL ρ L L') (gs : ax_gl ρ st st') (gM : ax_gm ρ M M') (h : ax_step XA y (.bipush n) pc L st M = some (pc1, L1, st1, M1)) : ax_ok ρ X y (.bipush n) pc L' st' M' pc1 L1 st1 M1 := by
  dsimp only [ax_step] at h
  cases h
  exact ⟨L', _, M', rfl, gL, ⟨ax_sg_g _, gs⟩, gM⟩
theorem ax_x_sipush (n : Int) (gX : ax_gx ρ XA X) (gL : ax_gL ρ L L') (gs : ax_gl ρ st st') (gM : ax_gm ρ M M') (h : ax_step XA y (.sipush n) pc L st M = some (pc1, L1, st1, M1)) : ax_ok ρ X y (.sipush n) pc L' st' M' pc1 L1 st1 M1 := by
  dsimp only [ax_step] at h
  cases h
  exact ⟨L', _, M', rfl, gL, ⟨ax_sg_g _, gs⟩, gM⟩
theorem ax_x_aconst_null (gX : ax_gx ρ XA X) (gL : ax_gL ρ L L') (gs : ax_gl ρ st st') (gM : ax_gm ρ M M') (h : ax_step XA y (.aconst_null) pc L st M = some (pc1, L1, st1, M1)) : ax_ok ρ X y (.aconst_null) pc L' st' M' pc1 L1 st1 M1 := by
  dsimp only [ax_step] at h
  cases h
  exact ⟨L', _, M', rfl, gL, ⟨rfl, gs⟩, gM⟩
theorem ax_x_ldc (r : Nat) (gX : ax_gx ρ XA X) (gL : ax_gL ρ L L') (gs : ax_gl ρ st st') (gM : ax_gm ρ M M') (h : ax_step XA y (.ldc r) pc L st M = some (pc1, L1, st1, M1)) : ax_ok ρ X y (.ldc r) pc L' st' M' pc1 L1 st1 M1 := by
  dsimp only [ax_step] at h
  split at h
  · rename_i x hx
    cases h
    exact ⟨L', .inl x :: st', M', by dsimp only [mm_step]; rw [hx], gL, ⟨ax_sg_g _, gs⟩, gM⟩
  · rename_i j hx
    split at h <;> cases h
    rename_i hj
    exact ⟨L', .inr (.inl (some (mm_txt j))) :: st', M', by dsimp only [mm_step]; rw [hx]; dsimp only; rw [if_pos hj], gL, ⟨rfl, gs⟩, gM⟩
theorem ax_x_ldc_w (r : Nat) (gX : ax_gx ρ XA X) (gL : ax_gL ρ L L') (gs : ax_gl ρ st st') (gM : ax_gm ρ M M') (h : ax_step XA y (.ldc_w r) pc L st M = some (pc1, L1, st1, M1)) : ax_ok ρ X y (.ldc_w r) pc L' st' M' pc1 L1 st1 M1 := by
  dsimp only [ax_step] at h
  split at h
  · rename_i x hx
    cases h
    exact ⟨L', .inl x :: st', M', by dsimp only [mm_step]; rw [hx], gL, ⟨ax_sg_g _, gs⟩, gM⟩
  · cases h
theorem ax_x_ldc2_w (r : Nat) (gX : ax_gx ρ XA X) (gL : ax_gL ρ L L') (gs : ax_gl ρ st st') (gM : ax_gm ρ M M') (h : ax_step XA y (.ldc2_w r) pc L st M = some (pc1, L1, st1, M1)) : ax_ok ρ X y (.ldc2_w r) pc L' st' M' pc1 L1 st1 M1 := by
  dsimp only [ax_step] at h
  cases h
  exact ⟨L', _, M', rfl, gL, ⟨ax_sl_g _, gs⟩, gM⟩
theorem ax_x_iadd (gX : ax_gx ρ XA X) (gL : ax_gL ρ L L') (gs : ax_gl ρ st st') (gM : ax_gm ρ M M') (h : ax_step XA y (.iadd) pc L st M = some (pc1, L1, st1, M1)) : ax_ok ρ X y (.iadd) pc L' st' M' pc1 L1 st1 M1 := by
  dsimp only [ax_step] at h
  rcases st with _ | ⟨(v | r | v), _ | ⟨(w | r2 | w), st⟩⟩ <;> dsimp only at h <;> first | (cases h; done) | skip
  cases h
  obtain ⟨y1, st2, rfl, h1, gs1⟩ := ax_gl_i gs
  obtain ⟨x1, st3, rfl, h2, gs2⟩ := ax_gl_i gs1
  exact ⟨L', _, M', rfl, gL, ⟨ax_add_g h2 h1, gs2⟩, gM⟩
theorem ax_x_isub (gX : ax_gx ρ XA X) (gL : ax_gL ρ L L') (gs : ax_gl ρ st st') (gM : ax_gm ρ M M') (h : ax_step XA y (.isub) pc L st M = some (pc1, L1, st1, M1)) : ax_ok ρ X y (.isub) pc L' st' M' pc1 L1 st1 M1 := by
  dsimp only [ax_step] at h
  rcases st with _ | ⟨(v | r | v), _ | ⟨(w | r2 | w), st⟩⟩ <;> dsimp only at h <;> first | (cases h; done) | skip
  cases h
  obtain ⟨y1, st2, rfl, h1, gs1⟩ := ax_gl_i gs
  obtain ⟨x1, st3, rfl, h2, gs2⟩ := ax_gl_i gs1
  exact ⟨L', _, M', rfl, gL, ⟨ax_bin_g (f := (· - ·)) h2 h1, gs2⟩, gM⟩
theorem ax_x_imul (gX : ax_gx ρ XA X) (gL : ax_gL ρ L L') (gs : ax_gl ρ st st') (gM : ax_gm ρ M M') (h : ax_step XA y (.imul) pc L st M = some (pc1, L1, st1, M1)) : ax_ok ρ X y (.imul) pc L' st' M' pc1 L1 st1 M1 := by
  dsimp only [ax_step] at h
  rcases st with _ | ⟨(v | r | v), _ | ⟨(w | r2 | w), st⟩⟩ <;> dsimp only at h <;> first | (cases h; done) | skip
  cases h
  obtain ⟨y1, st2, rfl, h1, gs1⟩ := ax_gl_i gs
  obtain ⟨x1, st3, rfl, h2, gs2⟩ := ax_gl_i gs1
  exact ⟨L', _, M', rfl, gL, ⟨ax_bin_g (f := (· * ·)) h2 h1, gs2⟩, gM⟩
theorem ax_x_iand (gX : ax_gx ρ XA X) (gL : ax_gL ρ L L') (gs : ax_gl ρ st st') (gM : ax_gm ρ M M') (h : ax_step XA y (.iand) pc L st M = some (pc1, L1, st1, M1)) : ax_ok ρ X y (.iand) pc L' st' M' pc1 L1 st1 M1 := by
  dsimp only [ax_step] at h
  rcases st with _ | ⟨(v | r | v), _ | ⟨(w | r2 | w), st⟩⟩ <;> dsimp only at h <;> first | (cases h; done) | skip
  cases h
  obtain ⟨y1, st2, rfl, h1, gs1⟩ := ax_gl_i gs
  obtain ⟨x1, st3, rfl, h2, gs2⟩ := ax_gl_i gs1
  exact ⟨L', _, M', rfl, gL, ⟨ax_bin_g (f := (· &&& ·)) h2 h1, gs2⟩, gM⟩
theorem ax_x_ior (gX : ax_gx ρ XA X) (gL : ax_gL ρ L L') (gs : ax_gl ρ st st') (gM : ax_gm ρ M M') (h : ax_step XA y (.ior) pc L st M = some (pc1, L1, st1, M1)) : ax_ok ρ X y (.ior) pc L' st' M' pc1 L1 st1 M1 := by
  dsimp only [ax_step] at h
  rcases st with _ | ⟨(v | r | v), _ | ⟨(w | r2 | w), st⟩⟩ <;> dsimp only at h <;> first | (cases h; done) | skip
  cases h
  obtain ⟨y1, st2, rfl, h1, gs1⟩ := ax_gl_i gs
  obtain ⟨x1, st3, rfl, h2, gs2⟩ := ax_gl_i gs1
  exact ⟨L', _, M', rfl, gL, ⟨ax_bin_g (f := (· ||| ·)) h2 h1, gs2⟩, gM⟩
theorem ax_x_ishl (gX : ax_gx ρ XA X) (gL : ax_gL ρ L L') (gs : ax_gl ρ st st') (gM : ax_gm ρ M M') (h : ax_step XA y (.ishl) pc L st M = some (pc1, L1, st1, M1)) : ax_ok ρ X y (.ishl) pc L' st' M' pc1 L1 st1 M1 := by
  dsimp only [ax_step] at h
  rcases st with _ | ⟨(v | r | v), _ | ⟨(w | r2 | w), st⟩⟩ <;> dsimp only at h <;> first | (cases h; done) | skip
  cases h
  obtain ⟨y1, st2, rfl, h1, gs1⟩ := ax_gl_i gs
  obtain ⟨x1, st3, rfl, h2, gs2⟩ := ax_gl_i gs1
  exact ⟨L', _, M', rfl, gL, ⟨ax_bin_g (f := fun x y => x <<< (y &&& 31)) h2 h1, gs2⟩, gM⟩
theorem ax_x_ishr (gX : ax_gx ρ XA X) (gL : ax_gL ρ L L') (gs : ax_gl ρ st st') (gM : ax_gm ρ M M') (h : ax_step XA y (.ishr) pc L st M = some (pc1, L1, st1, M1)) : ax_ok ρ X y (.ishr) pc L' st' M' pc1 L1 st1 M1 := by
  dsimp only [ax_step] at h
  rcases st with _ | ⟨(v | r | v), _ | ⟨(w | r2 | w), st⟩⟩ <;> dsimp only at h <;> first | (cases h; done) | skip
  cases h
  obtain ⟨y1, st2, rfl, h1, gs1⟩ := ax_gl_i gs
  obtain ⟨x1, st3, rfl, h2, gs2⟩ := ax_gl_i gs1
  exact ⟨L', _, M', rfl, gL, ⟨ax_bin_g (f := fun x y => x >>> (y &&& 31)) h2 h1, gs2⟩, gM⟩
theorem ax_x_ladd (gX : ax_gx ρ XA X) (gL : ax_gL ρ L L') (gs : ax_gl ρ st st') (gM : ax_gm ρ M M') (h : ax_step XA y (.ladd) pc L st M = some (pc1, L1, st1, M1)) : ax_ok ρ X y (.ladd) pc L' st' M' pc1 L1 st1 M1 := by
  dsimp only [ax_step] at h
  rcases st with _ | ⟨(v | r | v), _ | ⟨(w | r2 | w), st⟩⟩ <;> dsimp only at h <;> first | (cases h; done) | skip
  split at h <;> cases h
  rename_i h0
  obtain ⟨y1, st2, rfl, h1, gs1⟩ := ax_gl_l gs
  obtain ⟨x1, st3, rfl, h2, gs2⟩ := ax_gl_l gs1
  have hz : x1 = 0 := by
    have q1 := h2.1
    have q2 := h2.2.1
    have q3 : x1.toInt = (0 : Int64).toInt := by rw [Int64.toInt_zero]; omega
    exact Int64.toInt_inj.mp q3
  exact ⟨L', _, M', rfl, gL, ⟨by show ax_gj ρ v (x1 + y1); rw [hz, Int64.zero_add]; exact h1, gs2⟩, gM⟩
theorem ax_x_lcmp (gX : ax_gx ρ XA X) (gL : ax_gL ρ L L') (gs : ax_gl ρ st st') (gM : ax_gm ρ M M') (h : ax_step XA y (.lcmp) pc L st M = some (pc1, L1, st1, M1)) : ax_ok ρ X y (.lcmp) pc L' st' M' pc1 L1 st1 M1 := by
  dsimp only [ax_step] at h
  rcases st with _ | ⟨(v | r | v), _ | ⟨(w | r2 | w), st⟩⟩ <;> dsimp only at h <;> first | (cases h; done) | skip
  split at h <;> cases h
  rename_i x2 y2 hx2 hy2
  obtain ⟨y1, st2, rfl, h1, gs1⟩ := ax_gl_l gs
  obtain ⟨x1, st3, rfl, h2, gs2⟩ := ax_gl_l gs1
  exact ⟨L', _, M', rfl, gL, ⟨by rw [← ax_valL_e h2 hx2, ← ax_valL_e h1 hy2]; exact ax_sg_g _, gs2⟩, gM⟩
theorem ax_x_i2l (gX : ax_gx ρ XA X) (gL : ax_gL ρ L L') (gs : ax_gl ρ st st') (gM : ax_gm ρ M M') (h : ax_step XA y (.i2l) pc L st M = some (pc1, L1, st1, M1)) : ax_ok ρ X y (.i2l) pc L' st' M' pc1 L1 st1 M1 := by
  dsimp only [ax_step] at h
  rcases st with _ | ⟨(v | r | v), st⟩ <;> dsimp only at h <;> first | (cases h; done) | skip
  cases h
  obtain ⟨x1, st2, rfl, h1, gs1⟩ := ax_gl_i gs
  exact ⟨L', _, M', rfl, gL, ⟨⟨by rw [Int32.toInt_toInt64]; exact h1.1, by rw [Int32.toInt_toInt64]; exact h1.2.1, by rcases h1.2.2 with q | q; exact Or.inl q; exact Or.inr (by rw [← q])⟩, gs1⟩, gM⟩
theorem ax_x_l2i (gX : ax_gx ρ XA X) (gL : ax_gL ρ L L') (gs : ax_gl ρ st st') (gM : ax_gm ρ M M') (h : ax_step XA y (.l2i) pc L st M = some (pc1, L1, st1, M1)) : ax_ok ρ X y (.l2i) pc L' st' M' pc1 L1 st1 M1 := by
  dsimp only [ax_step] at h
  rcases st with _ | ⟨(v | r | v), st⟩ <;> dsimp only at h <;> first | (cases h; done) | skip
  split at h <;> cases h
  rename_i hr
  obtain ⟨x1, st2, rfl, h1, gs1⟩ := ax_gl_l gs
  have e1 : x1.toInt32.toInt = x1.toInt := by
    rw [Int64.toInt_toInt32]
    have q1 := h1.1
    have q2 := h1.2.1
    rw [Int.bmod_eq_of_le (by omega) (by omega)]
  refine ⟨L', _, M', rfl, gL, ⟨⟨by rw [e1]; exact h1.1, by rw [e1]; exact h1.2.1, ?_⟩, gs1⟩, gM⟩
  rcases h1.2.2 with q | q
  · exact Or.inl q
  · refine Or.inr ?_
    rw [q]
    exact Int32.toInt32_toInt64 _
theorem ax_x_i2c (gX : ax_gx ρ XA X) (gL : ax_gL ρ L L') (gs : ax_gl ρ st st') (gM : ax_gm ρ M M') (h : ax_step XA y (.i2c) pc L st M = some (pc1, L1, st1, M1)) : ax_ok ρ X y (.i2c) pc L' st' M' pc1 L1 st1 M1 := by
  dsimp only [ax_step] at h
  rcases st with _ | ⟨(v | r | v), st⟩ <;> dsimp only at h <;> first | (cases h; done) | skip
  split at h <;> cases h
  rename_i hr
  obtain ⟨x1, st2, rfl, h1, gs1⟩ := ax_gl_i gs
  have e1 : (x1.toUInt32 % 65536).toInt32 = x1 := ax_c16 (by have := h1.1; omega) (by have := h1.2.1; omega)
  exact ⟨L', _, M', rfl, gL, ⟨by show ax_gi ρ v (x1.toUInt32 % 65536).toInt32; rw [e1]; exact h1, gs1⟩, gM⟩
theorem ax_x_dup (gX : ax_gx ρ XA X) (gL : ax_gL ρ L L') (gs : ax_gl ρ st st') (gM : ax_gm ρ M M') (h : ax_step XA y (.dup) pc L st M = some (pc1, L1, st1, M1)) : ax_ok ρ X y (.dup) pc L' st' M' pc1 L1 st1 M1 := by
  dsimp only [ax_step] at h
  rcases st with _ | ⟨v, st⟩ <;> dsimp only at h
  · cases h
  split at h <;> cases h
  rename_i hc
  obtain ⟨w, st2, rfl, h1, gs1⟩ := ax_gl_c gs
  exact ⟨L', w :: w :: st2, M', by dsimp only [mm_step]; rw [if_pos ((ax_g_cat h1).trans hc)], gL, ⟨h1, h1, gs1⟩, gM⟩
theorem ax_x_pop (gX : ax_gx ρ XA X) (gL : ax_gL ρ L L') (gs : ax_gl ρ st st') (gM : ax_gm ρ M M') (h : ax_step XA y (.pop) pc L st M = some (pc1, L1, st1, M1)) : ax_ok ρ X y (.pop) pc L' st' M' pc1 L1 st1 M1 := by
  dsimp only [ax_step] at h
  rcases st with _ | ⟨v, st⟩ <;> dsimp only at h
  · cases h
  split at h <;> cases h
  rename_i hc
  obtain ⟨w, st2, rfl, h1, gs1⟩ := ax_gl_c gs
  exact ⟨L', _, M', by dsimp only [mm_step]; rw [if_pos ((ax_g_cat h1).trans hc)], gL, gs1, gM⟩
theorem ax_x_dup2 (gX : ax_gx ρ XA X) (gL : ax_gL ρ L L') (gs : ax_gl ρ st st') (gM : ax_gm ρ M M') (h : ax_step XA y (.dup2) pc L st M = some (pc1, L1, st1, M1)) : ax_ok ρ X y (.dup2) pc L' st' M' pc1 L1 st1 M1 := by
  dsimp only [ax_step] at h
  rcases st with _ | ⟨v, _ | ⟨v2, st⟩⟩ <;> dsimp only at h
  · cases h
  · cases h
  split at h <;> cases h
  rename_i hc
  obtain ⟨w, st2, rfl, h1, gs1⟩ := ax_gl_c gs
  obtain ⟨w2, st3, rfl, h2, gs2⟩ := ax_gl_c gs1
  exact ⟨L', w :: w2 :: w :: w2 :: st3, M', by dsimp only [mm_step]; rw [if_pos ⟨(ax_g_cat h1).trans hc.1, (ax_g_cat h2).trans hc.2⟩], gL, ⟨h1, h2, h1, h2, gs2⟩, gM⟩
theorem ax_br_e {bo : Option Bool} {off : Int} (h : ax_br bo pc off L st M = some (pc1, L1, st1, M1)) : ∃ bb, bo = some bb ∧ L = L1 ∧ st = st1 ∧ M = M1 ∧ ∀ (L9 : mm_L) (s9 : List mm_V) (M9 : mm_M), mm_br bb pc off L9 s9 M9 = some (pc1, L9, s9, M9) := by
  unfold ax_br at h
  split at h
  · cases h
  · rename_i bb
    split at h
    · cases h
    · rename_i t ht
      cases h
      refine ⟨bb, rfl, rfl, rfl, rfl, fun L9 s9 M9 => ?_⟩
      unfold mm_br
      rw [ht]
theorem ax_x_goto (off : Int) (gX : ax_gx ρ XA X) (gL : ax_gL ρ L L') (gs : ax_gl ρ st st') (gM : ax_gm ρ M M') (h : ax_step XA y (.goto off) pc L st M = some (pc1, L1, st1, M1)) : ax_ok ρ X y (.goto off) pc L' st' M' pc1 L1 st1 M1 := by
  dsimp only [ax_step] at h
  obtain ⟨bb, hb, rfl, rfl, rfl, hh⟩ := ax_br_e h
  cases hb
  exact ⟨L', st', M', hh _ _ _, gL, gs, gM⟩
theorem ax_x_ifCond (c : Jvm.ClassFile.Cond) (off : Int) (gX : ax_gx ρ XA X) (gL : ax_gL ρ L L') (gs : ax_gl ρ st st') (gM : ax_gm ρ M M') (h : ax_step XA y (.ifCond c off) pc L st M = some (pc1, L1, st1, M1)) : ax_ok ρ X y (.ifCond c off) pc L' st' M' pc1 L1 st1 M1 := by
  dsimp only [ax_step] at h
  rcases st with _ | ⟨(v | r | v), st⟩ <;> dsimp only at h <;> first | (cases h; done) | skip
  obtain ⟨bb, hb, rfl, rfl, rfl, hh⟩ := ax_br_e h
  obtain ⟨x1, st2, rfl, h1, gs1⟩ := ax_gl_i gs
  exact ⟨L', st2, M', by dsimp only [mm_step]; rw [ax_cmp_g h1 (ax_sg_g 0) hb]; exact hh _ _ _, gL, gs1, gM⟩
theorem ax_x_if_icmp (c : Jvm.ClassFile.Cond) (off : Int) (gX : ax_gx ρ XA X) (gL : ax_gL ρ L L') (gs : ax_gl ρ st st') (gM : ax_gm ρ M M') (h : ax_step XA y (.if_icmp c off) pc L st M = some (pc1, L1, st1, M1)) : ax_ok ρ X y (.if_icmp c off) pc L' st' M' pc1 L1 st1 M1 := by
  dsimp only [ax_step] at h
  rcases st with _ | ⟨(v | r | v), _ | ⟨(w | r2 | w), st⟩⟩ <;> dsimp only at h <;> first | (cases h; done) | skip
  obtain ⟨bb, hb, rfl, rfl, rfl, hh⟩ := ax_br_e h
  obtain ⟨y1, st2, rfl, h1, gs1⟩ := ax_gl_i gs
  obtain ⟨x1, st3, rfl, h2, gs2⟩ := ax_gl_i gs1
  exact ⟨L', st3, M', by dsimp only [mm_step]; rw [ax_cmp_g h2 h1 hb]; exact hh _ _ _, gL, gs2, gM⟩
theorem ax_x_ifnull (off : Int) (gX : ax_gx ρ XA X) (gL : ax_gL ρ L L') (gs : ax_gl ρ st st') (gM : ax_gm ρ M M') (h : ax_step XA y (.ifnull off) pc L st M = some (pc1, L1, st1, M1)) : ax_ok ρ X y (.ifnull off) pc L' st' M' pc1 L1 st1 M1 := by
  dsimp only [ax_step] at h
  rcases st with _ | ⟨(v | r | v), st⟩ <;> dsimp only at h <;> first | (cases h; done) | skip
  obtain ⟨bb, hb, rfl, rfl, rfl, hh⟩ := ax_br_e h
  cases hb
  obtain ⟨st2, rfl, gs1⟩ := ax_gl_r gs
  exact ⟨L', st2, M', hh _ _ _, gL, gs1, gM⟩
theorem ax_x_ifnonnull (off : Int) (gX : ax_gx ρ XA X) (gL : ax_gL ρ L L') (gs : ax_gl ρ st st') (gM : ax_gm ρ M M') (h : ax_step XA y (.ifnonnull off) pc L st M = some (pc1, L1, st1, M1)) : ax_ok ρ X y (.ifnonnull off) pc L' st' M' pc1 L1 st1 M1 := by
  dsimp only [ax_step] at h
  rcases st with _ | ⟨(v | r | v), st⟩ <;> dsimp only at h <;> first | (cases h; done) | skip
  obtain ⟨bb, hb, rfl, rfl, rfl, hh⟩ := ax_br_e h
  cases hb
  obtain ⟨st2, rfl, gs1⟩ := ax_gl_r gs
  exact ⟨L', st2, M', hh _ _ _, gL, gs1, gM⟩
theorem ax_x_tableswitch (d lo hi : Int) (os : Array Int) (gX : ax_gx ρ XA X) (gL : ax_gL ρ L L') (gs : ax_gl ρ st st') (gM : ax_gm ρ M M') (h : ax_step XA y (.tableswitch d lo hi os) pc L st M = some (pc1, L1, st1, M1)) : ax_ok ρ X y (.tableswitch d lo hi os) pc L' st' M' pc1 L1 st1 M1 := by
  dsimp only [ax_step] at h
  rcases st with _ | ⟨(v | r | v), st⟩ <;> dsimp only at h <;> first | (cases h; done) | skip
  obtain ⟨x1, st2, rfl, h1, gs1⟩ := ax_gl_i gs
  have q1 := h1.1
  have q2 := h1.2.1
  split at h
  · rename_i hx
    split at h <;> cases h
    rename_i t ht
    refine ⟨L', st2, M', ?_, gL, gs1, gM⟩
    dsimp only [mm_step]
    rw [if_pos (by omega), ht]
  · split at h
    · rename_i hx
      have e1 : x1.toInt = v.1 := by omega
      split at h
      · cases h
      · rename_i off ho
        split at h <;> cases h
        rename_i t ht
        refine ⟨L', st2, M', ?_, gL, gs1, gM⟩
        dsimp only [mm_step]
        rw [if_neg (by omega), e1, ho]
        dsimp only
        rw [ht]
    · cases h
theorem ax_x_getfield (r : Nat) (gX : ax_gx ρ XA X) (gL : ax_gL ρ L L') (gs : ax_gl ρ st st') (gM : ax_gm ρ M M') (h : ax_step XA y (.getfield r) pc L st M = some (pc1, L1, st1, M1)) : ax_ok ρ X y (.getfield r) pc L' st' M' pc1 L1 st1 M1 := by
  dsimp only [ax_step] at h
  rcases st with _ | ⟨(v | (_ | a) | v), st⟩ <;> dsimp only at h <;> first | (cases h; done) | skip
  obtain ⟨st2, rfl, gs1⟩ := ax_gl_r gs
  split at h
  · rename_i ci fs hob
    split at h
    · rename_i hc
      split at h <;> cases h
      rename_i v hv
      obtain ⟨fs2, h1, h2⟩ := ax_gm_ob gM hob
      obtain ⟨w, h3, h4⟩ := ax_gl_at h2 hv
      refine ⟨L', w :: st2, M', ?_, gL, ⟨h4, gs1⟩, gM⟩
      dsimp only [mm_step]
      rw [h1]
      dsimp only
      rw [if_pos hc, h3]
    · cases h
  · cases h
theorem ax_x_putfield (r : Nat) (gX : ax_gx ρ XA X) (gL : ax_gL ρ L L') (gs : ax_gl ρ st st') (gM : ax_gm ρ M M') (h : ax_step XA y (.putfield r) pc L st M = some (pc1, L1, st1, M1)) : ax_ok ρ X y (.putfield r) pc L' st' M' pc1 L1 st1 M1 := by
  dsimp only [ax_step] at h
  rcases st with _ | ⟨v, _ | ⟨(x | (_ | a) | x), st⟩⟩ <;> dsimp only at h <;> first | (cases h; done) | skip
  obtain ⟨w, st2, rfl, hv, gs1⟩ := ax_gl_c gs
  obtain ⟨st3, rfl, gs2⟩ := ax_gl_r gs1
  split at h
  · rename_i ci fs hob
    split at h <;> cases h
    rename_i hc
    obtain ⟨fs2, h1, h2⟩ := ax_gm_ob gM hob
    refine ⟨L', st3, M'.set a (.inl (ci, fs2.set (mm_fld r).2.2.2.1 w)), ?_, gL, gs2, ax_gm_set gM ⟨rfl, ax_gl_set h2 hv⟩⟩
    dsimp only [mm_step]
    rw [h1]
    dsimp only
    rw [if_pos ⟨hc.1, hc.2.1, by rw [ax_gl_len h2]; exact hc.2.2.1, ax_okv_g hc.2.2.2.1 hv, hc.2.2.2.2⟩]
  · cases h
theorem ax_x_arraylength (gX : ax_gx ρ XA X) (gL : ax_gL ρ L L') (gs : ax_gl ρ st st') (gM : ax_gm ρ M M') (h : ax_step XA y (.arraylength) pc L st M = some (pc1, L1, st1, M1)) : ax_ok ρ X y (.arraylength) pc L' st' M' pc1 L1 st1 M1 := by
  dsimp only [ax_step] at h
  rcases st with _ | ⟨(v | (_ | a) | v), st⟩ <;> dsimp only at h <;> first | (cases h; done) | skip
  obtain ⟨st2, rfl, gs1⟩ := ax_gl_r gs
  split at h
  · rename_i hsc
    cases h
    refine ⟨L', .inl (Int32.ofNat XA.1) :: st2, M', ?_, gL, ⟨ax_sg_g _, gs1⟩, gM⟩
    dsimp only [mm_step]
    rw [if_pos hsc, gX.1]
  · rename_i hsc
    split at h
    · rename_i t n dv har
      split at h <;> cases h
      rename_i ht
      obtain ⟨f, h1, h2⟩ := ax_gm_ar (d := dv.1) (ov := dv.2) gM har
      refine ⟨L', .inl (Int32.ofNat n) :: st2, M', ?_, gL, ⟨ax_sg_g _, gs1⟩, gM⟩
      dsimp only [mm_step]
      rw [if_neg hsc, h1]
      dsimp only
      rw [if_pos ht]
    · cases h
theorem ax_x_iaload (gX : ax_gx ρ XA X) (gL : ax_gL ρ L L') (gs : ax_gl ρ st st') (gM : ax_gm ρ M M') (h : ax_step XA y (.iaload) pc L st M = some (pc1, L1, st1, M1)) : ax_ok ρ X y (.iaload) pc L' st' M' pc1 L1 st1 M1 := by
  dsimp only [ax_step] at h
  rcases st with _ | ⟨(i1 | r1 | i1), _ | ⟨(x1 | (_ | a) | x1), st⟩⟩ <;> dsimp only at h <;> first | (cases h; done) | skip
  obtain ⟨ix, st2, rfl, hi, gs1⟩ := ax_gl_i gs
  obtain ⟨st3, rfl, gs2⟩ := ax_gl_r gs1
  split at h
  · rename_i hsc
    split at h <;> cases h
    rename_i j hj
    have h0 := ax_in_e hi hj
    refine ⟨L', .inl (X.2 j) :: st3, M', ?_, gL, ⟨gX.2 j h0.2.2, gs2⟩, gM⟩
    dsimp only [mm_step]
    rw [if_pos hsc, gX.1, if_pos h0.1, h0.2.1]
  · rename_i hsc
    split at h
    · rename_i t n d ov har
      split at h
      · rename_i ht
        subst ht
        split at h
        · rename_i j hj
          split at h <;> cases h
          rename_i v hrd
          have h0 := ax_in_e hi hj
          obtain ⟨f, h1, h2⟩ := ax_gm_ar gM har
          have h3 := h2 j h0.2.2
          rw [hrd] at h3
          rcases f with f | f | f
          · refine ⟨L', .inl (f j) :: st3, M', ?_, gL, ⟨h3, gs2⟩, gM⟩
            dsimp only [mm_step]
            rw [if_neg hsc]
            rw [h1]
            dsimp only
            rw [if_pos ⟨rfl, h0.1⟩, h0.2.1]
          · exact absurd h3 (fun z => z)
          · exact absurd h3 (fun z => z)
        · cases h
      · cases h
    · cases h
theorem ax_x_caload (gX : ax_gx ρ XA X) (gL : ax_gL ρ L L') (gs : ax_gl ρ st st') (gM : ax_gm ρ M M') (h : ax_step XA y (.caload) pc L st M = some (pc1, L1, st1, M1)) : ax_ok ρ X y (.caload) pc L' st' M' pc1 L1 st1 M1 := by
  dsimp only [ax_step] at h
  rcases st with _ | ⟨(i1 | r1 | i1), _ | ⟨(x1 | (_ | a) | x1), st⟩⟩ <;> dsimp only at h <;> first | (cases h; done) | skip
  obtain ⟨ix, st2, rfl, hi, gs1⟩ := ax_gl_i gs
  obtain ⟨st3, rfl, gs2⟩ := ax_gl_r gs1
  split at h
  · rename_i t n d ov har
    split at h
    · rename_i ht
      subst ht
      split at h
      · rename_i j hj
        split at h <;> cases h
        rename_i v hrd
        have h0 := ax_in_e hi hj
        obtain ⟨f, h1, h2⟩ := ax_gm_ar gM har
        have h3 := h2 j h0.2.2
        rw [hrd] at h3
        rcases f with f | f | f
        · refine ⟨L', .inl (f j) :: st3, M', ?_, gL, ⟨h3, gs2⟩, gM⟩
          dsimp only [mm_step]
          rw [h1]
          dsimp only
          rw [if_pos ⟨rfl, h0.1⟩, h0.2.1]
        · exact absurd h3 (fun z => z)
        · exact absurd h3 (fun z => z)
      · cases h
    · cases h
  · cases h
theorem ax_x_baload (gX : ax_gx ρ XA X) (gL : ax_gL ρ L L') (gs : ax_gl ρ st st') (gM : ax_gm ρ M M') (h : ax_step XA y (.baload) pc L st M = some (pc1, L1, st1, M1)) : ax_ok ρ X y (.baload) pc L' st' M' pc1 L1 st1 M1 := by
  dsimp only [ax_step] at h
  rcases st with _ | ⟨(i1 | r1 | i1), _ | ⟨(x1 | (_ | a) | x1), st⟩⟩ <;> dsimp only at h <;> first | (cases h; done) | skip
  obtain ⟨ix, st2, rfl, hi, gs1⟩ := ax_gl_i gs
  obtain ⟨st3, rfl, gs2⟩ := ax_gl_r gs1
  split at h
  · rename_i t n d ov har
    split at h
    · rename_i ht
      subst ht
      split at h
      · rename_i j hj
        split at h <;> cases h
        rename_i v hrd
        have h0 := ax_in_e hi hj
        obtain ⟨f, h1, h2⟩ := ax_gm_ar gM har
        have h3 := h2 j h0.2.2
        rw [hrd] at h3
        rcases f with f | f | f
        · refine ⟨L', .inl (f j) :: st3, M', ?_, gL, ⟨h3, gs2⟩, gM⟩
          dsimp only [mm_step]
          rw [h1]
          dsimp only
          rw [if_pos ⟨rfl, h0.1⟩, h0.2.1]
        · exact absurd h3 (fun z => z)
        · exact absurd h3 (fun z => z)
      · cases h
    · cases h
  · cases h
theorem ax_x_laload (gX : ax_gx ρ XA X) (gL : ax_gL ρ L L') (gs : ax_gl ρ st st') (gM : ax_gm ρ M M') (h : ax_step XA y (.laload) pc L st M = some (pc1, L1, st1, M1)) : ax_ok ρ X y (.laload) pc L' st' M' pc1 L1 st1 M1 := by
  dsimp only [ax_step] at h
  rcases st with _ | ⟨(i1 | r1 | i1), _ | ⟨(x1 | (_ | a) | x1), st⟩⟩ <;> dsimp only at h <;> first | (cases h; done) | skip
  obtain ⟨ix, st2, rfl, hi, gs1⟩ := ax_gl_i gs
  obtain ⟨st3, rfl, gs2⟩ := ax_gl_r gs1
  split at h
  · rename_i t n d ov har
    split at h
    · rename_i ht
      subst ht
      split at h
      · rename_i j hj
        split at h <;> cases h
        rename_i v hrd
        have h0 := ax_in_e hi hj
        obtain ⟨f, h1, h2⟩ := ax_gm_ar gM har
        have h3 := h2 j h0.2.2
        rw [hrd] at h3
        rcases f with f | f | f
        · exact absurd h3 (fun z => z)
        · refine ⟨L', .inr (.inr (f j)) :: st3, M', ?_, gL, ⟨h3, gs2⟩, gM⟩
          dsimp only [mm_step]
          rw [h1]
          dsimp only
          rw [if_pos ⟨rfl, h0.1⟩, h0.2.1]
        · exact absurd h3 (fun z => z)
      · cases h
    · cases h
  · cases h
theorem ax_gc_put {t n j : Nat} {d v : ax_V} {ov : List (Nat × ax_V)} {f g : (Nat → Int32) ⊕ ((Nat → Int64) ⊕ (Nat → Option Nat))} (h : ∀ k, k < n → ax_g ρ (ax_rd d ov k) (ax_rv f k)) (h1 : ax_g ρ v (ax_rv g j)) (h2 : ∀ k, ¬ k = j → ax_rv g k = ax_rv f k) : ax_gc ρ (.inr (t, n, d, (j, v) :: ov)) (.inr (t, n, g)) := by
  refine ⟨rfl, rfl, fun k hk => ?_⟩
  show ax_g ρ (ax_rd d ((j, v) :: ov) k) (ax_rv g k)
  rw [ax_rd_cons]
  split
  · rename_i e
    subst e
    exact h1
  · rename_i e
    rw [h2 k (fun z => e z.symm)]
    exact h k hk
theorem ax_narc {x : Int32} (h0 : 0 ≤ x.toInt) (h1 : x.toInt ≤ 65535) : vp_nar .char x = x := by
  rw [vp_nar_char]
  exact ax_c16b h0 h1
theorem ax_narz {x : Int32} (h0 : 0 ≤ x.toInt) (h1 : x.toInt ≤ 1) : vp_nar .boolean x = x := by
  have h2 : x.toInt = 0 ∨ x.toInt = 1 := by omega
  rcases h2 with h2 | h2
  · have : x = 0 := Int32.toInt_inj.mp (h2.trans (by decide))
    subst this
    decide
  · have : x = 1 := Int32.toInt_inj.mp (h2.trans (by decide))
    subst this
    decide
theorem ax_x_iastore (gX : ax_gx ρ XA X) (gL : ax_gL ρ L L') (gs : ax_gl ρ st st') (gM : ax_gm ρ M M') (h : ax_step XA y (.iastore) pc L st M = some (pc1, L1, st1, M1)) : ax_ok ρ X y (.iastore) pc L' st' M' pc1 L1 st1 M1 := by
  dsimp only [ax_step] at h
  rcases st with _ | ⟨(x1 | r0 | x1), _ | ⟨(i1 | r1 | i1), _ | ⟨(x2 | (_ | a) | x2), st⟩⟩⟩ <;> dsimp only at h <;> first | (cases h; done) | skip
  obtain ⟨xv, st2, rfl, hx, gs1⟩ := ax_gl_i gs
  obtain ⟨ix, st3, rfl, hi, gs2⟩ := ax_gl_i gs1
  obtain ⟨st4, rfl, gs3⟩ := ax_gl_r gs2
  split at h
  · rename_i t n d ov har
    split at h
    · rename_i ht
      subst ht
      split at h
      · rename_i j hj
        split at h
        · rename_i v0 hrd
          cases h
          have h0 := ax_in_e hi hj
          obtain ⟨f, h1, h2⟩ := ax_gm_ar gM har
          have h3 := h2 j h0.2.2
          rw [hrd] at h3
          rcases f with f | f | f
          · refine ⟨L', st4, M'.set a (.inr (0, n, .inl (upd f j xv))), ?_, gL, gs3, ax_gm_set gM (ax_gc_put (g := .inl (upd f j xv)) h2 ?_ ?_)⟩
            · dsimp only [mm_step]
              rw [h1]
              dsimp only
              rw [if_pos ⟨rfl, h0.1⟩, h0.2.1]
            · show ax_gi ρ x1 (upd f j xv j)
              rw [pk_us]
              exact hx
            · intro k hk
              show (.inl (upd f j xv k) : mm_V) = .inl (f k)
              rw [pk_un hk]
          · exact absurd h3 (fun z => z)
          · exact absurd h3 (fun z => z)
        · cases h
      · cases h
    · cases h
  · cases h
theorem ax_x_castore (gX : ax_gx ρ XA X) (gL : ax_gL ρ L L') (gs : ax_gl ρ st st') (gM : ax_gm ρ M M') (h : ax_step XA y (.castore) pc L st M = some (pc1, L1, st1, M1)) : ax_ok ρ X y (.castore) pc L' st' M' pc1 L1 st1 M1 := by
  dsimp only [ax_step] at h
  rcases st with _ | ⟨(x1 | r0 | x1), _ | ⟨(i1 | r1 | i1), _ | ⟨(x2 | (_ | a) | x2), st⟩⟩⟩ <;> dsimp only at h <;> first | (cases h; done) | skip
  obtain ⟨xv, st2, rfl, hx, gs1⟩ := ax_gl_i gs
  obtain ⟨ix, st3, rfl, hi, gs2⟩ := ax_gl_i gs1
  obtain ⟨st4, rfl, gs3⟩ := ax_gl_r gs2
  split at h
  · rename_i t n d ov har
    split at h
    · rename_i ht
      obtain ⟨rfl, b1, b2⟩ := ht
      split at h
      · rename_i j hj
        split at h
        · rename_i v0 hrd
          cases h
          have h0 := ax_in_e hi hj
          obtain ⟨f, h1, h2⟩ := ax_gm_ar gM har
          have h3 := h2 j h0.2.2
          rw [hrd] at h3
          rcases f with f | f | f
          · refine ⟨L', st4, M'.set a (.inr (1, n, .inl (upd f j (vp_nar .char xv)))), ?_, gL, gs3, ax_gm_set gM (ax_gc_put (g := .inl (upd f j (vp_nar .char xv))) h2 ?_ ?_)⟩
            · dsimp only [mm_step]
              rw [h1]
              dsimp only
              rw [if_pos ⟨rfl, h0.1⟩, h0.2.1]
            · show ax_gi ρ x1 (upd f j (vp_nar .char xv) j)
              rw [pk_us, ax_narc (by have := hx.1; omega) (by have := hx.2.1; omega)]
              exact hx
            · intro k hk
              show (.inl (upd f j (vp_nar .char xv) k) : mm_V) = .inl (f k)
              rw [pk_un hk]
          · exact absurd h3 (fun z => z)
          · exact absurd h3 (fun z => z)
        · cases h
      · cases h
    · cases h
  · cases h
theorem ax_x_bastore (gX : ax_gx ρ XA X) (gL : ax_gL ρ L L') (gs : ax_gl ρ st st') (gM : ax_gm ρ M M') (h : ax_step XA y (.bastore) pc L st M = some (pc1, L1, st1, M1)) : ax_ok ρ X y (.bastore) pc L' st' M' pc1 L1 st1 M1 := by
  dsimp only [ax_step] at h
  rcases st with _ | ⟨(x1 | r0 | x1), _ | ⟨(i1 | r1 | i1), _ | ⟨(x2 | (_ | a) | x2), st⟩⟩⟩ <;> dsimp only at h <;> first | (cases h; done) | skip
  obtain ⟨xv, st2, rfl, hx, gs1⟩ := ax_gl_i gs
  obtain ⟨ix, st3, rfl, hi, gs2⟩ := ax_gl_i gs1
  obtain ⟨st4, rfl, gs3⟩ := ax_gl_r gs2
  split at h
  · rename_i t n d ov har
    split at h
    · rename_i ht
      obtain ⟨rfl, b1, b2⟩ := ht
      split at h
      · rename_i j hj
        split at h
        · rename_i v0 hrd
          cases h
          have h0 := ax_in_e hi hj
          obtain ⟨f, h1, h2⟩ := ax_gm_ar gM har
          have h3 := h2 j h0.2.2
          rw [hrd] at h3
          rcases f with f | f | f
          · refine ⟨L', st4, M'.set a (.inr (2, n, .inl (upd f j (vp_nar .boolean xv)))), ?_, gL, gs3, ax_gm_set gM (ax_gc_put (g := .inl (upd f j (vp_nar .boolean xv))) h2 ?_ ?_)⟩
            · dsimp only [mm_step]
              rw [h1]
              dsimp only
              rw [if_pos ⟨rfl, h0.1⟩, h0.2.1]
            · show ax_gi ρ x1 (upd f j (vp_nar .boolean xv) j)
              rw [pk_us, ax_narz (by have := hx.1; omega) (by have := hx.2.1; omega)]
              exact hx
            · intro k hk
              show (.inl (upd f j (vp_nar .boolean xv) k) : mm_V) = .inl (f k)
              rw [pk_un hk]
          · exact absurd h3 (fun z => z)
          · exact absurd h3 (fun z => z)
        · cases h
      · cases h
    · cases h
  · cases h
theorem ax_x_invokestatic (r : Nat) (gX : ax_gx ρ XA X) (gL : ax_gL ρ L L') (gs : ax_gl ρ st st') (gM : ax_gm ρ M M') (h : ax_step XA y (.invokestatic r) pc L st M = some (pc1, L1, st1, M1)) : ax_ok ρ X y (.invokestatic r) pc L' st' M' pc1 L1 st1 M1 := by
  dsimp only [ax_step] at h
  rcases st with _ | ⟨(v | r | v), _ | ⟨(w | r2 | w), st⟩⟩ <;> dsimp only at h <;> first | (cases h; done) | skip
  obtain ⟨y1, st2, rfl, h1, gs1⟩ := ax_gl_i gs
  obtain ⟨x1, st3, rfl, h2, gs2⟩ := ax_gl_i gs1
  split at h
  · rename_i hc
    split at h
    · rename_i xa ya hxa hya
      have ex := ax_val_e h2 hxa
      have ey := ax_val_e h1 hya
      subst ex
      subst ey
      have hc' : 1 ≤ mm_fr y ∧ 21 ≤ mm_lo y ∧ (st3.map mm_cat).sum ≤ 8 := by rw [ax_gl_cat gs2]; exact hc
      split at h
      · rename_i hm
        cases h
        refine ⟨L', .inl (if y1 < x1 then y1 else x1) :: st3, M', ?_, gL, ⟨ax_sg_g _, gs2⟩, gM⟩
        dsimp only [mm_step]
        rw [if_pos hc', if_pos hm]
      · rename_i hm
        split at h <;> cases h
        rename_i hm2
        refine ⟨L', .inl (if x1 < y1 then y1 else x1) :: st3, M', ?_, gL, ⟨ax_sg_g _, gs2⟩, gM⟩
        dsimp only [mm_step]
        rw [if_pos hc', if_neg hm, if_pos hm2]
    · cases h
  · cases h
theorem ax_x_invokevirtual (r : Nat) (gX : ax_gx ρ XA X) (gL : ax_gL ρ L L') (gs : ax_gl ρ st st') (gM : ax_gm ρ M M') (h : ax_step XA y (.invokevirtual r) pc L st M = some (pc1, L1, st1, M1)) : ax_ok ρ X y (.invokevirtual r) pc L' st' M' pc1 L1 st1 M1 := by
  dsimp only [ax_step] at h
  split at h
  · rename_i hr
    rcases st with _ | ⟨(v | (_ | a) | v), st⟩ <;> dsimp only at h <;> first | (cases h; done) | skip
    obtain ⟨st2, rfl, gs1⟩ := ax_gl_r gs
    split at h <;> cases h
    rename_i hc
    refine ⟨L', .inl (nI (mm_slen (a - 1000001))) :: st2, M', ?_, gL, ⟨ax_sg_g _, gs1⟩, gM⟩
    dsimp only [mm_step]
    rw [if_pos hr, if_pos ⟨hc.1, hc.2.1, hc.2.2.1, hc.2.2.2.1, by rw [ax_gl_cat gs1]; exact hc.2.2.2.2⟩]
  · cases h
end AXS
