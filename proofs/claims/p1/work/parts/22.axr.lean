/-! runs of the boxes' machine -/
section AXR
variable {ρ : Nat → Int32} {XA : Nat × (Nat → ax_I)} {X : Nat × (Nat → Int32)} {y pc pc1 : Nat} {L L1 : ax_L} {st st1 : List ax_V} {M M1 : ax_M} {L' : mm_L} {st' : List mm_V} {M' : mm_M}
theorem ax_step_ok {i : Instr} (gX : ax_gx ρ XA X) (gL : ax_gL ρ L L') (gs : ax_gl ρ st st') (gM : ax_gm ρ M M') (h : ax_step XA y i pc L st M = some (pc1, L1, st1, M1)) : ax_ok ρ X y i pc L' st' M' pc1 L1 st1 M1 := by
  cases i with
  | aconst_null => exact ax_x_aconst_null gX gL gs gM h
  | iadd => exact ax_x_iadd gX gL gs gM h
  | isub => exact ax_x_isub gX gL gs gM h
  | imul => exact ax_x_imul gX gL gs gM h
  | iand => exact ax_x_iand gX gL gs gM h
  | ior => exact ax_x_ior gX gL gs gM h
  | ishl => exact ax_x_ishl gX gL gs gM h
  | ishr => exact ax_x_ishr gX gL gs gM h
  | ladd => exact ax_x_ladd gX gL gs gM h
  | lcmp => exact ax_x_lcmp gX gL gs gM h
  | i2l => exact ax_x_i2l gX gL gs gM h
  | l2i => exact ax_x_l2i gX gL gs gM h
  | i2c => exact ax_x_i2c gX gL gs gM h
  | dup => exact ax_x_dup gX gL gs gM h
  | pop => exact ax_x_pop gX gL gs gM h
  | dup2 => exact ax_x_dup2 gX gL gs gM h
  | arraylength => exact ax_x_arraylength gX gL gs gM h
  | iaload => exact ax_x_iaload gX gL gs gM h
  | caload => exact ax_x_caload gX gL gs gM h
  | baload => exact ax_x_baload gX gL gs gM h
  | laload => exact ax_x_laload gX gL gs gM h
  | iastore => exact ax_x_iastore gX gL gs gM h
  | castore => exact ax_x_castore gX gL gs gM h
  | bastore => exact ax_x_bastore gX gL gs gM h
  | aload_n k => exact ax_x_aload_n k gX gL gs gM h
  | aload k => exact ax_x_aload k gX gL gs gM h
  | iload_n k => exact ax_x_iload_n k gX gL gs gM h
  | iload k => exact ax_x_iload k gX gL gs gM h
  | lload_n k => exact ax_x_lload_n k gX gL gs gM h
  | lload k => exact ax_x_lload k gX gL gs gM h
  | istore_n k => exact ax_x_istore_n k gX gL gs gM h
  | istore k => exact ax_x_istore k gX gL gs gM h
  | lstore_n k => exact ax_x_lstore_n k gX gL gs gM h
  | lstore k => exact ax_x_lstore k gX gL gs gM h
  | astore_n k => exact ax_x_astore_n k gX gL gs gM h
  | astore k => exact ax_x_astore k gX gL gs gM h
  | iconst k => exact ax_x_iconst k gX gL gs gM h
  | bipush k => exact ax_x_bipush k gX gL gs gM h
  | sipush k => exact ax_x_sipush k gX gL gs gM h
  | ldc k => exact ax_x_ldc k gX gL gs gM h
  | ldc_w k => exact ax_x_ldc_w k gX gL gs gM h
  | ldc2_w k => exact ax_x_ldc2_w k gX gL gs gM h
  | goto k => exact ax_x_goto k gX gL gs gM h
  | ifnull k => exact ax_x_ifnull k gX gL gs gM h
  | ifnonnull k => exact ax_x_ifnonnull k gX gL gs gM h
  | getfield k => exact ax_x_getfield k gX gL gs gM h
  | putfield k => exact ax_x_putfield k gX gL gs gM h
  | invokestatic k => exact ax_x_invokestatic k gX gL gs gM h
  | invokevirtual k => exact ax_x_invokevirtual k gX gL gs gM h
  | iinc k n => exact ax_x_iinc k n gX gL gs gM h
  | ifCond k n => exact ax_x_ifCond k n gX gL gs gM h
  | if_icmp k n => exact ax_x_if_icmp k n gX gL gs gM h
  | tableswitch d lo hi os => exact ax_x_tableswitch d lo hi os gX gL gs gM h
  | _ => exact absurd h (fun h => by cases h)
theorem ax_go_ok {r k z : Nat} {As rest : List ax_V} (gs : ax_gl ρ st st') (h : ax_go y r k st = some (z, As, rest)) : ∃ As' rest', mm_go y r k st' = some (z, As', rest') ∧ ax_gl ρ As As' ∧ ax_gl ρ rest rest' := by
  unfold ax_go at h
  split at h
  · rename_i hc
    cases h
    obtain ⟨c1, c2, c3, c4, c5, c6, c7, c8⟩ := hc
    have ht := ax_gl_take (mm_na (mm_mr r).2.2.1) gs
    have hcat : ∀ v ∈ st'.take (mm_na (mm_mr r).2.2.1), mm_cat v = 1 := by
      intro v hv
      have h1 := ax_gl_cat ht.1
      have h2 : mm_cat v ∈ (st.take (mm_na (mm_mr r).2.2.1)).map ax_cat := by rw [← h1]; exact List.mem_map.mpr ⟨v, hv, rfl⟩
      obtain ⟨a, ha, hb⟩ := List.mem_map.mp h2
      rw [← hb]
      exact c8 a ha
    refine ⟨_, _, ?_, ax_gl_rev ht.1, ht.2⟩
    unfold mm_go
    rw [if_pos ⟨c1, c2, c3, c4, by rw [ax_gl_len gs]; exact c5, c6, by rw [ax_gl_cat ht.2]; exact c7, hcat⟩]
  · cases h
theorem ax_call_ok {i : Instr} {z : Nat} {As rest : List ax_V} (gs : ax_gl ρ st st') (gM : ax_gm ρ M M') (h : ax_call M y i st = some (z, As, rest)) : ∃ As' rest', mm_call M' y i st' = some (z, As', rest') ∧ ax_gl ρ As As' ∧ ax_gl ρ rest rest' := by
  unfold ax_call at h
  split at h
  · rename_i r
    split at h
    · rename_i z1 a As1 rest1 hgo
      split at h
      · rename_i ci fs hob
        split at h <;> cases h
        rename_i hci
        obtain ⟨As2, rest2, h1, h2, h3⟩ := ax_go_ok gs hgo
        obtain ⟨As3, rfl, h4⟩ := ax_gl_r h2
        obtain ⟨fs2, h5, h6⟩ := ax_gm_ob gM hob
        refine ⟨_, rest2, ?_, h2, h3⟩
        dsimp only [mm_call]
        rw [h1]
        dsimp only
        rw [h5]
        dsimp only
        rw [if_pos hci]
      · cases h
    · cases h
  · rename_i r
    obtain ⟨As2, rest2, h1, h2, h3⟩ := ax_go_ok gs h
    exact ⟨As2, rest2, h1, h2, h3⟩
  · cases h
theorem ax_nocall {i : Instr} (h : ax_step XA y i pc L st M = some (pc1, L1, st1, M1)) : mm_call M' y i st' = none := by
  unfold mm_call
  split
  · rename_i r
    have hr : (mm_mr r).2.2.1 = 1003 := by
      dsimp only [ax_step] at h
      split at h
      · rename_i hr; exact hr
      · cases h
    have hg : mm_go y r 0 st' = none := by
      unfold mm_go
      rw [if_neg (fun q => by omega)]
    rw [hg]
  · rename_i r
    exact absurd h (fun h => by cases h)
  · rename_i r
    have hr : (mm_mr r).2.2.1 = 1001 ∨ (mm_mr r).2.2.1 = 1002 := by
      dsimp only [ax_step] at h
      split at h
      · split at h
        · split at h
          · split at h
            · rename_i hr; exact Or.inl hr
            · split at h
              · rename_i hr; exact Or.inr hr
              · cases h
          · cases h
        · cases h
      · cases h
    unfold mm_go
    rw [if_neg (fun q => by omega)]
  · rfl
theorem ax_end_ok {i : Instr} {vs : List ax_V} (gs : ax_gl ρ st st') (h : ax_end y i st = some vs) : ∃ vs', mm_end y i st' = some vs' ∧ ax_gl ρ vs vs' := by
  unfold ax_end at h
  split at h
  · rename_i x hrt
    cases h
    obtain ⟨x1, st2, rfl, h1, h2⟩ := ax_gl_i gs
    rw [ax_gl_n h2]
    exact ⟨[.inl x1], by unfold mm_end; rw [hrt], ⟨h1, trivial⟩⟩
  · rename_i x hrt
    split at h <;> cases h
    rename_i hx
    obtain ⟨x1, st2, rfl, h1, h2⟩ := ax_gl_i gs
    rw [ax_gl_n h2]
    refine ⟨[.inl x1], ?_, ⟨h1, trivial⟩⟩
    unfold mm_end
    rw [hrt]
    dsimp only
    have h3 : x1.toInt = 0 ∨ x1.toInt = 1 := by have := h1.1; have := h1.2.1; omega
    rw [if_pos (by
      rcases h3 with h3 | h3
      · exact Or.inl (Int32.toInt_inj.mp (h3.trans (by decide)))
      · exact Or.inr (Int32.toInt_inj.mp (h3.trans (by decide))))]
  · rename_i nm r hrt
    cases h
    obtain ⟨st2, rfl, h2⟩ := ax_gl_r gs
    rw [ax_gl_n h2]
    exact ⟨[.inr (.inl r)], by unfold mm_end; rw [hrt], ⟨rfl, trivial⟩⟩
  · rename_i x hrt
    cases h
    obtain ⟨x1, st2, rfl, h1, h2⟩ := ax_gl_l gs
    rw [ax_gl_n h2]
    exact ⟨[.inr (.inr x1)], by unfold mm_end; rw [hrt], ⟨h1, trivial⟩⟩
  · rename_i hrt
    cases h
    rw [ax_gl_n gs]
    exact ⟨[], by unfold mm_end; rw [hrt], trivial⟩
  · cases h
theorem ax_all_e {f : ax_S → Option (List ax_S)} : ∀ {es : List ax_S} {rs : List ax_S} {e : ax_S}, ax_all f es = some rs → e ∈ es → ∃ x, f e = some x ∧ ∀ q ∈ x, q ∈ rs := by
  intro es
  induction es with
  | nil => intro rs e _ he; cases he
  | cons a es ih =>
    intro rs e h he
    rw [ax_all] at h
    split at h
    · rename_i x z h1 h2
      cases h
      rcases List.mem_cons.mp he with rfl | he
      · exact ⟨x, h1, fun q hq => List.mem_append_left _ hq⟩
      · obtain ⟨w, h3, h4⟩ := ih h2 he
        exact ⟨w, h3, fun q hq => List.mem_append_right _ (h4 q hq)⟩
    · cases h
/-- a state that the boxes tell of -/
def ax_gS (ρ : Nat → Int32) (A : ax_S) (S : mm_S) : Prop := S.1 = A.1 ∧ ax_gL ρ A.2.1 S.2.1 ∧ ax_gl ρ A.2.2.1 S.2.2.1 ∧ ax_gm ρ A.2.2.2 S.2.2.2
theorem ax_fork_ok {i : Instr} {t : Nat} {st2 : List ax_V} (gs : ax_gl ρ st st') (h : ax_fork i pc st = some (t, st2)) : ∃ st3, ax_gl ρ st2 st3 ∧ mm_call M' y i st' = none ∧ (mm_step X y i pc L' st' M' = some (t, L', st3, M') ∨ mm_step X y i pc L' st' M' = some (pc + 3, L', st3, M')) := by
  unfold ax_fork at h
  split at h
  · rename_i c off v st4
    split at h <;> cases h
    rename_i ht
    obtain ⟨x, st5, rfl, h1, h2⟩ := ax_gl_i gs
    refine ⟨st5, h2, rfl, ?_⟩
    dsimp only [mm_step, mm_br]
    rw [ht]
    by_cases hb : mm_cmp c x 0 = true
    · exact Or.inl (by dsimp only; rw [if_pos hb])
    · exact Or.inr (by dsimp only; rw [if_neg hb])
  · rename_i c off v w st4
    split at h <;> cases h
    rename_i ht
    obtain ⟨y1, st5, rfl, h1, h2⟩ := ax_gl_i gs
    obtain ⟨x1, st6, rfl, h3, h4⟩ := ax_gl_i h2
    refine ⟨st6, h4, rfl, ?_⟩
    dsimp only [mm_step, mm_br]
    rw [ht]
    by_cases hb : mm_cmp c x1 y1 = true
    · exact Or.inl (by dsimp only; rw [if_pos hb])
    · exact Or.inr (by dsimp only; rw [if_neg hb])
  · cases h
theorem ax_run_ok (gX : ax_gx ρ XA X) : ∀ (n y pc : Nat) (L : ax_L) (st : List ax_V) (M : ax_M) (L' : mm_L) (st' : List mm_V) (M' : mm_M) (rs : List ax_S), ax_gL ρ L L' → ax_gl ρ st st' → ax_gm ρ M M' → ax_run XA n y pc L st M = some rs → ∃ A ∈ rs, ∃ S, mm_run X n y pc L' st' M' = some S ∧ ax_gS ρ A S := by
  intro n
  induction n with
  | zero => intro y pc L st M L' st' M' rs gL gs gM h; cases h
  | succ n ih =>
    intro y pc L st M L' st' M' rs gL gs gM h
    rw [ax_run] at h
    rw [mm_run]
    cases hf : mm_fetch y pc with
    | none => rw [hf] at h; cases h
    | some q =>
      obtain ⟨i, len⟩ := q
      rw [hf] at h
      dsimp only at h ⊢
      by_cases he : mm_isEnd i = true
      · rw [if_pos he] at h ⊢
        cases h
        exact ⟨_, List.mem_cons_self, _, rfl, rfl, gL, gs, gM⟩
      · rw [if_neg he] at h ⊢
        cases hcall : ax_call M y i st with
        | some q =>
          obtain ⟨z, As, rest⟩ := q
          rw [hcall] at h
          obtain ⟨As2, rest2, h1, h2, h3⟩ := ax_call_ok gs gM hcall
          rw [h1]
          dsimp only at h ⊢
          cases hrun : ax_run XA n z 0 (ax_lfrom 0 As) [] M with
          | none => rw [hrun] at h; cases h
          | some es =>
            rw [hrun] at h
            dsimp only at h
            obtain ⟨E, hE, ⟨pcE, LE, stE, ME⟩, h5, g4, g5, g6, g7⟩ := ih _ _ _ [] _ (mm_locals As2) [] M' _ (ax_gL_from 0 h2) (show ax_gl ρ [] [] from trivial) gM hrun
            rw [h5]
            dsimp only at g4 g5 g6 g7 ⊢
            obtain ⟨x, h6, h7⟩ := ax_all_e h hE
            rw [g4]
            cases hfE : mm_fetch z E.1 with
            | none => rw [hfE] at h6; cases h6
            | some q =>
              obtain ⟨iE, lenE⟩ := q
              rw [hfE] at h6
              dsimp only at h6 ⊢
              cases hend : ax_end z iE E.2.2.1 with
              | none => rw [hend] at h6; cases h6
              | some vs =>
                rw [hend] at h6
                dsimp only at h6
                obtain ⟨vs2, h8, h9⟩ := ax_end_ok g6 hend
                rw [h8]
                dsimp only
                obtain ⟨A, hA, S, hS, hg⟩ := ih _ _ _ _ _ _ _ _ _ gL (ax_gl_app h9 h3) g7 h6
                exact ⟨A, h7 A hA, S, hS, hg⟩
        | none =>
          rw [hcall] at h
          dsimp only at h
          cases hstep : ax_step XA y i pc L st M with
          | some q =>
            obtain ⟨pc2, L2, st2, M2⟩ := q
            rw [hstep] at h
            dsimp only at h
            rw [ax_nocall hstep]
            dsimp only
            obtain ⟨L5, st5, M5, h5, g5, g6, g7⟩ := ax_step_ok gX gL gs gM hstep
            rw [h5]
            dsimp only
            exact ih _ _ _ _ _ _ _ _ _ g5 g6 g7 h
          | none =>
            rw [hstep] at h
            dsimp only at h
            cases hfk : ax_fork i pc st with
            | none => rw [hfk] at h; cases h
            | some q =>
              obtain ⟨t, st2⟩ := q
              rw [hfk] at h
              dsimp only at h
              split at h
              · rename_i x z hx hz
                cases h
                obtain ⟨st3, g1, g2, g3⟩ := ax_fork_ok (X := X) (y := y) (L' := L') (M' := M') gs hfk
                rw [g2]
                dsimp only
                rcases g3 with g3 | g3
                · rw [g3]
                  dsimp only
                  obtain ⟨A, hA, S, hS, hg⟩ := ih _ _ _ _ _ _ _ _ _ gL g1 gM hx
                  exact ⟨A, List.mem_append_left _ hA, S, hS, hg⟩
                · rw [g3]
                  dsimp only
                  obtain ⟨A, hA, S, hS, hg⟩ := ih _ _ _ _ _ _ _ _ _ gL g1 gM hz
                  exact ⟨A, List.mem_append_right _ hA, S, hS, hg⟩
              · cases h
/-- more steps do no harm -/
theorem mm_run_more : ∀ (n y pc : Nat) (L : mm_L) (st : List mm_V) (M : mm_M) (S : mm_S), mm_run X n y pc L st M = some S → mm_run X (n + 1) y pc L st M = some S := by
  intro n
  induction n with
  | zero => intro y pc L st M S h; cases h
  | succ n ih =>
    intro y pc L st M S h
    rw [mm_run] at h ⊢
    cases hf : mm_fetch y pc with
    | none => rw [hf] at h; cases h
    | some q =>
      obtain ⟨i, len⟩ := q
      rw [hf] at h
      dsimp only at h ⊢
      by_cases he : mm_isEnd i = true
      · rw [if_pos he] at h ⊢
        exact h
      · rw [if_neg he] at h ⊢
        cases hcall : mm_call M y i st with
        | some q =>
          obtain ⟨z, As, rest⟩ := q
          rw [hcall] at h
          dsimp only at h ⊢
          cases hrun : mm_run X n z 0 (mm_locals As) [] M with
          | none => rw [hrun] at h; cases h
          | some q =>
            obtain ⟨pcE, LE, stE, ME⟩ := q
            rw [hrun] at h
            rw [ih _ _ _ _ _ _ hrun]
            dsimp only at h ⊢
            cases hfE : mm_fetch z pcE with
            | none => rw [hfE] at h; cases h
            | some q =>
              obtain ⟨iE, lenE⟩ := q
              rw [hfE] at h
              dsimp only at h ⊢
              cases hend : mm_end z iE stE with
              | none => rw [hend] at h; cases h
              | some vs =>
                rw [hend] at h
                dsimp only at h ⊢
                exact ih _ _ _ _ _ _ h
        | none =>
          rw [hcall] at h
          dsimp only at h ⊢
          cases hstep : mm_step X y i pc L st M with
          | none => rw [hstep] at h; cases h
          | some q =>
            obtain ⟨pc1, L1, st1, M1⟩ := q
            rw [hstep] at h
            dsimp only at h ⊢
            exact ih _ _ _ _ _ _ h
theorem mm_run_add {n y pc : Nat} {L : mm_L} {st : List mm_V} {M : mm_M} {S : mm_S} (h : mm_run X n y pc L st M = some S) : ∀ k, mm_run X (n + k) y pc L st M = some S := by
  intro k
  induction k with
  | zero => exact h
  | succ k ih => exact mm_run_more _ _ _ _ _ _ _ ih
/-- it comes to S -/
def mm_to (X : Nat × (Nat → Int32)) (y pc : Nat) (L : mm_L) (st : List mm_V) (M : mm_M) (S : mm_S) : Prop := ∃ n, mm_run X n y pc L st M = some S
theorem mm_t {i : Instr} {len pc1 : Nat} {L L1 : mm_L} {st st1 : List mm_V} {M M1 : mm_M} {S : mm_S} (hf : mm_fetch y pc = some (i, len)) (he : mm_isEnd i = false) (hc : mm_call M y i st = none) (hs : mm_step X y i pc L st M = some (pc1, L1, st1, M1)) (k : mm_to X y pc1 L1 st1 M1 S) : mm_to X y pc L st M S := by
  obtain ⟨n, hn⟩ := k
  refine ⟨n + 1, ?_⟩
  unfold mm_run
  rw [hf]
  dsimp only
  rw [if_neg (by rw [he]; decide), hc]
  dsimp only
  rw [hs]
  exact hn
theorem mm_tc {i iE : Instr} {len lenE z pcE : Nat} {As rest vs : List mm_V} {LE : mm_L} {stE : List mm_V} {L : mm_L} {st : List mm_V} {M ME : mm_M} {S : mm_S} (hf : mm_fetch y pc = some (i, len)) (he : mm_isEnd i = false) (hc : mm_call M y i st = some (z, As, rest)) (hr : mm_to X z 0 (mm_locals As) [] M (pcE, LE, stE, ME)) (hfE : mm_fetch z pcE = some (iE, lenE)) (hend : mm_end z iE stE = some vs) (k : mm_to X y (pc + 3) L (vs ++ rest) ME S) : mm_to X y pc L st M S := by
  obtain ⟨n1, h1⟩ := hr
  obtain ⟨n2, h2⟩ := k
  refine ⟨n1 + n2 + 1, ?_⟩
  unfold mm_run
  rw [hf]
  dsimp only
  rw [if_neg (by rw [he]; decide), hc]
  dsimp only
  rw [mm_run_add h1 n2]
  dsimp only
  rw [hfE]
  dsimp only
  rw [hend]
  dsimp only
  rw [Nat.add_comm n1 n2]
  exact mm_run_add h2 n1
end AXR
