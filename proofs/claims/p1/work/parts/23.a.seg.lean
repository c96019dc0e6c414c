/-! stretches: the boxes' machine up to a place of the same frame -/
def ax_seg (X : Nat × (Nat → ax_I)) (stop : Nat) : Nat → Nat → Nat → ax_L → List ax_V → ax_M → Option (List ax_S)
  | 0, _, _, _, _, _ => none
  | n + 1, y, pc, L, st, M => if pc = stop then some [(pc, L, st, M)] else match mm_fetch y pc with
    | none => none
    | some (i, _) =>
      if mm_isEnd i then none
      else match ax_call M y i st with
        | some (z, As, rest) => (match ax_run X n z 0 (ax_lfrom 0 As) [] M with
          | none => none
          | some es => ax_all (fun e => match mm_fetch z e.1 with
            | none => none
            | some (i1, _) => (match ax_end z i1 e.2.2.1 with
              | none => none
              | some vs => ax_seg X stop n y (pc + 3) L (vs ++ rest) e.2.2.2)) es)
        | none => (match ax_step X y i pc L st M with
          | some (pc1, L1, st1, M1) => ax_seg X stop n y pc1 L1 st1 M1
          | none => (match ax_fork i pc st with
            | none => none
            | some (t, st2) => (match ax_seg X stop n y t L st2 M, ax_seg X stop n y (pc + 3) L st2 M with
              | some x, some z => some (x ++ z)
              | _, _ => none)))
section AXG
variable {ρ : Nat → Int32} {XA : Nat × (Nat → ax_I)} {X : Nat × (Nat → Int32)}
theorem ax_seg_ok (gX : ax_gx ρ XA X) (stop : Nat) : ∀ (n y pc : Nat) (L : ax_L) (st : List ax_V) (M : ax_M) (L' : mm_L) (st' : List mm_V) (M' : mm_M) (rs : List ax_S), ax_gL ρ L L' → ax_gl ρ st st' → ax_gm ρ M M' → ax_seg XA stop n y pc L st M = some rs → ∃ A ∈ rs, ∃ S : mm_S, ax_gS ρ A S ∧ mm_sh M' <+: mm_sh S.2.2.2 ∧ ∀ R, mm_to X y S.1 S.2.1 S.2.2.1 S.2.2.2 R → mm_to X y pc L' st' M' R := by
  intro n
  induction n with
  | zero => intro y pc L st M L' st' M' rs gL gs gM h; cases h
  | succ n ih =>
    intro y pc L st M L' st' M' rs gL gs gM h
    rw [ax_seg] at h
    by_cases hst : pc = stop
    · rw [if_pos hst] at h
      cases h
      exact ⟨_, List.mem_cons_self, (pc, L', st', M'), ⟨rfl, gL, gs, gM⟩, List.prefix_rfl, fun R hR => hR⟩
    · rw [if_neg hst] at h
      cases hf : mm_fetch y pc with
      | none => rw [hf] at h; cases h
      | some q =>
        obtain ⟨i, len⟩ := q
        rw [hf] at h
        dsimp only at h
        by_cases he : mm_isEnd i = true
        · rw [if_pos he] at h
          cases h
        · rw [if_neg he] at h
          have he' : mm_isEnd i = false := by simpa using he
          cases hcall : ax_call M y i st with
          | some q =>
            obtain ⟨z, As, rest⟩ := q
            rw [hcall] at h
            obtain ⟨As2, rest2, h1, h2, h3⟩ := ax_call_ok gs gM hcall
            dsimp only at h
            cases hrun : ax_run XA n z 0 (ax_lfrom 0 As) [] M with
            | none => rw [hrun] at h; cases h
            | some es =>
              rw [hrun] at h
              dsimp only at h
              obtain ⟨E, hE, ⟨pcE, LE, stE, ME⟩, h5, g4, g5, g6, g7⟩ := ax_run_ok gX _ _ _ _ [] _ (mm_locals As2) [] M' _ (ax_gL_from 0 h2) (show ax_gl ρ [] [] from trivial) gM hrun
              dsimp only at g4 g5 g6 g7
              subst g4
              obtain ⟨x, h6, h7⟩ := ax_all_e h hE
              cases hfE : mm_fetch z E.1 with
              | none => rw [hfE] at h6; cases h6
              | some q =>
                obtain ⟨iE, lenE⟩ := q
                rw [hfE] at h6
                dsimp only at h6
                cases hend : ax_end z iE E.2.2.1 with
                | none => rw [hend] at h6; cases h6
                | some vs =>
                  rw [hend] at h6
                  dsimp only at h6
                  obtain ⟨vs2, h8, h9⟩ := ax_end_ok g6 hend
                  obtain ⟨A, hA, S, hg, hp, hS⟩ := ih _ _ _ _ _ _ _ _ _ gL (ax_gl_app h9 h3) g7 h6
                  exact ⟨A, h7 A hA, S, hg, (mm_run_pre _ _ _ _ _ _ _ h5).trans hp, fun R hR => mm_tc hf he' h1 ⟨_, h5⟩ hfE h8 (hS R hR)⟩
          | none =>
            rw [hcall] at h
            dsimp only at h
            cases hstep : ax_step XA y i pc L st M with
            | some q =>
              obtain ⟨pc2, L2, st2, M2⟩ := q
              rw [hstep] at h
              dsimp only at h
              obtain ⟨L5, st5, M5, h5, g5, g6, g7⟩ := ax_step_ok gX gL gs gM hstep
              obtain ⟨A, hA, S, hg, hp, hS⟩ := ih _ _ _ _ _ _ _ _ _ g5 g6 g7 h
              exact ⟨A, hA, S, hg, (mm_step_pre h5).trans hp, fun R hR => mm_t hf he' (ax_nocall hstep) h5 (hS R hR)⟩
            | none =>
              rw [hstep] at h
              dsimp only at h
              cases hfk : ax_fork i pc st with
              | none => rw [hfk] at h; cases h
              | some q =>
                obtain ⟨t, st2⟩ := q
                rw [hfk] at h
                dsimp only at h
                split at h
                · rename_i x z hx hz
                  cases h
                  obtain ⟨st3, g1, g2, g3⟩ := ax_fork_ok (X := X) (y := y) (L' := L') (M' := M') gs hfk
                  rcases g3 with g3 | g3
                  · obtain ⟨A, hA, S, hg, hp, hS⟩ := ih _ _ _ _ _ _ _ _ _ gL g1 gM hx
                    exact ⟨A, List.mem_append_left _ hA, S, hg, hp, fun R hR => mm_t hf he' g2 g3 (hS R hR)⟩
                  · obtain ⟨A, hA, S, hg, hp, hS⟩ := ih _ _ _ _ _ _ _ _ _ gL g1 gM hz
                    exact ⟨A, List.mem_append_right _ hA, S, hg, hp, fun R hR => mm_t hf he' g2 g3 (hS R hR)⟩
                · cases h
/-! a state within another -/
def ax_subi (a b : ax_I) : Bool := decide (b.1 ≤ a.1) && decide (a.2.1 ≤ b.2.1) && (decide (b.2.2 = 0) || decide (b.2.2 = a.2.2))
def ax_subv (a b : ax_V) : Bool := match a, b with
  | .inl a, .inl b => ax_subi a b
  | .inr (.inl r), .inr (.inl q) => decide (r = q)
  | .inr (.inr a), .inr (.inr b) => ax_subi a b
  | _, _ => false
theorem ax_subv_ok {a b : ax_V} {v : mm_V} (h : ax_subv a b = true) (g : ax_g ρ a v) : ax_g ρ b v := by
  unfold ax_subv at h
  split at h
  · rename_i a1 b1
    simp only [ax_subi, Bool.and_eq_true, Bool.or_eq_true, decide_eq_true_eq] at h
    rcases v with x | q | x
    · have g : ax_gi ρ a1 x := g
      obtain ⟨g1, g2, g3⟩ := g
      refine ⟨by omega, by omega, ?_⟩
      rcases h.2 with h2 | h2
      · exact Or.inl h2
      · rw [h2]; exact g3
    · exact absurd g (fun z => z)
    · exact absurd g (fun z => z)
  · simp only [decide_eq_true_eq] at h
    subst h
    exact g
  · rename_i a1 b1
    simp only [ax_subi, Bool.and_eq_true, Bool.or_eq_true, decide_eq_true_eq] at h
    rcases v with x | q | x
    · exact absurd g (fun z => z)
    · exact absurd g (fun z => z)
    · have g : ax_gj ρ a1 x := g
      obtain ⟨g1, g2, g3⟩ := g
      refine ⟨by omega, by omega, ?_⟩
      rcases h.2 with h2 | h2
      · exact Or.inl h2
      · rw [h2]; exact g3
  · cases h
/-- an array cell within another -/
def ax_suba (a b : ax_C) : Bool := match a, b with
  | .inr a, .inr b => decide (a.1 = b.1) && decide (a.2.1 = b.2.1) && (List.range a.2.1).all (fun j => ax_subv (ax_rd a.2.2.1 a.2.2.2 j) (ax_rd b.2.2.1 b.2.2.2 j))
  | _, _ => false
theorem ax_suba_ok {a b : ax_C} {c : mm_C} (h : ax_suba a b = true) (g : ax_gc ρ a c) : ax_gc ρ b c := by
  unfold ax_suba at h
  split at h
  · rename_i a1 b1
    simp only [Bool.and_eq_true, decide_eq_true_eq] at h
    rcases c with c | c
    · exact absurd g (fun z => z)
    · obtain ⟨g1, g2, g3⟩ := g
      refine ⟨by rw [g1]; exact h.1.1, by rw [g2]; exact h.1.2, fun j hj => ?_⟩
      have hj' : j < a1.2.1 := by rw [h.1.2]; exact hj
      exact ax_subv_ok (List.all_eq_true.mp h.2 j (List.mem_range.mpr hj')) (g3 j hj')
  · cases h
/-- one array is told less of -/
theorem ax_gm_weak {A : ax_M} {M : mm_M} {k : Nat} {a b : ax_C} (g : ax_gm ρ A M) (hk : ax_get A k = some a) (h : ax_suba a b = true) : ax_gm ρ (ax_put A k b) M := by
  refine ⟨by rw [ax_len_put]; exact g.1, fun j x hx => ?_⟩
  rcases ax_get_put hx with ⟨rfl, rfl, -⟩ | ⟨hj, h0⟩
  · obtain ⟨c, h1, h2⟩ := g.2 _ _ hk
    exact ⟨c, h1, ax_suba_ok h h2⟩
  · exact g.2 _ _ h0
end AXG
