/-! a run of the small machine is a run of the machine -/
section MMB
variable {p : Program} {l : Launch} {e : Env} {R : Room} {s : State} {m : MethodId} {args : Array Value} {below : List Frame} {meth : Method} {c : Code}
variable {B b : Nat} {X : Nat × (Nat → Int32)} {aK aV : Nat → Nat} {dC : Nat → ClassId} {dI : Nat → Nat → Nat} {dT : Nat → ClassId} {n0 s0 : Nat} {Q : State → Prop} {y : Nat}
variable {pc pc1 : Nat} {L L1 : mm_L} {st st1 : List mm_V} {M M1 : mm_M}
theorem mm_x_invokespecial (r : Nat) (hA : mm_At p R s m args meth c B b X aK aV dC dI dT n0 y) (ho : (mm_mr r).1 = mm_own y) (hr : r < mm_MR.length) (hd : decode (mm_by y) pc = .ok (.invokespecial (mm_mr r).2.1, 3)) (hs : mm_step X y (.invokespecial r) pc L st M = some (pc1, L1, st1, M1)) (hk : mm_G p l e R s m args below meth c B b aK dC dI dT n0 s0 Q y pc1 L1 st1 M1) : mm_G p l e R s m args below meth c B b aK dC dI dT n0 s0 Q y pc L st M := by
  dsimp only [mm_step] at hs
  rcases st with _ | ⟨(x1 | (_ | a) | x1), st⟩ <;> dsimp only at hs <;> first | (cases hs; done) | skip
  split at hs
  · rename_i hc
    cases hs
    obtain ⟨h1, h2, h3, h4⟩ := hc
    have hw := mm_mr_w hr
    rw [if_pos h1] at hw
    intro H locs ls hl hR hS
    have h5 := lv_room (m := m) (pc := pc) (ls := ls) (rest := mm_es (mm_ad B b aK) (.inr (.inl (some a)) :: st1)) (st := mm_es (mm_ad B b aK) st1) (by rw [mm_es_cat]; exact h4)
    have h6 := hA.2.2.2.2.2.2.1
    have h7 := hA.2.2.2.2.2.2.2.1
    exact W.objInit hA.1 hA.2.1 hA.2.2.2.1 (by rw [← ho]; exact hA.2.2.2.2.1 _ hw) (hA.2.2.2.2.1 _ mm_w_oi) (hA.2.2.2.2.1 _ mm_w_oc) rfl (by rw [hA.2.2.1]; exact hl.1) rfl hd (by omega) (Nat.le_trans (Nat.add_le_add_right h5 12) (show 8 + 12 ≤ R.locals by omega)) (hk H locs ls hl hR hS)
  · cases hs
theorem mm_x_invokestatic (r : Nat) (hA : mm_At p R s m args meth c B b X aK aV dC dI dT n0 y) (ho : (mm_mr r).1 = mm_own y) (hr : r < mm_MR.length) (hb1 : M1.length - n0 ≤ R.cells) (hb2 : (mm_sh M1).sum - s0 ≤ R.slots) (hd : decode (mm_by y) pc = .ok (.invokestatic (mm_mr r).2.1, 3)) (hs : mm_step X y (.invokestatic r) pc L st M = some (pc1, L1, st1, M1)) (hk : mm_G p l e R s m args below meth c B b aK dC dI dT n0 s0 Q y pc1 L1 st1 M1) : mm_G p l e R s m args below meth c B b aK dC dI dT n0 s0 Q y pc L st M := by
  dsimp only [mm_step] at hs
  rcases st with _ | ⟨(y1 | r1 | y1), _ | ⟨(x1 | r2 | x1), st⟩⟩ <;> dsimp only at hs <;> first | (cases hs; done) | skip
  split at hs
  · rename_i hc
    obtain ⟨h2, h3, h4⟩ := hc
    have hw := mm_mr_w hr
    have h6 := hA.2.2.2.2.2.2.1
    have h7 := hA.2.2.2.2.2.2.2.1
    have h4' : ((mm_es (mm_ad B b aK) st).map fun v => v.category).sum ≤ 8 := by rw [mm_es_cat]; exact h4
    split at hs
    · rename_i h1
      cases hs
      rw [if_neg (by omega), if_pos h1] at hw
      intro H locs ls hl hR hS
      exact va_mmin hA.1 hA.2.1 (hA.2.2.1.trans hl.1.symm) hA.2.2.2.1 (by rw [← ho]; exact hA.2.2.2.2.1 _ hw) (hA.2.2.2.2.1 _ mm_w_ms2) (hA.2.2.2.2.1 _ mm_w_mi) (hA.2.2.2.2.1 _ mm_w_mc2) (by omega) (Nat.le_trans (Nat.add_le_add_right h4' 13) (show 8 + 13 ≤ R.locals by omega)) hb1 hb2 hd (hk H locs ls hl hR hS)
    · split at hs
      · rename_i h1 h1'
        cases hs
        rw [if_neg (by omega), if_neg (by omega), if_pos h1'] at hw
        intro H locs ls hl hR hS
        exact va_mmax hA.1 hA.2.1 (hA.2.2.1.trans hl.1.symm) hA.2.2.2.1 (by rw [← ho]; exact hA.2.2.2.2.1 _ hw) (hA.2.2.2.2.1 _ mm_w_ms1) (hA.2.2.2.2.1 _ mm_w_mi) (hA.2.2.2.2.1 _ mm_w_mc1) (by omega) (Nat.le_trans (Nat.add_le_add_right h4' 13) (show 8 + 13 ≤ R.locals by omega)) hb1 hb2 hd (hk H locs ls hl hR hS)
      · cases hs
  · cases hs
theorem mm_x_invokevirtual (r : Nat) (hA : mm_At p R s m args meth c B b X aK aV dC dI dT n0 y) (ho : (mm_mr r).1 = mm_own y) (hr : r < mm_MR.length) (hb1 : M1.length - n0 ≤ R.cells) (hb2 : (mm_sh M1).sum - s0 ≤ R.slots) (hd : decode (mm_by y) pc = .ok (.invokevirtual (mm_mr r).2.1, 3)) (hs : mm_step X y (.invokevirtual r) pc L st M = some (pc1, L1, st1, M1)) (hk : mm_G p l e R s m args below meth c B b aK dC dI dT n0 s0 Q y pc1 L1 st1 M1) : mm_G p l e R s m args below meth c B b aK dC dI dT n0 s0 Q y pc L st M := by
  dsimp only [mm_step] at hs
  split at hs
  · rename_i h1
    rcases st with _ | ⟨(x1 | (_ | a) | x1), st⟩ <;> dsimp only at hs <;> first | (cases hs; done) | skip
    split at hs
    · rename_i hc
      cases hs
      obtain ⟨g1, g2, g3, g4, g5⟩ := hc
      have hw := mm_mr_w hr
      rw [if_neg (by omega), if_neg (by omega), if_neg (by omega), if_pos h1] at hw
      have h6 := hA.2.2.2.2.2.2.1
      have h7 := hA.2.2.2.2.2.2.2.1
      have hE := hA.2.2.2.2.2.1
      obtain ⟨i, rfl⟩ : ∃ i, a = mm_txt i := ⟨a - 1000001, by unfold mm_txt; omega⟩
      have hi : i < 24 := by unfold mm_txt at g2; omega
      have hi2 : mm_txt i - 1000001 = i := by unfold mm_txt; omega
      rw [hi2] at hk
      have hts := hA.2.2.2.2.1
      intro H locs ls hl hR hS
      show W p l e R s m args below meth c H locs _ _ Q (F0 m pc ls (.ref (mm_ad B b aK (mm_txt i)) :: mm_es (mm_ad B b aK) st))
      rw [mm_ad_txt]
      refine mm_goon (va_runV (C := "java/lang/String") (bytes := prog_14_method_54_code) (maxL := 1) (ret := some .int) (n := 0) (b := aK i) (As := []) (rest := mm_es (mm_ad B b aK) st) (Ts := mm_ts) ⟨hA.1, hA.2.1, hA.2.2.1, hA.2.2.2.1, hts⟩ (mm_m_length l (B := B) (b := b) (X := X) (aK := aK) (aV := aV) (dC := dC) (dI := dI) (dT := dT) hi) ⟨⟨rfl, rfl, by show 1 + 1 ≤ _; omega, by show 8 + (1 + 11) + 20 ≤ _; omega, pay_in hts (mm_goodc mm_w_lc), List.mem_cons_self, hts _ mm_w_lc, hts _ mm_w_si, by decide +kernel, fun sig h => by rw [show parseMethodDescriptor mm_yL.desc = some ⟨[], some .int⟩ by decide +kernel] at h; cases h; rfl, by rw [← ho]; exact hts _ hw⟩, hts _ mm_w_li, hts _ mm_w_ls⟩ ⟨fun a U g mk q => ⟨q.1, mm_E.moved (locs := []) q.2 va_S.rf (State.WarmedH.refl _) rfl⟩, mm_Tx.recv hE.2.2.1 hi hS, fun U hU hW => ⟨rfl, mm_E.moved hE hS hW hU⟩⟩ rfl rfl hl.1 rfl (lv_room (by rw [mm_es_cat]; exact g5)) hd ⟨hb1, hb2⟩) (fun v st₀ t H1 L9 h0 ht hL hq => ?_)
      obtain ⟨hv, hh⟩ := hq
      cases hv
      rw [h0] at hh
      have hH : H1 = H := ht.symm.trans hh
      subst hH
      have hL0 : L9 = [] := by
        cases L9 with
        | nil => rfl
        | cons q L => exact absurd (hL q List.mem_cons_self) (fun z => z)
      subst hL0
      rw [List.append_nil]
      exact hk H1 locs ls hl hR hS
    · cases hs
  · rename_i h1
    split at hs
    · rename_i h2
      rcases st with _ | ⟨(k | r1 | k), _ | ⟨(x1 | (_ | a) | x1), st⟩⟩ <;> dsimp only at hs <;> first | (cases hs; done) | skip
      split at hs
      · rename_i hc
        cases hs
        obtain ⟨g1, g2, g0, g3, g4, g5⟩ := hc
        have hw := mm_mr_w hr
        rw [if_neg (by omega), if_neg (by omega), if_neg (by omega), if_neg h1, if_pos h2] at hw
        have h6 := hA.2.2.2.2.2.2.1
        have h7 := hA.2.2.2.2.2.2.2.1
        have hE := hA.2.2.2.2.2.1
        obtain ⟨i, rfl⟩ : ∃ i, a = mm_txt i := ⟨a - 1000001, by unfold mm_txt; omega⟩
        have hi : i < 24 := by unfold mm_txt at g2; omega
        have hi2 : mm_txt i - 1000001 = i := by unfold mm_txt; omega
        rw [hi2] at hk g0
        have hts := hA.2.2.2.2.1
        intro H locs ls hl hR hS
        show W p l e R s m args below meth c H locs _ _ Q (F0 m pc ls (.int k :: .ref (mm_ad B b aK (mm_txt i)) :: mm_es (mm_ad B b aK) st))
        rw [mm_ad_txt]
        refine mm_goon (va_runV (C := "java/lang/String") (bytes := prog_14_method_56_code) (maxL := 2) (ret := some .char) (n := 1) (b := aK i) (As := [.int k]) (rest := mm_es (mm_ad B b aK) st) (Ts := mm_ts) ⟨hA.1, hA.2.1, hA.2.2.1, hA.2.2.2.1, hts⟩ (mm_m_charAt l (B := B) (b := b) (X := X) (aK := aK) (aV := aV) (dC := dC) (dI := dI) (dT := dT) hi g0) ⟨⟨rfl, rfl, by show 3 + 1 ≤ _; omega, by show 8 + (2 + 11) + 64 ≤ _; omega, pay_in hts (mm_goodc mm_w_xc), List.mem_cons_self, hts _ mm_w_xc, hts _ mm_w_si, by decide +kernel, fun sig h => by rw [show parseMethodDescriptor mm_yX.desc = some ⟨[.int], some .char⟩ by decide +kernel] at h; cases h; rfl, by rw [← ho]; exact hts _ hw⟩, hts _ mm_w_xi, hts _ mm_w_xs⟩ ⟨fun a U g mk q => ⟨q.1, mm_E.moved (locs := []) q.2 va_S.rf (State.WarmedH.refl _) rfl⟩, mm_Tx.recv hE.2.2.1 hi hS, fun U hU hW => ⟨rfl, mm_E.moved hE hS hW hU⟩⟩ rfl rfl hl.1 rfl (lv_room (by rw [mm_es_cat]; exact g5)) hd ⟨hb1, hb2⟩) (fun v st₀ t H1 L9 h0 ht hL hq => ?_)
        obtain ⟨hv, hh⟩ := hq
        cases hv
        rw [h0] at hh
        have hH : H1 = H := ht.symm.trans hh
        subst hH
        have hL0 := mm_noL hL
        subst hL0
        rw [List.append_nil]
        exact hk H1 locs ls hl hR hS
      · cases hs
    · cases hs
theorem mm_pre_ob {a : Nat} {q : Nat × List mm_V} {cel : mm_C} (h : mm_ob M a = some q) (hc : mm_cs cel = mm_cs (.inl q)) : mm_sh M <+: mm_sh (M.set a cel) := by
  rw [mm_sh_set (mm_ob_at h) hc]
  exact List.prefix_rfl
theorem mm_pre_ar {a : Nat} {q : Nat × Nat × ((Nat → Int32) ⊕ ((Nat → Int64) ⊕ (Nat → Option Nat)))} {cel : mm_C} (h : mm_ar M a = some q) (hc : mm_cs cel = mm_cs (.inr q)) : mm_sh M <+: mm_sh (M.set a cel) := by
  rw [mm_sh_set (mm_ar_at h) hc]
  exact List.prefix_rfl
theorem mm_pre_new {cel : mm_C} (h : mm_new M cel = some M1) : mm_sh M <+: mm_sh M1 := by
  obtain ⟨-, rfl⟩ := mm_new_e h
  rw [mm_sh, mm_sh, List.map_append]
  exact List.prefix_append _ _
/-- an instruction's memory begins with the old one's shape -/
theorem mm_step_pre {i : Instr} (h : mm_step X y i pc L st M = some (pc1, L1, st1, M1)) : mm_sh M <+: mm_sh M1 := by
  unfold mm_step at h
  repeat' split at h
  all_goals first
    | (cases h; done)
    | (cases h; exact List.prefix_rfl)
    | (obtain ⟨t, -, -, -, -, rfl⟩ := mm_br_e h; exact List.prefix_rfl)
    | (cases h; apply mm_pre_ob; assumption; rfl)
    | (cases h; apply mm_pre_ar; assumption; rfl)
    | (cases h; apply mm_pre_new; assumption)
end MMB
