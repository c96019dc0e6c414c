/-! SOUNDNESS -/
section MMZ
variable {p : Program} {l : Launch} {e : Env} {R : Room} {s : State} {m : MethodId} {args : Array Value} {below : List Frame} {meth : Method} {c : Code}
variable {B b : Nat} {X : Nat × (Nat → Int32)} {aK aV : Nat → Nat} {dC : Nat → ClassId} {dI : Nat → Nat → Nat} {dT : Nat → ClassId} {n0 s0 : Nat} {Q : State → Prop} {y : Nat}
variable {pc : Nat} {L : mm_L} {st rest vs : List mm_V} {M ME : mm_M}
theorem mm_after {H : Heap} {locs : List Loc} {ls : Array Slot} {st0 : List Value} {a9 : Array Value} (hr : va_Run p l e R s m args below meth c H locs (M.length - n0) ((mm_sh M).sum - s0) (ME.length - M.length) ((mm_sh ME).sum - (mm_sh M).sum) (F0 m pc ls st0) (mm_es (mm_ad B b aK) rest) (mm_Qc B b aK dC dI dT vs ME a9) (fun q => B ≤ q)) (hpre : M.length ≤ ME.length ∧ (mm_sh M).sum ≤ (mm_sh ME).sum) (hvs : vs.length ≤ 1) (hl : lv_has ls (mm_mx y) (mm_el (mm_ad B b aK) L)) (hR : mm_R B b aK dC dI dT n0 s0 M H) (hS : va_S (fun q => B ≤ q) s.heap H locs)
    (hk : mm_G p l e R s m args below meth c B b aK dC dI dT n0 s0 Q y (pc + 3) L (vs ++ rest) ME) : W p l e R s m args below meth c H locs (M.length - n0) ((mm_sh M).sum - s0) Q (F0 m pc ls st0) := by
  refine mm_goon hr (fun v st₀ t H1 L9 h0 ht hL hq => ?_)
  obtain ⟨hv, h6, hP, hF⟩ := hq
  have hr1 := hR.2.1
  have hr2 := hR.2.2.1
  rw [ht] at hP
  have hS1 : va_S (fun q => B ≤ q) s.heap H1 (locs ++ L9) := by
    refine ⟨?_, fun q a1 a2 => ?_, fun q hq => ?_⟩
    · have h1 := hF.1
      rw [h0, ht] at h1
      exact Nat.le_trans hS.1 h1
    · have h1 := hF.2 q (by rw [h0]; exact Nat.lt_of_lt_of_le a1 hS.1) a2
      rw [h0, ht] at h1
      exact h1.trans (hS.2.1 q a1 a2)
    · rcases List.mem_append.mp hq with h | h
      · exact hS.2.2 q h
      · exact hL q h
  have h9 := hk H1 (locs ++ L9) ls hl ⟨h6, by omega, by omega, hP⟩ hS1
  have e1 : ME.length - n0 = M.length - n0 + (ME.length - M.length) := by omega
  have e2 : (mm_sh ME).sum - s0 = (mm_sh M).sum - s0 + ((mm_sh ME).sum - (mm_sh M).sum) := by omega
  have e3 : v.toList ++ mm_es (mm_ad B b aK) rest = mm_es (mm_ad B b aK) (vs ++ rest) := by
    have hv1 : v = (mm_es (mm_ad B b aK) vs).head? := by injection hv
    rw [hv1]
    rcases vs with _ | ⟨x, _ | ⟨z, vs⟩⟩
    · rfl
    · rfl
    · simp at hvs
  rw [e1, e2, ← e3] at h9
  exact h9
theorem mm_end_len {z : Nat} {i : Instr} (h : mm_end z i st = some vs) : vs.length ≤ 1 := by
  unfold mm_end at h
  split at h
  · cases h; exact Nat.le_refl _
  · split at h
    · cases h; exact Nat.le_refl _
    · cases h
  · cases h; exact Nat.le_refl _
  · cases h; exact Nat.le_refl _
  · cases h; exact Nat.zero_le _
  · cases h
theorem mm_link {r z : Nat} (hr : r < mm_MR.length) (h : z = (mm_mr r).2.2.1) (hz : z < 175) : Cond.methodLink (mm_cn (mm_mr r).1) (mm_mr r).2.1 (mm_nm z) ∈ mm_ts := by
  have hw := mm_mr_w hr
  rw [if_neg (by omega), if_neg (by omega), if_neg (by omega), if_neg (by omega), if_neg (by omega), ← h] at hw
  exact hw
theorem mm_blind (As : List mm_V) : FrameBlind (mm_Pc B b X aK aV dC dI dT As M) := fun a U g mk q => ⟨q.1, mm_E.moved (locs := []) q.2.1 va_S.rf (State.WarmedH.refl _) rfl, q.2.2⟩
set_option maxHeartbeats 2000000 in
theorem mm_sound (l : Launch) (B b : Nat) (X : Nat × (Nat → Int32)) (aK aV : Nat → Nat) (dC : Nat → ClassId) (dI : Nat → Nat → Nat) (dT : Nat → ClassId) : ∀ n, mm_Sd l B b X aK aV dC dI dT n := by
  intro n
  induction n with
  | zero => intro p e R s m args below meth c n0 s0 Q y pc L st M pc1 L1 st1 M1 h; cases h
  | succ n ih =>
    intro p e R s m args below meth c n0 s0 Q y pc L st M pc1 L1 st1 M1 h hA hb1 hb2 hk
    unfold mm_run at h
    split at h
    · cases h
    · rename_i i len hfet
      split at h
      · cases h
        exact hk
      · split at h
        · rename_i z As rest hcall
          split at h
          · cases h
          · rename_i pcE LE stE ME hrun
            split at h
            · cases h
            · rename_i iE lenE hfE
              split at h
              · cases h
              · rename_i vs hend
                have hk1 := ih p e R s m args below meth c n0 s0 Q y (pc + 3) L (vs ++ rest) ME pc1 L1 st1 M1 h hA hb1 hb2 hk
                have hp1 := mm_pre_len (mm_run_pre _ _ _ _ _ _ _ hrun)
                have hp2 := mm_pre_len (mm_run_pre _ _ _ _ _ _ _ h)
                dsimp only at hp1 hp2
                have hvs := mm_end_len hend
                obtain ⟨ho, hd⟩ := mm_dec hfet
                have hts := hA.2.2.2.2.1
                have hE := hA.2.2.2.2.2.1
                have h6 := hA.2.2.2.2.2.2.1
                have h7 := hA.2.2.2.2.2.2.2.1
                unfold mm_call at hcall
                split at hcall
                · rename_i r
                  simp only [mm_ownOk, Bool.and_eq_true, decide_eq_true_eq] at ho
                  split at hcall
                  · rename_i z1 a As1 rest1 hgo
                    split at hcall
                    · rename_i ci fs hob
                      split at hcall
                      · rename_i hci
                        cases hcall
                        obtain ⟨g1, g2, g3, g4, g5, g6, g7, g8, g9, g10⟩ := mm_go_e hgo
                        obtain ⟨y1, y2, y3, y4, y5, y6, y7, y8, y9, y10, y11, y12⟩ := mm_Y_at g2
                        have met := mm_met (l := l) ih g2 g9 g6 g7 hrun hfE hend
                        have hcw := mm_at_ts (mm_cw z g2) rfl
                        rw [if_neg (by omega)] at y5
                        intro H locs ls hl hR hS
                        refine mm_sized hA.2.2.2.2.2.2.2.2.2 hR hS (fun hz => ?_)
                        have hr1 := hR.2.1
                        have hr2 := hR.2.2.1
                        refine mm_after (va_runV (C := mm_cn (mm_own z)) (bytes := mm_by z) (maxL := mm_mx z) (ret := mm_rt z) (n := mm_na z - 1) (b := mm_ad B b aK a) (As := mm_es (mm_ad B b aK) As1) (rest := mm_es (mm_ad B b aK) rest) (Ts := mm_ts) ⟨hA.1, hA.2.1, hA.2.2.1, hA.2.2.2.1, hts⟩ met
                          ⟨⟨rfl, rfl, by show mm_fr z + 1 ≤ _; omega, by show 8 + (mm_mx z + 11) + mm_lo z ≤ _; omega, pay_in hts (mm_goodc hcw), List.mem_cons_self, hts _ hcw, by rw [y1]; exact hts _ (mm_at_ts (mm_init_ok _ y6) rfl), ⟨y2, y3⟩, fun sig hsig => by rw [hsig] at y5; exact (Option.some.inj y5).symm, by rw [← ho.1]; exact hts _ (mm_link ho.2 g1 g2)⟩, hts _ (y10 g3).1, hts _ (y10 g3).2⟩
                          ⟨mm_blind _, (by have h9 := va_recv hE.1 hR.2.2.2 (mm_cl_at hci.2.1 hci.2.2) (mm_wd_get (mm_ob_at hob)); rw [← hci.1]; exact h9), fun U hU hW => ⟨rfl, mm_E.moved hE hS hW hU, by rw [hU]; exact hz, hR.1, by rw [hU]; exact hR.2.2.2⟩⟩
                          rfl (by rw [List.length_map]; simp at g6; omega) hl.1 (by show mm_es (mm_ad B b aK) st = _; rw [g10]; simp [mm_es]; rfl) (lv_room (by rw [mm_es_cat]; exact g8)) hd ⟨by omega, by omega⟩) hp1 hvs hl hR hS hk1
                      · cases hcall
                    · cases hcall
                  · cases hcall
                · rename_i r
                  simp only [mm_ownOk, Bool.and_eq_true, decide_eq_true_eq] at ho
                  split at hcall
                  · rename_i z1 a As1 rest1 hgo
                    cases hcall
                    obtain ⟨g1, g2, g3, g4, g5, g6, g7, g8, g9, g10⟩ := mm_go_e hgo
                    obtain ⟨y1, y2, y3, y4, y5, y6, y7, y8, y9, y10, y11, y12⟩ := mm_Y_at g2
                    have met := mm_met (l := l) ih g2 g9 g6 g7 hrun hfE hend
                    have hcw := mm_at_ts (mm_cw z g2) rfl
                    rw [if_neg (by omega)] at y5
                    rw [y9 g3] at met hcw
                    intro H locs ls hl hR hS
                    refine mm_sized hA.2.2.2.2.2.2.2.2.2 hR hS (fun hz => ?_)
                    have hr1 := hR.2.1
                    have hr2 := hR.2.2.1
                    refine mm_after (va_runI (bytes := mm_by z) (maxL := mm_mx z) (n := mm_na z - 1) (b := mm_ad B b aK a) (As := mm_es (mm_ad B b aK) As1) (rest := mm_es (mm_ad B b aK) rest) (Ts := mm_ts) ⟨hA.1, hA.2.1, hA.2.2.1, hA.2.2.2.1, hts⟩ met
                      ⟨⟨rfl, rfl, by show mm_fr z + 1 ≤ _; omega, by show 8 + (mm_mx z + 11) + mm_lo z ≤ _; omega, pay_in hts (mm_goodc hcw), List.mem_cons_self, hts _ hcw, by rw [y1]; exact hts _ (mm_at_ts (mm_init_ok _ y6) rfl), ⟨y2, y3⟩, fun sig hsig => by rw [hsig] at y5; exact (Option.some.inj y5).symm, by rw [← ho.1]; exact hts _ (mm_link ho.2 g1 g2)⟩, y8.mp g3, hts _ (y11 g3)⟩
                      ⟨mm_blind _, fun U hU hW => ⟨rfl, mm_E.moved hE hS hW hU, by rw [hU]; exact hz, hR.1, by rw [hU]; exact hR.2.2.2⟩⟩
                      rfl (by rw [List.length_map]; simp at g6; omega) hl.1 (by show mm_es (mm_ad B b aK) st = _; rw [g10]; simp [mm_es]; rfl) (lv_room (by rw [mm_es_cat]; exact g8)) hd ⟨by omega, by omega⟩) hp1 hvs hl hR hS hk1
                  · cases hcall
                · rename_i r
                  simp only [mm_ownOk, Bool.and_eq_true, decide_eq_true_eq] at ho
                  obtain ⟨g1, g2, g3, g4, g5, g6, g7, g8, g9, g10⟩ := mm_go_e hcall
                  obtain ⟨y1, y2, y3, y4, y5, y6, y7, y8, y9, y10, y11, y12⟩ := mm_Y_at g2
                  have met := mm_met (l := l) ih g2 g9 g6 g7 hrun hfE hend
                  have hcw := mm_at_ts (mm_cw z g2) rfl
                  rw [if_pos g3] at y5
                  intro H locs ls hl hR hS
                  refine mm_sized hA.2.2.2.2.2.2.2.2.2 hR hS (fun hz => ?_)
                  have hr1 := hR.2.1
                  have hr2 := hR.2.2.1
                  refine mm_after (va_runS (bytes := mm_by z) (maxL := mm_mx z) (ret := mm_rt z) (n := mm_na z) (As := mm_es (mm_ad B b aK) As) (rest := mm_es (mm_ad B b aK) rest) (Ts := mm_ts) ⟨hA.1, hA.2.1, hA.2.2.1, hA.2.2.2.1, hts⟩ met
                    ⟨⟨rfl, rfl, by show mm_fr z + 1 ≤ _; omega, by show 8 + (mm_mx z + 11) + mm_lo z ≤ _; omega, pay_in hts (mm_goodc hcw), List.mem_cons_self, hts _ hcw, by rw [y1]; exact hts _ (mm_at_ts (mm_init_ok _ y6) rfl), ⟨y2, y3⟩, fun sig hsig => by rw [hsig] at y5; exact (Option.some.inj y5).symm, by rw [← ho.1]; exact hts _ (mm_link ho.2 g1 g2)⟩, hts _ (y12 g3)⟩
                    ⟨mm_blind _, fun U hU hW => ⟨rfl, mm_E.moved hE hS hW hU, by rw [hU]; exact hz, hR.1, by rw [hU]; exact hR.2.2.2⟩⟩
                    rfl (by rw [List.length_map]; exact g6) hl.1 (by show mm_es (mm_ad B b aK) st = _; rw [g10]; simp [mm_es]) (lv_room (by rw [mm_es_cat]; exact g8)) hd ⟨by omega, by omega⟩) hp1 hvs hl hR hS hk1
                · cases hcall
        · split at h
          · cases h
          · rename_i pc2 L2 st2 M2 hstep
            have hp2 := mm_pre_len (mm_run_pre _ _ _ _ _ _ _ h)
            dsimp only at hp2
            have hk1 := ih p e R s m args below meth c n0 s0 Q y pc2 L2 st2 M2 pc1 L1 st1 M1 h hA hb1 hb2 hk
            exact mm_step_ok hfet hA (by omega) (by omega) hstep hk1
end MMZ
