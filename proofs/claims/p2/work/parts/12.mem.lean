/-! instructions that read and write memory -/
theorem mm_ob_at {M : mm_M} {a : Nat} {q : Nat × List mm_V} (h : mm_ob M a = some q) : M[a]? = some (.inl q) := by
  unfold mm_ob at h
  split at h
  · rename_i q1 h1
    cases h
    exact h1
  · cases h
theorem mm_ar_at {M : mm_M} {a : Nat} {q : Nat × Nat × ((Nat → Int32) ⊕ ((Nat → Int64) ⊕ (Nat → Option Nat)))} (h : mm_ar M a = some q) : M[a]? = some (.inr q) := by
  unfold mm_ar at h
  split at h
  · rename_i q1 h1
    cases h
    exact h1
  · cases h
theorem mm_in_vp {i : Int32} {n : Nat} (h : mm_in i n = true) : vp_in i n := by
  unfold mm_in at h
  simp only [Bool.and_eq_true, Bool.not_eq_true', decide_eq_false_iff_not, decide_eq_true_eq] at h
  intro q
  rcases q with q | q
  · exact h.1 q
  · omega
theorem mm_getD_mem {α : Type} {l : List α} {k : Nat} {d : α} (h : k < l.length) : l.getD k d ∈ l := by
  rw [List.getD_eq_getElem?_getD, List.getElem?_eq_getElem h]
  exact List.getElem_mem h
theorem mm_fld_w {r : Nat} (h : r < mm_FR.length) : Cond.fieldLink (mm_cn (mm_fld r).1) (mm_fld r).2.1 (mm_cn (mm_fld r).2.2.1) (mm_T (mm_fld r).2.2.1 (mm_fld r).2.2.2.1).2.1 (mm_T (mm_fld r).2.2.1 (mm_fld r).2.2.2.1).2.2.1 ∈ mm_ts ∧ (mm_fld r).2.2.1 < 11 ∧ (mm_T (mm_fld r).2.2.1 (mm_fld r).2.2.2.1).1 = mm_cn (mm_fld r).2.2.1 := by
  have h1 := List.all_eq_true.mp mm_FR_ok (mm_fld r) (mm_getD_mem h)
  unfold mm_okF at h1
  simp only [Bool.and_eq_true, decide_eq_true_eq] at h1
  exact ⟨mm_at_ts h1.1 rfl, h1.2.1.1, h1.2.2⟩
theorem mm_uws {ci : Nat} (h : ci < 11) : ∀ w ∈ u_ws (mm_cn ci) (mm_T ci) (mm_N ci), w ∈ mm_ts := by
  intro w hw
  unfold u_ws at hw
  obtain ⟨k, hk, rfl⟩ := List.mem_map.mp hw
  refine mm_at_ts (mm_lay_ok ci h k (List.mem_range.mp hk)) ?_
  unfold u_lay
  split <;> rfl
theorem mm_okv_nf {ad : Nat → Nat} {ty : FieldType} {v : mm_V} (h : mm_okv ty v = true) : narrow ty (mm_ev ad v) = mm_ev ad v ∧ fits ty (mm_ev ad v) = true := by
  unfold mm_okv at h
  split at h
  · exact ⟨rfl, rfl⟩
  · rename_i x
    simp only [Bool.or_eq_true, decide_eq_true_eq] at h
    rcases h with rfl | rfl
    · exact ⟨rfl, rfl⟩
    · exact ⟨rfl, rfl⟩
  · rename_i C r
    cases r <;> exact ⟨rfl, rfl⟩
  · rename_i C r
    cases r <;> exact ⟨rfl, rfl⟩
  · exact ⟨rfl, rfl⟩
  · cases h
section MMM
variable {p : Program} {l : Launch} {e : Env} {R : Room} {s : State} {m : MethodId} {args : Array Value} {below : List Frame} {meth : Method} {c : Code}
variable {B b : Nat} {X : Nat × (Nat → Int32)} {aK aV : Nat → Nat} {dC : Nat → ClassId} {dI : Nat → Nat → Nat} {dT : Nat → ClassId} {n0 s0 : Nat} {Q : State → Prop} {y : Nat}
variable {pc pc1 : Nat} {L L1 : mm_L} {st st1 : List mm_V} {M M1 : mm_M}
theorem mm_R.put {n0 s0 a : Nat} {cel : mm_C} {c0 : mm_C} {H1 : Heap} (hR : M.length ≤ 1000000 ∧ n0 ≤ M.length ∧ s0 ≤ (mm_sh M).sum) (hM : M[a]? = some c0) (hc : mm_cs cel = mm_cs c0) (hP : va_P (dC, dI) mm_k ((mm_wd (mm_ad B b aK) dT M).set a (mm_ad B b aK a, mm_ec (mm_ad B b aK) dT cel)) H1) : mm_R B b aK dC dI dT n0 s0 (M.set a cel) H1 := by
  rw [mm_wd_set] at hP
  refine ⟨by rw [List.length_set]; exact hR.1, by rw [List.length_set]; exact hR.2.1, by rw [mm_sh_set hM hc]; exact hR.2.2, hP⟩
theorem mm_G_set {a : Nat} {cel c0 : mm_C} (hk : mm_G p l e R s m args below meth c B b aK dC dI dT n0 s0 Q y pc1 L1 st1 (M.set a cel)) (hM : M[a]? = some c0) (hc : mm_cs cel = mm_cs c0) {H : Heap} {locs : List Loc} {ls : Array Slot} (hl : lv_has ls (mm_mx y) (mm_el (mm_ad B b aK) L1)) (hR : M.length ≤ 1000000 ∧ n0 ≤ M.length ∧ s0 ≤ (mm_sh M).sum)
    (hP : va_P (dC, dI) mm_k ((mm_wd (mm_ad B b aK) dT M).set a (mm_ad B b aK a, mm_ec (mm_ad B b aK) dT cel)) H) (hS : va_S (fun q => B ≤ q) s.heap H locs) : W p l e R s m args below meth c H locs (M.length - n0) ((mm_sh M).sum - s0) Q (F0 m pc1 ls (mm_es (mm_ad B b aK) st1)) := by
  have h := hk H locs ls hl (mm_R.put hR hM hc hP) hS
  rw [List.length_set, mm_sh_set hM hc] at h
  exact h
theorem mm_x_getfield (r : Nat) (hA : mm_At p R s m args meth c B b X aK aV dC dI dT n0 y) (ho : (mm_fld r).1 = mm_own y) (hr : r < mm_FR.length) (hd : decode (mm_by y) pc = .ok (.getfield (mm_fld r).2.1, 3)) (hs : mm_step X y (.getfield r) pc L st M = some (pc1, L1, st1, M1)) (hk : mm_G p l e R s m args below meth c B b aK dC dI dT n0 s0 Q y pc1 L1 st1 M1) : mm_G p l e R s m args below meth c B b aK dC dI dT n0 s0 Q y pc L st M := by
  dsimp only [mm_step] at hs
  rcases st with _ | ⟨(x1 | (_ | a) | x1), st⟩ <;> dsimp only at hs <;> first | (cases hs; done) | skip
  split at hs
  · rename_i ci fs hob
    split at hs
    · rename_i hc
      split at hs <;> cases hs
      rename_i v hv
      intro H locs ls hl hR hS
      obtain ⟨hw, h11, hT⟩ := mm_fld_w hr
      have hM := mm_ob_at hob
      obtain ⟨rfl, hkN⟩ := hc
      exact va_get (D := (dC, dI)) (C := mm_cn (mm_fld r).2.2.1) (T := mm_T (mm_fld r).2.2.1) (N := mm_N (mm_fld r).2.2.1) (ref := mm_cn (mm_fld r).2.2.1) hA.1 hA.2.1 hA.2.2.2.2.1 (mm_uws h11) hA.2.2.2.1 hA.2.2.2.2.2.1.1 hR.2.2.2 a (mm_wd_get hM) (mm_cl_at h11 (mm_n8 hkN)) (mm_fld r).2.2.2.1 hkN (by rw [← ho]; exact hA.2.2.2.2.1 _ hw) (fun x hx => by rw [hT] at hx; exact hx) (v := mm_ev (mm_ad B b aK) v) (by rw [List.getElem?_map, hv]; rfl) hd (hk H locs ls hl hR hS)
    · cases hs
  · cases hs
theorem mm_x_putfield (r : Nat) (hA : mm_At p R s m args meth c B b X aK aV dC dI dT n0 y) (ho : (mm_fld r).1 = mm_own y) (hr : r < mm_FR.length) (hd : decode (mm_by y) pc = .ok (.putfield (mm_fld r).2.1, 3)) (hs : mm_step X y (.putfield r) pc L st M = some (pc1, L1, st1, M1)) (hk : mm_G p l e R s m args below meth c B b aK dC dI dT n0 s0 Q y pc1 L1 st1 M1) : mm_G p l e R s m args below meth c B b aK dC dI dT n0 s0 Q y pc L st M := by
  dsimp only [mm_step] at hs
  rcases st with _ | ⟨v, _ | ⟨(x1 | (_ | a) | x1), st⟩⟩ <;> dsimp only at hs <;> first | (cases hs; done) | skip
  split at hs
  · rename_i ci fs hob
    split at hs
    · rename_i hc
      cases hs
      intro H locs ls hl hR hS
      obtain ⟨hw, h11, hT⟩ := mm_fld_w hr
      have hM := mm_ob_at hob
      obtain ⟨rfl, hkN, hlen, hok, hfin⟩ := hc
      obtain ⟨hn, hf⟩ := mm_okv_nf (ad := mm_ad B b aK) hok
      have hty := mm_ty_ok _ h11 _ hkN
      have hEv : ∀ (H1 : Heap) (locs1 : List Loc), va_P (dC, dI) mm_k ((mm_wd (mm_ad B b aK) dT M).set a (mm_ad B b aK a, .inr ((mm_fld r).2.2.1, (fs.map (mm_ev (mm_ad B b aK))).set (mm_fld r).2.2.2.1 (mm_ev (mm_ad B b aK) v)))) H1 → va_S (fun q => B ≤ q) s.heap H1 locs1 → W p l e R s m args below meth c H1 locs1 (M.length - n0) ((mm_sh M).sum - s0) Q (F0 m (pc + 3) ls (mm_es (mm_ad B b aK) st1)) := by
        intro H1 locs1 hP1 hS1
        refine mm_G_set hk hM rfl hl ⟨hR.1, hR.2.1, hR.2.2.1⟩ ?_ hS1
        show va_P (dC, dI) mm_k ((mm_wd (mm_ad B b aK) dT M).set a (mm_ad B b aK a, .inr ((mm_fld r).2.2.1, (fs.set (mm_fld r).2.2.2.1 v).map (mm_ev (mm_ad B b aK))))) H1
        rw [List.map_set]
        exact hP1
      by_cases hF : (mm_T (mm_fld r).2.2.1 (mm_fld r).2.2.2.1).2.2.2 = true
      · obtain ⟨hk1, hk2⟩ := hfin hF
        exact va_putF (D := (dC, dI)) (C := mm_cn (mm_fld r).2.2.1) (T := mm_T (mm_fld r).2.2.1) (N := mm_N (mm_fld r).2.2.1) (ref := mm_cn (mm_fld r).2.2.1) hA.1 hA.2.1 hA.2.2.2.2.1 (mm_uws h11) (mm_ty (mm_fld r).2.2.1) (mm_ty_ok _ h11) (mm_nm_ok _ h11) hA.2.2.2.1 hA.2.2.2.2.2.1.1 hR.2.2.2 (mm_wdD hR.1) hS a (mm_wd_get hM) (mm_cl_at h11 (mm_n8 hkN)) (mm_fld r).2.2.2.1 hkN (by rw [← ho]; exact hA.2.2.2.2.1 _ hw) (fun x hx => by rw [hT] at hx; exact hx) hF (hA.2.2.2.2.2.2.2.2.1 hk1) (by rw [hT, hk2]) hty hn hf (by rw [List.length_map]; exact hlen) hd (fun H1 locs1 hP1 _ hS1 => hEv H1 locs1 hP1 hS1)
      · exact va_put (D := (dC, dI)) (C := mm_cn (mm_fld r).2.2.1) (T := mm_T (mm_fld r).2.2.1) (N := mm_N (mm_fld r).2.2.1) (ref := mm_cn (mm_fld r).2.2.1) hA.1 hA.2.1 hA.2.2.2.2.1 (mm_uws h11) (mm_ty (mm_fld r).2.2.1) (mm_ty_ok _ h11) (mm_nm_ok _ h11) hA.2.2.2.1 hA.2.2.2.2.2.1.1 hR.2.2.2 (mm_wdD hR.1) hS a (mm_wd_get hM) (mm_cl_at h11 (mm_n8 hkN)) (mm_fld r).2.2.2.1 hkN (by rw [← ho]; exact hA.2.2.2.2.1 _ hw) (fun x hx => by rw [hT] at hx; exact hx) (by simpa using hF) hty hn hf (by rw [List.length_map]; exact hlen) hd (fun H1 locs1 hP1 _ hS1 => hEv H1 locs1 hP1 hS1)
    · cases hs
  · cases hs
theorem mm_x_caload (hA : mm_At p R s m args meth c B b X aK aV dC dI dT n0 y) (hd : decode (mm_by y) pc = .ok (.caload, 1)) (hs : mm_step X y (.caload) pc L st M = some (pc1, L1, st1, M1)) (hk : mm_G p l e R s m args below meth c B b aK dC dI dT n0 s0 Q y pc1 L1 st1 M1) : mm_G p l e R s m args below meth c B b aK dC dI dT n0 s0 Q y pc L st M := by
  dsimp only [mm_step] at hs
  rcases st with _ | ⟨(i1 | r1 | i1), _ | ⟨(x1 | (_ | a) | x1), st⟩⟩ <;> dsimp only at hs <;> first | (cases hs; done) | skip
  split at hs
  · rename_i t n f har
    split at hs <;> cases hs
    rename_i hc
    obtain ⟨rfl, hin⟩ := hc
    intro H locs ls hl hR hS
    exact va_cald hA.1 hA.2.1 hA.2.2.2.2.2.1.1 hR.2.2.2 a 1 (mm_wd_get (mm_ar_at har)) (mm_tys_at (dT := dT) (t := 1) (by decide)) (mm_in_vp hin) hd (hk H locs ls hl hR hS)
  · cases hs
theorem mm_x_baload (hA : mm_At p R s m args meth c B b X aK aV dC dI dT n0 y) (hd : decode (mm_by y) pc = .ok (.baload, 1)) (hs : mm_step X y (.baload) pc L st M = some (pc1, L1, st1, M1)) (hk : mm_G p l e R s m args below meth c B b aK dC dI dT n0 s0 Q y pc1 L1 st1 M1) : mm_G p l e R s m args below meth c B b aK dC dI dT n0 s0 Q y pc L st M := by
  dsimp only [mm_step] at hs
  rcases st with _ | ⟨(i1 | r1 | i1), _ | ⟨(x1 | (_ | a) | x1), st⟩⟩ <;> dsimp only at hs <;> first | (cases hs; done) | skip
  split at hs
  · rename_i t n f har
    split at hs <;> cases hs
    rename_i hc
    obtain ⟨rfl, hin⟩ := hc
    intro H locs ls hl hR hS
    exact va_zald hA.1 hA.2.1 hA.2.2.2.2.2.1.1 hR.2.2.2 a 2 (mm_wd_get (mm_ar_at har)) (mm_tys_at (dT := dT) (t := 2) (by decide)) (mm_in_vp hin) hd (hk H locs ls hl hR hS)
  · cases hs
theorem mm_x_laload (hA : mm_At p R s m args meth c B b X aK aV dC dI dT n0 y) (hd : decode (mm_by y) pc = .ok (.laload, 1)) (hs : mm_step X y (.laload) pc L st M = some (pc1, L1, st1, M1)) (hk : mm_G p l e R s m args below meth c B b aK dC dI dT n0 s0 Q y pc1 L1 st1 M1) : mm_G p l e R s m args below meth c B b aK dC dI dT n0 s0 Q y pc L st M := by
  dsimp only [mm_step] at hs
  rcases st with _ | ⟨(i1 | r1 | i1), _ | ⟨(x1 | (_ | a) | x1), st⟩⟩ <;> dsimp only at hs <;> first | (cases hs; done) | skip
  split at hs
  · rename_i t n f har
    split at hs <;> cases hs
    rename_i hc
    obtain ⟨rfl, hin⟩ := hc
    intro H locs ls hl hR hS
    exact va_lald hA.1 hA.2.1 hA.2.2.2.2.2.1.1 hR.2.2.2 a 3 (mm_wd_get (mm_ar_at har)) (mm_tys_at (dT := dT) (t := 3) (by decide)) (mm_in_vp hin) hd (hk H locs ls hl hR hS)
  · cases hs
theorem mm_x_aaload (hA : mm_At p R s m args meth c B b X aK aV dC dI dT n0 y) (hd : decode (mm_by y) pc = .ok (.aaload, 1)) (hs : mm_step X y (.aaload) pc L st M = some (pc1, L1, st1, M1)) (hk : mm_G p l e R s m args below meth c B b aK dC dI dT n0 s0 Q y pc1 L1 st1 M1) : mm_G p l e R s m args below meth c B b aK dC dI dT n0 s0 Q y pc L st M := by
  dsimp only [mm_step] at hs
  rcases st with _ | ⟨(i1 | r1 | i1), _ | ⟨(x1 | (_ | a) | x1), st⟩⟩ <;> dsimp only at hs <;> first | (cases hs; done) | skip
  split at hs
  · rename_i t n f har
    split at hs <;> cases hs
    rename_i hc
    obtain ⟨rfl, hin⟩ := hc
    intro H locs ls hl hR hS
    exact va_aldq hA.1 hA.2.1 hA.2.2.2.2.2.1.1 hR.2.2.2 a 4 (mm_wd_get (mm_ar_at har)) (mm_tys_at (dT := dT) (t := 4) (by decide)) (mm_in_vp hin) hd (hk H locs ls hl hR hS)
  · cases hs
theorem mm_x_iaload (hA : mm_At p R s m args meth c B b X aK aV dC dI dT n0 y) (hd : decode (mm_by y) pc = .ok (.iaload, 1)) (hs : mm_step X y (.iaload) pc L st M = some (pc1, L1, st1, M1)) (hk : mm_G p l e R s m args below meth c B b aK dC dI dT n0 s0 Q y pc1 L1 st1 M1) : mm_G p l e R s m args below meth c B b aK dC dI dT n0 s0 Q y pc L st M := by
  dsimp only [mm_step] at hs
  rcases st with _ | ⟨(i1 | r1 | i1), _ | ⟨(x1 | (_ | a) | x1), st⟩⟩ <;> dsimp only at hs <;> first | (cases hs; done) | skip
  split at hs
  · rename_i hsc
    split at hs <;> cases hs
    rename_i hin
    subst hsc
    intro H locs ls hl hR hS
    show W p l e R s m args below meth c H locs _ _ Q (F0 m pc ls (.int i1 :: .ref (mm_ad B b aK mm_scr) :: mm_es (mm_ad B b aK) st))
    rw [mm_ad_scr]
    have hE := hA.2.2.2.2.2.1
    exact va_sld hA.1 hA.2.1 hE.2.1 (Nat.lt_of_lt_of_le hE.2.2.2.2.2.2.2.1 hE.2.2.2.2.2.2.2.2) (Nat.not_le.mpr hE.2.2.2.2.2.2.2.1) hS (mm_in_vp hin) hd (hk H locs ls hl hR hS)
  · split at hs
    · rename_i t n f har
      split at hs <;> cases hs
      rename_i hc
      obtain ⟨rfl, hin⟩ := hc
      intro H locs ls hl hR hS
      exact va_iald hA.1 hA.2.1 hA.2.2.2.2.2.1.1 hR.2.2.2 a 0 (mm_wd_get (mm_ar_at har)) (mm_tys_at (dT := dT) (t := 0) (by decide)) (mm_in_vp hin) hd (hk H locs ls hl hR hS)
    · cases hs
theorem mm_x_arraylength (hA : mm_At p R s m args meth c B b X aK aV dC dI dT n0 y) (hd : decode (mm_by y) pc = .ok (.arraylength, 1)) (hs : mm_step X y (.arraylength) pc L st M = some (pc1, L1, st1, M1)) (hk : mm_G p l e R s m args below meth c B b aK dC dI dT n0 s0 Q y pc1 L1 st1 M1) : mm_G p l e R s m args below meth c B b aK dC dI dT n0 s0 Q y pc L st M := by
  dsimp only [mm_step] at hs
  rcases st with _ | ⟨(x1 | (_ | a) | x1), st⟩ <;> dsimp only at hs <;> first | (cases hs; done) | skip
  split at hs
  · rename_i hsc
    cases hs
    subst hsc
    intro H locs ls hl hR hS
    show W p l e R s m args below meth c H locs _ _ Q (F0 m pc ls (.ref (mm_ad B b aK mm_scr) :: mm_es (mm_ad B b aK) st))
    rw [mm_ad_scr]
    have hE := hA.2.2.2.2.2.1
    exact va_slen hA.1 hA.2.1 hE.2.1 (Nat.lt_of_lt_of_le hE.2.2.2.2.2.2.2.1 hE.2.2.2.2.2.2.2.2) (Nat.not_le.mpr hE.2.2.2.2.2.2.2.1) hS hd (hk H locs ls hl hR hS)
  · split at hs
    · rename_i t n f har
      split at hs <;> cases hs
      rename_i ht
      intro H locs ls hl hR hS
      have hM := mm_wd_get (ad := mm_ad B b aK) (dT := dT) (mm_ar_at har)
      rcases f with f | f | f
      · exact va_alen hA.1 hA.2.1 hA.2.2.2.2.2.1.1 hR.2.2.2 a t hM (mm_tys_at (dT := dT) ht) rfl hd (hk H locs ls hl hR hS)
      · exact va_alen hA.1 hA.2.1 hA.2.2.2.2.2.1.1 hR.2.2.2 a t hM (mm_tys_at (dT := dT) ht) rfl hd (hk H locs ls hl hR hS)
      · exact va_alen hA.1 hA.2.1 hA.2.2.2.2.2.1.1 hR.2.2.2 a t hM (mm_tys_at (dT := dT) ht) rfl hd (hk H locs ls hl hR hS)
    · cases hs
theorem mm_x_iastore (hA : mm_At p R s m args meth c B b X aK aV dC dI dT n0 y) (hd : decode (mm_by y) pc = .ok (.iastore, 1)) (hs : mm_step X y (.iastore) pc L st M = some (pc1, L1, st1, M1)) (hk : mm_G p l e R s m args below meth c B b aK dC dI dT n0 s0 Q y pc1 L1 st1 M1) : mm_G p l e R s m args below meth c B b aK dC dI dT n0 s0 Q y pc L st M := by
  dsimp only [mm_step] at hs
  rcases st with _ | ⟨(x1 | r0 | x1), _ | ⟨(i1 | r1 | i1), _ | ⟨(x2 | (_ | a) | x2), st⟩⟩⟩ <;> dsimp only at hs <;> first | (cases hs; done) | skip
  split at hs
  · rename_i t n f har
    split at hs <;> cases hs
    rename_i hc
    obtain ⟨rfl, hin⟩ := hc
    intro H locs ls hl hR hS
    exact va_iast hA.1 hA.2.1 hA.2.2.2.2.2.1.1 hR.2.2.2 (mm_wdD hR.1) hS a 0 (mm_wd_get (mm_ar_at har)) (mm_tys_at (dT := dT) (t := 0) (by decide)) (mm_in_vp hin) hd (fun H1 locs1 hP1 _ hS1 => mm_G_set hk (mm_ar_at har) rfl hl ⟨hR.1, hR.2.1, hR.2.2.1⟩ hP1 hS1)
  · cases hs
theorem mm_x_castore (hA : mm_At p R s m args meth c B b X aK aV dC dI dT n0 y) (hd : decode (mm_by y) pc = .ok (.castore, 1)) (hs : mm_step X y (.castore) pc L st M = some (pc1, L1, st1, M1)) (hk : mm_G p l e R s m args below meth c B b aK dC dI dT n0 s0 Q y pc1 L1 st1 M1) : mm_G p l e R s m args below meth c B b aK dC dI dT n0 s0 Q y pc L st M := by
  dsimp only [mm_step] at hs
  rcases st with _ | ⟨(x1 | r0 | x1), _ | ⟨(i1 | r1 | i1), _ | ⟨(x2 | (_ | a) | x2), st⟩⟩⟩ <;> dsimp only at hs <;> first | (cases hs; done) | skip
  split at hs
  · rename_i t n f har
    split at hs <;> cases hs
    rename_i hc
    obtain ⟨rfl, hin⟩ := hc
    intro H locs ls hl hR hS
    exact va_cast hA.1 hA.2.1 hA.2.2.2.2.2.1.1 hR.2.2.2 (mm_wdD hR.1) hS a 1 (mm_wd_get (mm_ar_at har)) (mm_tys_at (dT := dT) (t := 1) (by decide)) (mm_in_vp hin) hd (fun H1 locs1 hP1 _ hS1 => mm_G_set hk (mm_ar_at har) rfl hl ⟨hR.1, hR.2.1, hR.2.2.1⟩ hP1 hS1)
  · cases hs
theorem mm_x_bastore (hA : mm_At p R s m args meth c B b X aK aV dC dI dT n0 y) (hd : decode (mm_by y) pc = .ok (.bastore, 1)) (hs : mm_step X y (.bastore) pc L st M = some (pc1, L1, st1, M1)) (hk : mm_G p l e R s m args below meth c B b aK dC dI dT n0 s0 Q y pc1 L1 st1 M1) : mm_G p l e R s m args below meth c B b aK dC dI dT n0 s0 Q y pc L st M := by
  dsimp only [mm_step] at hs
  rcases st with _ | ⟨(x1 | r0 | x1), _ | ⟨(i1 | r1 | i1), _ | ⟨(x2 | (_ | a) | x2), st⟩⟩⟩ <;> dsimp only at hs <;> first | (cases hs; done) | skip
  split at hs
  · rename_i t n f har
    split at hs <;> cases hs
    rename_i hc
    obtain ⟨rfl, hin⟩ := hc
    intro H locs ls hl hR hS
    exact va_zast hA.1 hA.2.1 hA.2.2.2.2.2.1.1 hR.2.2.2 (mm_wdD hR.1) hS a 2 (mm_wd_get (mm_ar_at har)) (mm_tys_at (dT := dT) (t := 2) (by decide)) (mm_in_vp hin) hd (fun H1 locs1 hP1 _ hS1 => mm_G_set hk (mm_ar_at har) rfl hl ⟨hR.1, hR.2.1, hR.2.2.1⟩ hP1 hS1)
  · cases hs
theorem mm_x_lastore (hA : mm_At p R s m args meth c B b X aK aV dC dI dT n0 y) (hd : decode (mm_by y) pc = .ok (.lastore, 1)) (hs : mm_step X y (.lastore) pc L st M = some (pc1, L1, st1, M1)) (hk : mm_G p l e R s m args below meth c B b aK dC dI dT n0 s0 Q y pc1 L1 st1 M1) : mm_G p l e R s m args below meth c B b aK dC dI dT n0 s0 Q y pc L st M := by
  dsimp only [mm_step] at hs
  rcases st with _ | ⟨(x1 | r0 | x1), _ | ⟨(i1 | r1 | i1), _ | ⟨(x2 | (_ | a) | x2), st⟩⟩⟩ <;> dsimp only at hs <;> first | (cases hs; done) | skip
  split at hs
  · rename_i t n f har
    split at hs <;> cases hs
    rename_i hc
    obtain ⟨rfl, hin⟩ := hc
    intro H locs ls hl hR hS
    exact va_last hA.1 hA.2.1 hA.2.2.2.2.2.1.1 hR.2.2.2 (mm_wdD hR.1) hS a 3 (mm_wd_get (mm_ar_at har)) (mm_tys_at (dT := dT) (t := 3) (by decide)) (mm_in_vp hin) hd (fun H1 locs1 hP1 _ hS1 => mm_G_set hk (mm_ar_at har) rfl hl ⟨hR.1, hR.2.1, hR.2.2.1⟩ hP1 hS1)
  · cases hs
theorem mm_x_aastore (hA : mm_At p R s m args meth c B b X aK aV dC dI dT n0 y) (hd : decode (mm_by y) pc = .ok (.aastore, 1)) (hs : mm_step X y (.aastore) pc L st M = some (pc1, L1, st1, M1)) (hk : mm_G p l e R s m args below meth c B b aK dC dI dT n0 s0 Q y pc1 L1 st1 M1) : mm_G p l e R s m args below meth c B b aK dC dI dT n0 s0 Q y pc L st M := by
  dsimp only [mm_step] at hs
  rcases st with _ | ⟨(x1 | (_ | v) | x1), _ | ⟨(i1 | r1 | i1), _ | ⟨(x2 | (_ | a) | x2), st⟩⟩⟩ <;> dsimp only at hs <;> first | (cases hs; done) | skip
  split at hs
  · rename_i t n f ci vs har hob
    split at hs <;> cases hs
    rename_i hc
    obtain ⟨rfl, rfl, hin⟩ := hc
    intro H locs ls hl hR hS
    refine va_astq (r := (mm_cn 4, mm_T 4, mm_N 4)) hA.1 hA.2.1 hA.2.2.2.2.2.1.1 hR.2.2.2 (mm_wdD hR.1) hS a 4 v 4 (mm_wd_get (mm_ar_at har)) (mm_tys_at (dT := dT) (t := 4) (by decide)) (mm_wd_get (mm_ob_at hob)) (mm_cl_at (by decide) (by decide)) (mm_in_vp hin) hd (fun H1 locs1 hP1 _ hS1 => mm_G_set hk (mm_ar_at har) rfl hl ⟨hR.1, hR.2.1, hR.2.2.1⟩ ?_ hS1)
    have e1 : (fun j => (va_up f i1.toNatClampNeg (some v) j).map (mm_ad B b aK)) = va_up (fun j => (f j).map (mm_ad B b aK)) i1.toNatClampNeg (some (mm_ad B b aK v)) := by
      funext j
      unfold va_up
      split <;> rfl
    show va_P (dC, dI) mm_k ((mm_wd (mm_ad B b aK) dT M).set a (mm_ad B b aK a, .inl (dT 4, n, .inr (.inr (.inr (.inr (fun j => (va_up f i1.toNatClampNeg (some v) j).map (mm_ad B b aK)))))))) H1
    rw [e1]
    exact hP1
  · cases hs
theorem mm_x_lcmp (hA : mm_At p R s m args meth c B b X aK aV dC dI dT n0 y) (hd : decode (mm_by y) pc = .ok (.lcmp, 1)) (hs : mm_step X y (.lcmp) pc L st M = some (pc1, L1, st1, M1)) (hk : mm_G p l e R s m args below meth c B b aK dC dI dT n0 s0 Q y pc1 L1 st1 M1) : mm_G p l e R s m args below meth c B b aK dC dI dT n0 s0 Q y pc L st M := by
  dsimp only [mm_step] at hs
  rcases st with _ | ⟨(y1 | r1 | y1), _ | ⟨(x1 | r2 | x1), st⟩⟩ <;> dsimp only at hs <;> cases hs
  intro H locs ls hl hR hS
  exact W.lcmp hA.1 hA.2.1 hd (hk H locs ls hl hR hS)
theorem mm_kr_w {r : Nat} {v : Int32} (h : r < mm_KR.length) (hv : (mm_krf r).2.2.1 = .inl v) : Cond.constant (mm_cn (mm_krf r).1) (mm_krf r).2.1 v ∈ mm_ts := by
  have h1 := List.all_eq_true.mp mm_KR_ok (mm_krf r) (mm_getD_mem h)
  unfold mm_okK at h1
  rw [hv] at h1
  simp only [decide_eq_true_eq] at h1
  exact mm_at_ts h1 rfl
theorem mm_x_ldc (r : Nat) (hA : mm_At p R s m args meth c B b X aK aV dC dI dT n0 y) (ho : (mm_krf r).1 = mm_own y) (hr : r < mm_KR.length) (hd : decode (mm_by y) pc = .ok (.ldc (mm_krf r).2.1, 2)) (hs : mm_step X y (.ldc r) pc L st M = some (pc1, L1, st1, M1)) (hk : mm_G p l e R s m args below meth c B b aK dC dI dT n0 s0 Q y pc1 L1 st1 M1) : mm_G p l e R s m args below meth c B b aK dC dI dT n0 s0 Q y pc L st M := by
  dsimp only [mm_step] at hs
  split at hs
  · rename_i v hv
    cases hs
    intro H locs ls hl hR hS
    exact lv_ldc hA.1 hA.2.1 hA.2.2.2.1 (by rw [← ho]; exact hA.2.2.2.2.1 _ (mm_kr_w hr hv)) hd (hk H locs ls hl hR hS)
  · rename_i j hv
    split at hs <;> cases hs
    intro H locs ls hl hR hS
    have hz := hA.2.2.2.2.2.1.2.2.2.1 r j hr hv
    refine va_ldcS (tx := mm_sl.getD j "") (q := aK j) hA.1 hA.2.1 hA.2.2.2.1 (by rw [← ho]; exact hz) hd ?_
    have h9 := hk H locs ls hl hR hS
    have e9 : mm_es (mm_ad B b aK) (.inr (.inl (some (mm_txt j))) :: st) = .ref (mm_ad B b aK (mm_txt j)) :: mm_es (mm_ad B b aK) st := rfl
    rw [e9, mm_ad_txt] at h9
    exact h9
theorem mm_x_ldc_w (r : Nat) (hA : mm_At p R s m args meth c B b X aK aV dC dI dT n0 y) (ho : (mm_krf r).1 = mm_own y) (hr : r < mm_KR.length) (hd : decode (mm_by y) pc = .ok (.ldc_w (mm_krf r).2.1, 3)) (hs : mm_step X y (.ldc_w r) pc L st M = some (pc1, L1, st1, M1)) (hk : mm_G p l e R s m args below meth c B b aK dC dI dT n0 s0 Q y pc1 L1 st1 M1) : mm_G p l e R s m args below meth c B b aK dC dI dT n0 s0 Q y pc L st M := by
  dsimp only [mm_step] at hs
  split at hs
  · rename_i v hv
    cases hs
    intro H locs ls hl hR hS
    exact lv_ldcw hA.1 hA.2.1 hA.2.2.2.1 (by rw [← ho]; exact hA.2.2.2.2.1 _ (mm_kr_w hr hv)) hd (hk H locs ls hl hR hS)
  · cases hs
theorem mm_k2_w {r : Nat} (h : r < mm_K2.length) : Cond.constantLong (mm_cn (mm_k2f r).1) (mm_k2f r).2.1 (mm_k2f r).2.2.1 ∈ mm_ts := by
  have h1 := List.all_eq_true.mp mm_K2_ok (mm_k2f r) (mm_getD_mem h)
  unfold mm_ok2 at h1
  simp only [decide_eq_true_eq] at h1
  exact mm_at_ts h1 rfl
theorem mm_x_ldc2_w (r : Nat) (hA : mm_At p R s m args meth c B b X aK aV dC dI dT n0 y) (ho : (mm_k2f r).1 = mm_own y) (hr : r < mm_K2.length) (hd : decode (mm_by y) pc = .ok (.ldc2_w (mm_k2f r).2.1, 3)) (hs : mm_step X y (.ldc2_w r) pc L st M = some (pc1, L1, st1, M1)) (hk : mm_G p l e R s m args below meth c B b aK dC dI dT n0 s0 Q y pc1 L1 st1 M1) : mm_G p l e R s m args below meth c B b aK dC dI dT n0 s0 Q y pc L st M := by
  dsimp only [mm_step] at hs
  cases hs
  intro H locs ls hl hR hS
  exact lv_ldc2 hA.1 hA.2.1 hA.2.2.2.1 (by rw [← ho]; exact hA.2.2.2.2.1 _ (mm_k2_w hr)) hd (hk H locs ls hl hR hS)
end MMM
