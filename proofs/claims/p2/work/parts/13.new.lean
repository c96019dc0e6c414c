/-! instructions that make cells -/
theorem mm_ac_ok : ∀ t, t < 4 → ∃ k : Nat, lw_tbl[k]? = some (Cond.arrayClass (mm_at t)) := by
  intro t ht
  match t, ht with
  | 0, _ => exact ⟨125, by decide +kernel⟩
  | 1, _ => exact ⟨347, by decide +kernel⟩
  | 2, _ => exact ⟨1022, by decide +kernel⟩
  | 3, _ => exact ⟨1023, by decide +kernel⟩
theorem mm_len_app (M : mm_M) (cel : mm_C) : (M ++ [cel]).length = M.length + 1 := by simp
theorem mm_sh_app (M : mm_M) (cel : mm_C) : (mm_sh (M ++ [cel])).sum = (mm_sh M).sum + mm_cs cel := by simp [mm_sh]
section MMN
variable {p : Program} {l : Launch} {e : Env} {R : Room} {s : State} {m : MethodId} {args : Array Value} {below : List Frame} {meth : Method} {c : Code}
variable {B b : Nat} {X : Nat × (Nat → Int32)} {aK aV : Nat → Nat} {dC : Nat → ClassId} {dI : Nat → Nat → Nat} {dT : Nat → ClassId} {n0 s0 : Nat} {Q : State → Prop} {y : Nat}
variable {pc pc1 : Nat} {L L1 : mm_L} {st st1 : List mm_V} {M M1 : mm_M}
/-- the heap's size, by what the machine counts -/
theorem mm_sized {H : Heap} {locs : List Loc} {slots : Nat} {g : JFrame} (h0 : s.heap.size = B + n0) (hR : mm_R B b aK dC dI dT n0 s0 M H) (hS : va_S (fun q => B ≤ q) s.heap H locs) (k : H.size = B + M.length → W p l e R s m args below meth c H locs (M.length - n0) slots Q g) : W p l e R s m args below meth c H locs (M.length - n0) slots Q g := by
  intro T hT X
  refine k ?_ T hT X
  have h1 : T.heap.size ≤ s.heap.size + (M.length - n0) := X.same.2.2.1
  rw [hT] at h1
  have h2 := hR.2.1
  have h3 : B + M.length ≤ H.size := by
    by_cases hz : M.length = 0
    · have := hS.1
      omega
    · have hlt : M.length - 1 < M.length := by omega
      have hM : M[M.length - 1]? = some (M[M.length - 1]'hlt) := List.getElem?_eq_getElem hlt
      have h4 := (hR.2.2.2 _ _ (mm_wd_get hM)).lt
      have h5 : mm_ad B b aK (M.length - 1) = B + (M.length - 1) := mm_ad_lt (by have := hR.1; omega)
      have h6 : mm_ad B b aK (M.length - 1) < H.size := h4
      omega
  omega
theorem mm_new_e {M1 : mm_M} {cel : mm_C} (h : mm_new M cel = some M1) : M.length < 1000000 ∧ M1 = M ++ [cel] := by
  unfold mm_new at h
  split at h
  · rename_i hl
    cases h
    exact ⟨hl, rfl⟩
  · cases h
/-- behind a making: the new memory holds, and what was, stays -/
theorem mm_G_app {cel : mm_C} (hlt : M.length < 1000000) (hk : mm_G p l e R s m args below meth c B b aK dC dI dT n0 s0 Q y pc1 L1 (.inr (.inl (some M.length)) :: st) (M ++ [cel])) {H H1 : Heap} {locs : List Loc} {ls : Array Slot} (hl : lv_has ls (mm_mx y) (mm_el (mm_ad B b aK) L1)) (hR : mm_R B b aK dC dI dT n0 s0 M H) (hS : va_S (fun q => B ≤ q) s.heap H locs) (hz : H.size = B + M.length)
    (h1 : H1.size = H.size + 1) (h2 : ∀ q, q < H.size → H1[q]? = H[q]?) (h3 : va_at (dC, dI) mm_k (H.size, mm_ec (mm_ad B b aK) dT cel) H1) :
    W p l e R s m args below meth c H1 locs (M.length - n0 + 1) ((mm_sh M).sum - s0 + mm_cs cel) Q (F0 m pc1 ls (.ref H.size :: mm_es (mm_ad B b aK) st)) := by
  have hR1 : mm_R B b aK dC dI dT n0 s0 (M ++ [cel]) H1 := by
    have hr := hR.2.1
    have hr2 := hR.2.2.1
    refine ⟨by rw [mm_len_app]; omega, by rw [mm_len_app]; omega, by rw [mm_sh_app]; omega, ?_⟩
    rw [mm_wd_app]
    refine (hR.2.2.2.kept (fun k q hk => h2 _ ((hR.2.2.2 k q hk).lt))).app (fun k q hq => ?_)
    have hk1 : k < 1 := (List.getElem?_eq_some_iff.mp hq).1
    rw [show k = 0 by omega] at hq
    cases hq
    rw [mm_ad_lt hlt, ← hz]
    exact h3
  have hS1 : va_S (fun q => B ≤ q) s.heap H1 locs := ⟨by have := hS.1; omega, fun q a1 a2 => (h2 q (Nat.lt_of_lt_of_le a1 hS.1)).trans (hS.2.1 q a1 a2), hS.2.2⟩
  have h := hk H1 locs ls hl hR1 hS1
  have e1 : (M ++ [cel]).length - n0 = M.length - n0 + 1 := by
    have := hR.2.1
    rw [mm_len_app]
    omega
  have e2 : (mm_sh (M ++ [cel])).sum - s0 = (mm_sh M).sum - s0 + mm_cs cel := by
    have := hR.2.2.1
    rw [mm_sh_app]
    omega
  have e3 : mm_es (mm_ad B b aK) (.inr (.inl (some M.length)) :: st) = .ref (mm_ad B b aK M.length) :: mm_es (mm_ad B b aK) st := rfl
  rw [e1, e2, e3, mm_ad_lt hlt, ← hz] at h
  exact h
theorem mm_cr_w {r : Nat} (h : r < mm_CR.length) : Cond.classLink (mm_cn (mm_crf r).1) (mm_crf r).2.1 (mm_cn (mm_crf r).2.2.1) ∈ mm_ts ∧ (mm_crf r).2.2.1 < 11 ∧ ¬ (mm_crf r).2.2.1 = 8 := by
  have h1 := List.all_eq_true.mp mm_CR_ok (mm_crf r) (mm_getD_mem h)
  unfold mm_okC at h1
  simp only [Bool.and_eq_true, decide_eq_true_eq, Bool.not_eq_true', decide_eq_false_iff_not] at h1
  exact ⟨mm_at_ts h1.1.1 rfl, h1.1.2, h1.2⟩
theorem mm_ty_nf : ∀ ci, ci < 11 → ∀ k, k < mm_N ci → ¬ mm_ty ci k = .float ∧ ¬ mm_ty ci k = .double := by decide +kernel
theorem mm_dv_ev (ad : Nat → Nat) : ∀ ci, ci < 11 → ∀ k, k < mm_N ci → defaultValue (mm_ty ci k) = mm_ev ad (mm_dv (mm_ty ci k)) := by
  intro ci h1 k h2
  obtain ⟨g1, g2⟩ := mm_ty_nf ci h1 k h2
  cases hh : mm_ty ci k <;> first | rfl | exact absurd hh g1 | exact absurd hh g2
theorem mm_x_new (r : Nat) (hA : mm_At p R s m args meth c B b X aK aV dC dI dT n0 y) (ho : (mm_crf r).1 = mm_own y) (hr : r < mm_CR.length) (hb1 : M1.length - n0 ≤ R.cells) (hb2 : (mm_sh M1).sum - s0 ≤ R.slots) (hd : decode (mm_by y) pc = .ok (.new (mm_crf r).2.1, 3)) (hs : mm_step X y (.new r) pc L st M = some (pc1, L1, st1, M1)) (hk : mm_G p l e R s m args below meth c B b aK dC dI dT n0 s0 Q y pc1 L1 st1 M1) : mm_G p l e R s m args below meth c B b aK dC dI dT n0 s0 Q y pc L st M := by
  dsimp only [mm_step] at hs
  split at hs
  · split at hs
    · rename_i M2 hnew
      cases hs
      obtain ⟨hlt, rfl⟩ := mm_new_e hnew
      obtain ⟨hw, h11, h8⟩ := mm_cr_w hr
      intro H locs ls hl hR hS
      refine mm_sized hA.2.2.2.2.2.2.2.2.2 hR hS (fun hz => ?_)
      have hKn := hA.2.2.2.2.2.1.1.1 _ _ (mm_cl_at h11 h8)
      have hr1 := hR.2.1
      have hr2 := hR.2.2.1
      refine W.newcK hA.1 hA.2.1 hA.2.2.2.1 (by rw [← ho]; exact hA.2.2.2.2.1 _ hw) (hA.2.2.2.2.1 _ (mm_at_ts (mm_inst_ok _ h11 h8) rfl)) (hA.2.2.2.2.1 _ (mm_at_ts (mm_init_ok _ (by omega)) rfl)) rfl hd (by rw [mm_len_app] at hb1; omega) (by rw [mm_sh_app] at hb2; have : mm_cs (.inl ((mm_crf r).2.2.1, (mm_fl.getD (mm_crf r).2.2.1 []).map (fun q => mm_dv q.2.2.2.2))) = mm_N (mm_crf r).2.2.1 := rfl; omega) hKn.2.1 rfl fun H1 kC hkC e1 z1 o1 => ?_
      refine mm_G_app hlt hk hl hR hS hz z1 o1 ?_
      refine ⟨_, mm_cl_at h11 h8, (u_born (mm_ty (mm_crf r).2.2.1) hA.2.2.2.2.1 (mm_uws h11) hKn hkC e1 (mm_ty_ok _ h11)).to (fun j hj => ?_)⟩
      have hj' : j < mm_N (mm_crf r).2.2.1 := hj
      rw [mm_dv_ev (mm_ad B b aK) _ h11 j hj']
      show _ = vp_V (((mm_fl.getD (mm_crf r).2.2.1 []).map (fun q => mm_dv q.2.2.2.2)).map (mm_ev (mm_ad B b aK))) j
      unfold mm_N at hj'
      unfold vp_V mm_ty mm_fe
      generalize mm_fl.getD (mm_crf r).2.2.1 [] = fl at hj' ⊢
      simp only [List.getD_eq_getElem?_getD, List.getElem?_map]
      rw [List.getElem?_eq_getElem hj']
      rfl
    · cases hs
  · cases hs
theorem mm_K_at (h : va_K (dC, dI) mm_k (mm_tys dT) s) {t : Nat} (ht : t < 4) : s.vm.findClass ("[" ++ (mm_at t).toString) = some (dT t) := by
  have h1 := (h.2 t _ (mm_tys_at (dT := dT) (by omega))).2
  match t, ht, h1 with
  | 0, _, h1 => exact h1
  | 1, _, h1 => exact h1
  | 2, _, h1 => exact h1
  | 3, _, h1 => exact h1
theorem mm_newarr {t : Nat} {at_ : ArrayType} (ht : t < 4) (hat : newarray.typeOf at_ = mm_at t) {n : Int32} {cel : mm_C} {a0 : vp_A} (hcs : mm_cs cel = n.toNatClampNeg) (hce : mm_ec (mm_ad B b aK) dT cel = .inl (dT t, a0)) (hvc : vp_cell (dT t) a0 = arrV (dT t) n.toNatClampNeg (fun _ => defaultValue (mm_at t))) (hA : mm_At p R s m args meth c B b X aK aV dC dI dT n0 y) (hb1 : (M ++ [cel]).length - n0 ≤ R.cells) (hb2 : (mm_sh (M ++ [cel])).sum - s0 ≤ R.slots) (hn : ¬ n < 0) (hn2 : ¬ 67108864 < n.toNatClampNeg) (hlt : M.length < 1000000) (hd : decode (mm_by y) pc = .ok (.newarray at_, 2))
    (hk : mm_G p l e R s m args below meth c B b aK dC dI dT n0 s0 Q y (pc + 2) L (.inr (.inl (some M.length)) :: st) (M ++ [cel])) : mm_G p l e R s m args below meth c B b aK dC dI dT n0 s0 Q y pc L (.inl n :: st) M := by
  intro H locs ls hl hR hS
  refine mm_sized hA.2.2.2.2.2.2.2.2.2 hR hS (fun hz => ?_)
  have hr1 := hR.2.1
  have hr2 := hR.2.2.1
  obtain ⟨k, hk1⟩ := mm_ac_ok t ht
  have hcb : n.toNatClampNeg * componentBytes (newarray.typeOf at_) ≤ 536870912 := by
    have : componentBytes (newarray.typeOf at_) ≤ 8 := by cases at_ <;> decide
    calc n.toNatClampNeg * componentBytes (newarray.typeOf at_) ≤ 67108864 * 8 := Nat.mul_le_mul (by omega) this
      _ = 536870912 := by decide
  refine va_newaK hA.1 hA.2.1 (by rw [hat]; exact hA.2.2.2.2.1 _ (mm_at_ts hk1 rfl)) rfl hd rfl hn rfl hcb (by rw [mm_len_app] at hb1; omega) (by rw [mm_sh_app, hcs] at hb2; omega) rfl fun H1 cA e1 z1 o1 hAr hNm => ?_
  rw [hat] at hNm
  have hcA : cA = dT t := Option.some.inj (hNm.symm.trans (mm_K_at hA.2.2.2.2.2.1.1 ht))
  subst hcA
  have h9 := mm_G_app hlt hk hl hR hS hz z1 o1 (by
    rw [hce]
    show H1[H.size]? = some (vp_cell _ _)
    rw [e1, hat, hvc])
  rw [hcs] at h9
  exact h9
theorem mm_x_newarray (at_ : ArrayType) (hA : mm_At p R s m args meth c B b X aK aV dC dI dT n0 y) (hb1 : M1.length - n0 ≤ R.cells) (hb2 : (mm_sh M1).sum - s0 ≤ R.slots) (hd : decode (mm_by y) pc = .ok (.newarray at_, 2)) (hs : mm_step X y (.newarray at_) pc L st M = some (pc1, L1, st1, M1)) (hk : mm_G p l e R s m args below meth c B b aK dC dI dT n0 s0 Q y pc1 L1 st1 M1) : mm_G p l e R s m args below meth c B b aK dC dI dT n0 s0 Q y pc L st M := by
  dsimp only [mm_step] at hs
  rcases st with _ | ⟨(n | r1 | n), st⟩ <;> dsimp only at hs <;> first | (cases hs; done) | skip
  split at hs
  · cases hs
  · rename_i hn
    split at hs
    · cases hs
    · rename_i hn2
      cases at_ <;> dsimp only at hs <;> first | (cases hs; done) | skip
      · split at hs <;> cases hs
        rename_i hnew
        obtain ⟨hlt, rfl⟩ := mm_new_e hnew
        exact mm_newarr (t := 2) (by decide) rfl rfl rfl rfl hA hb1 hb2 hn hn2 hlt hd hk
      · split at hs <;> cases hs
        rename_i hnew
        obtain ⟨hlt, rfl⟩ := mm_new_e hnew
        exact mm_newarr (t := 1) (by decide) rfl rfl rfl rfl hA hb1 hb2 hn hn2 hlt hd hk
      · split at hs <;> cases hs
        rename_i hnew
        obtain ⟨hlt, rfl⟩ := mm_new_e hnew
        exact mm_newarr (t := 0) (by decide) rfl rfl rfl rfl hA hb1 hb2 hn hn2 hlt hd hk
      · split at hs <;> cases hs
        rename_i hnew
        obtain ⟨hlt, rfl⟩ := mm_new_e hnew
        exact mm_newarr (t := 3) (by decide) rfl rfl rfl rfl hA hb1 hb2 hn hn2 hlt hd hk
theorem mm_ar_w {r : Nat} (h : r < mm_AR.length) : Cond.classLink (mm_cn (mm_arf r).1) (mm_arf r).2.1 "CallAgents$Message" ∈ mm_ts := by
  have h1 := List.all_eq_true.mp mm_AR_ok (mm_arf r) (mm_getD_mem h)
  unfold mm_okA at h1
  simp only [decide_eq_true_eq] at h1
  exact mm_at_ts h1 rfl
theorem mm_x_anewarray (r : Nat) (hA : mm_At p R s m args meth c B b X aK aV dC dI dT n0 y) (ho : (mm_arf r).1 = mm_own y) (hr : r < mm_AR.length) (hb1 : M1.length - n0 ≤ R.cells) (hb2 : (mm_sh M1).sum - s0 ≤ R.slots) (hd : decode (mm_by y) pc = .ok (.anewarray (mm_arf r).2.1, 3)) (hs : mm_step X y (.anewarray r) pc L st M = some (pc1, L1, st1, M1)) (hk : mm_G p l e R s m args below meth c B b aK dC dI dT n0 s0 Q y pc1 L1 st1 M1) : mm_G p l e R s m args below meth c B b aK dC dI dT n0 s0 Q y pc L st M := by
  dsimp only [mm_step] at hs
  rcases st with _ | ⟨(n | r1 | n), st⟩ <;> dsimp only at hs <;> first | (cases hs; done) | skip
  split at hs
  · cases hs
  · rename_i hn
    split at hs
    · cases hs
    · rename_i hn2
      split at hs <;> cases hs
      rename_i hnew
      obtain ⟨hlt, rfl⟩ := mm_new_e hnew
      intro H locs ls hl hR hS
      refine mm_sized hA.2.2.2.2.2.2.2.2.2 hR hS (fun hz => ?_)
      have hr1 := hR.2.1
      have hr2 := hR.2.2.1
      refine W.anew hA.1 hA.2.1 hA.2.2.2.1 (by rw [← ho]; exact hA.2.2.2.2.1 _ (mm_ar_w hr)) (va_AO.use hA.2.2.2.2.2.1.2.2.2.2.2.1) rfl hd rfl hn (by omega) (by rw [mm_len_app] at hb1; omega) (by rw [mm_sh_app] at hb2; have : mm_cs (.inr (4, n.toNatClampNeg, .inr (.inr (fun _ => none)))) = n.toNatClampNeg := rfl; omega) fun cA kA comp f1 f2 f3 f4 => ?_
      have hcA : cA = dT 4 := by
        obtain ⟨kA', comp', g1, g2, g3, g4⟩ := (hA.2.2.2.2.2.1.1.2 4 _ (mm_tys_at (dT := dT) (by decide))).2
        exact Option.some.inj (f1.symm.trans g4)
      subst hcA
      refine mm_G_app hlt hk hl hR hS hz (Array.size_push _) (fun q hq => by rw [Array.getElem?_push, if_neg (Nat.ne_of_lt hq)]) ?_
      show (H.push _)[H.size]? = some (vp_cell _ _)
      rw [Array.getElem?_push_size]
      show some _ = some (arrV (dT 4) n.toNatClampNeg (fun _ => Value.null))
      rw [← arrV_new]
end MMN
