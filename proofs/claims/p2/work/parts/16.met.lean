/-! every instruction; every run -/
section MMD
variable {p : Program} {l : Launch} {e : Env} {R : Room} {s : State} {m : MethodId} {args : Array Value} {below : List Frame} {meth : Method} {c : Code}
variable {B b : Nat} {X : Nat × (Nat → Int32)} {aK aV : Nat → Nat} {dC : Nat → ClassId} {dI : Nat → Nat → Nat} {dT : Nat → ClassId} {n0 s0 : Nat} {Q : State → Prop} {y : Nat}
variable {pc pc1 : Nat} {L L1 : mm_L} {st st1 : List mm_V} {M M1 : mm_M}
theorem mm_step_ok {i : Instr} {len : Nat} (hf : mm_fetch y pc = some (i, len)) (hA : mm_At p R s m args meth c B b X aK aV dC dI dT n0 y) (hb1 : M1.length - n0 ≤ R.cells) (hb2 : (mm_sh M1).sum - s0 ≤ R.slots) (hs : mm_step X y i pc L st M = some (pc1, L1, st1, M1)) (hk : mm_G p l e R s m args below meth c B b aK dC dI dT n0 s0 Q y pc1 L1 st1 M1) : mm_G p l e R s m args below meth c B b aK dC dI dT n0 s0 Q y pc L st M := by
  obtain ⟨ho, hd⟩ := mm_dec hf
  cases i with
  | iadd => exact mm_x_iadd hA hd hs hk
  | isub => exact mm_x_isub hA hd hs hk
  | imul => exact mm_x_imul hA hd hs hk
  | iand => exact mm_x_iand hA hd hs hk
  | ior => exact mm_x_ior hA hd hs hk
  | ishl => exact mm_x_ishl hA hd hs hk
  | ishr => exact mm_x_ishr hA hd hs hk
  | idiv => exact mm_x_idiv hA hd hs hk
  | irem => exact mm_x_irem hA hd hs hk
  | aconst_null => exact mm_x_aconst_null hA hd hs hk
  | ladd => exact mm_x_ladd hA hd hs hk
  | lmul => exact mm_x_lmul hA hd hs hk
  | lcmp => exact mm_x_lcmp hA hd hs hk
  | i2l => exact mm_x_i2l hA hd hs hk
  | l2i => exact mm_x_l2i hA hd hs hk
  | i2c => exact mm_x_i2c hA hd hs hk
  | dup => exact mm_x_dup hA hd hs hk
  | pop => exact mm_x_pop hA hd hs hk
  | dup2 => exact mm_x_dup2 hA hd hs hk
  | caload => exact mm_x_caload hA hd hs hk
  | baload => exact mm_x_baload hA hd hs hk
  | laload => exact mm_x_laload hA hd hs hk
  | aaload => exact mm_x_aaload hA hd hs hk
  | iaload => exact mm_x_iaload hA hd hs hk
  | arraylength => exact mm_x_arraylength hA hd hs hk
  | iastore => exact mm_x_iastore hA hd hs hk
  | castore => exact mm_x_castore hA hd hs hk
  | bastore => exact mm_x_bastore hA hd hs hk
  | lastore => exact mm_x_lastore hA hd hs hk
  | aastore => exact mm_x_aastore hA hd hs hk
  | iload_n k => exact mm_x_iload_n k hA hd hs hk
  | iload k => exact mm_x_iload k hA hd hs hk
  | lload_n k => exact mm_x_lload_n k hA hd hs hk
  | lload k => exact mm_x_lload k hA hd hs hk
  | aload_n k => exact mm_x_aload_n k hA hd hs hk
  | aload k => exact mm_x_aload k hA hd hs hk
  | istore_n k => exact mm_x_istore_n k hA hd hs hk
  | istore k => exact mm_x_istore k hA hd hs hk
  | lstore_n k => exact mm_x_lstore_n k hA hd hs hk
  | lstore k => exact mm_x_lstore k hA hd hs hk
  | astore_n k => exact mm_x_astore_n k hA hd hs hk
  | astore k => exact mm_x_astore k hA hd hs hk
  | iconst k => exact mm_x_iconst k hA hd hs hk
  | bipush k => exact mm_x_bipush k hA hd hs hk
  | sipush k => exact mm_x_sipush k hA hd hs hk
  | goto k => exact mm_x_goto k hA hd hs hk
  | ifnull k => exact mm_x_ifnull k hA hd hs hk
  | ifnonnull k => exact mm_x_ifnonnull k hA hd hs hk
  | iinc k n => exact mm_x_iinc k n hA hd hs hk
  | ifCond k n => exact mm_x_ifCond k n hA hd hs hk
  | if_icmp k n => exact mm_x_if_icmp k n hA hd hs hk
  | tableswitch d lo hi os => exact mm_x_tableswitch d lo hi os len hA hd hs hk
  | getfield r =>
    simp only [mm_ownOk, Bool.and_eq_true, decide_eq_true_eq] at ho
    exact mm_x_getfield r hA ho.1 ho.2 hd hs hk
  | putfield r =>
    simp only [mm_ownOk, Bool.and_eq_true, decide_eq_true_eq] at ho
    exact mm_x_putfield r hA ho.1 ho.2 hd hs hk
  | ldc r =>
    simp only [mm_ownOk, Bool.and_eq_true, decide_eq_true_eq] at ho
    exact mm_x_ldc r hA ho.1 ho.2 hd hs hk
  | ldc_w r =>
    simp only [mm_ownOk, Bool.and_eq_true, decide_eq_true_eq] at ho
    exact mm_x_ldc_w r hA ho.1 ho.2 hd hs hk
  | ldc2_w r =>
    simp only [mm_ownOk, Bool.and_eq_true, decide_eq_true_eq] at ho
    exact mm_x_ldc2_w r hA ho.1 ho.2 hd hs hk
  | invokespecial r =>
    simp only [mm_ownOk, Bool.and_eq_true, decide_eq_true_eq] at ho
    exact mm_x_invokespecial r hA ho.1 ho.2 hd hs hk
  | new r =>
    simp only [mm_ownOk, Bool.and_eq_true, decide_eq_true_eq] at ho
    exact mm_x_new r hA ho.1 ho.2 hb1 hb2 hd hs hk
  | anewarray r =>
    simp only [mm_ownOk, Bool.and_eq_true, decide_eq_true_eq] at ho
    exact mm_x_anewarray r hA ho.1 ho.2 hb1 hb2 hd hs hk
  | invokestatic r =>
    simp only [mm_ownOk, Bool.and_eq_true, decide_eq_true_eq] at ho
    exact mm_x_invokestatic r hA ho.1 ho.2 hb1 hb2 hd hs hk
  | invokevirtual r =>
    simp only [mm_ownOk, Bool.and_eq_true, decide_eq_true_eq] at ho
    exact mm_x_invokevirtual r hA ho.1 ho.2 hb1 hb2 hd hs hk
  | newarray t => exact mm_x_newarray t hA hb1 hb2 hd hs hk
  | _ => exact absurd hs (fun h => by cases h)
theorem mm_pre_len {A C : mm_M} (h : mm_sh A <+: mm_sh C) : A.length ≤ C.length ∧ (mm_sh A).sum ≤ (mm_sh C).sum := by
  obtain ⟨t, ht⟩ := h
  refine ⟨?_, ?_⟩
  · have h1 := congrArg List.length ht
    rw [List.length_append, List.length_map, List.length_map] at h1
    omega
  · rw [← ht, List.sum_append]
    omega
theorem mm_run_pre : ∀ (n y pc : Nat) (L : mm_L) (st : List mm_V) (M : mm_M) (S : mm_S), mm_run X n y pc L st M = some S → mm_sh M <+: mm_sh S.2.2.2 := by
  intro n
  induction n with
  | zero => intro y pc L st M S h; cases h
  | succ n ih =>
    intro y pc L st M S h
    unfold mm_run at h
    split at h
    · cases h
    · split at h
      · cases h
        exact List.prefix_rfl
      · split at h
        · split at h
          · cases h
          · rename_i h1
            split at h
            · cases h
            · split at h
              · cases h
              · exact (ih _ _ _ _ _ _ h1).trans (ih _ _ _ _ _ _ h)
        · split at h
          · cases h
          · rename_i h1
            exact (mm_step_pre h1).trans (ih _ _ _ _ _ _ h)
theorem mm_go_e {r k z : Nat} {As rest : List mm_V} (h : mm_go y r k st = some (z, As, rest)) : z = (mm_mr r).2.2.1 ∧ z < 175 ∧ mm_kd z = k ∧ mm_fr z + 1 ≤ mm_fr y ∧ 8 + (mm_mx z + 11) + mm_lo z ≤ mm_lo y ∧ As.length = mm_na z ∧ mm_na z ≤ mm_mx z ∧ (rest.map mm_cat).sum ≤ 8 ∧ (∀ v ∈ As, mm_cat v = 1) ∧ st = As.reverse ++ rest := by
  unfold mm_go at h
  split at h
  · rename_i hc
    obtain ⟨h1, h2, h3, h4, h5, h6, h7, h8⟩ := hc
    cases h
    refine ⟨rfl, h1, h2, h3, h4, ?_, h6, h7, fun v hv => h8 v (List.mem_reverse.mp hv), ?_⟩
    · rw [List.length_reverse, List.length_take]
      omega
    · rw [List.reverse_reverse, List.take_append_drop]
  · cases h
theorem mm_lfrom_args (ad : Nat → Nat) : ∀ (As : List mm_V) (i : Nat), (∀ v ∈ As, mm_cat v = 1) → lv_args i (mm_es ad As) = mm_el ad (mm_lfrom i As) := by
  intro As
  induction As with
  | nil => intro i _; rfl
  | cons v As ih =>
    intro i h
    have h1 : mm_cat v = 1 := h v List.mem_cons_self
    show (i, mm_ev ad v) :: lv_args (if (mm_ev ad v).category = 2 then i + 2 else i + 1) (mm_es ad As) = (i, mm_ev ad v) :: mm_el ad (mm_lfrom (i + 1) As)
    rw [mm_ev_cat, h1, if_neg (by decide), ih (i + 1) (fun w hw => h w (List.mem_cons_of_mem _ hw))]
theorem mm_lg_len (ad : Nat → Nat) : ∀ (As : List mm_V), (∀ v ∈ As, mm_cat v = 1) → (lg_sl (mm_es ad As)).length = As.length := by
  intro As
  induction As with
  | nil => intro _; rfl
  | cons v As ih =>
    intro h
    have h1 : mm_cat v = 1 := h v List.mem_cons_self
    show ((if (mm_ev ad v).category = 2 then [Slot.val (mm_ev ad v), Slot.second] else [Slot.val (mm_ev ad v)]) ++ lg_sl (mm_es ad As)).length = As.length + 1
    rw [mm_ev_cat, h1, if_neg (by decide), List.length_append, ih (fun w hw => h w (List.mem_cons_of_mem _ hw))]
    simp
    omega
theorem mm_Y_at {z : Nat} (h : z < 175) : (mm_nm z).cls = mm_cn (mm_own z) ∧ (mm_nm z).cls ≠ "java/lang/invoke/MethodHandle" ∧ (mm_nm z).cls ≠ "java/lang/invoke/VarHandle" ∧ plainName (mm_nm z).cls = true ∧ (parseMethodDescriptor (mm_nm z).desc).map (fun d => d.parameters.length) = some (if mm_kd z = 2 then mm_na z else mm_na z - 1) ∧ mm_own z < 12 ∧ (mm_kd z = 2 ∨ 1 ≤ mm_na z) ∧ (mm_kd z = 1 ↔ (mm_nm z).name = "<init>") ∧ (mm_kd z = 1 → mm_rt z = none) ∧ (mm_kd z = 0 → Cond.instanceMethod (mm_nm z) ∈ mm_ts ∧ Cond.selects (mm_cn (mm_own z)) (mm_nm z) (mm_nm z) ∈ mm_ts) ∧ (mm_kd z = 1 → Cond.instanceMethod (mm_nm z) ∈ mm_ts) ∧ (mm_kd z = 2 → Cond.static (mm_nm z) ∈ mm_ts) := by
  have h1 := List.all_eq_true.mp mm_Y_ok z (List.mem_range.mpr h)
  unfold mm_okY at h1
  simp only [Bool.and_eq_true, decide_eq_true_eq] at h1
  obtain ⟨⟨⟨⟨⟨⟨⟨⟨⟨a1, a2⟩, a3⟩, a4⟩, a5⟩, a6⟩, a7⟩, a8⟩, a9⟩, a10⟩ := h1
  refine ⟨a1, a2, a3, a4, a5, a6, a7, a8, a9, fun q => ?_, fun q => ?_, fun q => ?_⟩
  · rw [if_pos q] at a10
    simp only [Bool.and_eq_true, decide_eq_true_eq] at a10
    exact ⟨mm_at_ts a10.1 rfl, mm_at_ts a10.2 rfl⟩
  · rw [if_neg (by omega), if_pos q] at a10
    simp only [decide_eq_true_eq] at a10
    exact mm_at_ts a10 rfl
  · rw [if_neg (by omega), if_neg (by omega)] at a10
    simp only [decide_eq_true_eq] at a10
    exact mm_at_ts a10 rfl
/-- what a method's contract asks and gives, at a memory -/
def mm_Pc (B b : Nat) (X : Nat × (Nat → Int32)) (aK aV : Nat → Nat) (dC : Nat → ClassId) (dI : Nat → Nat → Nat) (dT : Nat → ClassId) (As : List mm_V) (M : mm_M) : Array Value → State → Prop := fun a U => a = (mm_es (mm_ad B b aK) As).toArray ∧ mm_E B b X aK aV dC dI dT U U.heap ∧ U.heap.size = B + M.length ∧ M.length ≤ 1000000 ∧ va_P (dC, dI) mm_k (mm_wd (mm_ad B b aK) dT M) U.heap
def mm_Qc (B b : Nat) (aK : Nat → Nat) (dC : Nat → ClassId) (dI : Nat → Nat → Nat) (dT : Nat → ClassId) (vs : List mm_V) (M : mm_M) : Array Value → State → Outcome → State → Prop := fun _ st o t => o = .returned (mm_es (mm_ad B b aK) vs).head? ∧ M.length ≤ 1000000 ∧ va_P (dC, dI) mm_k (mm_wd (mm_ad B b aK) dT M) t.heap ∧ va_F (fun q => B ≤ q) st t
/-- the claim of soundness, for runs of n steps -/
def mm_Sd (l : Launch) (B b : Nat) (X : Nat × (Nat → Int32)) (aK aV : Nat → Nat) (dC : Nat → ClassId) (dI : Nat → Nat → Nat) (dT : Nat → ClassId) (n : Nat) : Prop :=
  ∀ (p : Program) (e : Env) (R : Room) (s : State) (m : MethodId) (args : Array Value) (below : List Frame) (meth : Method) (c : Code) (n0 s0 : Nat) (Q : State → Prop) (y pc : Nat) (L : mm_L) (st : List mm_V) (M : mm_M) (pc1 : Nat) (L1 : mm_L) (st1 : List mm_V) (M1 : mm_M), mm_run X n y pc L st M = some (pc1, L1, st1, M1) → mm_At p R s m args meth c B b X aK aV dC dI dT n0 y → M1.length - n0 ≤ R.cells → (mm_sh M1).sum - s0 ≤ R.slots → mm_G p l e R s m args below meth c B b aK dC dI dT n0 s0 Q y pc1 L1 st1 M1 → mm_G p l e R s m args below meth c B b aK dC dI dT n0 s0 Q y pc L st M
theorem mm_met {n z pcE : Nat} {As : List mm_V} {LE : mm_L} {stE vs : List mm_V} {iE : Instr} {lenE : Nat} (ih : mm_Sd l B b X aK aV dC dI dT n) (hz : z < 175) (hAs : ∀ v ∈ As, mm_cat v = 1) (hna : As.length = mm_na z) (hnx : mm_na z ≤ mm_mx z) (hrun : mm_run X n z 0 (mm_locals As) [] M = some (pcE, LE, stE, M1)) (hf : mm_fetch z pcE = some (iE, lenE)) (hend : mm_end z iE stE = some vs) :
    Met l (mm_nm z) (.code (mm_nm z) (mm_by z) (mm_mx z) (mm_rt z) :: mm_ts) { frames := mm_fr z, cells := M1.length - M.length, slots := (mm_sh M1).sum - (mm_sh M).sum, locals := mm_lo z } (mm_Pc B b X aK aV dC dI dT As M) (mm_Qc B b aK dC dI dT vs M1) (M1.length - M.length) ((mm_sh M1).sum - (mm_sh M).sum) (fun q => B ≤ q) := by
  obtain ⟨y1, y2, y3, y4, y5, y6, y7, y8, y9, y10, y11, y12⟩ := mm_Y_at hz
  refine Met.ofW (cc := mm_by z) (maxL := mm_mx z) (ret := mm_rt z) y4 rfl ?_
  intro p e s m args below meth c s₁ B0 hml hv
  obtain ⟨rfl, hE, hsz, hM6, hP⟩ := hv
  have hts0 := atoms_spec (ws := .code (mm_nm z) (mm_by z) (mm_mx z) (mm_rt z) :: mm_ts) B0.pre
  have hown : s.vm.findClass (mm_nm z).cls = some m.cls := findClass_of_methodNamed B0.named
  have hnm : meth.name = (mm_nm z).name := (name_of_methodNamed B0.named B0.method).1
  have hA : mm_At p (headSpec (.code (mm_nm z) (mm_by z) (mm_mx z) (mm_rt z) :: mm_ts) { frames := mm_fr z, cells := M1.length - M.length, slots := (mm_sh M1).sum - (mm_sh M).sum, locals := mm_lo z }).room s m (mm_es (mm_ad B b aK) As).toArray meth c B b X aK aV dC dI dT M.length z :=
    ⟨B0.exec, B0.bytes, hml, by rw [← y1]; exact hown, fun w h => hts0 w (List.mem_cons_of_mem _ h), hE, Nat.le_refl _, Nat.le_refl _, fun q => hnm.trans (y8.mp q), hsz⟩
  have hpre := mm_pre_len (mm_run_pre _ _ _ _ _ _ _ hrun)
  have hl := lv_entry (mm_es (mm_ad B b aK) As) (n := mm_mx z) (by rw [mm_lg_len _ _ hAs]; omega)
  rw [mm_lfrom_args _ _ _ hAs] at hl
  rw [lg_entry_eq]
  generalize (lg_sl (mm_es (mm_ad B b aK) As) ++ List.replicate (mm_mx z - (lg_sl (mm_es (mm_ad B b aK) As)).length) Slot.unset).toArray = ls at hl ⊢
  have hx := B0.exec
  have hb := B0.bytes
  have hr := B0.returns
  have hlocks := B0.notSynchronized
  have hdE := (mm_dec hf).2
  have key := ih p e _ s m _ below meth c M.length (mm_sh M).sum (MQ below (mm_Qc B b aK dC dI dT vs M1) (mm_es (mm_ad B b aK) As).toArray s (M1.length - M.length) ((mm_sh M1).sum - (mm_sh M).sum) (fun q => B ≤ q)) z 0 (mm_locals As) [] M pcE LE stE M1 hrun hA (Nat.le_refl _) (Nat.le_refl _) (by
    intro H locs ls1 hl1 hR1 hS1
    unfold mm_end at hend
    split at hend
    · rename_i x1 hrt
      cases hend
      exact W.iret hx hb (hr.trans hrt) (fun t ht _ => ⟨rfl, hR1.1, by rw [ht]; exact hR1.2.2.2, hS1.F ht⟩) hS1.2.2 hdE
    · rename_i x1 hrt
      split at hend
      · rename_i h01
        cases hend
        exact W.zret (ty := .boolean) hx hb (hr.trans hrt) (by rcases h01 with rfl | rfl <;> rfl) (fun t ht _ => ⟨rfl, hR1.1, by rw [ht]; exact hR1.2.2.2, hS1.F ht⟩) hS1.2.2 hdE
      · cases hend
    · rename_i nm r1 hrt
      cases hend
      exact W.aret (v := va_rf (r1.map (mm_ad B b aK))) hx hb (hr.trans hrt) (Or.inl ⟨_, rfl⟩) (by cases r1 with | none => exact Or.inl rfl | some a => exact Or.inr ⟨_, rfl⟩) (fun t ht _ => ⟨rfl, hR1.1, by rw [ht]; exact hR1.2.2.2, hS1.F ht⟩) hS1.2.2 hdE
    · rename_i x1 hrt
      cases hend
      exact W.lret hx hb (hr.trans hrt) (fun t ht _ => ⟨rfl, hR1.1, by rw [ht]; exact hR1.2.2.2, hS1.F ht⟩) hS1.2.2 hdE
    · rename_i hrt
      cases hend
      exact W.vret hx hb (hr.trans hrt) (fun t ht _ => ⟨rfl, hR1.1, by rw [ht]; exact hR1.2.2.2, hS1.F ht⟩) hS1.2.2 hdE
    · cases hend)
  have h9 := key s.heap [] ls hl ⟨hM6, Nat.le_refl _, Nat.le_refl _, hP⟩ va_S.rf
  rw [Nat.sub_self, Nat.sub_self] at h9
  exact h9
end MMD
