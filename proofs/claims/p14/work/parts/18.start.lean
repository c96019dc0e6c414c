/-! THE CLAIM OUT OF ONE WALK OF THE LAW'S BODY. Your part is whole_start (and what it stands on); all else here is the same for every law, but numbers. -/
def R_law : String := "CallAgentsLaw"
def lw_P (b : Addr) (xs : List Int32) (args : Array Value) (s : State) : Prop := args = #[.ref b] ∧ s.IntsAt b xs ∧ xs.length ≤ 2048 ∧ (Jvm.Cond.and given_1 narrow_1).before args s = true
def lw_Q (_ : Array Value) (s : State) (o : Outcome) (t : State) : Prop := o = .returned (some (.int 1)) ∧ Framed s o t [] 600000 7302250
def lw_Z (below : List Frame) (a : Array Value) (s : State) : State → Prop := fun t => ∃ o, t.status = .running ∧ Ended t below o ∧ lw_Q a s o t
/-- the law's own end, with 1 on the stack, nothing written that was there before, its room as the claim has it -/
theorem lw_ret {p : Program} {l : Launch} {e : Env} {s : State} {m : MethodId} {below : List Frame} {meth : Method} {c : Code} {b : Nat} (hx : p.tables.exec = Jvm.exec) (hb : c.code = code) (hr : meth.sig.returnType = ret) (hlocks : meth.locks = false) {pc : Nat} {H : Heap} {ls : Array Slot} (hdg : decode code pc = .ok (.ireturn, 1)) : W p l e room_1 s m #[Value.ref b] below meth c H [] 600000 7302250 (lw_Z below #[Value.ref b] s) (F0 m pc ls [.int 1]) := by
  intro T hT X
  obtain ⟨fs, hret, hrun, hended, hW, hframe⟩ := X.leave (v := some (.int 1)) (hlocks := hlocks) (fun h => by rw [hr] at h; cases h)
  have hmeth' : T.vm.method? m = some meth := X.method'
  refine ⟨T.setFrames fs, ?_, .returned (some (.int 1)), hrun, hended, rfl, ⟨_, rfl⟩, hW, hframe⟩
  jvm_step X.here [X.here.top, hx, hb, hdg, hmeth', hr, ret, narrow_b1]
  (try refine ⟨rfl, ?_⟩); (try refine ⟨rfl, ?_⟩)
  first | (intro acts; rw [hret _ acts rfl rfl rfl]) | rw [hret _ _ rfl rfl rfl]
  exact Steps.refl _
/-- what holds at the law's entry: the machine, the code, the tables' words (any of lw_tbl by 'hts w (by decide +kernel)'), the script of L ints xs at the cell b, what the Statement gives of the start (any of its parts by flat_of_before) -/
def lw_At (p : Program) (s : State) (m : MethodId) (meth : Method) (c : Code) (b L : Nat) (xs : Nat → Int32) : Prop :=
  p.tables.exec = Jvm.exec ∧ c.code = code ∧ meth.sig.returnType = ret ∧ c.maxLocals = 4 ∧ s.vm.findClass R_law = some m.cls ∧ (∀ w ∈ lw_tbl, w.before #[Value.ref b] s = true) ∧ va_X b L xs s s.heap ∧ b < s.heap.size ∧ meth.locks = false ∧ (Jvm.Cond.and given_1 narrow_1).before #[Value.ref b] s = true
def mm_rep : List (String × Nat) := [("CallAgents$Media", 44), ("CallAgents$Message", 89), ("CallAgents$Message", 108), ("CallAgents$Message", 110), ("CallAgents$Message", 112), ("CallAgents$Message", 114), ("CallAgents$Message", 116), ("CallAgents$Reader", 133), ("CallAgents$Words", 7), ("CallAgents$Words", 9), ("CallAgents$Words", 11), ("CallAgents$Words", 13), ("CallAgents$Words", 15), ("CallAgents$Words", 17), ("CallAgents$Words", 19), ("CallAgents$Words", 21), ("CallAgents$Words", 23), ("CallAgents$Words", 25), ("CallAgents$Words", 27), ("CallAgents$Words", 29), ("CallAgents$Words", 31), ("CallAgents$Words", 33), ("CallAgents$Words", 35), ("CallAgents$Words", 37)]
def mm_sp : List Nat := [9, 229, 241, 257, 276, 285, 295, 377, 15, 30, 42, 54, 77, 95, 115, 135, 144, 154, 162, 175, 185, 205, 215, 222]
def mm_kp : List Nat := [0, 0, 0, 0, 0, 0, 0, 312, 329, 349, 0, 359, 370, 376, 0, 392, 0, 0, 0, 0, 0, 0, 0, 0, 0, 0, 0, 0, 0, 0, 0, 0, 0, 0, 0, 0, 0, 0, 0]
def mm_tm (i : Nat) : Term := .string (mm_rep.getD i ("", 0)).1 (mm_rep.getD i ("", 0)).2
def mm_fc : List Jvm.Cond := flatC (Jvm.Cond.and given_1 narrow_1)
def mm_fv (i : Nat) : Term := .field (mm_tm i) "java/lang/String" "value" "[B"
theorem mm_s1 : ∀ i, i < 24 → mm_fc[mm_sp.getD i 0]? = some (.exactly (mm_tm i) "java/lang/String") := by decide +kernel
theorem mm_s2 : ∀ i, i < 24 → mm_fc[mm_sp.getD i 0 + 1]? = some (.eq (.field (mm_tm i) "java/lang/String" "coder" "B") (.int 0)) := by decide +kernel
theorem mm_s3 : ∀ i, i < 24 → mm_fc[mm_sp.getD i 0 + 2]? = some (.arrayOf (mm_fv i) .byte) := by decide +kernel
theorem mm_s4 : ∀ i, i < 24 → mm_fc[mm_sp.getD i 0 + 3]? = some (.eq (.length (mm_fv i)) (.int (Int32.ofNat (mm_len.getD i 0)))) ∧ mm_len.getD i 0 < 2 ^ 31 := by decide +kernel
theorem mm_s5 : ∀ i, i < 24 → ∀ j, j < mm_len.getD i 0 → mm_fc[mm_sp.getD i 0 + 4 + j]? = some (.eq (.elem (mm_fv i) (.int (Int32.ofNat j))) (.int ((mm_sb.getD i []).getD j 0))) := by decide +kernel
def mm_okT (r : Nat) : Bool := match (mm_krf r).2.2.1 with
  | .inl _ => true
  | .inr j => decide (j < 24) && (decide (mm_rep.getD j ("", 0) = (mm_cn (mm_krf r).1, (mm_krf r).2.1)) || decide (mm_fc[mm_kp.getD r 0]? = some (.eq (mm_tm j) (.string (mm_cn (mm_krf r).1) (mm_krf r).2.1))))
theorem mm_s6 : (List.range mm_KR.length).all mm_okT = true := by decide +kernel
theorem mm_s7 : mm_fc[4]? = some (.eq (.static "java/lang/String" "COMPACT_STRINGS" "Z") (.int 1)) := by decide +kernel
theorem mm_s8 : lw_tbl[661]? = some (.laysStatic "java/lang/String" "COMPACT_STRINGS" "Z") := by decide +kernel
theorem mm_s9 : mm_fc[5]? = some (.isRef (.static "jdk/internal/util/Preconditions" "SIOOBE_FORMATTER" "Ljava/util/function/BiFunction;")) := by decide +kernel
theorem mm_s10 : lw_tbl[677]? = some (.laysStatic "jdk/internal/util/Preconditions" "SIOOBE_FORMATTER" "Ljava/util/function/BiFunction;") := by decide +kernel
theorem mm_s11 : lw_tbl[86]? = some (.initialized "jdk/internal/util/Preconditions") := by decide +kernel
/-- the start: the tables and what the Statement says of the heap give all that the small machine asks -/
theorem mm_begin {s : State} {b L : Nat} {xs : Nat → Int32} (hts : ∀ w ∈ lw_tbl, w.before #[Value.ref b] s = true) (hX : va_X b L xs s s.heap) (hbl : b < s.heap.size) (hgv : (Jvm.Cond.and given_1 narrow_1).before #[Value.ref b] s = true) :
    ∃ (aK aV : Nat → Nat) (dC : Nat → ClassId) (dI : Nat → Nat → Nat) (dT : Nat → ClassId), mm_E s.heap.size b (L, xs) aK aV dC dI dT s s.heap := by
  have hfl := flat_of_before _ hgv
  have hfa : ∀ {k : Nat} {w : Jvm.Cond}, mm_fc[k]? = some w → w.before #[Value.ref b] s = true := fun h => hfl _ (List.mem_of_getElem? h)
  have hta : ∀ {k : Nat} {w : Jvm.Cond}, lw_tbl[k]? = some w → w.before #[Value.ref b] s = true := fun h => hts _ (List.mem_of_getElem? h)
  have hA : ∀ a : Nat, a < s.heap.size → ¬ (fun q : Nat => s.heap.size ≤ q) a := fun a h => Nat.not_le.mpr h
  -- classes
  have hcls : ∀ ci : Nat, ∃ q : ClassId × (Nat → Nat), ci < 11 → ¬ ci = 8 → u_Kn s (mm_cn ci) (mm_T ci) (mm_N ci) q.1 q.2 := by
    intro ci
    by_cases h : ci < 11 ∧ ¬ ci = 8
    · obtain ⟨cC, iS, hK⟩ := u_known (C := mm_cn ci) (T := mm_T ci) (N := mm_N ci) (n := mm_N ci) hts (fun w hw => mm_ts_sub (mm_uws h.1 w hw)) (hta (mm_inst_ok ci h.1 h.2))
      exact ⟨(cC, iS), fun _ _ => hK⟩
    · exact ⟨(0, fun _ => 0), fun h1 h2 => absurd ⟨h1, h2⟩ h⟩
  obtain ⟨f, hf⟩ := Classical.axiomOfChoice hcls
  -- arrays
  have harr : ∀ t : Nat, ∃ cA : ClassId, t < 5 → ArrOfT s cA (mm_at t) ∧ va_RA s cA (mm_at t) := by
    intro t
    by_cases h : t < 4
    · obtain ⟨k, hk⟩ := mm_ac_ok t h
      obtain ⟨cA, kA, comp, h1, h2, h3⟩ := Cond.arrayClass_spec (hta hk)
      refine ⟨cA, fun _ => ⟨fun n z => ⟨(fun k h => by cases h), kA, h2, comp, h3⟩, ?_⟩⟩
      match t, h with
      | 0, _ => exact h1
      | 1, _ => exact h1
      | 2, _ => exact h1
      | 3, _ => exact h1
    · by_cases h5 : t = 4
      · subst h5
        obtain ⟨comp, cA, k, h1, h2, h3, h4, h5⟩ := Cond.arrayOver_spec (hta (k := 104) (w := .arrayOver (.object "CallAgents$Message")) (by decide +kernel))
        exact ⟨cA, fun _ => ⟨fun n z => ⟨(fun k h => by cases h), k, h3, comp, h4⟩, k, comp, h3, h4, h1, h5⟩⟩
      · exact ⟨0, fun h6 => absurd h6 (by omega)⟩
  obtain ⟨dT, hdT⟩ := Classical.axiomOfChoice harr
  -- texts
  have htx : ∀ i : Nat, ∃ q : Nat × Nat, i < 24 → (mm_tm i).eval #[Value.ref b] s none [] s = some (.ref q.1) ∧ va_O "java/lang/String" q.1 (fun q : Nat => s.heap.size ≤ q) s s.heap ∧ va_OF "java/lang/String" "coder" "B" (.int 0) q.1 (fun q : Nat => s.heap.size ≤ q) s s.heap ∧ va_OF "java/lang/String" "value" "[B" (.ref q.2) q.1 (fun q : Nat => s.heap.size ≤ q) s s.heap ∧ va_T .byte q.2 (mm_len.getD i 0) (fun j => .int ((mm_sb.getD i []).getD j 0)) (fun q : Nat => s.heap.size ≤ q) s s.heap := by
    intro i
    by_cases hi : i < 24
    · obtain ⟨a, c, cA, kA, q1, q2, q3, q4, q5, q6, -⟩ := Cond.exactly_spec (args := #[Value.ref b]) (first := s) (o := none) (s := s) (idx := []) (t := mm_tm i) (cls := "java/lang/String") (hfa (mm_s1 i hi))
      obtain ⟨t, ht, hT⟩ := va_Tof (f := fun j => .int ((mm_sb.getD i []).getD j 0)) (A := fun q : Nat => s.heap.size ≤ q) (mm_s4 i hi).2 (hfa (mm_s3 i hi)) (va_eqt (hfa (mm_s4 i hi).1)) (fun j hj => va_eqt (hfa (mm_s5 i hi j hj))) hA
      exact ⟨(a, t), fun _ => ⟨q1, ⟨cA, q3, q5, by rw [q6]; exact q2, hA a (Array.getElem?_eq_some_iff.mp q3).1⟩, vk_OFof q1 (va_eqt (hfa (mm_s2 i hi))) hA, vk_OFof q1 ht hA, hT⟩⟩
    · exact ⟨(0, 0), fun h => absurd h hi⟩
  obtain ⟨g, hg⟩ := Classical.axiomOfChoice htx
  refine ⟨fun i => (g i).1, fun i => (g i).2, fun ci => if ci = 8 then (f 3).1 else (f ci).1, fun ci => if ci = 8 then (f 3).2 else (f ci).2, dT, ⟨?_, ?_⟩, hX, fun i hi => (hg i hi).2, ?_, ?_, ?_, ?_, hbl, Nat.le_refl _⟩
  · intro ci q hq
    unfold mm_k at hq
    rw [List.getElem?_map] at hq
    by_cases h : ci < 11
    · rw [List.getElem?_range h] at hq
      have hq : some (if ci = 8 then (mm_cn 3, mm_T 3, mm_N 3) else (mm_cn ci, mm_T ci, mm_N ci)) = some q := hq
      by_cases h8 : ci = 8
      · rw [if_pos h8] at hq
        cases hq
        dsimp only
        rw [if_pos h8, if_pos h8]
        exact hf 3 (by decide) (by decide)
      · rw [if_neg h8] at hq
        cases hq
        dsimp only
        rw [if_neg h8, if_neg h8]
        exact hf ci h h8
    · rw [List.getElem?_eq_none (by simp; omega)] at hq
      cases hq
  · intro k q hq
    by_cases h : k < 5
    · rw [mm_tys_at h] at hq
      cases hq
      exact hdT k h
    · unfold mm_tys at hq
      rw [List.getElem?_eq_none (by simp; omega)] at hq
      cases hq
  · intro r j hr hj
    have h1 := List.all_eq_true.mp mm_KR_ok (mm_krf r) (mm_getD_mem hr)
    unfold mm_okK at h1
    rw [hj] at h1
    simp only [Bool.and_eq_true, decide_eq_true_eq] at h1
    have h2 := List.all_eq_true.mp mm_s6 r (List.mem_range.mpr hr)
    unfold mm_okT at h2
    rw [hj] at h2
    simp only [Bool.and_eq_true, Bool.or_eq_true, decide_eq_true_eq] at h2
    have h3 := (hg j h2.1).1
    refine vk_R.of (hta h1.1) ?_
    rcases h2.2 with h4 | h4
    · unfold mm_tm at h3
      rw [h4] at h3
      exact h3
    · exact va_eqR (hfa h4) h3
  · exact va_Zof (hta mm_s8) (hta (k := 84) (w := .initialized "java/lang/String") (by decide +kernel)) (va_eqi (hfa mm_s7)) hA
  · exact va_AO.of (hta (k := 104) (by decide +kernel))
  · exact va_Zqof (hta mm_s10) (hta mm_s11) (hfa mm_s9) hA
/-- what is left: the law's run by the small machine -/
def mm_goal (N : Nat) : Prop := ∀ X : Nat × (Nat → Int32), X.1 ≤ N → ∃ (n pcF len : Nat) (LF : mm_L) (MF : mm_M), mm_run X n 175 0 [(0, .inr (.inl (some mm_scr)))] [] [] = some (pcF, LF, [.inl 1], MF) ∧ mm_fetch 175 pcF = some (.ireturn, len) ∧ MF.length ≤ 600000 ∧ (mm_sh MF).sum ≤ 7302250
set_option maxRecDepth 20000 in
theorem mm_l1 : mm_by 175 = code := rfl
set_option maxRecDepth 20000 in
theorem mm_l2 : mm_mx 175 = 4 ∧ mm_own 175 = 11 ∧ mm_fr 175 ≤ room_1.frames ∧ mm_lo 175 ≤ room_1.locals ∧ ¬ mm_kd 175 = 1 ∧ mm_cn 11 = R_law := by decide +kernel
theorem mm_whole (hgoal : mm_goal 2048) {p : Program} {e : Env} {s : State} {m : MethodId} {below : List Frame} {meth : Method} {c : Code} (l : Launch) {b L : Nat} {xs : Nat → Int32} (hL : L ≤ 2048) (C0 : lw_At p s m meth c b L xs) : W p l e room_1 s m #[Value.ref b] below meth c s.heap [] 0 0 (lw_Z below #[Value.ref b] s) (entryFrame m ([Value.ref b] : List Value).toArray 4) := by
  obtain ⟨hx, hb, hr, hml, hown, hts, hX, hbl, hlocks, hgv⟩ := C0
  obtain ⟨aK, aV, dC, dI, dT, hE⟩ := mm_begin hts hX hbl hgv
  obtain ⟨n, pcF, len, LF, MF, hrun, hfet, hc1, hc2⟩ := hgoal (L, xs) hL
  obtain ⟨z1, z2, z3, z4, z5, z6⟩ := mm_l2
  have hA : mm_At p room_1 s m #[Value.ref b] meth c s.heap.size b (L, xs) aK aV dC dI dT 0 175 := ⟨hx, by rw [mm_l1]; exact hb, by rw [z1]; exact hml, by rw [z2, z6]; exact hown, fun w h => hts w (mm_ts_sub h), hE, z3, z4, fun q => absurd q z5, rfl⟩
  have hd := (mm_dec hfet).2
  rw [mm_l1] at hd
  have key := mm_sound l s.heap.size b (L, xs) aK aV dC dI dT n p e room_1 s m #[Value.ref b] below meth c 0 0 (lw_Z below #[Value.ref b] s) 175 0 [(0, .inr (.inl (some mm_scr)))] [] [] pcF LF [.inl 1] MF hrun hA hc1 hc2 (by
    intro H locs ls hl hR hS
    refine va_forget (fun q hq => hS.2.2 q hq) ?_
    exact W.widen hc1 hc2 (lw_ret hx hb hr hlocks hd))
  have hl := lv_entry ([.ref b]) (n := 4) (Nat.le_of_ble_eq_true rfl)
  rw [lg_entry_eq]
  generalize (lg_sl ([.ref b]) ++ List.replicate (4 - (lg_sl ([.ref b])).length) Slot.unset).toArray = ls at hl ⊢
  have h9 := key s.heap [] ls (by
    rw [z1]
    have e1 : mm_el (mm_ad s.heap.size b aK) [(0, .inr (.inl (some mm_scr)))] = [(0, .ref b)] := by
      show [(0, Value.ref (mm_ad s.heap.size b aK mm_scr))] = _
      rw [mm_ad_scr]
    rw [e1]
    exact hl) ⟨by decide, Nat.le_refl _, Nat.le_refl _, fun k q h => by cases h⟩ va_S.rf
  exact h9
