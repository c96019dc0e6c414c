/-! calls -/
theorem mm_mr_w {r : Nat} (h : r < mm_MR.length) : Cond.methodLink (mm_cn (mm_mr r).1) (mm_mr r).2.1 (if (mm_mr r).2.2.1 = 1000 then objectInit else if (mm_mr r).2.2.1 = 1001 then Lib.Math.min.name else if (mm_mr r).2.2.1 = 1002 then Lib.Math.max.name else if (mm_mr r).2.2.1 = 1003 then ⟨"java/lang/String", "length", "()I"⟩ else if (mm_mr r).2.2.1 = 1004 then ⟨"java/lang/String", "charAt", "(I)C"⟩ else mm_nm (mm_mr r).2.2.1) ∈ mm_ts := by
  have h1 := List.all_eq_true.mp mm_MR_ok (mm_mr r) (mm_getD_mem h)
  unfold mm_okR at h1
  simp only [decide_eq_true_eq] at h1
  exact mm_at_ts h1 rfl
theorem mm_w_oi : Cond.instanceMethod objectInit ∈ mm_ts := mm_at_ts (k := 95) (by decide +kernel) rfl
theorem mm_w_oc : Cond.code objectInit ⟨#[0xb1]⟩ 1 none ∈ mm_ts := mm_at_ts (k := 96) (by decide +kernel) rfl
theorem mm_w_ms1 : Cond.static Lib.Math.max.name ∈ mm_ts := mm_at_ts (k := 336) (by decide +kernel) rfl
theorem mm_w_ms2 : Cond.static Lib.Math.min.name ∈ mm_ts := mm_at_ts (k := 841) (by decide +kernel) rfl
theorem mm_w_mc1 : Cond.code Lib.Math.max.name Lib.Math.max.code 2 (some .int) ∈ mm_ts := mm_at_ts (k := 337) (by decide +kernel) rfl
theorem mm_w_mc2 : Cond.code Lib.Math.min.name Lib.Math.min.code 2 (some .int) ∈ mm_ts := mm_at_ts (k := 842) (by decide +kernel) rfl
theorem mm_w_mi : Cond.initialized "java/lang/Math" ∈ mm_ts := mm_at_ts (k := 81) (by decide +kernel) rfl
abbrev mm_yL : MethodName := ⟨"java/lang/String", "length", "()I"⟩
abbrev mm_yC : MethodName := ⟨"java/lang/String", "coder", "()B"⟩
theorem mm_w_li : Cond.instanceMethod mm_yL ∈ mm_ts := mm_at_ts (k := 653) (by decide +kernel) rfl
theorem mm_w_ls : Cond.selects "java/lang/String" mm_yL mm_yL ∈ mm_ts := mm_at_ts (k := 654) (by decide +kernel) rfl
theorem mm_w_lc : Cond.code mm_yL prog_14_method_54_code 1 (some .int) ∈ mm_ts := mm_at_ts (k := 655) (by decide +kernel) rfl
theorem mm_w_ci : Cond.instanceMethod mm_yC ∈ mm_ts := mm_at_ts (k := 657) (by decide +kernel) rfl
theorem mm_w_cs : Cond.selects "java/lang/String" mm_yC mm_yC ∈ mm_ts := mm_at_ts (k := 658) (by decide +kernel) rfl
theorem mm_w_cc : Cond.code mm_yC prog_14_method_152_code 1 (some .byte) ∈ mm_ts := mm_at_ts (k := 659) (by decide +kernel) rfl
theorem mm_w_cl : Cond.methodLink "java/lang/String" 335 mm_yC ∈ mm_ts := mm_at_ts (k := 656) (by decide +kernel) rfl
theorem mm_w_si : Cond.initialized "java/lang/String" ∈ mm_ts := mm_at_ts (k := 84) (by decide +kernel) rfl
theorem mm_w_fv : Cond.fieldLink "java/lang/String" 9 "java/lang/String" "value" "[B" ∈ mm_ts := mm_at_ts (k := 1291) (by decide +kernel) rfl
theorem mm_w_fc : Cond.fieldLink "java/lang/String" 15 "java/lang/String" "coder" "B" ∈ mm_ts := mm_at_ts (k := 1292) (by decide +kernel) rfl
theorem mm_w_fz : Cond.fieldLink "java/lang/String" 38 "java/lang/String" "COMPACT_STRINGS" "Z" ∈ mm_ts := mm_at_ts (k := 660) (by decide +kernel) rfl
theorem mm_dL0 : decode prog_14_method_54_code 0 = .ok (.aload_n 0, 1) := by decide +kernel
theorem mm_dL1 : decode prog_14_method_54_code 1 = .ok (.getfield 9, 3) := by decide +kernel
theorem mm_dL4 : decode prog_14_method_54_code 4 = .ok (.arraylength, 1) := by decide +kernel
theorem mm_dL5 : decode prog_14_method_54_code 5 = .ok (.aload_n 0, 1) := by decide +kernel
theorem mm_dL6 : decode prog_14_method_54_code 6 = .ok (.invokevirtual 335, 3) := by decide +kernel
theorem mm_dL9 : decode prog_14_method_54_code 9 = .ok (.ishr, 1) := by decide +kernel
theorem mm_dL10 : decode prog_14_method_54_code 10 = .ok (.ireturn, 1) := by decide +kernel
theorem mm_dC0 : decode prog_14_method_152_code 0 = .ok (.getstatic 38, 3) := by decide +kernel
theorem mm_dC3 : decode prog_14_method_152_code 3 = .ok (.ifCond .eq 10, 3) := by decide +kernel
theorem mm_dC6 : decode prog_14_method_152_code 6 = .ok (.aload_n 0, 1) := by decide +kernel
theorem mm_dC7 : decode prog_14_method_152_code 7 = .ok (.getfield 15, 3) := by decide +kernel
theorem mm_dC10 : decode prog_14_method_152_code 10 = .ok (.goto 4, 3) := by decide +kernel
theorem mm_dC14 : decode prog_14_method_152_code 14 = .ok (.ireturn, 1) := by decide +kernel
theorem mm_goodc {w : Cond} (h : w ∈ mm_ts) : GoodIn mm_ts (w :: mm_ts) := fun v hv => by
  rcases List.mem_cons.mp hv with rfl | hv
  · exact mm_good _ h
  · exact mm_good _ hv
/-- what a call gives, whatever it is -/
theorem mm_goon {p : Program} {l : Launch} {e : Env} {R : Room} {s : State} {m : MethodId} {args : Array Value} {below : List Frame} {meth : Method} {c : Code} {H : Heap} {locs : List Loc} {cells slots mc ms : Nat} {Q : State → Prop} {pc : Nat} {ls : Array Slot} {st0 rest : List Value} {Qa : State → Outcome → State → Prop} {free : Addr → Prop} (hr : va_Run p l e R s m args below meth c H locs cells slots mc ms (F0 m pc ls st0) rest Qa free)
    (kk : ∀ (v : Option Value) (st₀ t : State) (H1 : Heap) (L : List Loc), st₀.heap = H → t.heap = H1 → (∀ q ∈ L, free q.base) → Qa st₀ (.returned v) t → W p l e R s m args below meth c H1 (locs ++ L) (cells + mc) (slots + ms) Q (F0 m (pc + 3) ls (v.toList ++ rest))) : W p l e R s m args below meth c H locs cells slots Q (F0 m pc ls st0) := by
  intro T hT X
  obtain ⟨v, st₀, t, T', L, h0, X', hL, e1, e2, hq, st⟩ := hr T hT X
  obtain ⟨t2, a1, b1⟩ := kk v st₀ t T'.heap L h0 e1.symm hL hq T' rfl X'
  exact ⟨t2, st t2 a1, b1⟩
/-- a call that only answers -/
def mm_Qs (r : Value) : Array Value → State → Outcome → State → Prop := fun _ st o t => o = .returned (some r) ∧ t.heap = st.heap
set_option maxHeartbeats 1000000 in
theorem mm_m_coder (l : Launch) {B b : Nat} {X : Nat × (Nat → Int32)} {aK aV : Nat → Nat} {dC : Nat → ClassId} {dI : Nat → Nat → Nat} {dT : Nat → ClassId} {i : Nat} (hi : i < 24) : Met l mm_yC (.code mm_yC prog_14_method_152_code 1 (some .byte) :: mm_ts) { frames := 0, cells := 0, slots := 0, locals := 0 } (fun a U => a = #[.ref (aK i)] ∧ mm_E B b X aK aV dC dI dT U U.heap) (mm_Qs (.int 0)) 0 0 (fun _ => False) := by
  refine Met.ofW (cc := prog_14_method_152_code) (maxL := 1) (ret := some .byte) (by decide) rfl ?_
  intro p e s m args below meth c s₁ B0 hml hv
  obtain ⟨rfl, hE⟩ := hv
  have hx := B0.exec
  have hb := B0.bytes
  have hr := B0.returns
  have hts0 := atoms_spec (ws := .code mm_yC prog_14_method_152_code 1 (some .byte) :: mm_ts) B0.pre
  have hts : ∀ w ∈ mm_ts, w.before #[.ref (aK i)] s = true := fun w h => hts0 w (List.mem_cons_of_mem _ h)
  have hown : s.vm.findClass "java/lang/String" = some m.cls := findClass_of_methodNamed B0.named
  have hlocks := B0.notSynchronized
  have hS : va_S (fun q => B ≤ q) s.heap s.heap [] := va_S.rf
  have hl := lv_entry ([.ref (aK i)]) (n := 1) (Nat.le_of_ble_eq_true rfl)
  rw [show (#[.ref (aK i)] : Array Value) = ([.ref (aK i)] : List Value).toArray from rfl, lg_entry_eq]
  generalize (lg_sl ([.ref (aK i)]) ++ List.replicate (1 - (lg_sl ([.ref (aK i)])).length) Slot.unset).toArray = ls at hl ⊢
  have hl : lv_has ls 1 [(0, .ref (aK i))] := hl
  refine va_gets hx hb hE.2.2.2.2.1 hS hown (hts _ mm_w_fz) (fun _ h => h) mm_dC0 ?_
  refine lv_if_eq (tgt := 13) hx hb mm_dC3 (by decide) (fun q => absurd q (by decide)) (fun _ => ?_)
  refine lv_aload_n hx hb mm_dC6 rfl (lv_at hl 0 rfl) ?_
  refine vk_getf hx hb (hE.2.2.1 i hi).2.1 hS hown (hts _ mm_w_fc) (fun _ h => h) mm_dC7 ?_
  refine lv_goto (tgt := 14) hx hb mm_dC10 (by decide) ?_
  exact W.zret (ty := .byte) hx hb hr rfl (fun t ht _ => ⟨rfl, ht⟩) (fun q h => by cases h) mm_dC14
set_option maxHeartbeats 1000000 in
theorem mm_m_length (l : Launch) {B b : Nat} {X : Nat × (Nat → Int32)} {aK aV : Nat → Nat} {dC : Nat → ClassId} {dI : Nat → Nat → Nat} {dT : Nat → ClassId} {i : Nat} (hi : i < 24) : Met l mm_yL (.code mm_yL prog_14_method_54_code 1 (some .int) :: mm_ts) { frames := 1, cells := 0, slots := 0, locals := 20 } (fun a U => a = #[.ref (aK i)] ∧ mm_E B b X aK aV dC dI dT U U.heap) (mm_Qs (.int (nI (mm_slen i)))) 0 0 (fun _ => False) := by
  refine Met.ofW (cc := prog_14_method_54_code) (maxL := 1) (ret := some .int) (by decide) rfl ?_
  intro p e s m args below meth c s₁ B0 hml hv
  obtain ⟨rfl, hE⟩ := hv
  have hx := B0.exec
  have hb := B0.bytes
  have hr := B0.returns
  have hts0 := atoms_spec (ws := .code mm_yL prog_14_method_54_code 1 (some .int) :: mm_ts) B0.pre
  have hts : ∀ w ∈ mm_ts, w.before #[.ref (aK i)] s = true := fun w h => hts0 w (List.mem_cons_of_mem _ h)
  have hown : s.vm.findClass "java/lang/String" = some m.cls := findClass_of_methodNamed B0.named
  have hlocks := B0.notSynchronized
  have hS : va_S (fun q => B ≤ q) s.heap s.heap [] := va_S.rf
  have hl := lv_entry ([.ref (aK i)]) (n := 1) (Nat.le_of_ble_eq_true rfl)
  rw [show (#[.ref (aK i)] : Array Value) = ([.ref (aK i)] : List Value).toArray from rfl, lg_entry_eq]
  generalize (lg_sl ([.ref (aK i)]) ++ List.replicate (1 - (lg_sl ([.ref (aK i)])).length) Slot.unset).toArray = ls at hl ⊢
  have hl : lv_has ls 1 [(0, .ref (aK i))] := hl
  have hT := hE.2.2.1 i hi
  have hlen : mm_len.getD i 0 = mm_slen i := by
    unfold mm_len mm_slen
    rw [List.getD_eq_getElem?_getD, List.getD_eq_getElem?_getD, List.getElem?_map]
    cases mm_sb[i]? <;> rfl
  refine lv_aload_n hx hb mm_dL0 rfl (lv_at hl 0 rfl) ?_
  refine vk_getf hx hb hT.2.2.1 hS hown (hts _ mm_w_fv) (fun _ h => h) mm_dL1 ?_
  refine va_tlen hx hb hT.2.2.2 hS (v := nI (mm_slen i)) (by rw [hlen]; rfl) mm_dL4 ?_
  refine lv_aload_n hx hb mm_dL5 rfl (lv_at hl 0 rfl) ?_
  refine mm_goon (va_runV (C := "java/lang/String") (bytes := prog_14_method_152_code) (maxL := 1) (ret := some .byte) (n := 0) (b := aK i) (As := []) (rest := [.int (nI (mm_slen i))]) (Ts := mm_ts) ⟨hx, hb, hml, hown, hts⟩ (mm_m_coder l (B := B) (b := b) (X := X) (aK := aK) (aV := aV) (dC := dC) (dI := dI) (dT := dT) hi) ⟨⟨rfl, rfl, Nat.le_of_ble_eq_true rfl, Nat.le_of_ble_eq_true rfl, pay_in hts (mm_goodc mm_w_cc), List.mem_cons_self, hts _ mm_w_cc, hts _ mm_w_si, by decide +kernel, fun sig h => by rw [show parseMethodDescriptor mm_yC.desc = some ⟨[], some .byte⟩ by decide +kernel] at h; cases h; rfl, hts _ mm_w_cl⟩, hts _ mm_w_ci, hts _ mm_w_cs⟩ ⟨fun a U g mk q => ⟨q.1, mm_E.moved (locs := []) q.2 va_S.rf (State.WarmedH.refl _) rfl⟩, mm_Tx.recv hE.2.2.1 hi hS, fun U hU hW => ⟨rfl, mm_E.moved hE hS hW hU⟩⟩ rfl rfl hl.1 rfl (lv_room (Nat.le_of_ble_eq_true rfl)) mm_dL6 ⟨Nat.le_refl _, Nat.le_refl _⟩) (fun v st₀ t H1 L h0 ht hL hq => ?_)
  obtain ⟨hv, hh⟩ := hq
  cases hv
  rw [h0] at hh
  have hH : H1 = s.heap := ht.symm.trans hh
  subst hH
  refine lv_ishr hx hb mm_dL9 ?_
  rw [sb_shr0]
  have hL0 : L = [] := by
    cases L with
    | nil => rfl
    | cons q L => exact absurd (hL q List.mem_cons_self) (fun z => z)
  subst hL0
  exact W.iret hx hb hr (fun t ht _ => ⟨rfl, ht⟩) (fun q h => by cases h) mm_dL10
