/-! String.charAt over the claim's texts, leaves first -/
abbrev mm_yX : MethodName := ⟨"java/lang/String", "charAt", "(I)C"⟩
abbrev mm_yI : MethodName := ⟨"java/lang/String", "isLatin1", "()Z"⟩
abbrev mm_yA : MethodName := ⟨"java/lang/StringLatin1", "charAt", "([BI)C"⟩
abbrev mm_yK : MethodName := ⟨"java/lang/String", "checkIndex", "(II)V"⟩
abbrev mm_yP : MethodName := ⟨"jdk/internal/util/Preconditions", "checkIndex", "(IILjava/util/function/BiFunction;)I"⟩
theorem mm_w_xi : Cond.instanceMethod mm_yX ∈ mm_ts := mm_at_ts (k := 663) (by decide +kernel) rfl
theorem mm_w_xs : Cond.selects "java/lang/String" mm_yX mm_yX ∈ mm_ts := mm_at_ts (k := 664) (by decide +kernel) rfl
theorem mm_w_xc : Cond.code mm_yX prog_14_method_56_code 2 (some .char) ∈ mm_ts := mm_at_ts (k := 665) (by decide +kernel) rfl
theorem mm_w_il : Cond.methodLink "java/lang/String" 492 mm_yI ∈ mm_ts := mm_at_ts (k := 666) (by decide +kernel) rfl
theorem mm_w_ii : Cond.instanceMethod mm_yI ∈ mm_ts := mm_at_ts (k := 667) (by decide +kernel) rfl
theorem mm_w_is : Cond.selects "java/lang/String" mm_yI mm_yI ∈ mm_ts := mm_at_ts (k := 668) (by decide +kernel) rfl
theorem mm_w_ic : Cond.code mm_yI prog_14_method_154_code 1 (some .boolean) ∈ mm_ts := mm_at_ts (k := 669) (by decide +kernel) rfl
theorem mm_w_al : Cond.methodLink "java/lang/String" 495 mm_yA ∈ mm_ts := mm_at_ts (k := 670) (by decide +kernel) rfl
theorem mm_w_as : Cond.static mm_yA ∈ mm_ts := mm_at_ts (k := 671) (by decide +kernel) rfl
theorem mm_w_ac : Cond.code mm_yA prog_15_method_2_code 2 (some .char) ∈ mm_ts := mm_at_ts (k := 672) (by decide +kernel) rfl
theorem mm_w_kl : Cond.methodLink "java/lang/StringLatin1" 9 mm_yK ∈ mm_ts := mm_at_ts (k := 673) (by decide +kernel) rfl
theorem mm_w_ks : Cond.static mm_yK ∈ mm_ts := mm_at_ts (k := 674) (by decide +kernel) rfl
theorem mm_w_kc : Cond.code mm_yK prog_14_method_155_code 2 none ∈ mm_ts := mm_at_ts (k := 675) (by decide +kernel) rfl
theorem mm_w_kf : Cond.fieldLink "java/lang/String" 1053 "jdk/internal/util/Preconditions" "SIOOBE_FORMATTER" "Ljava/util/function/BiFunction;" ∈ mm_ts := mm_at_ts (k := 676) (by decide +kernel) rfl
theorem mm_w_pl : Cond.methodLink "java/lang/String" 1059 mm_yP ∈ mm_ts := mm_at_ts (k := 678) (by decide +kernel) rfl
theorem mm_w_ps : Cond.static mm_yP ∈ mm_ts := mm_at_ts (k := 679) (by decide +kernel) rfl
theorem mm_w_pc : Cond.code mm_yP prog_17_method_11_code 3 (some .int) ∈ mm_ts := mm_at_ts (k := 680) (by decide +kernel) rfl
theorem mm_w_pi : Cond.initialized "jdk/internal/util/Preconditions" ∈ mm_ts := mm_at_ts (k := 86) (by decide +kernel) rfl
theorem mm_w_ai : Cond.initialized "java/lang/StringLatin1" ∈ mm_ts := mm_at_ts (k := 85) (by decide +kernel) rfl
theorem mm_dP0 : decode prog_17_method_11_code 0 = .ok (.iload_n 0, 1) := by decide +kernel
theorem mm_dP1 : decode prog_17_method_11_code 1 = .ok (.ifCond .lt 8, 3) := by decide +kernel
theorem mm_dP4 : decode prog_17_method_11_code 4 = .ok (.iload_n 0, 1) := by decide +kernel
theorem mm_dP5 : decode prog_17_method_11_code 5 = .ok (.iload_n 1, 1) := by decide +kernel
theorem mm_dP6 : decode prog_17_method_11_code 6 = .ok (.if_icmp .lt 10, 3) := by decide +kernel
theorem mm_dP16 : decode prog_17_method_11_code 16 = .ok (.iload_n 0, 1) := by decide +kernel
theorem mm_dP17 : decode prog_17_method_11_code 17 = .ok (.ireturn, 1) := by decide +kernel
theorem mm_dK0 : decode prog_14_method_155_code 0 = .ok (.iload_n 0, 1) := by decide +kernel
theorem mm_dK1 : decode prog_14_method_155_code 1 = .ok (.iload_n 1, 1) := by decide +kernel
theorem mm_dK2 : decode prog_14_method_155_code 2 = .ok (.getstatic 1053, 3) := by decide +kernel
theorem mm_dK5 : decode prog_14_method_155_code 5 = .ok (.invokestatic 1059, 3) := by decide +kernel
theorem mm_dK8 : decode prog_14_method_155_code 8 = .ok (.pop, 1) := by decide +kernel
theorem mm_dK9 : decode prog_14_method_155_code 9 = .ok (.return_, 1) := by decide +kernel
theorem mm_dA0 : decode prog_15_method_2_code 0 = .ok (.iload_n 1, 1) := by decide +kernel
theorem mm_dA1 : decode prog_15_method_2_code 1 = .ok (.aload_n 0, 1) := by decide +kernel
theorem mm_dA2 : decode prog_15_method_2_code 2 = .ok (.arraylength, 1) := by decide +kernel
theorem mm_dA3 : decode prog_15_method_2_code 3 = .ok (.invokestatic 9, 3) := by decide +kernel
theorem mm_dA6 : decode prog_15_method_2_code 6 = .ok (.aload_n 0, 1) := by decide +kernel
theorem mm_dA7 : decode prog_15_method_2_code 7 = .ok (.iload_n 1, 1) := by decide +kernel
theorem mm_dA8 : decode prog_15_method_2_code 8 = .ok (.baload, 1) := by decide +kernel
theorem mm_dA9 : decode prog_15_method_2_code 9 = .ok (.sipush 255, 3) := by decide +kernel
theorem mm_dA12 : decode prog_15_method_2_code 12 = .ok (.iand, 1) := by decide +kernel
theorem mm_dA13 : decode prog_15_method_2_code 13 = .ok (.i2c, 1) := by decide +kernel
theorem mm_dA14 : decode prog_15_method_2_code 14 = .ok (.ireturn, 1) := by decide +kernel
theorem mm_dI0 : decode prog_14_method_154_code 0 = .ok (.getstatic 38, 3) := by decide +kernel
theorem mm_dI3 : decode prog_14_method_154_code 3 = .ok (.ifCond .eq 14, 3) := by decide +kernel
theorem mm_dI6 : decode prog_14_method_154_code 6 = .ok (.aload_n 0, 1) := by decide +kernel
theorem mm_dI7 : decode prog_14_method_154_code 7 = .ok (.getfield 15, 3) := by decide +kernel
theorem mm_dI10 : decode prog_14_method_154_code 10 = .ok (.ifCond .ne 7, 3) := by decide +kernel
theorem mm_dI13 : decode prog_14_method_154_code 13 = .ok (.iconst 1, 1) := by decide +kernel
theorem mm_dI14 : decode prog_14_method_154_code 14 = .ok (.goto 4, 3) := by decide +kernel
theorem mm_dI18 : decode prog_14_method_154_code 18 = .ok (.ireturn, 1) := by decide +kernel
theorem mm_dX0 : decode prog_14_method_56_code 0 = .ok (.aload_n 0, 1) := by decide +kernel
theorem mm_dX1 : decode prog_14_method_56_code 1 = .ok (.invokevirtual 492, 3) := by decide +kernel
theorem mm_dX4 : decode prog_14_method_56_code 4 = .ok (.ifCond .eq 12, 3) := by decide +kernel
theorem mm_dX7 : decode prog_14_method_56_code 7 = .ok (.aload_n 0, 1) := by decide +kernel
theorem mm_dX8 : decode prog_14_method_56_code 8 = .ok (.getfield 9, 3) := by decide +kernel
theorem mm_dX11 : decode prog_14_method_56_code 11 = .ok (.iload_n 1, 1) := by decide +kernel
theorem mm_dX12 : decode prog_14_method_56_code 12 = .ok (.invokestatic 495, 3) := by decide +kernel
theorem mm_dX15 : decode prog_14_method_56_code 15 = .ok (.ireturn, 1) := by decide +kernel
theorem mm_chs : ∀ i, i < 24 → ∀ k, k < mm_slen i → ((mm_sch i k &&& 255).toUInt32 % 65536).toInt32 = mm_sch i k ∧ narrow .char (.int (mm_sch i k)) = .int (mm_sch i k) := by decide +kernel
theorem mm_lens : ∀ i, i < 24 → mm_len.getD i 0 = mm_slen i ∧ mm_slen i < 1000 := by decide +kernel
def mm_Qv : Array Value → State → Outcome → State → Prop := fun _ st o t => o = .returned none ∧ t.heap = st.heap
theorem mm_noL {L : List Loc} (hL : ∀ q ∈ L, (fun _ => False) q.base) : L = [] := by
  cases L with
  | nil => rfl
  | cons q L => exact absurd (hL q List.mem_cons_self) (fun z => z)
set_option maxHeartbeats 1000000 in
theorem mm_m_pci (l : Launch) {i n : Int32} {v : Value} (hv0 : v = .null ∨ ∃ t, v = .ref t) (h0 : ¬ i < 0) (h1 : i < n) : Met l mm_yP (.code mm_yP prog_17_method_11_code 3 (some .int) :: mm_ts) { frames := 0, cells := 0, slots := 0, locals := 0 } (fun a _ => a = #[.int i, .int n, v]) (mm_Qs (.int i)) 0 0 (fun _ => False) := by
  refine Met.ofW (cc := prog_17_method_11_code) (maxL := 3) (ret := some .int) (by decide) rfl ?_
  intro p e s m args below meth c s₁ B0 hml hv
  subst hv
  have hx := B0.exec
  have hb := B0.bytes
  have hr := B0.returns
  have hl : ∃ ls, entryFrame m (#[.int i, .int n, v] : Array Value) 3 = F0 m 0 ls [] ∧ lv_has ls 3 [(0, .int i), (1, .int n)] := by
    rcases hv0 with rfl | ⟨t, rfl⟩
    · have hl := lv_entry ([.int i, .int n, .null]) (n := 3) (Nat.le_of_ble_eq_true rfl)
      rw [show (#[.int i, .int n, .null] : Array Value) = ([.int i, .int n, .null] : List Value).toArray from rfl, lg_entry_eq]
      exact ⟨_, rfl, hl.1, hl.2.1, fun q h => hl.2.2 q (by
        rcases List.mem_cons.mp h with h | h
        · exact List.mem_cons.mpr (Or.inl h)
        · exact List.mem_cons.mpr (Or.inr (List.mem_cons.mpr (Or.inl (List.mem_singleton.mp h)))))⟩
    · have hl := lv_entry ([.int i, .int n, .ref t]) (n := 3) (Nat.le_of_ble_eq_true rfl)
      rw [show (#[.int i, .int n, .ref t] : Array Value) = ([.int i, .int n, .ref t] : List Value).toArray from rfl, lg_entry_eq]
      exact ⟨_, rfl, hl.1, hl.2.1, fun q h => hl.2.2 q (by
        rcases List.mem_cons.mp h with h | h
        · exact List.mem_cons.mpr (Or.inl h)
        · exact List.mem_cons.mpr (Or.inr (List.mem_cons.mpr (Or.inl (List.mem_singleton.mp h)))))⟩
  obtain ⟨ls, hls, hl⟩ := hl
  rw [hls]
  refine lv_iload_n hx hb mm_dP0 rfl (lv_at hl 0 rfl) ?_
  refine lv_if_lt (tgt := 9) hx hb mm_dP1 (by decide) (fun q => absurd q h0) (fun _ => ?_)
  refine lv_iload_n hx hb mm_dP4 rfl (lv_at hl 0 rfl) ?_
  refine lv_iload_n hx hb mm_dP5 rfl (lv_at hl 1 rfl) ?_
  refine lv_icmp_lt (tgt := 16) hx hb mm_dP6 (by decide) (fun _ => ?_) (fun q => absurd h1 q)
  refine lv_iload_n hx hb mm_dP16 rfl (lv_at hl 0 rfl) ?_
  exact W.iret hx hb hr (fun t ht _ => ⟨rfl, ht⟩) (fun q h => by cases h) mm_dP17
set_option maxHeartbeats 1000000 in
theorem mm_m_sci (l : Launch) {B b : Nat} {X : Nat × (Nat → Int32)} {aK aV : Nat → Nat} {dC : Nat → ClassId} {dI : Nat → Nat → Nat} {dT : Nat → ClassId} {i n : Int32} (h0 : ¬ i < 0) (h1 : i < n) : Met l mm_yK (.code mm_yK prog_14_method_155_code 2 none :: mm_ts) { frames := 1, cells := 0, slots := 0, locals := 22 } (fun a U => a = #[.int i, .int n] ∧ mm_E B b X aK aV dC dI dT U U.heap) mm_Qv 0 0 (fun _ => False) := by
  refine Met.ofW (cc := prog_14_method_155_code) (maxL := 2) (ret := none) (by decide) rfl ?_
  intro p e s m args below meth c s₁ B0 hml hv
  obtain ⟨rfl, hE⟩ := hv
  have hx := B0.exec
  have hb := B0.bytes
  have hr := B0.returns
  have hts0 := atoms_spec (ws := .code mm_yK prog_14_method_155_code 2 none :: mm_ts) B0.pre
  have hts : ∀ w ∈ mm_ts, w.before #[.int i, .int n] s = true := fun w h => hts0 w (List.mem_cons_of_mem _ h)
  have hown : s.vm.findClass "java/lang/String" = some m.cls := findClass_of_methodNamed B0.named
  have hlocks := B0.notSynchronized
  have hS : va_S (fun q => B ≤ q) s.heap s.heap [] := va_S.rf
  have hl := lv_entry ([.int i, .int n]) (n := 2) (Nat.le_of_ble_eq_true rfl)
  rw [show (#[.int i, .int n] : Array Value) = ([.int i, .int n] : List Value).toArray from rfl, lg_entry_eq]
  generalize (lg_sl ([.int i, .int n]) ++ List.replicate (2 - (lg_sl ([.int i, .int n])).length) Slot.unset).toArray = ls at hl ⊢
  have hl : lv_has ls 2 [(0, .int i), (1, .int n)] := hl
  refine lv_iload_n hx hb mm_dK0 rfl (lv_at hl 0 rfl) ?_
  refine lv_iload_n hx hb mm_dK1 rfl (lv_at hl 1 rfl) ?_
  have hq : ∃ v, (v = .null ∨ ∃ t, v = .ref t) ∧ va_Z "jdk/internal/util/Preconditions" "SIOOBE_FORMATTER" "Ljava/util/function/BiFunction;" v (fun q => B ≤ q) s s.heap := by
    rcases hE.2.2.2.2.2.2.1 with h | ⟨t, h⟩
    · exact ⟨_, Or.inl rfl, h⟩
    · exact ⟨_, Or.inr ⟨t, rfl⟩, h⟩
  obtain ⟨v, hv0, hZ⟩ := hq
  refine va_gets hx hb hZ hS hown (hts _ mm_w_kf) (fun _ h => h) mm_dK2 ?_
  refine mm_goon (va_runS (bytes := prog_17_method_11_code) (maxL := 3) (ret := some .int) (n := 3) (As := [.int i, .int n, v]) (rest := []) (Ts := mm_ts) ⟨hx, hb, hml, hown, hts⟩ (mm_m_pci l hv0 h0 h1) ⟨⟨rfl, rfl, Nat.le_of_ble_eq_true rfl, Nat.le_of_ble_eq_true rfl, pay_in hts (mm_goodc mm_w_pc), List.mem_cons_self, hts _ mm_w_pc, hts _ mm_w_pi, by decide +kernel, fun sig h => by rw [show parseMethodDescriptor mm_yP.desc = some ⟨[.int, .int, .object "java/util/function/BiFunction"], some .int⟩ by decide +kernel] at h; cases h; rfl, hts _ mm_w_pl⟩, hts _ mm_w_ps⟩ ⟨fun a U g mk q => q, fun U hU hW => rfl⟩ rfl rfl hl.1 rfl (lv_room (Nat.le_of_ble_eq_true rfl)) mm_dK5 ⟨Nat.le_refl _, Nat.le_refl _⟩) (fun w st₀ t H1 L h0 ht hL hq => ?_)
  obtain ⟨hv, hh⟩ := hq
  cases hv
  rw [h0] at hh
  have hH : H1 = s.heap := ht.symm.trans hh
  subst hH
  have hL0 := mm_noL hL
  subst hL0
  refine lv_pop hx hb mm_dK8 rfl ?_
  exact W.vret hx hb hr (fun t ht _ => ⟨rfl, ht⟩) (fun q h => by cases h) mm_dK9
set_option maxHeartbeats 1000000 in
theorem mm_m_lca (l : Launch) {B b : Nat} {X : Nat × (Nat → Int32)} {aK aV : Nat → Nat} {dC : Nat → ClassId} {dI : Nat → Nat → Nat} {dT : Nat → ClassId} {i : Nat} {k : Int32} (hi : i < 24) (hk : mm_in k (mm_slen i) = true) : Met l mm_yA (.code mm_yA prog_15_method_2_code 2 (some .char) :: mm_ts) { frames := 2, cells := 0, slots := 0, locals := 43 } (fun a U => a = #[.ref (aV i), .int k] ∧ mm_E B b X aK aV dC dI dT U U.heap) (mm_Qs (.int (mm_sch i k.toNatClampNeg))) 0 0 (fun _ => False) := by
  refine Met.ofW (cc := prog_15_method_2_code) (maxL := 2) (ret := some .char) (by decide) rfl ?_
  intro p e s m args below meth c s₁ B0 hml hv
  obtain ⟨rfl, hE⟩ := hv
  have hx := B0.exec
  have hb := B0.bytes
  have hr := B0.returns
  have hts0 := atoms_spec (ws := .code mm_yA prog_15_method_2_code 2 (some .char) :: mm_ts) B0.pre
  have hts : ∀ w ∈ mm_ts, w.before #[.ref (aV i), .int k] s = true := fun w h => hts0 w (List.mem_cons_of_mem _ h)
  have hown : s.vm.findClass "java/lang/StringLatin1" = some m.cls := findClass_of_methodNamed B0.named
  have hlocks := B0.notSynchronized
  have hS : va_S (fun q => B ≤ q) s.heap s.heap [] := va_S.rf
  have hl := lv_entry ([.ref (aV i), .int k]) (n := 2) (Nat.le_of_ble_eq_true rfl)
  rw [show (#[.ref (aV i), .int k] : Array Value) = ([.ref (aV i), .int k] : List Value).toArray from rfl, lg_entry_eq]
  generalize (lg_sl ([.ref (aV i), .int k]) ++ List.replicate (2 - (lg_sl ([.ref (aV i), .int k])).length) Slot.unset).toArray = ls at hl ⊢
  have hl : lv_has ls 2 [(0, .ref (aV i)), (1, .int k)] := hl
  have hT := (hE.2.2.1 i hi).2.2.2
  obtain ⟨hlen, hl1000⟩ := mm_lens i hi
  unfold mm_in at hk
  rw [Bool.and_eq_true] at hk
  have hk0 : ¬ k < 0 := by simpa using hk.1
  have hk1 : k.toNatClampNeg < mm_slen i := by simpa using hk.2
  have hkn : k < nI (mm_slen i) := by
    rw [Int32.lt_iff_toInt_lt]
    have e1 : (nI (mm_slen i)).toInt = (mm_slen i : Int) := by
      unfold nI
      rw [Int32.toInt_ofNat_of_lt (by omega)]
    rw [e1]
    rw [Int32.toNatClampNeg] at hk1
    omega
  refine lv_iload_n hx hb mm_dA0 rfl (lv_at hl 1 rfl) ?_
  refine lv_aload_n hx hb mm_dA1 rfl (lv_at hl 0 rfl) ?_
  refine va_tlen hx hb hT hS (v := nI (mm_slen i)) (by rw [hlen]; rfl) mm_dA2 ?_
  refine mm_goon (va_runS (bytes := prog_14_method_155_code) (maxL := 2) (ret := none) (n := 2) (As := [.int k, .int (nI (mm_slen i))]) (rest := []) (Ts := mm_ts) ⟨hx, hb, hml, hown, hts⟩ (mm_m_sci l (B := B) (b := b) (X := X) (aK := aK) (aV := aV) (dC := dC) (dI := dI) (dT := dT) hk0 hkn) ⟨⟨rfl, rfl, Nat.le_of_ble_eq_true rfl, Nat.le_of_ble_eq_true rfl, pay_in hts (mm_goodc mm_w_kc), List.mem_cons_self, hts _ mm_w_kc, hts _ mm_w_si, by decide +kernel, fun sig h => by rw [show parseMethodDescriptor mm_yK.desc = some ⟨[.int, .int], none⟩ by decide +kernel] at h; cases h; rfl, hts _ mm_w_kl⟩, hts _ mm_w_ks⟩ ⟨fun a U g mk q => ⟨q.1, mm_E.moved (locs := []) q.2 va_S.rf (State.WarmedH.refl _) rfl⟩, fun U hU hW => ⟨rfl, mm_E.moved hE hS hW hU⟩⟩ rfl rfl hl.1 rfl (lv_room (Nat.le_of_ble_eq_true rfl)) mm_dA3 ⟨Nat.le_refl _, Nat.le_refl _⟩) (fun w st₀ t H1 L h0 ht hL hq => ?_)
  obtain ⟨hv, hh⟩ := hq
  cases hv
  rw [h0] at hh
  have hH : H1 = s.heap := ht.symm.trans hh
  subst hH
  have hL0 := mm_noL hL
  subst hL0
  have hch := mm_chs i hi k.toNatClampNeg hk1
  refine lv_aload_n hx hb mm_dA6 rfl (lv_at hl 0 rfl) ?_
  refine lv_iload_n hx hb mm_dA7 rfl (lv_at hl 1 rfl) ?_
  refine va_tb hx hb hT hS (i := k) (v := .int (mm_sch i k.toNatClampNeg)) (fun q => by rcases q with q | q; exact hk0 q; rw [hlen] at q; omega) rfl mm_dA8 ?_
  refine lv_sipush hx hb mm_dA9 (v := 255) rfl ?_
  refine lv_iand hx hb mm_dA12 ?_
  refine lv_i2c hx hb mm_dA13 hch.1 ?_
  exact W.zret (ty := .char) hx hb hr hch.2 (fun t ht _ => ⟨rfl, ht⟩) (fun q h => by cases h) mm_dA14
set_option maxHeartbeats 1000000 in
theorem mm_m_lat (l : Launch) {B b : Nat} {X : Nat × (Nat → Int32)} {aK aV : Nat → Nat} {dC : Nat → ClassId} {dI : Nat → Nat → Nat} {dT : Nat → ClassId} {i : Nat} (hi : i < 24) : Met l mm_yI (.code mm_yI prog_14_method_154_code 1 (some .boolean) :: mm_ts) { frames := 0, cells := 0, slots := 0, locals := 0 } (fun a U => a = #[.ref (aK i)] ∧ mm_E B b X aK aV dC dI dT U U.heap) (mm_Qs (.int 1)) 0 0 (fun _ => False) := by
  refine Met.ofW (cc := prog_14_method_154_code) (maxL := 1) (ret := some .boolean) (by decide) rfl ?_
  intro p e s m args below meth c s₁ B0 hml hv
  obtain ⟨rfl, hE⟩ := hv
  have hx := B0.exec
  have hb := B0.bytes
  have hr := B0.returns
  have hts0 := atoms_spec (ws := .code mm_yI prog_14_method_154_code 1 (some .boolean) :: mm_ts) B0.pre
  have hts : ∀ w ∈ mm_ts, w.before #[.ref (aK i)] s = true := fun w h => hts0 w (List.mem_cons_of_mem _ h)
  have hown : s.vm.findClass "java/lang/String" = some m.cls := findClass_of_methodNamed B0.named
  have hS : va_S (fun q => B ≤ q) s.heap s.heap [] := va_S.rf
  have hl := lv_entry ([.ref (aK i)]) (n := 1) (Nat.le_of_ble_eq_true rfl)
  rw [show (#[.ref (aK i)] : Array Value) = ([.ref (aK i)] : List Value).toArray from rfl, lg_entry_eq]
  generalize (lg_sl ([.ref (aK i)]) ++ List.replicate (1 - (lg_sl ([.ref (aK i)])).length) Slot.unset).toArray = ls at hl ⊢
  have hl : lv_has ls 1 [(0, .ref (aK i))] := hl
  refine va_gets hx hb hE.2.2.2.2.1 hS hown (hts _ mm_w_fz) (fun _ h => h) mm_dI0 ?_
  refine lv_if_eq (tgt := 17) hx hb mm_dI3 (by decide) (fun q => absurd q (by decide)) (fun _ => ?_)
  refine lv_aload_n hx hb mm_dI6 rfl (lv_at hl 0 rfl) ?_
  refine vk_getf hx hb (hE.2.2.1 i hi).2.1 hS hown (hts _ mm_w_fc) (fun _ h => h) mm_dI7 ?_
  refine lv_if_ne (tgt := 17) hx hb mm_dI10 (by decide) (fun q => absurd rfl q) (fun _ => ?_)
  refine lv_iconst hx hb mm_dI13 (v := 1) rfl ?_
  refine lv_goto (tgt := 18) hx hb mm_dI14 (by decide) ?_
  exact W.zret (ty := .boolean) hx hb hr rfl (fun t ht _ => ⟨rfl, ht⟩) (fun q h => by cases h) mm_dI18
set_option maxHeartbeats 1000000 in
theorem mm_m_charAt (l : Launch) {B b : Nat} {X : Nat × (Nat → Int32)} {aK aV : Nat → Nat} {dC : Nat → ClassId} {dI : Nat → Nat → Nat} {dT : Nat → ClassId} {i : Nat} {k : Int32} (hi : i < 24) (hk : mm_in k (mm_slen i) = true) : Met l mm_yX (.code mm_yX prog_14_method_56_code 2 (some .char) :: mm_ts) { frames := 3, cells := 0, slots := 0, locals := 64 } (fun a U => a = #[.ref (aK i), .int k] ∧ mm_E B b X aK aV dC dI dT U U.heap) (mm_Qs (.int (mm_sch i k.toNatClampNeg))) 0 0 (fun _ => False) := by
  refine Met.ofW (cc := prog_14_method_56_code) (maxL := 2) (ret := some .char) (by decide) rfl ?_
  intro p e s m args below meth c s₁ B0 hml hv
  obtain ⟨rfl, hE⟩ := hv
  have hx := B0.exec
  have hb := B0.bytes
  have hr := B0.returns
  have hts0 := atoms_spec (ws := .code mm_yX prog_14_method_56_code 2 (some .char) :: mm_ts) B0.pre
  have hts : ∀ w ∈ mm_ts, w.before #[.ref (aK i), .int k] s = true := fun w h => hts0 w (List.mem_cons_of_mem _ h)
  have hown : s.vm.findClass "java/lang/String" = some m.cls := findClass_of_methodNamed B0.named
  have hlocks := B0.notSynchronized
  have hS : va_S (fun q => B ≤ q) s.heap s.heap [] := va_S.rf
  have hl := lv_entry ([.ref (aK i), .int k]) (n := 2) (Nat.le_of_ble_eq_true rfl)
  rw [show (#[.ref (aK i), .int k] : Array Value) = ([.ref (aK i), .int k] : List Value).toArray from rfl, lg_entry_eq]
  generalize (lg_sl ([.ref (aK i), .int k]) ++ List.replicate (2 - (lg_sl ([.ref (aK i), .int k])).length) Slot.unset).toArray = ls at hl ⊢
  have hl : lv_has ls 2 [(0, .ref (aK i)), (1, .int k)] := hl
  have hT := hE.2.2.1 i hi
  have hk1 : k.toNatClampNeg < mm_slen i := by
    unfold mm_in at hk
    rw [Bool.and_eq_true] at hk
    simpa using hk.2
  refine lv_aload_n hx hb mm_dX0 rfl (lv_at hl 0 rfl) ?_
  refine mm_goon (va_runV (C := "java/lang/String") (bytes := prog_14_method_154_code) (maxL := 1) (ret := some .boolean) (n := 0) (b := aK i) (As := []) (rest := []) (Ts := mm_ts) ⟨hx, hb, hml, hown, hts⟩ (mm_m_lat l (B := B) (b := b) (X := X) (aK := aK) (aV := aV) (dC := dC) (dI := dI) (dT := dT) hi) ⟨⟨rfl, rfl, Nat.le_of_ble_eq_true rfl, Nat.le_of_ble_eq_true rfl, pay_in hts (mm_goodc mm_w_ic), List.mem_cons_self, hts _ mm_w_ic, hts _ mm_w_si, by decide +kernel, fun sig h => by rw [show parseMethodDescriptor mm_yI.desc = some ⟨[], some .boolean⟩ by decide +kernel] at h; cases h; rfl, hts _ mm_w_il⟩, hts _ mm_w_ii, hts _ mm_w_is⟩ ⟨fun a U g mk q => ⟨q.1, mm_E.moved (locs := []) q.2 va_S.rf (State.WarmedH.refl _) rfl⟩, mm_Tx.recv hE.2.2.1 hi hS, fun U hU hW => ⟨rfl, mm_E.moved hE hS hW hU⟩⟩ rfl rfl hl.1 rfl (lv_room (Nat.le_of_ble_eq_true rfl)) mm_dX1 ⟨Nat.le_refl _, Nat.le_refl _⟩) (fun w st₀ t H1 L h0 ht hL hq => ?_)
  obtain ⟨hv, hh⟩ := hq
  cases hv
  rw [h0] at hh
  have hH : H1 = s.heap := ht.symm.trans hh
  subst hH
  have hL0 := mm_noL hL
  subst hL0
  refine lv_if_eq (tgt := 16) hx hb mm_dX4 (by decide) (fun q => absurd q (by decide)) (fun _ => ?_)
  refine lv_aload_n hx hb mm_dX7 rfl (lv_at hl 0 rfl) ?_
  refine vk_getf hx hb hT.2.2.1 hS hown (hts _ mm_w_fv) (fun _ h => h) mm_dX8 ?_
  refine lv_iload_n hx hb mm_dX11 rfl (lv_at hl 1 rfl) ?_
  refine mm_goon (va_runS (bytes := prog_15_method_2_code) (maxL := 2) (ret := some .char) (n := 2) (As := [.ref (aV i), .int k]) (rest := []) (Ts := mm_ts) ⟨hx, hb, hml, hown, hts⟩ (mm_m_lca l (B := B) (b := b) (X := X) (aK := aK) (aV := aV) (dC := dC) (dI := dI) (dT := dT) hi hk) ⟨⟨rfl, rfl, Nat.le_of_ble_eq_true rfl, Nat.le_of_ble_eq_true rfl, pay_in hts (mm_goodc mm_w_ac), List.mem_cons_self, hts _ mm_w_ac, hts _ mm_w_ai, by decide +kernel, fun sig h => by rw [show parseMethodDescriptor mm_yA.desc = some ⟨[.array .byte, .int], some .char⟩ by decide +kernel] at h; cases h; rfl, hts _ mm_w_al⟩, hts _ mm_w_as⟩ ⟨fun a U g mk q => ⟨q.1, mm_E.moved (locs := []) q.2 va_S.rf (State.WarmedH.refl _) rfl⟩, fun U hU hW => ⟨rfl, mm_E.moved hE hS hW hU⟩⟩ rfl rfl hl.1 rfl (lv_room (Nat.le_of_ble_eq_true rfl)) mm_dX12 ⟨Nat.le_refl _, Nat.le_refl _⟩) (fun w st₀ t H1 L h0 ht hL hq => ?_)
  obtain ⟨hv, hh⟩ := hq
  cases hv
  rw [h0] at hh
  have hH : H1 = s.heap := ht.symm.trans hh
  subst hH
  have hL0 := mm_noL hL
  subst hL0
  exact W.zret (ty := .char) hx hb hr (mm_chs i hi k.toNatClampNeg hk1).2 (fun t ht _ => ⟨rfl, ht⟩) (fun q h => by cases h) mm_dX15
