/-! the small machine's values, locals and memory as the machine's own -/
/-- addresses: B the heap's size at the law's entry, b the script's, aK the texts' -/
def mm_ad (B b : Nat) (aK : Nat → Nat) (a : Nat) : Nat := if a < 1000000 then B + a else if a = 1000000 then b else aK (a - 1000001)
theorem mm_ad_lt {B b : Nat} {aK : Nat → Nat} {a : Nat} (h : a < 1000000) : mm_ad B b aK a = B + a := if_pos h
theorem mm_ad_scr {B b : Nat} {aK : Nat → Nat} : mm_ad B b aK mm_scr = b := by simp [mm_ad, mm_scr]
theorem mm_ad_txt {B b : Nat} {aK : Nat → Nat} {i : Nat} : mm_ad B b aK (mm_txt i) = aK i := by
  have h1 : ¬ (1000001 + i < 1000000) := by omega
  have h2 : ¬ (1000001 + i = 1000000) := by omega
  simp [mm_ad, mm_txt, h1, h2]
def mm_ev (ad : Nat → Nat) : mm_V → Value
  | .inl x => .int x
  | .inr (.inl r) => va_rf (r.map ad)
  | .inr (.inr x) => .long x
theorem mm_ev_cat (ad : Nat → Nat) (v : mm_V) : (mm_ev ad v).category = mm_cat v := by
  rcases v with x | r | x
  · rfl
  · cases r <;> rfl
  · rfl
abbrev mm_es (ad : Nat → Nat) (st : List mm_V) : List Value := st.map (mm_ev ad)
abbrev mm_el (ad : Nat → Nat) (L : mm_L) : List (Nat × Value) := L.map (fun q => (q.1, mm_ev ad q.2))
theorem mm_es_cat (ad : Nat → Nat) (st : List mm_V) : ((mm_es ad st).map fun v => v.category).sum = (st.map mm_cat).sum := by
  rw [List.map_map]
  congr 1
  apply List.map_congr_left
  intro v _
  exact mm_ev_cat ad v
theorem mm_lk_mem : ∀ {L : mm_L} {i : Nat} {v : mm_V}, mm_lk L i = some v → (i, v) ∈ L := by
  intro L
  induction L with
  | nil => intro i v h; cases h
  | cons q L ih =>
    intro i v h
    unfold mm_lk at h
    split at h
    · rename_i hq
      cases h
      subst hq
      exact List.mem_cons_self
    · exact List.mem_cons_of_mem _ (ih h)
theorem mm_lk_at {ad : Nat → Nat} {L : mm_L} {i n : Nat} {v : mm_V} {ls : Array Slot} (h : mm_lk L i = some v) (hl : lv_has ls n (mm_el ad L)) : ls[i]? = some (.val (mm_ev ad v)) :=
  hl.2.2 (i, mm_ev ad v) (List.mem_map.mpr ⟨(i, v), mm_lk_mem h, rfl⟩)
theorem mm_lk_ix {ad : Nat → Nat} {L : mm_L} {i : Nat} {v : mm_V} (h : mm_lk L i = some v) : ∃ k : Nat, (mm_el ad L)[k]? = some (i, mm_ev ad v) :=
  List.getElem?_of_mem (List.mem_map.mpr ⟨(i, v), mm_lk_mem h, rfl⟩)
theorem mm_st1_el (ad : Nat → Nat) (i : Nat) (v : mm_V) (L : mm_L) : (i, mm_ev ad v) :: (mm_el ad L).filter (fun q => !(q.1 == i) && !(q.1 + 1 == i && q.2.category == 2)) = mm_el ad (mm_st1 i v L) := by
  unfold mm_st1 mm_el
  rw [List.map_cons, List.filter_map]
  congr 2
  apply List.filter_congr
  intro q _
  simp only [Function.comp, mm_ev_cat]
theorem mm_st2_el (ad : Nat → Nat) (i : Nat) (v : mm_V) (L : mm_L) : (i, mm_ev ad v) :: (mm_el ad L).filter (fun q => !(q.1 == i) && (!(q.1 == i + 1) && !(q.1 + 1 == i && q.2.category == 2))) = mm_el ad (mm_st2 i v L) := by
  unfold mm_st2 mm_el
  rw [List.map_cons, List.filter_map]
  congr 2
  apply List.filter_congr
  intro q _
  simp only [Function.comp, mm_ev_cat]
/-- the classes whose objects the memory holds (Words has none) -/
def mm_k : List vw_C := (List.range 11).map fun ci => if ci = 8 then (mm_cn 3, mm_T 3, mm_N 3) else (mm_cn ci, mm_T ci, mm_N ci)
/-! cells -/
def mm_ec (ad : Nat → Nat) (dT : Nat → ClassId) : mm_C → va_E
  | .inl q => .inr (q.1, q.2.map (mm_ev ad))
  | .inr (t, n, .inl f) => .inl (dT t, n, .inl f)
  | .inr (t, n, .inr (.inl f)) => .inl (dT t, n, .inr (.inl f))
  | .inr (t, n, .inr (.inr f)) => .inl (dT t, n, .inr (.inr (.inr (.inr (fun j => (f j).map ad)))))
def mm_wd (ad : Nat → Nat) (dT : Nat → ClassId) (M : mm_M) : va_W := M.mapIdx (fun k c => (ad k, mm_ec ad dT c))
theorem mm_wd_get {ad : Nat → Nat} {dT : Nat → ClassId} {M : mm_M} {k : Nat} {c : mm_C} (h : M[k]? = some c) : (mm_wd ad dT M)[k]? = some (ad k, mm_ec ad dT c) := by
  unfold mm_wd
  rw [List.getElem?_mapIdx, h]
  rfl
theorem mm_wd_inv {ad : Nat → Nat} {dT : Nat → ClassId} {M : mm_M} {k : Nat} {q : Nat × va_E} (h : (mm_wd ad dT M)[k]? = some q) : k < M.length ∧ q.1 = ad k := by
  unfold mm_wd at h
  rw [List.getElem?_mapIdx] at h
  cases hc : M[k]? with
  | none => rw [hc] at h; cases h
  | some c =>
    rw [hc] at h
    cases h
    exact ⟨(List.getElem?_eq_some_iff.mp hc).1, rfl⟩
theorem mm_wd_set {ad : Nat → Nat} {dT : Nat → ClassId} {M : mm_M} {k : Nat} {c : mm_C} : (mm_wd ad dT M).set k (ad k, mm_ec ad dT c) = mm_wd ad dT (M.set k c) := by
  unfold mm_wd
  apply List.ext_getElem?
  intro j
  rw [List.getElem?_set, List.getElem?_mapIdx, List.getElem?_mapIdx, List.getElem?_set, List.length_mapIdx]
  by_cases h : k = j
  · subst h
    by_cases h2 : k < M.length
    · simp [h2]
    · simp [h2]
  · simp [h]
theorem mm_wd_app {ad : Nat → Nat} {dT : Nat → ClassId} {M : mm_M} {c : mm_C} : mm_wd ad dT (M ++ [c]) = mm_wd ad dT M ++ [(ad M.length, mm_ec ad dT c)] := by
  unfold mm_wd
  rw [List.mapIdx_append]
  simp
theorem mm_wdD {B b : Nat} {aK : Nat → Nat} {dT : Nat → ClassId} {M : mm_M} (h : M.length ≤ 1000000) : va_D (fun q => B ≤ q) (mm_wd (mm_ad B b aK) dT M) := by
  refine ⟨fun i j p q hi hj he => ?_, fun k q hk => ?_⟩
  · obtain ⟨h1, h2⟩ := mm_wd_inv hi
    obtain ⟨h3, h4⟩ := mm_wd_inv hj
    rw [h2, h4, mm_ad_lt (by omega), mm_ad_lt (by omega)] at he
    omega
  · obtain ⟨h1, h2⟩ := mm_wd_inv hk
    show B ≤ q.1
    rw [h2, mm_ad_lt (by omega)]
    omega
/-- how many slots a cell has -/
def mm_cs : mm_C → Nat
  | .inl q => mm_N q.1
  | .inr q => q.2.1
abbrev mm_sh (M : mm_M) : List Nat := M.map mm_cs
theorem mm_sh_set {M : mm_M} {k : Nat} {c c0 : mm_C} (h : M[k]? = some c0) (hc : mm_cs c = mm_cs c0) : mm_sh (M.set k c) = mm_sh M := by
  apply List.ext_getElem?
  intro j
  rw [List.getElem?_map, List.getElem?_map, List.getElem?_set]
  by_cases hj : k = j
  · subst hj
    have hlt := (List.getElem?_eq_some_iff.mp h).1
    rw [if_pos rfl, if_pos hlt, h]
    exact congrArg some hc
  · simp [hj]
/-- the memory M is the heap behind B; it began with n0 cells of s0 slots -/
def mm_R (B b : Nat) (aK : Nat → Nat) (dC : Nat → ClassId) (dI : Nat → Nat → Nat) (dT : Nat → ClassId) (n0 s0 : Nat) (M : mm_M) (H : Heap) : Prop := M.length ≤ 1000000 ∧ n0 ≤ M.length ∧ s0 ≤ (mm_sh M).sum ∧ va_P (dC, dI) mm_k (mm_wd (mm_ad B b aK) dT M) H
def mm_tys (dT : Nat → ClassId) : List (ClassId × FieldType) := (List.range 5).map fun t => (dT t, mm_at t)
theorem mm_tys_at {dT : Nat → ClassId} {t : Nat} (h : t < 5) : (mm_tys dT)[t]? = some (dT t, mm_at t) := by
  unfold mm_tys
  rw [List.getElem?_map, List.getElem?_range h]
  rfl
theorem mm_cl_at {ci : Nat} (h : ci < 11) (h8 : ¬ ci = 8) : mm_k[ci]? = some (mm_cn ci, mm_T ci, mm_N ci) := by
  unfold mm_k
  rw [List.getElem?_map, List.getElem?_range h]
  show some (if ci = 8 then _ else _) = _
  rw [if_neg h8]
theorem mm_n8 {ci k : Nat} (h : k < mm_N ci) : ¬ ci = 8 := fun q => by
  subst q
  have h8 : mm_N 8 = 0 := by decide +kernel
  omega
def mm_len : List Nat := mm_sb.map List.length
def mm_Tx (aK aV : Nat → Nat) (A : Nat → Prop) (U : State) (H : Heap) : Prop := ∀ i : Nat, i < 24 → va_O "java/lang/String" (aK i) A U H ∧ va_OF "java/lang/String" "coder" "B" (.int 0) (aK i) A U H ∧ va_OF "java/lang/String" "value" "[B" (.ref (aV i)) (aK i) A U H ∧ va_T .byte (aV i) (mm_len.getD i 0) (fun j => .int ((mm_sb.getD i []).getD j 0)) A U H
theorem mm_Tx.moved {aK aV : Nat → Nat} {A : Nat → Prop} {u U : State} {H : Heap} (hvm : u.vm.Alike U.vm) (h : mm_Tx aK aV A u H) : mm_Tx aK aV A U H :=
  fun i hi => ⟨va_O.moved hvm (h i hi).1, va_OF.moved hvm (h i hi).2.1, va_OF.moved hvm (h i hi).2.2.1, va_T.moved hvm (h i hi).2.2.2⟩
theorem mm_Tx.kept {aK aV : Nat → Nat} {A : Nat → Prop} {U : State} {H H1 : Heap} (h : mm_Tx aK aV A U H) (hq : ∀ a : Nat, a < H.size → ¬ A a → H1[a]? = H[a]?) : mm_Tx aK aV A U H1 :=
  fun i hi => ⟨(h i hi).1.kept hq, (h i hi).2.1.kept hq, (h i hi).2.2.1.kept hq, (h i hi).2.2.2.kept hq⟩
theorem mm_Tx.recv {aK aV : Nat → Nat} {A : Nat → Prop} {s : State} {H : Heap} {locs : List Loc} {i : Nat} (h : mm_Tx aK aV A s s.heap) (hi : i < 24) (hS : va_S A s.heap H locs) : ∃ cell : Cell, H[aK i]? = some cell ∧ cell.vm.isStatics = false ∧ s.vm.findClass "java/lang/String" = some cell.cls := by
  obtain ⟨cell, h1, h2, h3, h4⟩ := (h i hi).1
  exact ⟨cell, by rw [hS.2.1 _ (Array.getElem?_eq_some_iff.mp h1).1 h4]; exact h1, h2, h3⟩
/-- what holds of the heap below B: the tables, the script, the texts -/
def mm_E (B b : Nat) (X : Nat × (Nat → Int32)) (aK aV : Nat → Nat) (dC : Nat → ClassId) (dI : Nat → Nat → Nat) (dT : Nat → ClassId) (U : State) (H : Heap) : Prop :=
  va_K (dC, dI) mm_k (mm_tys dT) U ∧ va_X b X.1 X.2 U H ∧ mm_Tx aK aV (fun q => B ≤ q) U H ∧ (∀ (r j : Nat), r < mm_KR.length → (mm_krf r).2.2.1 = .inr j → vk_R (mm_cn (mm_krf r).1) (mm_krf r).2.1 (mm_sl.getD j "") (aK j) U) ∧ va_Z "java/lang/String" "COMPACT_STRINGS" "Z" (.int 1) (fun q => B ≤ q) U H ∧ va_AO "CallAgents$Message" U ∧ va_Zq "jdk/internal/util/Preconditions" "SIOOBE_FORMATTER" "Ljava/util/function/BiFunction;" (fun q => B ≤ q) U H ∧ b < B ∧ B ≤ H.size
theorem mm_E.moved {B b : Nat} {X : Nat × (Nat → Int32)} {aK aV : Nat → Nat} {dC : Nat → ClassId} {dI : Nat → Nat → Nat} {dT : Nat → ClassId} {s U : State} {H : Heap} {locs : List Loc} (h : mm_E B b X aK aV dC dI dT s s.heap) (hS : va_S (fun q => B ≤ q) s.heap H locs) (hW : s.WarmedH U.vm) (hH : U.heap = H) : mm_E B b X aK aV dC dI dT U U.heap := by
  obtain ⟨h1, ⟨scr, x1, x2, x3, x4, x5⟩, h3, h4, h5, h6, h9, h7, h8⟩ := h
  subst hH
  refine ⟨va_K.moved hW.alike h1, ⟨scr, ?_, State.isArrayOf_alike hW.alike x2, x3, x4, x5⟩, mm_Tx.moved hW.alike (h3.kept (fun a ha hA => hS.2.1 a ha hA)), fun r j hr hj => vk_R.warm hW (h4 r j hr hj), va_Z.moved hW.alike (h5.kept (fun a ha hA => hS.2.1 a ha hA)), va_AO.moved hW.alike h6, va_Zq.moved hW.alike (h9.kept (fun a ha hA => hS.2.1 a ha hA)), h7, Nat.le_trans h8 hS.1⟩
  rw [hS.2.1 b (Nat.lt_of_lt_of_le h7 h8) (Nat.not_le.mpr h7)]
  exact x1
