/-! the means of the printed functions -/
def fm_N : Nat := 4294967296
def fm_isD (c : Nat) : Prop := fm_tm c = .inl 3 ∧ fm_tm (c + 1) = .inr (0, 30)
def fm_isG (d : Nat) : Prop := fm_tm d = .inl 1 ∧ fm_tm (d + 1) = .inl 3 ∧ fm_tm (d + 2) = .inr (0, 30) ∧ fm_tm (d + 3) = .inl 3 ∧ fm_tm (d + 4) = .inr (0, 30)
def fm_isR (t : Nat) : Prop := fm_tm t = .inl 7
def fm_isT (t : Nat) : Prop := fm_tm t = .inl 6 ∧ fm_tm (t + 1) = .inr (1, fm_ln (t + 1))
def fm_isIA (q : Nat) : Prop := fm_tm q = .inr (0, fm_ln q)
def fm_isA (a : Nat) : Prop := fm_tm a = .inl 0 ∧ fm_tm (a + 1) = .inl 3 ∧ fm_tm (a + 2) = .inr (0, 30) ∧ fm_tm (a + 3) = .inl 1 ∧ fm_tm (a + 4) = .inl 3 ∧ fm_tm (a + 5) = .inr (0, 30) ∧ fm_tm (a + 6) = .inl 3 ∧ fm_tm (a + 7) = .inr (0, 30) ∧ fm_tm (a + 8) = .inl 7 ∧ fm_tm (a + 9) = .inl 4 ∧ fm_tm (a + 10) = .inl 3 ∧ fm_tm (a + 11) = .inr (0, 30) ∧ fm_tm (a + 12) = .inl 4 ∧ fm_tm (a + 13) = .inl 3 ∧ fm_tm (a + 14) = .inr (0, 30)
section EV3
variable {X : Nat × (Nat → Int32)} {y pc : Nat} {l : List (Option mm_V)} {st : List mm_V} {u : fm} {R : List mm_V × fm}
theorem ev_callSk {st st1 : List mm_V} {r z na ow m : Nat} {l0 : List (Option mm_V)} {vs : List mm_V} {u1 : fm} (hf : mm_fetch y pc = some (.invokestatic r, 3)) (hg : fm_cg y r 2 = some (z, na, ow)) (hs : fm_spl na st = true) (hl : l0 = ((st.take na).reverse).map some ++ List.replicate m none) (hcal : ev X z 0 l0 [] u (vs, u1)) (hst : vs ++ st.drop na = st1) (h : ev X y (pc + 3) l st1 u1 R) : ev X y pc l st u R := by
  subst hst
  exact ev_callS hf hg hs hl hcal h
theorem ev_callVk {st st1 : List mm_V} {r z na ow m a : Nat} {As : List mm_V} {l0 : List (Option mm_V)} {vs : List mm_V} {u1 : fm} (hf : mm_fetch y pc = some (.invokevirtual r, 3)) (hg : fm_cg y r 0 = some (z, na, ow)) (hw : Nat.blt ow 11 && !(Nat.beq ow 8) = true) (hs : fm_spl na st = true) (hA : (st.take na).reverse = .inr (.inl (some a)) :: As) (ht : fm_tm a = .inl ow) (hl : l0 = (.inr (.inl (some a)) :: As).map some ++ List.replicate m none) (hcal : ev X z 0 l0 [] u (vs, u1)) (hst : vs ++ st.drop na = st1) (h : ev X y (pc + 3) l st1 u1 R) : ev X y pc l st u R := by
  subst hst
  exact ev_callV hf hg hw hs hA ht hl hcal h
theorem ev_callSZk {st st1 : List mm_V} {r z na ow m : Nat} {l0 : List (Option mm_V)} {x : Int32} {u1 : fm} (hf : mm_fetch y pc = some (.invokestatic r, 3)) (hg : fm_cg y r 2 = some (z, na, ow)) (hz : mm_rt z = some .boolean) (hs : fm_spl na st = true) (hl : l0 = ((st.take na).reverse).map some ++ List.replicate m none) (hcal : ev X z 0 l0 [] u ([.inl x], u1)) (hst : .inl x :: st.drop na = st1) (h : (x = 0 ∨ x = 1) → ev X y (pc + 3) l st1 u1 R) : ev X y pc l st u R := by
  subst hst
  exact ev_callSZ hf hg hz hs hl hcal h
theorem ev_callVZk {st st1 : List mm_V} {r z na ow m a : Nat} {As : List mm_V} {l0 : List (Option mm_V)} {x : Int32} {u1 : fm} (hf : mm_fetch y pc = some (.invokevirtual r, 3)) (hg : fm_cg y r 0 = some (z, na, ow)) (hw : Nat.blt ow 11 && !(Nat.beq ow 8) = true) (hz : mm_rt z = some .boolean) (hs : fm_spl na st = true) (hA : (st.take na).reverse = .inr (.inl (some a)) :: As) (ht : fm_tm a = .inl ow) (hl : l0 = (.inr (.inl (some a)) :: As).map some ++ List.replicate m none) (hcal : ev X z 0 l0 [] u ([.inl x], u1)) (hst : .inl x :: st.drop na = st1) (h : (x = 0 ∨ x = 1) → ev X y (pc + 3) l st1 u1 R) : ev X y pc l st u R := by
  subst hst
  exact ev_callVZ hf hg hw hz hs hA ht hl hcal h
theorem ev_nul_t {off : Int} {t : Nat} (hf : mm_fetch y pc = some (.ifnull off, 3)) (ht : mm_tgt pc off = some t) (h : ev X y t l st u R) : ev X y pc l (.inr (.inl none) :: st) u R :=
  ev_q hf rfl (fun _ => rfl) (fun L M hL _ => by dsimp only [mm_step, mm_br]; rw [ht]; rfl) h
theorem ev_nul_f {off : Int} {t a : Nat} (hf : mm_fetch y pc = some (.ifnull off, 3)) (ht : mm_tgt pc off = some t) (h : ev X y (pc + 3) l st u R) : ev X y pc l (.inr (.inl (some a)) :: st) u R :=
  ev_q hf rfl (fun _ => rfl) (fun L M hL _ => by dsimp only [mm_step, mm_br]; rw [ht]; rfl) h
theorem ev_nnl_t {off : Int} {t a : Nat} (hf : mm_fetch y pc = some (.ifnonnull off, 3)) (ht : mm_tgt pc off = some t) (h : ev X y t l st u R) : ev X y pc l (.inr (.inl (some a)) :: st) u R :=
  ev_q hf rfl (fun _ => rfl) (fun L M hL _ => by dsimp only [mm_step, mm_br]; rw [ht]; rfl) h
theorem ev_nnl_f {off : Int} {t : Nat} (hf : mm_fetch y pc = some (.ifnonnull off, 3)) (ht : mm_tgt pc off = some t) (h : ev X y (pc + 3) l st u R) : ev X y pc l (.inr (.inl none) :: st) u R :=
  ev_q hf rfl (fun _ => rfl) (fun L M hL _ => by dsimp only [mm_step, mm_br]; rw [ht]; rfl) h
theorem ev_lenk {a t n : Nat} {c : Int32} (hf : mm_fetch y pc = some (.arraylength, 1)) (ht : fm_tm a = .inr (t, n)) (h5 : Nat.blt t 5 = true) (hc : Int32.ofNat n = c) (h : ev X y (pc + 1) l (.inl c :: st) u R) : ev X y pc l (.inr (.inl (some a)) :: st) u R := by
  subst hc
  exact ev_len hf ht h5 h
theorem ev_aaloadk {a n m : Nat} {i : Int32} (hf : mm_fetch y pc = some (.aaload, 1)) (ht : fm_tm a = .inr (4, n)) (hi : fm_in i n) (hm : 3 + 3 * (fP u a i.toNatClampNeg % 60) = m) (h : ev X y (pc + 1) l (.inr (.inl (some m)) :: st) u R) : ev X y pc l (.inl i :: .inr (.inl (some a)) :: st) u R := by
  subst hm
  exact ev_aaload hf ht hi h
/-- locals forgotten -/
def fm_msk : List Bool → List (Option mm_V) → List (Option mm_V)
  | b :: bs, o :: l => (match b with | true => o | false => none) :: fm_msk bs l
  | _, _ => []
theorem fm_msk_ok : ∀ (bs : List Bool) (l : List (Option mm_V)) (k : Nat) (v : mm_V), (fm_msk bs l)[k]? = some (some v) → l[k]? = some (some v) := by
  intro bs
  induction bs with
  | nil => intro l k v h; simp [fm_msk] at h
  | cons b bs ih =>
    intro l k v h
    cases l with
    | nil => simp [fm_msk] at h
    | cons o l =>
      cases k with
      | zero =>
        cases b with
        | true => simpa [fm_msk] using h
        | false => simp [fm_msk] at h
      | succ k =>
        simp only [fm_msk, List.getElem?_cons_succ] at h ⊢
        exact ih l k v h
theorem ev_w (bs : List Bool) (h : ev X y pc (fm_msk bs l) st u R) : ev X y pc l st u R := fun L M hL hM => h L M (fun k v hk => hL k v (fm_msk_ok bs l k v hk)) hM
end EV3
theorem fm_lc_eq {β : Type} {x z : Int64} {A B : β} : (if lg_cmp x z = 0 then A else B) = (if x = z then A else B) := by
  unfold lg_cmp
  by_cases h1 : x > z
  · rw [if_pos h1, if_neg (show ¬ (1 : Int32) = 0 by decide), if_neg (fun e => by subst e; exact Int64.lt_irrefl h1)]
  · rw [if_neg h1]
    by_cases h2 : x = z
    · rw [if_pos h2, if_pos rfl, if_pos h2]
    · rw [if_neg h2, if_neg (show ¬ (-1 : Int32) = 0 by decide), if_neg h2]
theorem fm_lc_lt {β : Type} {x z : Int64} {A B : β} : (if lg_cmp x z < 0 then A else B) = (if x < z then A else B) := by
  unfold lg_cmp
  by_cases h1 : x > z
  · rw [if_pos h1, if_neg (show ¬ (1 : Int32) < 0 by decide), if_neg (fun e => Int64.lt_irrefl (Int64.lt_trans h1 e))]
  · rw [if_neg h1]
    by_cases h2 : x = z
    · rw [if_pos h2, if_neg (show ¬ (0 : Int32) < 0 by decide), if_neg (by subst h2; exact Int64.lt_irrefl)]
    · rw [if_neg h2, if_pos (show (-1 : Int32) < 0 by decide), if_pos (by
        rcases Int64.lt_or_lt_of_ne h2 with h | h
        · exact h
        · exact absurd h h1)]
theorem fm_lc_gt {β : Type} {x z : Int64} {A B : β} : (if 0 < lg_cmp x z then A else B) = (if z < x then A else B) := by
  unfold lg_cmp
  by_cases h1 : x > z
  · rw [if_pos h1, if_pos (show (0 : Int32) < 1 by decide), if_pos h1]
  · rw [if_neg h1]
    by_cases h2 : x = z
    · rw [if_pos h2, if_neg (show ¬ (0 : Int32) < 0 by decide), if_neg h1]
    · rw [if_neg h2, if_neg (show ¬ (0 : Int32) < -1 by decide), if_neg h1]
/-- the numbers from lo on -/
def fm_sq (lo : Int) : Nat → List Int32
  | 0 => []
  | n + 1 => Int32.ofInt lo :: fm_sq (lo + 1) n
theorem fm_swx {x : Int32} : ∀ {n : Nat} {lo : Int}, (∀ c ∈ fm_sq lo n, ¬ x = c) → x.toInt < lo ∨ lo + (n : Int) - 1 < x.toInt := by
  intro n
  induction n with
  | zero => intro lo _; omega
  | succ n ih =>
    intro lo h
    have h1 := h (Int32.ofInt lo) (List.mem_cons_self)
    have h2 := ih (lo := lo + 1) (fun c hc => h c (List.mem_cons_of_mem _ hc))
    have h3 : ¬ x.toInt = lo := by
      intro e
      apply h1
      rw [← e, Int32.ofInt_toInt]
    omega
theorem fm_ite_S {c : Prop} {hd : Decidable c} {a b : Nat} (ha : fm_isS a) (hb : fm_isS b) : fm_isS (@ite _ c hd a b) := by
  by_cases h : c
  · rw [if_pos h]; exact ha
  · rw [if_neg h]; exact hb
/-! facts of the tables, by name -/
theorem fe_1 {pc : Nat} {q : Instr × Nat} (h : mm_c1[pc]? = some (some q)) : mm_fetch 1 pc = some q := by
  unfold mm_fetch
  rw [show mm_ct.getD 1 [] = mm_c1 from rfl, h]
theorem mx_1 : mm_mx 1 = 1 := rfl
theorem rt_1 : mm_rt 1 = (some .boolean) := rfl
theorem fe_38 {pc : Nat} {q : Instr × Nat} (h : mm_c38[pc]? = some (some q)) : mm_fetch 38 pc = some q := by
  unfold mm_fetch
  rw [show mm_ct.getD 38 [] = mm_c38 from rfl, h]
theorem mx_38 : mm_mx 38 = 1 := rfl
theorem rt_38 : mm_rt 38 = none := rfl
theorem fe_19 {pc : Nat} {q : Instr × Nat} (h : mm_c19[pc]? = some (some q)) : mm_fetch 19 pc = some q := by
  unfold mm_fetch
  rw [show mm_ct.getD 19 [] = mm_c19 from rfl, h]
theorem mx_19 : mm_mx 19 = 4 := rfl
theorem rt_19 : mm_rt 19 = none := rfl
theorem fe_39 {pc : Nat} {q : Instr × Nat} (h : mm_c39[pc]? = some (some q)) : mm_fetch 39 pc = some q := by
  unfold mm_fetch
  rw [show mm_ct.getD 39 [] = mm_c39 from rfl, h]
theorem mx_39 : mm_mx 39 = 3 := rfl
theorem rt_39 : mm_rt 39 = none := rfl
theorem fe_47 {pc : Nat} {q : Instr × Nat} (h : mm_c47[pc]? = some (some q)) : mm_fetch 47 pc = some q := by
  unfold mm_fetch
  rw [show mm_ct.getD 47 [] = mm_c47 from rfl, h]
theorem mx_47 : mm_mx 47 = 2 := rfl
theorem rt_47 : mm_rt 47 = none := rfl
theorem fe_20 {pc : Nat} {q : Instr × Nat} (h : mm_c20[pc]? = some (some q)) : mm_fetch 20 pc = some q := by
  unfold mm_fetch
  rw [show mm_ct.getD 20 [] = mm_c20 from rfl, h]
theorem mx_20 : mm_mx 20 = 1 := rfl
theorem rt_20 : mm_rt 20 = none := rfl
theorem fe_30 {pc : Nat} {q : Instr × Nat} (h : mm_c30[pc]? = some (some q)) : mm_fetch 30 pc = some q := by
  unfold mm_fetch
  rw [show mm_ct.getD 30 [] = mm_c30 from rfl, h]
theorem mx_30 : mm_mx 30 = 2 := rfl
theorem rt_30 : mm_rt 30 = (some (.object "CallAgents$Message")) := rfl
theorem fe_31 {pc : Nat} {q : Instr × Nat} (h : mm_c31[pc]? = some (some q)) : mm_fetch 31 pc = some q := by
  unfold mm_fetch
  rw [show mm_ct.getD 31 [] = mm_c31 from rfl, h]
theorem mx_31 : mm_mx 31 = 4 := rfl
theorem rt_31 : mm_rt 31 = (some .boolean) := rfl
theorem fe_32 {pc : Nat} {q : Instr × Nat} (h : mm_c32[pc]? = some (some q)) : mm_fetch 32 pc = some q := by
  unfold mm_fetch
  rw [show mm_ct.getD 32 [] = mm_c32 from rfl, h]
theorem mx_32 : mm_mx 32 = 2 := rfl
theorem rt_32 : mm_rt 32 = none := rfl
theorem fe_21 {pc : Nat} {q : Instr × Nat} (h : mm_c21[pc]? = some (some q)) : mm_fetch 21 pc = some q := by
  unfold mm_fetch
  rw [show mm_ct.getD 21 [] = mm_c21 from rfl, h]
theorem mx_21 : mm_mx 21 = 2 := rfl
theorem rt_21 : mm_rt 21 = none := rfl
theorem fe_78 {pc : Nat} {q : Instr × Nat} (h : mm_c78[pc]? = some (some q)) : mm_fetch 78 pc = some q := by
  unfold mm_fetch
  rw [show mm_ct.getD 78 [] = mm_c78 from rfl, h]
theorem mx_78 : mm_mx 78 = 3 := rfl
theorem rt_78 : mm_rt 78 = none := rfl
theorem fe_23 {pc : Nat} {q : Instr × Nat} (h : mm_c23[pc]? = some (some q)) : mm_fetch 23 pc = some q := by
  unfold mm_fetch
  rw [show mm_ct.getD 23 [] = mm_c23 from rfl, h]
theorem mx_23 : mm_mx 23 = 4 := rfl
theorem rt_23 : mm_rt 23 = none := rfl
theorem fe_25 {pc : Nat} {q : Instr × Nat} (h : mm_c25[pc]? = some (some q)) : mm_fetch 25 pc = some q := by
  unfold mm_fetch
  rw [show mm_ct.getD 25 [] = mm_c25 from rfl, h]
theorem mx_25 : mm_mx 25 = 4 := rfl
theorem rt_25 : mm_rt 25 = none := rfl
theorem fe_2 {pc : Nat} {q : Instr × Nat} (h : mm_c2[pc]? = some (some q)) : mm_fetch 2 pc = some q := by
  unfold mm_fetch
  rw [show mm_ct.getD 2 [] = mm_c2 from rfl, h]
theorem mx_2 : mm_mx 2 = 2 := rfl
theorem rt_2 : mm_rt 2 = (some .boolean) := rfl
theorem fe_34 {pc : Nat} {q : Instr × Nat} (h : mm_c34[pc]? = some (some q)) : mm_fetch 34 pc = some q := by
  unfold mm_fetch
  rw [show mm_ct.getD 34 [] = mm_c34 from rfl, h]
theorem mx_34 : mm_mx 34 = 4 := rfl
theorem rt_34 : mm_rt 34 = (some .int) := rfl
theorem fe_35 {pc : Nat} {q : Instr × Nat} (h : mm_c35[pc]? = some (some q)) : mm_fetch 35 pc = some q := by
  unfold mm_fetch
  rw [show mm_ct.getD 35 [] = mm_c35 from rfl, h]
theorem mx_35 : mm_mx 35 = 2 := rfl
theorem rt_35 : mm_rt 35 = (some .boolean) := rfl
theorem fe_36 {pc : Nat} {q : Instr × Nat} (h : mm_c36[pc]? = some (some q)) : mm_fetch 36 pc = some q := by
  unfold mm_fetch
  rw [show mm_ct.getD 36 [] = mm_c36 from rfl, h]
theorem mx_36 : mm_mx 36 = 4 := rfl
theorem rt_36 : mm_rt 36 = none := rfl
theorem fe_42 {pc : Nat} {q : Instr × Nat} (h : mm_c42[pc]? = some (some q)) : mm_fetch 42 pc = some q := by
  unfold mm_fetch
  rw [show mm_ct.getD 42 [] = mm_c42 from rfl, h]
theorem mx_42 : mm_mx 42 = 4 := rfl
theorem rt_42 : mm_rt 42 = (some .boolean) := rfl
theorem fe_41 {pc : Nat} {q : Instr × Nat} (h : mm_c41[pc]? = some (some q)) : mm_fetch 41 pc = some q := by
  unfold mm_fetch
  rw [show mm_ct.getD 41 [] = mm_c41 from rfl, h]
theorem mx_41 : mm_mx 41 = 4 := rfl
theorem rt_41 : mm_rt 41 = (some .boolean) := rfl
theorem fe_40 {pc : Nat} {q : Instr × Nat} (h : mm_c40[pc]? = some (some q)) : mm_fetch 40 pc = some q := by
  unfold mm_fetch
  rw [show mm_ct.getD 40 [] = mm_c40 from rfl, h]
theorem mx_40 : mm_mx 40 = 7 := rfl
theorem rt_40 : mm_rt 40 = none := rfl
theorem fe_3 {pc : Nat} {q : Instr × Nat} (h : mm_c3[pc]? = some (some q)) : mm_fetch 3 pc = some q := by
  unfold mm_fetch
  rw [show mm_ct.getD 3 [] = mm_c3 from rfl, h]
theorem mx_3 : mm_mx 3 = 2 := rfl
theorem rt_3 : mm_rt 3 = (some .boolean) := rfl
theorem fe_4 {pc : Nat} {q : Instr × Nat} (h : mm_c4[pc]? = some (some q)) : mm_fetch 4 pc = some q := by
  unfold mm_fetch
  rw [show mm_ct.getD 4 [] = mm_c4 from rfl, h]
theorem mx_4 : mm_mx 4 = 2 := rfl
theorem rt_4 : mm_rt 4 = (some .boolean) := rfl
theorem fe_49 {pc : Nat} {q : Instr × Nat} (h : mm_c49[pc]? = some (some q)) : mm_fetch 49 pc = some q := by
  unfold mm_fetch
  rw [show mm_ct.getD 49 [] = mm_c49 from rfl, h]
theorem mx_49 : mm_mx 49 = 2 := rfl
theorem rt_49 : mm_rt 49 = none := rfl
theorem fe_5 {pc : Nat} {q : Instr × Nat} (h : mm_c5[pc]? = some (some q)) : mm_fetch 5 pc = some q := by
  unfold mm_fetch
  rw [show mm_ct.getD 5 [] = mm_c5 from rfl, h]
theorem mx_5 : mm_mx 5 = 2 := rfl
theorem rt_5 : mm_rt 5 = (some .boolean) := rfl
theorem fe_79 {pc : Nat} {q : Instr × Nat} (h : mm_c79[pc]? = some (some q)) : mm_fetch 79 pc = some q := by
  unfold mm_fetch
  rw [show mm_ct.getD 79 [] = mm_c79 from rfl, h]
theorem mx_79 : mm_mx 79 = 1 := rfl
theorem rt_79 : mm_rt 79 = none := rfl
theorem fe_22 {pc : Nat} {q : Instr × Nat} (h : mm_c22[pc]? = some (some q)) : mm_fetch 22 pc = some q := by
  unfold mm_fetch
  rw [show mm_ct.getD 22 [] = mm_c22 from rfl, h]
theorem mx_22 : mm_mx 22 = 2 := rfl
theorem rt_22 : mm_rt 22 = none := rfl
theorem fe_80 {pc : Nat} {q : Instr × Nat} (h : mm_c80[pc]? = some (some q)) : mm_fetch 80 pc = some q := by
  unfold mm_fetch
  rw [show mm_ct.getD 80 [] = mm_c80 from rfl, h]
theorem mx_80 : mm_mx 80 = 1 := rfl
theorem rt_80 : mm_rt 80 = (some .boolean) := rfl
theorem fe_83 {pc : Nat} {q : Instr × Nat} (h : mm_c83[pc]? = some (some q)) : mm_fetch 83 pc = some q := by
  unfold mm_fetch
  rw [show mm_ct.getD 83 [] = mm_c83 from rfl, h]
theorem mx_83 : mm_mx 83 = 1 := rfl
theorem rt_83 : mm_rt 83 = none := rfl
theorem fe_6 {pc : Nat} {q : Instr × Nat} (h : mm_c6[pc]? = some (some q)) : mm_fetch 6 pc = some q := by
  unfold mm_fetch
  rw [show mm_ct.getD 6 [] = mm_c6 from rfl, h]
theorem mx_6 : mm_mx 6 = 1 := rfl
theorem rt_6 : mm_rt 6 = none := rfl
theorem fe_9 {pc : Nat} {q : Instr × Nat} (h : mm_c9[pc]? = some (some q)) : mm_fetch 9 pc = some q := by
  unfold mm_fetch
  rw [show mm_ct.getD 9 [] = mm_c9 from rfl, h]
theorem mx_9 : mm_mx 9 = 2 := rfl
theorem rt_9 : mm_rt 9 = (some .boolean) := rfl
theorem fe_10 {pc : Nat} {q : Instr × Nat} (h : mm_c10[pc]? = some (some q)) : mm_fetch 10 pc = some q := by
  unfold mm_fetch
  rw [show mm_ct.getD 10 [] = mm_c10 from rfl, h]
theorem mx_10 : mm_mx 10 = 2 := rfl
theorem rt_10 : mm_rt 10 = (some .boolean) := rfl
theorem fe_26 {pc : Nat} {q : Instr × Nat} (h : mm_c26[pc]? = some (some q)) : mm_fetch 26 pc = some q := by
  unfold mm_fetch
  rw [show mm_ct.getD 26 [] = mm_c26 from rfl, h]
theorem mx_26 : mm_mx 26 = 2 := rfl
theorem rt_26 : mm_rt 26 = (some .boolean) := rfl
theorem fe_48 {pc : Nat} {q : Instr × Nat} (h : mm_c48[pc]? = some (some q)) : mm_fetch 48 pc = some q := by
  unfold mm_fetch
  rw [show mm_ct.getD 48 [] = mm_c48 from rfl, h]
theorem mx_48 : mm_mx 48 = 3 := rfl
theorem rt_48 : mm_rt 48 = none := rfl
theorem fe_11 {pc : Nat} {q : Instr × Nat} (h : mm_c11[pc]? = some (some q)) : mm_fetch 11 pc = some q := by
  unfold mm_fetch
  rw [show mm_ct.getD 11 [] = mm_c11 from rfl, h]
theorem mx_11 : mm_mx 11 = 3 := rfl
theorem rt_11 : mm_rt 11 = (some .boolean) := rfl
theorem fe_12 {pc : Nat} {q : Instr × Nat} (h : mm_c12[pc]? = some (some q)) : mm_fetch 12 pc = some q := by
  unfold mm_fetch
  rw [show mm_ct.getD 12 [] = mm_c12 from rfl, h]
theorem mx_12 : mm_mx 12 = 3 := rfl
theorem rt_12 : mm_rt 12 = (some .boolean) := rfl
theorem fe_28 {pc : Nat} {q : Instr × Nat} (h : mm_c28[pc]? = some (some q)) : mm_fetch 28 pc = some q := by
  unfold mm_fetch
  rw [show mm_ct.getD 28 [] = mm_c28 from rfl, h]
theorem mx_28 : mm_mx 28 = 2 := rfl
theorem rt_28 : mm_rt 28 = (some .boolean) := rfl
theorem fe_13 {pc : Nat} {q : Instr × Nat} (h : mm_c13[pc]? = some (some q)) : mm_fetch 13 pc = some q := by
  unfold mm_fetch
  rw [show mm_ct.getD 13 [] = mm_c13 from rfl, h]
theorem mx_13 : mm_mx 13 = 3 := rfl
theorem rt_13 : mm_rt 13 = (some .boolean) := rfl
theorem fe_27 {pc : Nat} {q : Instr × Nat} (h : mm_c27[pc]? = some (some q)) : mm_fetch 27 pc = some q := by
  unfold mm_fetch
  rw [show mm_ct.getD 27 [] = mm_c27 from rfl, h]
theorem mx_27 : mm_mx 27 = 2 := rfl
theorem rt_27 : mm_rt 27 = (some .boolean) := rfl
theorem fe_14 {pc : Nat} {q : Instr × Nat} (h : mm_c14[pc]? = some (some q)) : mm_fetch 14 pc = some q := by
  unfold mm_fetch
  rw [show mm_ct.getD 14 [] = mm_c14 from rfl, h]
theorem mx_14 : mm_mx 14 = 2 := rfl
theorem rt_14 : mm_rt 14 = (some .boolean) := rfl
theorem fe_18 {pc : Nat} {q : Instr × Nat} (h : mm_c18[pc]? = some (some q)) : mm_fetch 18 pc = some q := by
  unfold mm_fetch
  rw [show mm_ct.getD 18 [] = mm_c18 from rfl, h]
theorem mx_18 : mm_mx 18 = 2 := rfl
theorem rt_18 : mm_rt 18 = none := rfl
theorem fe_15 {pc : Nat} {q : Instr × Nat} (h : mm_c15[pc]? = some (some q)) : mm_fetch 15 pc = some q := by
  unfold mm_fetch
  rw [show mm_ct.getD 15 [] = mm_c15 from rfl, h]
theorem mx_15 : mm_mx 15 = 2 := rfl
theorem rt_15 : mm_rt 15 = (some .boolean) := rfl
theorem fe_16 {pc : Nat} {q : Instr × Nat} (h : mm_c16[pc]? = some (some q)) : mm_fetch 16 pc = some q := by
  unfold mm_fetch
  rw [show mm_ct.getD 16 [] = mm_c16 from rfl, h]
theorem mx_16 : mm_mx 16 = 2 := rfl
theorem rt_16 : mm_rt 16 = (some .boolean) := rfl
theorem fe_17 {pc : Nat} {q : Instr × Nat} (h : mm_c17[pc]? = some (some q)) : mm_fetch 17 pc = some q := by
  unfold mm_fetch
  rw [show mm_ct.getD 17 [] = mm_c17 from rfl, h]
theorem mx_17 : mm_mx 17 = 2 := rfl
theorem rt_17 : mm_rt 17 = (some .boolean) := rfl
theorem fe_7 {pc : Nat} {q : Instr × Nat} (h : mm_c7[pc]? = some (some q)) : mm_fetch 7 pc = some q := by
  unfold mm_fetch
  rw [show mm_ct.getD 7 [] = mm_c7 from rfl, h]
theorem mx_7 : mm_mx 7 = 3 := rfl
theorem rt_7 : mm_rt 7 = none := rfl
theorem fe_8 {pc : Nat} {q : Instr × Nat} (h : mm_c8[pc]? = some (some q)) : mm_fetch 8 pc = some q := by
  unfold mm_fetch
  rw [show mm_ct.getD 8 [] = mm_c8 from rfl, h]
theorem mx_8 : mm_mx 8 = 2 := rfl
theorem rt_8 : mm_rt 8 = (some .int) := rfl
theorem fe_37 {pc : Nat} {q : Instr × Nat} (h : mm_c37[pc]? = some (some q)) : mm_fetch 37 pc = some q := by
  unfold mm_fetch
  rw [show mm_ct.getD 37 [] = mm_c37 from rfl, h]
theorem mx_37 : mm_mx 37 = 4 := rfl
theorem rt_37 : mm_rt 37 = (some .boolean) := rfl
theorem fe_73 {pc : Nat} {q : Instr × Nat} (h : mm_c73[pc]? = some (some q)) : mm_fetch 73 pc = some q := by
  unfold mm_fetch
  rw [show mm_ct.getD 73 [] = mm_c73 from rfl, h]
theorem mx_73 : mm_mx 73 = 2 := rfl
theorem rt_73 : mm_rt 73 = (some .boolean) := rfl
theorem fe_74 {pc : Nat} {q : Instr × Nat} (h : mm_c74[pc]? = some (some q)) : mm_fetch 74 pc = some q := by
  unfold mm_fetch
  rw [show mm_ct.getD 74 [] = mm_c74 from rfl, h]
theorem mx_74 : mm_mx 74 = 3 := rfl
theorem rt_74 : mm_rt 74 = none := rfl
theorem fe_75 {pc : Nat} {q : Instr × Nat} (h : mm_c75[pc]? = some (some q)) : mm_fetch 75 pc = some q := by
  unfold mm_fetch
  rw [show mm_ct.getD 75 [] = mm_c75 from rfl, h]
theorem mx_75 : mm_mx 75 = 5 := rfl
theorem rt_75 : mm_rt 75 = none := rfl
theorem fe_43 {pc : Nat} {q : Instr × Nat} (h : mm_c43[pc]? = some (some q)) : mm_fetch 43 pc = some q := by
  unfold mm_fetch
  rw [show mm_ct.getD 43 [] = mm_c43 from rfl, h]
theorem mx_43 : mm_mx 43 = 4 := rfl
theorem rt_43 : mm_rt 43 = none := rfl
theorem fe_45 {pc : Nat} {q : Instr × Nat} (h : mm_c45[pc]? = some (some q)) : mm_fetch 45 pc = some q := by
  unfold mm_fetch
  rw [show mm_ct.getD 45 [] = mm_c45 from rfl, h]
theorem mx_45 : mm_mx 45 = 1 := rfl
theorem rt_45 : mm_rt 45 = (some .boolean) := rfl
theorem fe_46 {pc : Nat} {q : Instr × Nat} (h : mm_c46[pc]? = some (some q)) : mm_fetch 46 pc = some q := by
  unfold mm_fetch
  rw [show mm_ct.getD 46 [] = mm_c46 from rfl, h]
theorem mx_46 : mm_mx 46 = 1 := rfl
theorem rt_46 : mm_rt 46 = (some .int) := rfl
theorem fe_84 {pc : Nat} {q : Instr × Nat} (h : mm_c84[pc]? = some (some q)) : mm_fetch 84 pc = some q := by
  unfold mm_fetch
  rw [show mm_ct.getD 84 [] = mm_c84 from rfl, h]
theorem mx_84 : mm_mx 84 = 1 := rfl
theorem rt_84 : mm_rt 84 = (some (.object "java/lang/String")) := rfl
theorem fe_51 {pc : Nat} {q : Instr × Nat} (h : mm_c51[pc]? = some (some q)) : mm_fetch 51 pc = some q := by
  unfold mm_fetch
  rw [show mm_ct.getD 51 [] = mm_c51 from rfl, h]
theorem mx_51 : mm_mx 51 = 2 := rfl
theorem rt_51 : mm_rt 51 = none := rfl
theorem fe_52 {pc : Nat} {q : Instr × Nat} (h : mm_c52[pc]? = some (some q)) : mm_fetch 52 pc = some q := by
  unfold mm_fetch
  rw [show mm_ct.getD 52 [] = mm_c52 from rfl, h]
theorem mx_52 : mm_mx 52 = 3 := rfl
theorem rt_52 : mm_rt 52 = none := rfl
theorem fe_71 {pc : Nat} {q : Instr × Nat} (h : mm_c71[pc]? = some (some q)) : mm_fetch 71 pc = some q := by
  unfold mm_fetch
  rw [show mm_ct.getD 71 [] = mm_c71 from rfl, h]
theorem mx_71 : mm_mx 71 = 1 := rfl
theorem rt_71 : mm_rt 71 = none := rfl
theorem fe_72 {pc : Nat} {q : Instr × Nat} (h : mm_c72[pc]? = some (some q)) : mm_fetch 72 pc = some q := by
  unfold mm_fetch
  rw [show mm_ct.getD 72 [] = mm_c72 from rfl, h]
theorem mx_72 : mm_mx 72 = 2 := rfl
theorem rt_72 : mm_rt 72 = (some .int) := rfl
theorem fe_76 {pc : Nat} {q : Instr × Nat} (h : mm_c76[pc]? = some (some q)) : mm_fetch 76 pc = some q := by
  unfold mm_fetch
  rw [show mm_ct.getD 76 [] = mm_c76 from rfl, h]
theorem mx_76 : mm_mx 76 = 3 := rfl
theorem rt_76 : mm_rt 76 = none := rfl
theorem fe_50 {pc : Nat} {q : Instr × Nat} (h : mm_c50[pc]? = some (some q)) : mm_fetch 50 pc = some q := by
  unfold mm_fetch
  rw [show mm_ct.getD 50 [] = mm_c50 from rfl, h]
theorem mx_50 : mm_mx 50 = 3 := rfl
theorem rt_50 : mm_rt 50 = none := rfl
theorem fe_68 {pc : Nat} {q : Instr × Nat} (h : mm_c68[pc]? = some (some q)) : mm_fetch 68 pc = some q := by
  unfold mm_fetch
  rw [show mm_ct.getD 68 [] = mm_c68 from rfl, h]
theorem mx_68 : mm_mx 68 = 1 := rfl
theorem rt_68 : mm_rt 68 = (some .int) := rfl
theorem fe_69 {pc : Nat} {q : Instr × Nat} (h : mm_c69[pc]? = some (some q)) : mm_fetch 69 pc = some q := by
  unfold mm_fetch
  rw [show mm_ct.getD 69 [] = mm_c69 from rfl, h]
theorem mx_69 : mm_mx 69 = 2 := rfl
theorem rt_69 : mm_rt 69 = none := rfl
theorem fe_62 {pc : Nat} {q : Instr × Nat} (h : mm_c62[pc]? = some (some q)) : mm_fetch 62 pc = some q := by
  unfold mm_fetch
  rw [show mm_ct.getD 62 [] = mm_c62 from rfl, h]
theorem mx_62 : mm_mx 62 = 3 := rfl
theorem rt_62 : mm_rt 62 = (some .int) := rfl
theorem fe_61 {pc : Nat} {q : Instr × Nat} (h : mm_c61[pc]? = some (some q)) : mm_fetch 61 pc = some q := by
  unfold mm_fetch
  rw [show mm_ct.getD 61 [] = mm_c61 from rfl, h]
theorem mx_61 : mm_mx 61 = 1 := rfl
theorem rt_61 : mm_rt 61 = (some .int) := rfl
theorem fe_67 {pc : Nat} {q : Instr × Nat} (h : mm_c67[pc]? = some (some q)) : mm_fetch 67 pc = some q := by
  unfold mm_fetch
  rw [show mm_ct.getD 67 [] = mm_c67 from rfl, h]
theorem mx_67 : mm_mx 67 = 3 := rfl
theorem rt_67 : mm_rt 67 = (some .int) := rfl
theorem fe_64 {pc : Nat} {q : Instr × Nat} (h : mm_c64[pc]? = some (some q)) : mm_fetch 64 pc = some q := by
  unfold mm_fetch
  rw [show mm_ct.getD 64 [] = mm_c64 from rfl, h]
theorem mx_64 : mm_mx 64 = 3 := rfl
theorem rt_64 : mm_rt 64 = none := rfl
theorem fe_65 {pc : Nat} {q : Instr × Nat} (h : mm_c65[pc]? = some (some q)) : mm_fetch 65 pc = some q := by
  unfold mm_fetch
  rw [show mm_ct.getD 65 [] = mm_c65 from rfl, h]
theorem mx_65 : mm_mx 65 = 2 := rfl
theorem rt_65 : mm_rt 65 = none := rfl
theorem fe_66 {pc : Nat} {q : Instr × Nat} (h : mm_c66[pc]? = some (some q)) : mm_fetch 66 pc = some q := by
  unfold mm_fetch
  rw [show mm_ct.getD 66 [] = mm_c66 from rfl, h]
theorem mx_66 : mm_mx 66 = 6 := rfl
theorem rt_66 : mm_rt 66 = (some .int) := rfl
theorem fe_55 {pc : Nat} {q : Instr × Nat} (h : mm_c55[pc]? = some (some q)) : mm_fetch 55 pc = some q := by
  unfold mm_fetch
  rw [show mm_ct.getD 55 [] = mm_c55 from rfl, h]
theorem mx_55 : mm_mx 55 = 2 := rfl
theorem rt_55 : mm_rt 55 = none := rfl
theorem fe_63 {pc : Nat} {q : Instr × Nat} (h : mm_c63[pc]? = some (some q)) : mm_fetch 63 pc = some q := by
  unfold mm_fetch
  rw [show mm_ct.getD 63 [] = mm_c63 from rfl, h]
theorem mx_63 : mm_mx 63 = 5 := rfl
theorem rt_63 : mm_rt 63 = (some .int) := rfl
theorem fe_57 {pc : Nat} {q : Instr × Nat} (h : mm_c57[pc]? = some (some q)) : mm_fetch 57 pc = some q := by
  unfold mm_fetch
  rw [show mm_ct.getD 57 [] = mm_c57 from rfl, h]
theorem mx_57 : mm_mx 57 = 2 := rfl
theorem rt_57 : mm_rt 57 = none := rfl
theorem fe_58 {pc : Nat} {q : Instr × Nat} (h : mm_c58[pc]? = some (some q)) : mm_fetch 58 pc = some q := by
  unfold mm_fetch
  rw [show mm_ct.getD 58 [] = mm_c58 from rfl, h]
theorem mx_58 : mm_mx 58 = 3 := rfl
theorem rt_58 : mm_rt 58 = none := rfl
theorem fe_56 {pc : Nat} {q : Instr × Nat} (h : mm_c56[pc]? = some (some q)) : mm_fetch 56 pc = some q := by
  unfold mm_fetch
  rw [show mm_ct.getD 56 [] = mm_c56 from rfl, h]
theorem mx_56 : mm_mx 56 = 6 := rfl
theorem rt_56 : mm_rt 56 = (some .int) := rfl
theorem fe_60 {pc : Nat} {q : Instr × Nat} (h : mm_c60[pc]? = some (some q)) : mm_fetch 60 pc = some q := by
  unfold mm_fetch
  rw [show mm_ct.getD 60 [] = mm_c60 from rfl, h]
theorem mx_60 : mm_mx 60 = 3 := rfl
theorem rt_60 : mm_rt 60 = none := rfl
theorem fe_59 {pc : Nat} {q : Instr × Nat} (h : mm_c59[pc]? = some (some q)) : mm_fetch 59 pc = some q := by
  unfold mm_fetch
  rw [show mm_ct.getD 59 [] = mm_c59 from rfl, h]
theorem mx_59 : mm_mx 59 = 4 := rfl
theorem rt_59 : mm_rt 59 = none := rfl
theorem fe_54 {pc : Nat} {q : Instr × Nat} (h : mm_c54[pc]? = some (some q)) : mm_fetch 54 pc = some q := by
  unfold mm_fetch
  rw [show mm_ct.getD 54 [] = mm_c54 from rfl, h]
theorem mx_54 : mm_mx 54 = 4 := rfl
theorem rt_54 : mm_rt 54 = (some .int) := rfl
theorem fe_81 {pc : Nat} {q : Instr × Nat} (h : mm_c81[pc]? = some (some q)) : mm_fetch 81 pc = some q := by
  unfold mm_fetch
  rw [show mm_ct.getD 81 [] = mm_c81 from rfl, h]
theorem mx_81 : mm_mx 81 = 1 := rfl
theorem rt_81 : mm_rt 81 = (some .int) := rfl
theorem fe_82 {pc : Nat} {q : Instr × Nat} (h : mm_c82[pc]? = some (some q)) : mm_fetch 82 pc = some q := by
  unfold mm_fetch
  rw [show mm_ct.getD 82 [] = mm_c82 from rfl, h]
theorem mx_82 : mm_mx 82 = 2 := rfl
theorem rt_82 : mm_rt 82 = (some .boolean) := rfl
theorem fe_101 {pc : Nat} {q : Instr × Nat} (h : mm_c101[pc]? = some (some q)) : mm_fetch 101 pc = some q := by
  unfold mm_fetch
  rw [show mm_ct.getD 101 [] = mm_c101 from rfl, h]
theorem mx_101 : mm_mx 101 = 2 := rfl
theorem rt_101 : mm_rt 101 = (some (.object "CallAgents$Agent")) := rfl
theorem fe_86 {pc : Nat} {q : Instr × Nat} (h : mm_c86[pc]? = some (some q)) : mm_fetch 86 pc = some q := by
  unfold mm_fetch
  rw [show mm_ct.getD 86 [] = mm_c86 from rfl, h]
theorem mx_86 : mm_mx 86 = 5 := rfl
theorem rt_86 : mm_rt 86 = (some .int) := rfl
theorem fe_87 {pc : Nat} {q : Instr × Nat} (h : mm_c87[pc]? = some (some q)) : mm_fetch 87 pc = some q := by
  unfold mm_fetch
  rw [show mm_ct.getD 87 [] = mm_c87 from rfl, h]
theorem mx_87 : mm_mx 87 = 3 := rfl
theorem rt_87 : mm_rt 87 = (some .boolean) := rfl
theorem fe_88 {pc : Nat} {q : Instr × Nat} (h : mm_c88[pc]? = some (some q)) : mm_fetch 88 pc = some q := by
  unfold mm_fetch
  rw [show mm_ct.getD 88 [] = mm_c88 from rfl, h]
theorem mx_88 : mm_mx 88 = 3 := rfl
theorem rt_88 : mm_rt 88 = (some .boolean) := rfl
theorem fe_89 {pc : Nat} {q : Instr × Nat} (h : mm_c89[pc]? = some (some q)) : mm_fetch 89 pc = some q := by
  unfold mm_fetch
  rw [show mm_ct.getD 89 [] = mm_c89 from rfl, h]
theorem mx_89 : mm_mx 89 = 3 := rfl
theorem rt_89 : mm_rt 89 = (some .boolean) := rfl
theorem fe_90 {pc : Nat} {q : Instr × Nat} (h : mm_c90[pc]? = some (some q)) : mm_fetch 90 pc = some q := by
  unfold mm_fetch
  rw [show mm_ct.getD 90 [] = mm_c90 from rfl, h]
theorem mx_90 : mm_mx 90 = 3 := rfl
theorem rt_90 : mm_rt 90 = (some .boolean) := rfl
theorem fe_102 {pc : Nat} {q : Instr × Nat} (h : mm_c102[pc]? = some (some q)) : mm_fetch 102 pc = some q := by
  unfold mm_fetch
  rw [show mm_ct.getD 102 [] = mm_c102 from rfl, h]
theorem mx_102 : mm_mx 102 = 3 := rfl
theorem rt_102 : mm_rt 102 = (some (.object "CallAgents$Agent")) := rfl
theorem fe_91 {pc : Nat} {q : Instr × Nat} (h : mm_c91[pc]? = some (some q)) : mm_fetch 91 pc = some q := by
  unfold mm_fetch
  rw [show mm_ct.getD 91 [] = mm_c91 from rfl, h]
theorem mx_91 : mm_mx 91 = 3 := rfl
theorem rt_91 : mm_rt 91 = (some .int) := rfl
theorem fe_92 {pc : Nat} {q : Instr × Nat} (h : mm_c92[pc]? = some (some q)) : mm_fetch 92 pc = some q := by
  unfold mm_fetch
  rw [show mm_ct.getD 92 [] = mm_c92 from rfl, h]
theorem mx_92 : mm_mx 92 = 3 := rfl
theorem rt_92 : mm_rt 92 = (some .int) := rfl
theorem fe_93 {pc : Nat} {q : Instr × Nat} (h : mm_c93[pc]? = some (some q)) : mm_fetch 93 pc = some q := by
  unfold mm_fetch
  rw [show mm_ct.getD 93 [] = mm_c93 from rfl, h]
theorem mx_93 : mm_mx 93 = 2 := rfl
theorem rt_93 : mm_rt 93 = (some .int) := rfl
theorem fe_94 {pc : Nat} {q : Instr × Nat} (h : mm_c94[pc]? = some (some q)) : mm_fetch 94 pc = some q := by
  unfold mm_fetch
  rw [show mm_ct.getD 94 [] = mm_c94 from rfl, h]
theorem mx_94 : mm_mx 94 = 1 := rfl
theorem rt_94 : mm_rt 94 = (some .int) := rfl
theorem fe_95 {pc : Nat} {q : Instr × Nat} (h : mm_c95[pc]? = some (some q)) : mm_fetch 95 pc = some q := by
  unfold mm_fetch
  rw [show mm_ct.getD 95 [] = mm_c95 from rfl, h]
theorem mx_95 : mm_mx 95 = 4 := rfl
theorem rt_95 : mm_rt 95 = (some .int) := rfl
theorem fe_96 {pc : Nat} {q : Instr × Nat} (h : mm_c96[pc]? = some (some q)) : mm_fetch 96 pc = some q := by
  unfold mm_fetch
  rw [show mm_ct.getD 96 [] = mm_c96 from rfl, h]
theorem mx_96 : mm_mx 96 = 3 := rfl
theorem rt_96 : mm_rt 96 = (some .boolean) := rfl
theorem fe_97 {pc : Nat} {q : Instr × Nat} (h : mm_c97[pc]? = some (some q)) : mm_fetch 97 pc = some q := by
  unfold mm_fetch
  rw [show mm_ct.getD 97 [] = mm_c97 from rfl, h]
theorem mx_97 : mm_mx 97 = 4 := rfl
theorem rt_97 : mm_rt 97 = (some .int) := rfl
theorem fe_103 {pc : Nat} {q : Instr × Nat} (h : mm_c103[pc]? = some (some q)) : mm_fetch 103 pc = some q := by
  unfold mm_fetch
  rw [show mm_ct.getD 103 [] = mm_c103 from rfl, h]
theorem mx_103 : mm_mx 103 = 3 := rfl
theorem rt_103 : mm_rt 103 = (some (.object "CallAgents$Agent")) := rfl
theorem fe_98 {pc : Nat} {q : Instr × Nat} (h : mm_c98[pc]? = some (some q)) : mm_fetch 98 pc = some q := by
  unfold mm_fetch
  rw [show mm_ct.getD 98 [] = mm_c98 from rfl, h]
theorem mx_98 : mm_mx 98 = 5 := rfl
theorem rt_98 : mm_rt 98 = (some .int) := rfl
theorem fe_99 {pc : Nat} {q : Instr × Nat} (h : mm_c99[pc]? = some (some q)) : mm_fetch 99 pc = some q := by
  unfold mm_fetch
  rw [show mm_ct.getD 99 [] = mm_c99 from rfl, h]
theorem mx_99 : mm_mx 99 = 4 := rfl
theorem rt_99 : mm_rt 99 = (some .int) := rfl
theorem fe_100 {pc : Nat} {q : Instr × Nat} (h : mm_c100[pc]? = some (some q)) : mm_fetch 100 pc = some q := by
  unfold mm_fetch
  rw [show mm_ct.getD 100 [] = mm_c100 from rfl, h]
theorem mx_100 : mm_mx 100 = 5 := rfl
theorem rt_100 : mm_rt 100 = (some .int) := rfl
theorem fe_105 {pc : Nat} {q : Instr × Nat} (h : mm_c105[pc]? = some (some q)) : mm_fetch 105 pc = some q := by
  unfold mm_fetch
  rw [show mm_ct.getD 105 [] = mm_c105 from rfl, h]
theorem mx_105 : mm_mx 105 = 1 := rfl
theorem rt_105 : mm_rt 105 = (some .boolean) := rfl
theorem fe_106 {pc : Nat} {q : Instr × Nat} (h : mm_c106[pc]? = some (some q)) : mm_fetch 106 pc = some q := by
  unfold mm_fetch
  rw [show mm_ct.getD 106 [] = mm_c106 from rfl, h]
theorem mx_106 : mm_mx 106 = 2 := rfl
theorem rt_106 : mm_rt 106 = (some .boolean) := rfl
theorem fe_107 {pc : Nat} {q : Instr × Nat} (h : mm_c107[pc]? = some (some q)) : mm_fetch 107 pc = some q := by
  unfold mm_fetch
  rw [show mm_ct.getD 107 [] = mm_c107 from rfl, h]
theorem mx_107 : mm_mx 107 = 2 := rfl
theorem rt_107 : mm_rt 107 = none := rfl
theorem fe_108 {pc : Nat} {q : Instr × Nat} (h : mm_c108[pc]? = some (some q)) : mm_fetch 108 pc = some q := by
  unfold mm_fetch
  rw [show mm_ct.getD 108 [] = mm_c108 from rfl, h]
theorem mx_108 : mm_mx 108 = 3 := rfl
theorem rt_108 : mm_rt 108 = none := rfl
theorem fe_110 {pc : Nat} {q : Instr × Nat} (h : mm_c110[pc]? = some (some q)) : mm_fetch 110 pc = some q := by
  unfold mm_fetch
  rw [show mm_ct.getD 110 [] = mm_c110 from rfl, h]
theorem mx_110 : mm_mx 110 = 3 := rfl
theorem rt_110 : mm_rt 110 = none := rfl
theorem fe_109 {pc : Nat} {q : Instr × Nat} (h : mm_c109[pc]? = some (some q)) : mm_fetch 109 pc = some q := by
  unfold mm_fetch
  rw [show mm_ct.getD 109 [] = mm_c109 from rfl, h]
theorem mx_109 : mm_mx 109 = 4 := rfl
theorem rt_109 : mm_rt 109 = none := rfl
theorem fe_111 {pc : Nat} {q : Instr × Nat} (h : mm_c111[pc]? = some (some q)) : mm_fetch 111 pc = some q := by
  unfold mm_fetch
  rw [show mm_ct.getD 111 [] = mm_c111 from rfl, h]
theorem mx_111 : mm_mx 111 = 7 := rfl
theorem rt_111 : mm_rt 111 = none := rfl
theorem fe_112 {pc : Nat} {q : Instr × Nat} (h : mm_c112[pc]? = some (some q)) : mm_fetch 112 pc = some q := by
  unfold mm_fetch
  rw [show mm_ct.getD 112 [] = mm_c112 from rfl, h]
theorem mx_112 : mm_mx 112 = 2 := rfl
theorem rt_112 : mm_rt 112 = (some .int) := rfl
theorem fe_113 {pc : Nat} {q : Instr × Nat} (h : mm_c113[pc]? = some (some q)) : mm_fetch 113 pc = some q := by
  unfold mm_fetch
  rw [show mm_ct.getD 113 [] = mm_c113 from rfl, h]
theorem mx_113 : mm_mx 113 = 2 := rfl
theorem rt_113 : mm_rt 113 = (some .int) := rfl
theorem fe_114 {pc : Nat} {q : Instr × Nat} (h : mm_c114[pc]? = some (some q)) : mm_fetch 114 pc = some q := by
  unfold mm_fetch
  rw [show mm_ct.getD 114 [] = mm_c114 from rfl, h]
theorem mx_114 : mm_mx 114 = 7 := rfl
theorem rt_114 : mm_rt 114 = none := rfl
theorem fe_115 {pc : Nat} {q : Instr × Nat} (h : mm_c115[pc]? = some (some q)) : mm_fetch 115 pc = some q := by
  unfold mm_fetch
  rw [show mm_ct.getD 115 [] = mm_c115 from rfl, h]
theorem mx_115 : mm_mx 115 = 5 := rfl
theorem rt_115 : mm_rt 115 = (some .int) := rfl
theorem fe_116 {pc : Nat} {q : Instr × Nat} (h : mm_c116[pc]? = some (some q)) : mm_fetch 116 pc = some q := by
  unfold mm_fetch
  rw [show mm_ct.getD 116 [] = mm_c116 from rfl, h]
theorem mx_116 : mm_mx 116 = 5 := rfl
theorem rt_116 : mm_rt 116 = (some .boolean) := rfl
theorem fe_117 {pc : Nat} {q : Instr × Nat} (h : mm_c117[pc]? = some (some q)) : mm_fetch 117 pc = some q := by
  unfold mm_fetch
  rw [show mm_ct.getD 117 [] = mm_c117 from rfl, h]
theorem mx_117 : mm_mx 117 = 10 := rfl
theorem rt_117 : mm_rt 117 = none := rfl
theorem fe_118 {pc : Nat} {q : Instr × Nat} (h : mm_c118[pc]? = some (some q)) : mm_fetch 118 pc = some q := by
  unfold mm_fetch
  rw [show mm_ct.getD 118 [] = mm_c118 from rfl, h]
theorem mx_118 : mm_mx 118 = 4 := rfl
theorem rt_118 : mm_rt 118 = none := rfl
theorem fe_119 {pc : Nat} {q : Instr × Nat} (h : mm_c119[pc]? = some (some q)) : mm_fetch 119 pc = some q := by
  unfold mm_fetch
  rw [show mm_ct.getD 119 [] = mm_c119 from rfl, h]
theorem mx_119 : mm_mx 119 = 3 := rfl
theorem rt_119 : mm_rt 119 = none := rfl
theorem fe_120 {pc : Nat} {q : Instr × Nat} (h : mm_c120[pc]? = some (some q)) : mm_fetch 120 pc = some q := by
  unfold mm_fetch
  rw [show mm_ct.getD 120 [] = mm_c120 from rfl, h]
theorem mx_120 : mm_mx 120 = 2 := rfl
theorem rt_120 : mm_rt 120 = (some .boolean) := rfl
theorem fe_121 {pc : Nat} {q : Instr × Nat} (h : mm_c121[pc]? = some (some q)) : mm_fetch 121 pc = some q := by
  unfold mm_fetch
  rw [show mm_ct.getD 121 [] = mm_c121 from rfl, h]
theorem mx_121 : mm_mx 121 = 2 := rfl
theorem rt_121 : mm_rt 121 = (some .boolean) := rfl
theorem fe_122 {pc : Nat} {q : Instr × Nat} (h : mm_c122[pc]? = some (some q)) : mm_fetch 122 pc = some q := by
  unfold mm_fetch
  rw [show mm_ct.getD 122 [] = mm_c122 from rfl, h]
theorem mx_122 : mm_mx 122 = 2 := rfl
theorem rt_122 : mm_rt 122 = (some .boolean) := rfl
theorem fe_125 {pc : Nat} {q : Instr × Nat} (h : mm_c125[pc]? = some (some q)) : mm_fetch 125 pc = some q := by
  unfold mm_fetch
  rw [show mm_ct.getD 125 [] = mm_c125 from rfl, h]
theorem mx_125 : mm_mx 125 = 4 := rfl
theorem rt_125 : mm_rt 125 = (some .boolean) := rfl
theorem fe_124 {pc : Nat} {q : Instr × Nat} (h : mm_c124[pc]? = some (some q)) : mm_fetch 124 pc = some q := by
  unfold mm_fetch
  rw [show mm_ct.getD 124 [] = mm_c124 from rfl, h]
theorem mx_124 : mm_mx 124 = 4 := rfl
theorem rt_124 : mm_rt 124 = (some .boolean) := rfl
theorem fe_126 {pc : Nat} {q : Instr × Nat} (h : mm_c126[pc]? = some (some q)) : mm_fetch 126 pc = some q := by
  unfold mm_fetch
  rw [show mm_ct.getD 126 [] = mm_c126 from rfl, h]
theorem mx_126 : mm_mx 126 = 5 := rfl
theorem rt_126 : mm_rt 126 = none := rfl
theorem fe_127 {pc : Nat} {q : Instr × Nat} (h : mm_c127[pc]? = some (some q)) : mm_fetch 127 pc = some q := by
  unfold mm_fetch
  rw [show mm_ct.getD 127 [] = mm_c127 from rfl, h]
theorem mx_127 : mm_mx 127 = 10 := rfl
theorem rt_127 : mm_rt 127 = (some .boolean) := rfl
theorem fe_123 {pc : Nat} {q : Instr × Nat} (h : mm_c123[pc]? = some (some q)) : mm_fetch 123 pc = some q := by
  unfold mm_fetch
  rw [show mm_ct.getD 123 [] = mm_c123 from rfl, h]
theorem mx_123 : mm_mx 123 = 3 := rfl
theorem rt_123 : mm_rt 123 = none := rfl
theorem fe_128 {pc : Nat} {q : Instr × Nat} (h : mm_c128[pc]? = some (some q)) : mm_fetch 128 pc = some q := by
  unfold mm_fetch
  rw [show mm_ct.getD 128 [] = mm_c128 from rfl, h]
theorem mx_128 : mm_mx 128 = 3 := rfl
theorem rt_128 : mm_rt 128 = none := rfl
theorem fe_129 {pc : Nat} {q : Instr × Nat} (h : mm_c129[pc]? = some (some q)) : mm_fetch 129 pc = some q := by
  unfold mm_fetch
  rw [show mm_ct.getD 129 [] = mm_c129 from rfl, h]
theorem mx_129 : mm_mx 129 = 2 := rfl
theorem rt_129 : mm_rt 129 = (some .boolean) := rfl
theorem fe_130 {pc : Nat} {q : Instr × Nat} (h : mm_c130[pc]? = some (some q)) : mm_fetch 130 pc = some q := by
  unfold mm_fetch
  rw [show mm_ct.getD 130 [] = mm_c130 from rfl, h]
theorem mx_130 : mm_mx 130 = 2 := rfl
theorem rt_130 : mm_rt 130 = (some .int) := rfl
theorem fe_131 {pc : Nat} {q : Instr × Nat} (h : mm_c131[pc]? = some (some q)) : mm_fetch 131 pc = some q := by
  unfold mm_fetch
  rw [show mm_ct.getD 131 [] = mm_c131 from rfl, h]
theorem mx_131 : mm_mx 131 = 2 := rfl
theorem rt_131 : mm_rt 131 = (some .int) := rfl
theorem fe_132 {pc : Nat} {q : Instr × Nat} (h : mm_c132[pc]? = some (some q)) : mm_fetch 132 pc = some q := by
  unfold mm_fetch
  rw [show mm_ct.getD 132 [] = mm_c132 from rfl, h]
theorem mx_132 : mm_mx 132 = 2 := rfl
theorem rt_132 : mm_rt 132 = (some .int) := rfl
theorem fe_133 {pc : Nat} {q : Instr × Nat} (h : mm_c133[pc]? = some (some q)) : mm_fetch 133 pc = some q := by
  unfold mm_fetch
  rw [show mm_ct.getD 133 [] = mm_c133 from rfl, h]
theorem mx_133 : mm_mx 133 = 1 := rfl
theorem rt_133 : mm_rt 133 = (some .int) := rfl
theorem fe_134 {pc : Nat} {q : Instr × Nat} (h : mm_c134[pc]? = some (some q)) : mm_fetch 134 pc = some q := by
  unfold mm_fetch
  rw [show mm_ct.getD 134 [] = mm_c134 from rfl, h]
theorem mx_134 : mm_mx 134 = 2 := rfl
theorem rt_134 : mm_rt 134 = none := rfl
theorem fe_135 {pc : Nat} {q : Instr × Nat} (h : mm_c135[pc]? = some (some q)) : mm_fetch 135 pc = some q := by
  unfold mm_fetch
  rw [show mm_ct.getD 135 [] = mm_c135 from rfl, h]
theorem mx_135 : mm_mx 135 = 3 := rfl
theorem rt_135 : mm_rt 135 = none := rfl
theorem fe_138 {pc : Nat} {q : Instr × Nat} (h : mm_c138[pc]? = some (some q)) : mm_fetch 138 pc = some q := by
  unfold mm_fetch
  rw [show mm_ct.getD 138 [] = mm_c138 from rfl, h]
theorem mx_138 : mm_mx 138 = 5 := rfl
theorem rt_138 : mm_rt 138 = (some .int) := rfl
theorem fe_139 {pc : Nat} {q : Instr × Nat} (h : mm_c139[pc]? = some (some q)) : mm_fetch 139 pc = some q := by
  unfold mm_fetch
  rw [show mm_ct.getD 139 [] = mm_c139 from rfl, h]
theorem mx_139 : mm_mx 139 = 1 := rfl
theorem rt_139 : mm_rt 139 = (some .int) := rfl
theorem fe_137 {pc : Nat} {q : Instr × Nat} (h : mm_c137[pc]? = some (some q)) : mm_fetch 137 pc = some q := by
  unfold mm_fetch
  rw [show mm_ct.getD 137 [] = mm_c137 from rfl, h]
theorem mx_137 : mm_mx 137 = 9 := rfl
theorem rt_137 : mm_rt 137 = (some .int) := rfl
theorem fe_140 {pc : Nat} {q : Instr × Nat} (h : mm_c140[pc]? = some (some q)) : mm_fetch 140 pc = some q := by
  unfold mm_fetch
  rw [show mm_ct.getD 140 [] = mm_c140 from rfl, h]
theorem mx_140 : mm_mx 140 = 1 := rfl
theorem rt_140 : mm_rt 140 = (some .int) := rfl
theorem fe_141 {pc : Nat} {q : Instr × Nat} (h : mm_c141[pc]? = some (some q)) : mm_fetch 141 pc = some q := by
  unfold mm_fetch
  rw [show mm_ct.getD 141 [] = mm_c141 from rfl, h]
theorem mx_141 : mm_mx 141 = 4 := rfl
theorem rt_141 : mm_rt 141 = (some .int) := rfl
theorem fe_142 {pc : Nat} {q : Instr × Nat} (h : mm_c142[pc]? = some (some q)) : mm_fetch 142 pc = some q := by
  unfold mm_fetch
  rw [show mm_ct.getD 142 [] = mm_c142 from rfl, h]
theorem mx_142 : mm_mx 142 = 1 := rfl
theorem rt_142 : mm_rt 142 = (some .int) := rfl
theorem fe_143 {pc : Nat} {q : Instr × Nat} (h : mm_c143[pc]? = some (some q)) : mm_fetch 143 pc = some q := by
  unfold mm_fetch
  rw [show mm_ct.getD 143 [] = mm_c143 from rfl, h]
theorem mx_143 : mm_mx 143 = 1 := rfl
theorem rt_143 : mm_rt 143 = (some .int) := rfl
theorem fe_144 {pc : Nat} {q : Instr × Nat} (h : mm_c144[pc]? = some (some q)) : mm_fetch 144 pc = some q := by
  unfold mm_fetch
  rw [show mm_ct.getD 144 [] = mm_c144 from rfl, h]
theorem mx_144 : mm_mx 144 = 1 := rfl
theorem rt_144 : mm_rt 144 = (some .int) := rfl
theorem fe_145 {pc : Nat} {q : Instr × Nat} (h : mm_c145[pc]? = some (some q)) : mm_fetch 145 pc = some q := by
  unfold mm_fetch
  rw [show mm_ct.getD 145 [] = mm_c145 from rfl, h]
theorem mx_145 : mm_mx 145 = 1 := rfl
theorem rt_145 : mm_rt 145 = (some .int) := rfl
theorem fe_146 {pc : Nat} {q : Instr × Nat} (h : mm_c146[pc]? = some (some q)) : mm_fetch 146 pc = some q := by
  unfold mm_fetch
  rw [show mm_ct.getD 146 [] = mm_c146 from rfl, h]
theorem mx_146 : mm_mx 146 = 1 := rfl
theorem rt_146 : mm_rt 146 = (some .int) := rfl
theorem fe_147 {pc : Nat} {q : Instr × Nat} (h : mm_c147[pc]? = some (some q)) : mm_fetch 147 pc = some q := by
  unfold mm_fetch
  rw [show mm_ct.getD 147 [] = mm_c147 from rfl, h]
theorem mx_147 : mm_mx 147 = 1 := rfl
theorem rt_147 : mm_rt 147 = (some .int) := rfl
theorem fe_148 {pc : Nat} {q : Instr × Nat} (h : mm_c148[pc]? = some (some q)) : mm_fetch 148 pc = some q := by
  unfold mm_fetch
  rw [show mm_ct.getD 148 [] = mm_c148 from rfl, h]
theorem mx_148 : mm_mx 148 = 1 := rfl
theorem rt_148 : mm_rt 148 = (some .int) := rfl
theorem fe_136 {pc : Nat} {q : Instr × Nat} (h : mm_c136[pc]? = some (some q)) : mm_fetch 136 pc = some q := by
  unfold mm_fetch
  rw [show mm_ct.getD 136 [] = mm_c136 from rfl, h]
theorem mx_136 : mm_mx 136 = 2 := rfl
theorem rt_136 : mm_rt 136 = (some .int) := rfl
theorem fe_149 {pc : Nat} {q : Instr × Nat} (h : mm_c149[pc]? = some (some q)) : mm_fetch 149 pc = some q := by
  unfold mm_fetch
  rw [show mm_ct.getD 149 [] = mm_c149 from rfl, h]
theorem mx_149 : mm_mx 149 = 2 := rfl
theorem rt_149 : mm_rt 149 = (some .int) := rfl
theorem fe_150 {pc : Nat} {q : Instr × Nat} (h : mm_c150[pc]? = some (some q)) : mm_fetch 150 pc = some q := by
  unfold mm_fetch
  rw [show mm_ct.getD 150 [] = mm_c150 from rfl, h]
theorem mx_150 : mm_mx 150 = 3 := rfl
theorem rt_150 : mm_rt 150 = none := rfl
theorem fe_151 {pc : Nat} {q : Instr × Nat} (h : mm_c151[pc]? = some (some q)) : mm_fetch 151 pc = some q := by
  unfold mm_fetch
  rw [show mm_ct.getD 151 [] = mm_c151 from rfl, h]
theorem mx_151 : mm_mx 151 = 5 := rfl
theorem rt_151 : mm_rt 151 = none := rfl
theorem fe_153 {pc : Nat} {q : Instr × Nat} (h : mm_c153[pc]? = some (some q)) : mm_fetch 153 pc = some q := by
  unfold mm_fetch
  rw [show mm_ct.getD 153 [] = mm_c153 from rfl, h]
theorem mx_153 : mm_mx 153 = 5 := rfl
theorem rt_153 : mm_rt 153 = none := rfl
theorem fe_152 {pc : Nat} {q : Instr × Nat} (h : mm_c152[pc]? = some (some q)) : mm_fetch 152 pc = some q := by
  unfold mm_fetch
  rw [show mm_ct.getD 152 [] = mm_c152 from rfl, h]
theorem mx_152 : mm_mx 152 = 4 := rfl
theorem rt_152 : mm_rt 152 = (some .int) := rfl
theorem fe_154 {pc : Nat} {q : Instr × Nat} (h : mm_c154[pc]? = some (some q)) : mm_fetch 154 pc = some q := by
  unfold mm_fetch
  rw [show mm_ct.getD 154 [] = mm_c154 from rfl, h]
theorem mx_154 : mm_mx 154 = 4 := rfl
theorem rt_154 : mm_rt 154 = none := rfl
theorem fe_155 {pc : Nat} {q : Instr × Nat} (h : mm_c155[pc]? = some (some q)) : mm_fetch 155 pc = some q := by
  unfold mm_fetch
  rw [show mm_ct.getD 155 [] = mm_c155 from rfl, h]
theorem mx_155 : mm_mx 155 = 3 := rfl
theorem rt_155 : mm_rt 155 = (some .int) := rfl
theorem fe_156 {pc : Nat} {q : Instr × Nat} (h : mm_c156[pc]? = some (some q)) : mm_fetch 156 pc = some q := by
  unfold mm_fetch
  rw [show mm_ct.getD 156 [] = mm_c156 from rfl, h]
theorem mx_156 : mm_mx 156 = 2 := rfl
theorem rt_156 : mm_rt 156 = (some .boolean) := rfl
theorem fe_157 {pc : Nat} {q : Instr × Nat} (h : mm_c157[pc]? = some (some q)) : mm_fetch 157 pc = some q := by
  unfold mm_fetch
  rw [show mm_ct.getD 157 [] = mm_c157 from rfl, h]
theorem mx_157 : mm_mx 157 = 2 := rfl
theorem rt_157 : mm_rt 157 = none := rfl
theorem fe_158 {pc : Nat} {q : Instr × Nat} (h : mm_c158[pc]? = some (some q)) : mm_fetch 158 pc = some q := by
  unfold mm_fetch
  rw [show mm_ct.getD 158 [] = mm_c158 from rfl, h]
theorem mx_158 : mm_mx 158 = 8 := rfl
theorem rt_158 : mm_rt 158 = (some .int) := rfl
theorem fe_160 {pc : Nat} {q : Instr × Nat} (h : mm_c160[pc]? = some (some q)) : mm_fetch 160 pc = some q := by
  unfold mm_fetch
  rw [show mm_ct.getD 160 [] = mm_c160 from rfl, h]
theorem mx_160 : mm_mx 160 = 2 := rfl
theorem rt_160 : mm_rt 160 = none := rfl
theorem fe_159 {pc : Nat} {q : Instr × Nat} (h : mm_c159[pc]? = some (some q)) : mm_fetch 159 pc = some q := by
  unfold mm_fetch
  rw [show mm_ct.getD 159 [] = mm_c159 from rfl, h]
theorem mx_159 : mm_mx 159 = 1 := rfl
theorem rt_159 : mm_rt 159 = none := rfl
theorem fe_161 {pc : Nat} {q : Instr × Nat} (h : mm_c161[pc]? = some (some q)) : mm_fetch 161 pc = some q := by
  unfold mm_fetch
  rw [show mm_ct.getD 161 [] = mm_c161 from rfl, h]
theorem mx_161 : mm_mx 161 = 3 := rfl
theorem rt_161 : mm_rt 161 = (some .int) := rfl
theorem fe_162 {pc : Nat} {q : Instr × Nat} (h : mm_c162[pc]? = some (some q)) : mm_fetch 162 pc = some q := by
  unfold mm_fetch
  rw [show mm_ct.getD 162 [] = mm_c162 from rfl, h]
theorem mx_162 : mm_mx 162 = 5 := rfl
theorem rt_162 : mm_rt 162 = (some .int) := rfl
theorem fe_165 {pc : Nat} {q : Instr × Nat} (h : mm_c165[pc]? = some (some q)) : mm_fetch 165 pc = some q := by
  unfold mm_fetch
  rw [show mm_ct.getD 165 [] = mm_c165 from rfl, h]
theorem mx_165 : mm_mx 165 = 2 := rfl
theorem rt_165 : mm_rt 165 = (some .int) := rfl
theorem fe_164 {pc : Nat} {q : Instr × Nat} (h : mm_c164[pc]? = some (some q)) : mm_fetch 164 pc = some q := by
  unfold mm_fetch
  rw [show mm_ct.getD 164 [] = mm_c164 from rfl, h]
theorem mx_164 : mm_mx 164 = 6 := rfl
theorem rt_164 : mm_rt 164 = (some .int) := rfl
theorem fe_163 {pc : Nat} {q : Instr × Nat} (h : mm_c163[pc]? = some (some q)) : mm_fetch 163 pc = some q := by
  unfold mm_fetch
  rw [show mm_ct.getD 163 [] = mm_c163 from rfl, h]
theorem mx_163 : mm_mx 163 = 4 := rfl
theorem rt_163 : mm_rt 163 = none := rfl
theorem fe_167 {pc : Nat} {q : Instr × Nat} (h : mm_c167[pc]? = some (some q)) : mm_fetch 167 pc = some q := by
  unfold mm_fetch
  rw [show mm_ct.getD 167 [] = mm_c167 from rfl, h]
theorem mx_167 : mm_mx 167 = 5 := rfl
theorem rt_167 : mm_rt 167 = none := rfl
theorem fe_166 {pc : Nat} {q : Instr × Nat} (h : mm_c166[pc]? = some (some q)) : mm_fetch 166 pc = some q := by
  unfold mm_fetch
  rw [show mm_ct.getD 166 [] = mm_c166 from rfl, h]
theorem mx_166 : mm_mx 166 = 5 := rfl
theorem rt_166 : mm_rt 166 = none := rfl
theorem fe_168 {pc : Nat} {q : Instr × Nat} (h : mm_c168[pc]? = some (some q)) : mm_fetch 168 pc = some q := by
  unfold mm_fetch
  rw [show mm_ct.getD 168 [] = mm_c168 from rfl, h]
theorem mx_168 : mm_mx 168 = 2 := rfl
theorem rt_168 : mm_rt 168 = none := rfl
theorem fe_169 {pc : Nat} {q : Instr × Nat} (h : mm_c169[pc]? = some (some q)) : mm_fetch 169 pc = some q := by
  unfold mm_fetch
  rw [show mm_ct.getD 169 [] = mm_c169 from rfl, h]
theorem mx_169 : mm_mx 169 = 2 := rfl
theorem rt_169 : mm_rt 169 = (some .int) := rfl
theorem fe_170 {pc : Nat} {q : Instr × Nat} (h : mm_c170[pc]? = some (some q)) : mm_fetch 170 pc = some q := by
  unfold mm_fetch
  rw [show mm_ct.getD 170 [] = mm_c170 from rfl, h]
theorem mx_170 : mm_mx 170 = 6 := rfl
theorem rt_170 : mm_rt 170 = (some .long) := rfl
theorem fe_171 {pc : Nat} {q : Instr × Nat} (h : mm_c171[pc]? = some (some q)) : mm_fetch 171 pc = some q := by
  unfold mm_fetch
  rw [show mm_ct.getD 171 [] = mm_c171 from rfl, h]
theorem mx_171 : mm_mx 171 = 2 := rfl
theorem rt_171 : mm_rt 171 = none := rfl
theorem fe_172 {pc : Nat} {q : Instr × Nat} (h : mm_c172[pc]? = some (some q)) : mm_fetch 172 pc = some q := by
  unfold mm_fetch
  rw [show mm_ct.getD 172 [] = mm_c172 from rfl, h]
theorem mx_172 : mm_mx 172 = 12 := rfl
theorem rt_172 : mm_rt 172 = (some .int) := rfl
theorem fe_173 {pc : Nat} {q : Instr × Nat} (h : mm_c173[pc]? = some (some q)) : mm_fetch 173 pc = some q := by
  unfold mm_fetch
  rw [show mm_ct.getD 173 [] = mm_c173 from rfl, h]
theorem mx_173 : mm_mx 173 = 3 := rfl
theorem rt_173 : mm_rt 173 = (some .int) := rfl
theorem fe_174 {pc : Nat} {q : Instr × Nat} (h : mm_c174[pc]? = some (some q)) : mm_fetch 174 pc = some q := by
  unfold mm_fetch
  rw [show mm_ct.getD 174 [] = mm_c174 from rfl, h]
theorem mx_174 : mm_mx 174 = 5 := rfl
theorem rt_174 : mm_rt 174 = (some .int) := rfl
theorem fe_175 {pc : Nat} {q : Instr × Nat} (h : mm_c175[pc]? = some (some q)) : mm_fetch 175 pc = some q := by
  unfold mm_fetch
  rw [show mm_ct.getD 175 [] = mm_c175 from rfl, h]
theorem mx_175 : mm_mx 175 = 4 := rfl
theorem rt_175 : mm_rt 175 = (some .boolean) := rfl
theorem t_0 : fm_tm 0 = .inl 9 := rfl
theorem t_1 : fm_tm 1 = .inl 2 := rfl
theorem t_2 : fm_tm 2 = .inr (4, 60) := rfl
theorem t_183 : fm_tm 183 = .inl 0 := rfl
theorem t_184 : fm_tm 184 = .inl 3 := rfl
theorem t_185 : fm_tm 185 = .inr (0, 30) := rfl
theorem t_186 : fm_tm 186 = .inl 1 := rfl
theorem t_187 : fm_tm 187 = .inl 3 := rfl
theorem t_188 : fm_tm 188 = .inr (0, 30) := rfl
theorem t_189 : fm_tm 189 = .inl 3 := rfl
theorem t_190 : fm_tm 190 = .inr (0, 30) := rfl
theorem t_191 : fm_tm 191 = .inl 7 := rfl
theorem t_192 : fm_tm 192 = .inl 4 := rfl
theorem t_193 : fm_tm 193 = .inl 3 := rfl
theorem t_194 : fm_tm 194 = .inr (0, 30) := rfl
theorem t_195 : fm_tm 195 = .inl 4 := rfl
theorem t_196 : fm_tm 196 = .inl 3 := rfl
theorem t_197 : fm_tm 197 = .inr (0, 30) := rfl
theorem t_198 : fm_tm 198 = .inl 0 := rfl
theorem t_199 : fm_tm 199 = .inl 3 := rfl
theorem t_200 : fm_tm 200 = .inr (0, 30) := rfl
theorem t_201 : fm_tm 201 = .inl 1 := rfl
theorem t_202 : fm_tm 202 = .inl 3 := rfl
theorem t_203 : fm_tm 203 = .inr (0, 30) := rfl
theorem t_204 : fm_tm 204 = .inl 3 := rfl
theorem t_205 : fm_tm 205 = .inr (0, 30) := rfl
theorem t_206 : fm_tm 206 = .inl 7 := rfl
theorem t_207 : fm_tm 207 = .inl 4 := rfl
theorem t_208 : fm_tm 208 = .inl 3 := rfl
theorem t_209 : fm_tm 209 = .inr (0, 30) := rfl
theorem t_210 : fm_tm 210 = .inl 4 := rfl
theorem t_211 : fm_tm 211 = .inl 3 := rfl
theorem t_212 : fm_tm 212 = .inr (0, 30) := rfl
theorem t_213 : fm_tm 213 = .inl 6 := rfl
theorem t_214 : fm_tm 214 = .inr (1, 500) := rfl
theorem t_215 : fm_tm 215 = .inl 6 := rfl
theorem t_216 : fm_tm 216 = .inr (1, 500) := rfl
theorem t_217 : fm_tm 217 = .inl 6 := rfl
theorem t_218 : fm_tm 218 = .inr (1, 100) := rfl
theorem t_219 : fm_tm 219 = .inl 5 := rfl
theorem t_220 : fm_tm 220 = .inl 4 := rfl
theorem t_221 : fm_tm 221 = .inl 3 := rfl
theorem t_222 : fm_tm 222 = .inr (0, 30) := rfl
theorem t_223 : fm_tm 223 = .inl 10 := rfl
theorem t_224 : fm_tm 224 = .inr (0, 3050) := rfl
theorem t_225 : fm_tm 225 = .inr (0, 2) := rfl
theorem t_226 : fm_tm 226 = .inr (0, 2) := rfl
theorem t_227 : fm_tm 227 = .inr (0, 2) := rfl
theorem t_228 : fm_tm 228 = .inr (0, 2) := rfl
theorem t_229 : fm_tm 229 = .inr (0, 2) := rfl
theorem t_230 : fm_tm 230 = .inr (0, 2) := rfl
theorem t_231 : fm_tm 231 = .inr (0, 2) := rfl
theorem t_232 : fm_tm 232 = .inr (0, 2) := rfl
theorem t_233 : fm_tm 233 = .inr (0, 2) := rfl
theorem t_234 : fm_tm 234 = .inr (0, 2) := rfl
theorem t_235 : fm_tm 235 = .inr (0, 2) := rfl
theorem t_236 : fm_tm 236 = .inr (0, 2) := rfl
theorem t_237 : fm_tm 237 = .inr (0, 6) := rfl
theorem t_238 : fm_tm 238 = .inr (0, 6) := rfl
theorem t_239 : fm_tm 239 = .inr (2, 2) := rfl
theorem t_240 : fm_tm 240 = .inr (0, 2) := rfl
theorem t_241 : fm_tm 241 = .inr (0, 2) := rfl
theorem t_242 : fm_tm 242 = .inr (2, 2) := rfl
theorem t_243 : fm_tm 243 = .inr (0, 100) := rfl
theorem t_244 : fm_tm 244 = .inr (0, 100) := rfl
theorem t_245 : fm_tm 245 = .inr (0, 100) := rfl
theorem t_246 : fm_tm 246 = .inr (0, 2) := rfl
theorem t_247 : fm_tm 247 = .inr (0, 60) := rfl
theorem t_248 : fm_tm 248 = .inr (3, 2) := rfl
theorem t_249 : fm_tm 249 = .inr (3, 2) := rfl
theorem t_250 : fm_tm 250 = .inr (3, 2) := rfl
theorem t_251 : fm_tm 251 = .inr (0, 50) := rfl
theorem t_252 : fm_tm 252 = .inr (0, 50) := rfl
theorem t_253 : fm_tm 253 = .inr (0, 500) := rfl
theorem t_254 : fm_tm 254 = .inr (2, 6) := rfl
theorem t_255 : fm_tm 255 = .inr (0, 500) := rfl
theorem fr_0 : fm_fd 0 = (0, 3, 2, true) := rfl
theorem fr_1 : fm_fd 1 = (0, 4, 2, true) := rfl
theorem fr_2 : fm_fd 2 = (0, 5, 2, true) := rfl
theorem fr_3 : fm_fd 3 = (0, 6, 2, true) := rfl
theorem fr_4 : fm_fd 4 = (0, 7, 2, true) := rfl
theorem fr_5 : fm_fd 5 = (0, 0, 0, true) := rfl
theorem fr_6 : fm_fd 6 = (0, 1, 0, true) := rfl
theorem fr_7 : fm_fd 7 = (0, 2, 2, true) := rfl
theorem fr_8 : fm_fd 8 = (0, 8, 0, false) := rfl
theorem fr_9 : fm_fd 9 = (3, 1, 0, false) := rfl
theorem fr_10 : fm_fd 10 = (0, 9, 0, false) := rfl
theorem fr_11 : fm_fd 11 = (0, 10, 0, false) := rfl
theorem fr_12 : fm_fd 12 = (0, 11, 0, false) := rfl
theorem fr_13 : fm_fd 13 = (0, 12, 0, false) := rfl
theorem fr_14 : fm_fd 14 = (4, 8, 1, false) := rfl
theorem fr_15 : fm_fd 15 = (4, 9, 0, false) := rfl
theorem fr_16 : fm_fd 16 = (4, 0, 2, true) := rfl
theorem fr_17 : fm_fd 17 = (0, 13, 1, false) := rfl
theorem fr_18 : fm_fd 18 = (1, 1, 2, true) := rfl
theorem fr_19 : fm_fd 19 = (1, 0, 2, true) := rfl
theorem fr_20 : fm_fd 20 = (4, 1, 0, false) := rfl
theorem fr_21 : fm_fd 21 = (1, 2, 0, false) := rfl
theorem fr_22 : fm_fd 22 = (1, 5, 0, false) := rfl
theorem fr_23 : fm_fd 23 = (1, 6, 0, false) := rfl
theorem fr_24 : fm_fd 24 = (0, 15, 0, false) := rfl
theorem fr_25 : fm_fd 25 = (0, 14, 0, false) := rfl
theorem fr_26 : fm_fd 26 = (4, 2, 0, false) := rfl
theorem fr_27 : fm_fd 27 = (4, 7, 0, false) := rfl
theorem fr_28 : fm_fd 28 = (4, 3, 0, false) := rfl
theorem fr_29 : fm_fd 29 = (4, 5, 0, false) := rfl
theorem fr_30 : fm_fd 30 = (4, 6, 0, false) := rfl
theorem fr_31 : fm_fd 31 = (4, 10, 0, false) := rfl
theorem fr_32 : fm_fd 32 = (4, 11, 0, false) := rfl
theorem fr_33 : fm_fd 33 = (1, 4, 0, false) := rfl
theorem fr_34 : fm_fd 34 = (4, 4, 0, false) := rfl
theorem fr_35 : fm_fd 35 = (1, 3, 0, false) := rfl
theorem fr_36 : fm_fd 36 = (4, 12, 0, false) := rfl
theorem fr_37 : fm_fd 37 = (1, 0, 2, true) := rfl
theorem fr_38 : fm_fd 38 = (1, 1, 2, true) := rfl
theorem fr_39 : fm_fd 39 = (4, 10, 0, false) := rfl
theorem fr_40 : fm_fd 40 = (1, 2, 0, false) := rfl
theorem fr_41 : fm_fd 41 = (4, 4, 0, false) := rfl
theorem fr_42 : fm_fd 42 = (1, 3, 0, false) := rfl
theorem fr_43 : fm_fd 43 = (4, 11, 0, false) := rfl
theorem fr_44 : fm_fd 44 = (1, 4, 0, false) := rfl
theorem fr_45 : fm_fd 45 = (1, 5, 0, false) := rfl
theorem fr_46 : fm_fd 46 = (1, 6, 0, false) := rfl
theorem fr_47 : fm_fd 47 = (4, 0, 2, true) := rfl
theorem fr_48 : fm_fd 48 = (4, 6, 0, false) := rfl
theorem fr_49 : fm_fd 49 = (4, 8, 1, false) := rfl
theorem fr_50 : fm_fd 50 = (4, 9, 0, false) := rfl
theorem fr_51 : fm_fd 51 = (2, 0, 2, true) := rfl
theorem fr_52 : fm_fd 52 = (2, 1, 0, false) := rfl
theorem fr_53 : fm_fd 53 = (3, 0, 2, true) := rfl
theorem fr_54 : fm_fd 54 = (3, 1, 0, false) := rfl
theorem fr_55 : fm_fd 55 = (4, 0, 2, true) := rfl
theorem fr_56 : fm_fd 56 = (4, 1, 0, false) := rfl
theorem fr_57 : fm_fd 57 = (4, 2, 0, false) := rfl
theorem fr_58 : fm_fd 58 = (4, 3, 0, false) := rfl
theorem fr_59 : fm_fd 59 = (4, 4, 0, false) := rfl
theorem fr_60 : fm_fd 60 = (4, 5, 0, false) := rfl
theorem fr_61 : fm_fd 61 = (4, 6, 0, false) := rfl
theorem fr_62 : fm_fd 62 = (4, 7, 0, false) := rfl
theorem fr_63 : fm_fd 63 = (4, 8, 1, false) := rfl
theorem fr_64 : fm_fd 64 = (4, 9, 0, false) := rfl
theorem fr_65 : fm_fd 65 = (4, 10, 0, false) := rfl
theorem fr_66 : fm_fd 66 = (4, 11, 0, false) := rfl
theorem fr_67 : fm_fd 67 = (4, 12, 0, false) := rfl
theorem fr_68 : fm_fd 68 = (6, 1, 0, false) := rfl
theorem fr_69 : fm_fd 69 = (5, 0, 2, true) := rfl
theorem fr_70 : fm_fd 70 = (5, 1, 0, false) := rfl
theorem fr_71 : fm_fd 71 = (6, 1, 0, false) := rfl
theorem fr_72 : fm_fd 72 = (5, 2, 0, false) := rfl
theorem fr_73 : fm_fd 73 = (5, 3, 0, false) := rfl
theorem fr_74 : fm_fd 74 = (5, 4, 0, false) := rfl
theorem fr_75 : fm_fd 75 = (4, 0, 2, true) := rfl
theorem fr_76 : fm_fd 76 = (4, 1, 0, false) := rfl
theorem fr_77 : fm_fd 77 = (4, 2, 0, false) := rfl
theorem fr_78 : fm_fd 78 = (4, 3, 0, false) := rfl
theorem fr_79 : fm_fd 79 = (4, 4, 0, false) := rfl
theorem fr_80 : fm_fd 80 = (4, 5, 0, false) := rfl
theorem fr_81 : fm_fd 81 = (4, 6, 0, false) := rfl
theorem fr_82 : fm_fd 82 = (4, 7, 0, false) := rfl
theorem fr_83 : fm_fd 83 = (4, 10, 0, false) := rfl
theorem fr_84 : fm_fd 84 = (4, 8, 1, false) := rfl
theorem fr_85 : fm_fd 85 = (4, 9, 0, false) := rfl
theorem fr_86 : fm_fd 86 = (4, 11, 0, false) := rfl
theorem fr_87 : fm_fd 87 = (4, 12, 0, false) := rfl
theorem fr_88 : fm_fd 88 = (6, 0, 2, true) := rfl
theorem fr_89 : fm_fd 89 = (6, 1, 0, false) := rfl
theorem fr_90 : fm_fd 90 = (7, 0, 1, false) := rfl
theorem fr_91 : fm_fd 91 = (7, 3, 0, false) := rfl
theorem fr_92 : fm_fd 92 = (7, 4, 0, false) := rfl
theorem fr_93 : fm_fd 93 = (7, 1, 0, false) := rfl
theorem fr_94 : fm_fd 94 = (7, 2, 0, false) := rfl
theorem fr_95 : fm_fd 95 = (9, 0, 2, true) := rfl
theorem fr_96 : fm_fd 96 = (9, 1, 2, true) := rfl
theorem fr_97 : fm_fd 97 = (9, 2, 2, true) := rfl
theorem fr_98 : fm_fd 98 = (9, 3, 2, true) := rfl
theorem fr_99 : fm_fd 99 = (9, 4, 2, true) := rfl
theorem fr_100 : fm_fd 100 = (9, 5, 2, true) := rfl
theorem fr_101 : fm_fd 101 = (9, 6, 2, true) := rfl
theorem fr_102 : fm_fd 102 = (9, 7, 2, true) := rfl
theorem fr_103 : fm_fd 103 = (9, 8, 0, false) := rfl
theorem fr_104 : fm_fd 104 = (0, 3, 2, true) := rfl
theorem fr_105 : fm_fd 105 = (3, 1, 0, false) := rfl
theorem fr_106 : fm_fd 106 = (2, 1, 0, false) := rfl
theorem fr_107 : fm_fd 107 = (0, 4, 2, true) := rfl
theorem fr_108 : fm_fd 108 = (1, 1, 2, true) := rfl
theorem fr_109 : fm_fd 109 = (0, 5, 2, true) := rfl
theorem fr_110 : fm_fd 110 = (10, 0, 2, true) := rfl
theorem fr_111 : fm_fd 111 = (10, 3, 2, true) := rfl
theorem fr_112 : fm_fd 112 = (10, 4, 2, true) := rfl
theorem fr_113 : fm_fd 113 = (10, 5, 2, true) := rfl
theorem fr_114 : fm_fd 114 = (10, 6, 2, true) := rfl
theorem fr_115 : fm_fd 115 = (10, 7, 2, true) := rfl
theorem fr_116 : fm_fd 116 = (10, 8, 2, true) := rfl
theorem fr_117 : fm_fd 117 = (10, 9, 2, true) := rfl
theorem fr_118 : fm_fd 118 = (10, 10, 2, true) := rfl
theorem fr_119 : fm_fd 119 = (10, 11, 2, true) := rfl
theorem fr_120 : fm_fd 120 = (10, 12, 2, true) := rfl
theorem fr_121 : fm_fd 121 = (10, 13, 2, true) := rfl
theorem fr_122 : fm_fd 122 = (10, 14, 2, true) := rfl
theorem fr_123 : fm_fd 123 = (10, 15, 2, true) := rfl
theorem fr_124 : fm_fd 124 = (10, 16, 2, true) := rfl
theorem fr_125 : fm_fd 125 = (10, 17, 2, true) := rfl
theorem fr_126 : fm_fd 126 = (10, 18, 2, true) := rfl
theorem fr_127 : fm_fd 127 = (10, 19, 2, true) := rfl
theorem fr_128 : fm_fd 128 = (10, 20, 2, true) := rfl
theorem fr_129 : fm_fd 129 = (10, 21, 2, true) := rfl
theorem fr_130 : fm_fd 130 = (10, 22, 2, true) := rfl
theorem fr_131 : fm_fd 131 = (10, 23, 2, true) := rfl
theorem fr_132 : fm_fd 132 = (10, 24, 2, true) := rfl
theorem fr_133 : fm_fd 133 = (10, 25, 2, true) := rfl
theorem fr_134 : fm_fd 134 = (10, 26, 2, true) := rfl
theorem fr_135 : fm_fd 135 = (10, 27, 2, true) := rfl
theorem fr_136 : fm_fd 136 = (10, 28, 2, true) := rfl
theorem fr_137 : fm_fd 137 = (10, 29, 2, true) := rfl
theorem fr_138 : fm_fd 138 = (10, 30, 2, true) := rfl
theorem fr_139 : fm_fd 139 = (10, 31, 2, true) := rfl
theorem fr_140 : fm_fd 140 = (10, 35, 2, true) := rfl
theorem fr_141 : fm_fd 141 = (10, 36, 2, true) := rfl
theorem fr_142 : fm_fd 142 = (10, 2, 3, false) := rfl
theorem fr_143 : fm_fd 143 = (10, 1, 0, false) := rfl
theorem fr_144 : fm_fd 144 = (10, 37, 0, false) := rfl
theorem fr_145 : fm_fd 145 = (10, 32, 0, false) := rfl
theorem fr_146 : fm_fd 146 = (10, 34, 0, false) := rfl
theorem fr_147 : fm_fd 147 = (10, 33, 0, false) := rfl
theorem lb_m10 : (Int8.ofInt (-10)).toInt32 = (-10 : Int32) := rfl
theorem lb_m2 : (Int8.ofInt (-2)).toInt32 = (-2 : Int32) := rfl
theorem lb_6 : (Int8.ofInt 6).toInt32 = (6 : Int32) := rfl
theorem lb_7 : (Int8.ofInt 7).toInt32 = (7 : Int32) := rfl
theorem lb_8 : (Int8.ofInt 8).toInt32 = (8 : Int32) := rfl
theorem lb_9 : (Int8.ofInt 9).toInt32 = (9 : Int32) := rfl
theorem lb_10 : (Int8.ofInt 10).toInt32 = (10 : Int32) := rfl
theorem lb_11 : (Int8.ofInt 11).toInt32 = (11 : Int32) := rfl
theorem lb_12 : (Int8.ofInt 12).toInt32 = (12 : Int32) := rfl
theorem lb_13 : (Int8.ofInt 13).toInt32 = (13 : Int32) := rfl
theorem lb_15 : (Int8.ofInt 15).toInt32 = (15 : Int32) := rfl
theorem lb_16 : (Int8.ofInt 16).toInt32 = (16 : Int32) := rfl
theorem lb_17 : (Int8.ofInt 17).toInt32 = (17 : Int32) := rfl
theorem lb_18 : (Int8.ofInt 18).toInt32 = (18 : Int32) := rfl
theorem lb_30 : (Int8.ofInt 30).toInt32 = (30 : Int32) := rfl
theorem lb_32 : (Int8.ofInt 32).toInt32 = (32 : Int32) := rfl
theorem lb_45 : (Int8.ofInt 45).toInt32 = (45 : Int32) := rfl
theorem lb_46 : (Int8.ofInt 46).toInt32 = (46 : Int32) := rfl
theorem lb_47 : (Int8.ofInt 47).toInt32 = (47 : Int32) := rfl
theorem lb_48 : (Int8.ofInt 48).toInt32 = (48 : Int32) := rfl
theorem lb_49 : (Int8.ofInt 49).toInt32 = (49 : Int32) := rfl
theorem lb_50 : (Int8.ofInt 50).toInt32 = (50 : Int32) := rfl
theorem lb_52 : (Int8.ofInt 52).toInt32 = (52 : Int32) := rfl
theorem lb_54 : (Int8.ofInt 54).toInt32 = (54 : Int32) := rfl
theorem lb_55 : (Int8.ofInt 55).toInt32 = (55 : Int32) := rfl
theorem lb_56 : (Int8.ofInt 56).toInt32 = (56 : Int32) := rfl
theorem lb_57 : (Int8.ofInt 57).toInt32 = (57 : Int32) := rfl
theorem lb_58 : (Int8.ofInt 58).toInt32 = (58 : Int32) := rfl
theorem lb_59 : (Int8.ofInt 59).toInt32 = (59 : Int32) := rfl
theorem lb_60 : (Int8.ofInt 60).toInt32 = (60 : Int32) := rfl
theorem lb_61 : (Int8.ofInt 61).toInt32 = (61 : Int32) := rfl
theorem lb_62 : (Int8.ofInt 62).toInt32 = (62 : Int32) := rfl
theorem lb_63 : (Int8.ofInt 63).toInt32 = (63 : Int32) := rfl
theorem lb_65 : (Int8.ofInt 65).toInt32 = (65 : Int32) := rfl
theorem lb_66 : (Int8.ofInt 66).toInt32 = (66 : Int32) := rfl
theorem lb_67 : (Int8.ofInt 67).toInt32 = (67 : Int32) := rfl
theorem lb_68 : (Int8.ofInt 68).toInt32 = (68 : Int32) := rfl
theorem lb_69 : (Int8.ofInt 69).toInt32 = (69 : Int32) := rfl
theorem lb_70 : (Int8.ofInt 70).toInt32 = (70 : Int32) := rfl
theorem lb_71 : (Int8.ofInt 71).toInt32 = (71 : Int32) := rfl
theorem lb_73 : (Int8.ofInt 73).toInt32 = (73 : Int32) := rfl
theorem lb_75 : (Int8.ofInt 75).toInt32 = (75 : Int32) := rfl
theorem lb_76 : (Int8.ofInt 76).toInt32 = (76 : Int32) := rfl
theorem lb_78 : (Int8.ofInt 78).toInt32 = (78 : Int32) := rfl
theorem lb_79 : (Int8.ofInt 79).toInt32 = (79 : Int32) := rfl
theorem lb_80 : (Int8.ofInt 80).toInt32 = (80 : Int32) := rfl
theorem lb_82 : (Int8.ofInt 82).toInt32 = (82 : Int32) := rfl
theorem lb_83 : (Int8.ofInt 83).toInt32 = (83 : Int32) := rfl
theorem lb_84 : (Int8.ofInt 84).toInt32 = (84 : Int32) := rfl
theorem lb_85 : (Int8.ofInt 85).toInt32 = (85 : Int32) := rfl
theorem lb_86 : (Int8.ofInt 86).toInt32 = (86 : Int32) := rfl
theorem lb_89 : (Int8.ofInt 89).toInt32 = (89 : Int32) := rfl
theorem lb_97 : (Int8.ofInt 97).toInt32 = (97 : Int32) := rfl
theorem lb_98 : (Int8.ofInt 98).toInt32 = (98 : Int32) := rfl
theorem lb_99 : (Int8.ofInt 99).toInt32 = (99 : Int32) := rfl
theorem lb_101 : (Int8.ofInt 101).toInt32 = (101 : Int32) := rfl
theorem lb_103 : (Int8.ofInt 103).toInt32 = (103 : Int32) := rfl
theorem lb_104 : (Int8.ofInt 104).toInt32 = (104 : Int32) := rfl
theorem lb_105 : (Int8.ofInt 105).toInt32 = (105 : Int32) := rfl
theorem lb_108 : (Int8.ofInt 108).toInt32 = (108 : Int32) := rfl
theorem lb_109 : (Int8.ofInt 109).toInt32 = (109 : Int32) := rfl
theorem lb_110 : (Int8.ofInt 110).toInt32 = (110 : Int32) := rfl
theorem lb_111 : (Int8.ofInt 111).toInt32 = (111 : Int32) := rfl
theorem lb_112 : (Int8.ofInt 112).toInt32 = (112 : Int32) := rfl
theorem lb_113 : (Int8.ofInt 113).toInt32 = (113 : Int32) := rfl
theorem lb_114 : (Int8.ofInt 114).toInt32 = (114 : Int32) := rfl
theorem lb_115 : (Int8.ofInt 115).toInt32 = (115 : Int32) := rfl
theorem lb_116 : (Int8.ofInt 116).toInt32 = (116 : Int32) := rfl
theorem lb_117 : (Int8.ofInt 117).toInt32 = (117 : Int32) := rfl
theorem lb_121 : (Int8.ofInt 121).toInt32 = (121 : Int32) := rfl
theorem lb_122 : (Int8.ofInt 122).toInt32 = (122 : Int32) := rfl
theorem lb_126 : (Int8.ofInt 126).toInt32 = (126 : Int32) := rfl
theorem li_m1 : Int32.ofInt (-1) = (-1 : Int32) := rfl
theorem li_0 : Int32.ofInt 0 = (0 : Int32) := rfl
theorem li_1 : Int32.ofInt 1 = (1 : Int32) := rfl
theorem li_2 : Int32.ofInt 2 = (2 : Int32) := rfl
theorem li_3 : Int32.ofInt 3 = (3 : Int32) := rfl
theorem li_4 : Int32.ofInt 4 = (4 : Int32) := rfl
theorem li_5 : Int32.ofInt 5 = (5 : Int32) := rfl
theorem ls_255 : (Int16.ofInt 255).toInt32 = (255 : Int32) := rfl
theorem ls_500 : (Int16.ofInt 500).toInt32 = (500 : Int32) := rfl
theorem ls_1000 : (Int16.ofInt 1000).toInt32 = (1000 : Int32) := rfl
theorem ls_4000 : (Int16.ofInt 4000).toInt32 = (4000 : Int32) := rfl
theorem ls_32000 : (Int16.ofInt 32000).toInt32 = (32000 : Int32) := rfl
theorem cg_2_5 : fm_cg 2 5 0 = some (1, 1, 0) := by decide +kernel
theorem cg_2_6 : fm_cg 2 6 0 = some (19, 4, 0) := by decide +kernel
theorem cg_2_7 : fm_cg 2 7 0 = some (39, 2, 3) := by decide +kernel
theorem cg_2_8 : fm_cg 2 8 0 = some (25, 4, 1) := by decide +kernel
theorem cg_2_9 : fm_cg 2 9 0 = some (20, 1, 0) := by decide +kernel
theorem cg_2_10 : fm_cg 2 10 0 = some (21, 2, 0) := by decide +kernel
theorem cg_2_11 : fm_cg 2 11 0 = some (23, 4, 0) := by decide +kernel
theorem cg_3_7 : fm_cg 3 7 0 = some (39, 2, 3) := by decide +kernel
theorem cg_3_9 : fm_cg 3 9 0 = some (20, 1, 0) := by decide +kernel
theorem cg_3_10 : fm_cg 3 10 0 = some (21, 2, 0) := by decide +kernel
theorem cg_3_11 : fm_cg 3 11 0 = some (23, 4, 0) := by decide +kernel
theorem cg_3_12 : fm_cg 3 12 0 = some (40, 3, 3) := by decide +kernel
theorem cg_3_13 : fm_cg 3 13 0 = some (47, 2, 4) := by decide +kernel
theorem cg_4_9 : fm_cg 4 9 0 = some (20, 1, 0) := by decide +kernel
theorem cg_4_10 : fm_cg 4 10 0 = some (21, 2, 0) := by decide +kernel
theorem cg_4_11 : fm_cg 4 11 0 = some (23, 4, 0) := by decide +kernel
theorem cg_4_13 : fm_cg 4 13 0 = some (47, 2, 4) := by decide +kernel
theorem cg_5_6 : fm_cg 5 6 0 = some (19, 4, 0) := by decide +kernel
theorem cg_5_9 : fm_cg 5 9 0 = some (20, 1, 0) := by decide +kernel
theorem cg_5_10 : fm_cg 5 10 0 = some (21, 2, 0) := by decide +kernel
theorem cg_5_11 : fm_cg 5 11 0 = some (23, 4, 0) := by decide +kernel
theorem cg_5_14 : fm_cg 5 14 0 = some (49, 2, 4) := by decide +kernel
theorem cg_6_10 : fm_cg 6 10 0 = some (21, 2, 0) := by decide +kernel
theorem cg_6_15 : fm_cg 6 15 0 = some (80, 1, 7) := by decide +kernel
theorem cg_6_16 : fm_cg 6 16 0 = some (83, 1, 7) := by decide +kernel
theorem cg_6_17 : fm_cg 6 17 0 = some (22, 2, 0) := by decide +kernel
theorem cg_7_18 : fm_cg 7 18 0 = some (9, 2, 0) := by decide +kernel
theorem cg_7_19 : fm_cg 7 19 0 = some (11, 2, 0) := by decide +kernel
theorem cg_7_20 : fm_cg 7 20 0 = some (12, 2, 0) := by decide +kernel
theorem cg_7_21 : fm_cg 7 21 0 = some (13, 2, 0) := by decide +kernel
theorem cg_7_22 : fm_cg 7 22 0 = some (10, 2, 0) := by decide +kernel
theorem cg_7_23 : fm_cg 7 23 0 = some (14, 2, 0) := by decide +kernel
theorem cg_7_24 : fm_cg 7 24 0 = some (16, 2, 0) := by decide +kernel
theorem cg_7_25 : fm_cg 7 25 0 = some (15, 2, 0) := by decide +kernel
theorem cg_7_26 : fm_cg 7 26 0 = some (17, 2, 0) := by decide +kernel
theorem cg_11_5 : fm_cg 11 5 0 = some (1, 1, 0) := by decide +kernel
theorem cg_11_8 : fm_cg 11 8 0 = some (25, 4, 1) := by decide +kernel
theorem cg_11_9 : fm_cg 11 9 0 = some (20, 1, 0) := by decide +kernel
theorem cg_11_10 : fm_cg 11 10 0 = some (21, 2, 0) := by decide +kernel
theorem cg_11_14 : fm_cg 11 14 0 = some (49, 2, 4) := by decide +kernel
theorem cg_11_17 : fm_cg 11 17 0 = some (22, 2, 0) := by decide +kernel
theorem cg_11_27 : fm_cg 11 27 0 = some (26, 2, 1) := by decide +kernel
theorem cg_11_28 : fm_cg 11 28 0 = some (48, 3, 4) := by decide +kernel
theorem cg_12_17 : fm_cg 12 17 0 = some (22, 2, 0) := by decide +kernel
theorem cg_13_10 : fm_cg 13 10 0 = some (21, 2, 0) := by decide +kernel
theorem cg_13_17 : fm_cg 13 17 0 = some (22, 2, 0) := by decide +kernel
theorem cg_13_28 : fm_cg 13 28 0 = some (48, 3, 4) := by decide +kernel
theorem cg_13_29 : fm_cg 13 29 0 = some (28, 2, 1) := by decide +kernel
theorem cg_14_17 : fm_cg 14 17 0 = some (22, 2, 0) := by decide +kernel
theorem cg_14_30 : fm_cg 14 30 0 = some (27, 2, 1) := by decide +kernel
theorem cg_15_7 : fm_cg 15 7 0 = some (39, 2, 3) := by decide +kernel
theorem cg_15_10 : fm_cg 15 10 0 = some (21, 2, 0) := by decide +kernel
theorem cg_15_17 : fm_cg 15 17 0 = some (22, 2, 0) := by decide +kernel
theorem cg_15_30 : fm_cg 15 30 0 = some (27, 2, 1) := by decide +kernel
theorem cg_15_31 : fm_cg 15 31 0 = some (18, 2, 0) := by decide +kernel
theorem cg_16_10 : fm_cg 16 10 0 = some (21, 2, 0) := by decide +kernel
theorem cg_16_17 : fm_cg 16 17 0 = some (22, 2, 0) := by decide +kernel
theorem cg_16_30 : fm_cg 16 30 0 = some (27, 2, 1) := by decide +kernel
theorem cg_16_31 : fm_cg 16 31 0 = some (18, 2, 0) := by decide +kernel
theorem cg_17_17 : fm_cg 17 17 0 = some (22, 2, 0) := by decide +kernel
theorem cg_18_6 : fm_cg 18 6 0 = some (19, 4, 0) := by decide +kernel
theorem cg_18_9 : fm_cg 18 9 0 = some (20, 1, 0) := by decide +kernel
theorem cg_19_32 : fm_cg 19 32 0 = some (38, 1, 3) := by decide +kernel
theorem cg_20_13 : fm_cg 20 13 0 = some (47, 2, 4) := by decide +kernel
theorem cg_21_33 : fm_cg 21 33 0 = some (32, 2, 2) := by decide +kernel
theorem cg_22_34 : fm_cg 22 34 0 = some (79, 1, 7) := by decide +kernel
theorem cg_23_35 : fm_cg 23 35 0 = some (78, 3, 7) := by decide +kernel
theorem cg_25_38 : fm_cg 25 38 0 = some (39, 2, 3) := by decide +kernel
theorem cg_25_39 : fm_cg 25 39 0 = some (38, 1, 3) := by decide +kernel
theorem cg_31_42 : fm_cg 31 42 0 = some (30, 2, 2) := by decide +kernel
theorem cg_32_43 : fm_cg 32 43 0 = some (31, 2, 2) := by decide +kernel
theorem cg_32_44 : fm_cg 32 44 0 = some (47, 2, 4) := by decide +kernel
theorem cg_37_46 : fm_cg 37 46 0 = some (35, 2, 3) := by decide +kernel
theorem cg_37_47 : fm_cg 37 47 0 = some (36, 2, 3) := by decide +kernel
theorem cg_40_46 : fm_cg 40 46 0 = some (35, 2, 3) := by decide +kernel
theorem cg_40_47 : fm_cg 40 47 0 = some (36, 2, 3) := by decide +kernel
theorem cg_40_48 : fm_cg 40 48 0 = some (38, 1, 3) := by decide +kernel
theorem cg_40_49 : fm_cg 40 49 0 = some (34, 3, 3) := by decide +kernel
theorem cg_40_50 : fm_cg 40 50 0 = some (41, 3, 3) := by decide +kernel
theorem cg_40_51 : fm_cg 40 51 0 = some (42, 3, 3) := by decide +kernel
theorem cg_41_49 : fm_cg 41 49 0 = some (34, 3, 3) := by decide +kernel
theorem cg_41_51 : fm_cg 41 51 0 = some (42, 3, 3) := by decide +kernel
theorem cg_42_49 : fm_cg 42 49 0 = some (34, 3, 3) := by decide +kernel
theorem cg_43_49 : fm_cg 43 49 0 = some (34, 3, 3) := by decide +kernel
theorem cg_43_52 : fm_cg 43 52 0 = some (74, 2, 6) := by decide +kernel
theorem cg_43_53 : fm_cg 43 53 0 = some (75, 2, 6) := by decide +kernel
theorem cg_43_54 : fm_cg 43 54 0 = some (73, 2, 6) := by decide +kernel
theorem cg_46_57 : fm_cg 46 57 0 = some (45, 1, 4) := by decide +kernel
theorem cg_47_58 : fm_cg 47 58 0 = some (39, 2, 3) := by decide +kernel
theorem cg_48_59 : fm_cg 48 59 0 = some (47, 2, 4) := by decide +kernel
theorem cg_48_60 : fm_cg 48 60 0 = some (38, 1, 3) := by decide +kernel
theorem cg_50_57 : fm_cg 50 57 0 = some (45, 1, 4) := by decide +kernel
theorem cg_50_61 : fm_cg 50 61 0 = some (71, 1, 6) := by decide +kernel
theorem cg_50_62 : fm_cg 50 62 0 = some (43, 2, 3) := by decide +kernel
theorem cg_50_63 : fm_cg 50 63 2 = some (84, 1, 8) := by decide +kernel
theorem cg_50_64 : fm_cg 50 64 0 = some (74, 2, 6) := by decide +kernel
theorem cg_50_65 : fm_cg 50 65 0 = some (75, 2, 6) := by decide +kernel
theorem cg_50_66 : fm_cg 50 66 0 = some (73, 2, 6) := by decide +kernel
theorem cg_50_67 : fm_cg 50 67 0 = some (51, 2, 4) := by decide +kernel
theorem cg_50_68 : fm_cg 50 68 0 = some (52, 3, 4) := by decide +kernel
theorem cg_50_69 : fm_cg 50 69 0 = some (76, 2, 6) := by decide +kernel
theorem cg_51_63 : fm_cg 51 63 2 = some (84, 1, 8) := by decide +kernel
theorem cg_51_64 : fm_cg 51 64 0 = some (74, 2, 6) := by decide +kernel
theorem cg_51_65 : fm_cg 51 65 0 = some (75, 2, 6) := by decide +kernel
theorem cg_51_66 : fm_cg 51 66 0 = some (73, 2, 6) := by decide +kernel
theorem cg_52_63 : fm_cg 52 63 2 = some (84, 1, 8) := by decide +kernel
theorem cg_52_64 : fm_cg 52 64 0 = some (74, 2, 6) := by decide +kernel
theorem cg_52_65 : fm_cg 52 65 0 = some (75, 2, 6) := by decide +kernel
theorem cg_52_66 : fm_cg 52 66 0 = some (73, 2, 6) := by decide +kernel
theorem cg_54_71 : fm_cg 54 71 0 = some (55, 2, 5) := by decide +kernel
theorem cg_54_72 : fm_cg 54 72 0 = some (56, 3, 5) := by decide +kernel
theorem cg_54_73 : fm_cg 54 73 0 = some (65, 2, 5) := by decide +kernel
theorem cg_54_74 : fm_cg 54 74 0 = some (59, 2, 5) := by decide +kernel
theorem cg_55_73 : fm_cg 55 73 0 = some (65, 2, 5) := by decide +kernel
theorem cg_55_75 : fm_cg 55 75 0 = some (66, 3, 5) := by decide +kernel
theorem cg_55_76 : fm_cg 55 76 0 = some (45, 1, 4) := by decide +kernel
theorem cg_55_77 : fm_cg 55 77 0 = some (61, 1, 5) := by decide +kernel
theorem cg_55_78 : fm_cg 55 78 0 = some (64, 2, 5) := by decide +kernel
theorem cg_56_75 : fm_cg 56 75 0 = some (66, 3, 5) := by decide +kernel
theorem cg_56_77 : fm_cg 56 77 0 = some (61, 1, 5) := by decide +kernel
theorem cg_56_78 : fm_cg 56 78 0 = some (64, 2, 5) := by decide +kernel
theorem cg_56_79 : fm_cg 56 79 0 = some (69, 2, 5) := by decide +kernel
theorem cg_56_80 : fm_cg 56 80 0 = some (63, 2, 5) := by decide +kernel
theorem cg_56_81 : fm_cg 56 81 0 = some (57, 2, 5) := by decide +kernel
theorem cg_56_82 : fm_cg 56 82 0 = some (58, 2, 5) := by decide +kernel
theorem cg_57_78 : fm_cg 57 78 0 = some (64, 2, 5) := by decide +kernel
theorem cg_57_80 : fm_cg 57 80 0 = some (63, 2, 5) := by decide +kernel
theorem cg_57_83 : fm_cg 57 83 0 = some (68, 1, 5) := by decide +kernel
theorem cg_58_73 : fm_cg 58 73 0 = some (65, 2, 5) := by decide +kernel
theorem cg_58_75 : fm_cg 58 75 0 = some (66, 3, 5) := by decide +kernel
theorem cg_58_76 : fm_cg 58 76 0 = some (45, 1, 4) := by decide +kernel
theorem cg_58_79 : fm_cg 58 79 0 = some (69, 2, 5) := by decide +kernel
theorem cg_58_80 : fm_cg 58 80 0 = some (63, 2, 5) := by decide +kernel
theorem cg_59_79 : fm_cg 59 79 0 = some (69, 2, 5) := by decide +kernel
theorem cg_59_84 : fm_cg 59 84 0 = some (38, 1, 3) := by decide +kernel
theorem cg_59_86 : fm_cg 59 86 0 = some (60, 2, 5) := by decide +kernel
theorem cg_60_73 : fm_cg 60 73 0 = some (65, 2, 5) := by decide +kernel
theorem cg_60_78 : fm_cg 60 78 0 = some (64, 2, 5) := by decide +kernel
theorem cg_60_80 : fm_cg 60 80 0 = some (63, 2, 5) := by decide +kernel
theorem cg_60_83 : fm_cg 60 83 0 = some (68, 1, 5) := by decide +kernel
theorem cg_60_87 : fm_cg 60 87 0 = some (35, 2, 3) := by decide +kernel
theorem cg_60_88 : fm_cg 60 88 0 = some (62, 2, 5) := by decide +kernel
theorem cg_60_89 : fm_cg 60 89 0 = some (36, 2, 3) := by decide +kernel
theorem cg_61_88 : fm_cg 61 88 0 = some (62, 2, 5) := by decide +kernel
theorem cg_62_79 : fm_cg 62 79 0 = some (69, 2, 5) := by decide +kernel
theorem cg_62_83 : fm_cg 62 83 0 = some (68, 1, 5) := by decide +kernel
theorem cg_63_79 : fm_cg 63 79 0 = some (69, 2, 5) := by decide +kernel
theorem cg_63_83 : fm_cg 63 83 0 = some (68, 1, 5) := by decide +kernel
theorem cg_63_90 : fm_cg 63 90 0 = some (72, 2, 6) := by decide +kernel
theorem cg_64_79 : fm_cg 64 79 0 = some (69, 2, 5) := by decide +kernel
theorem cg_64_91 : fm_cg 64 91 0 = some (67, 2, 5) := by decide +kernel
theorem cg_65_79 : fm_cg 65 79 0 = some (69, 2, 5) := by decide +kernel
theorem cg_65_83 : fm_cg 65 83 0 = some (68, 1, 5) := by decide +kernel
theorem cg_66_79 : fm_cg 66 79 0 = some (69, 2, 5) := by decide +kernel
theorem cg_66_91 : fm_cg 66 91 0 = some (67, 2, 5) := by decide +kernel
theorem cg_66_93 : fm_cg 66 93 2 = some (84, 1, 8) := by decide +kernel
theorem cg_67_90 : fm_cg 67 90 0 = some (72, 2, 6) := by decide +kernel
theorem cg_68_90 : fm_cg 68 90 0 = some (72, 2, 6) := by decide +kernel
theorem cg_74_100 : fm_cg 74 100 0 = some (73, 2, 6) := by decide +kernel
theorem cg_75_100 : fm_cg 75 100 0 = some (73, 2, 6) := by decide +kernel
theorem cg_76_100 : fm_cg 76 100 0 = some (73, 2, 6) := by decide +kernel
theorem cg_76_101 : fm_cg 76 101 0 = some (72, 2, 6) := by decide +kernel
theorem cg_82_104 : fm_cg 82 104 0 = some (81, 1, 7) := by decide +kernel
theorem cg_86_111 : fm_cg 86 111 0 = some (101, 2, 9) := by decide +kernel
theorem cg_86_112 : fm_cg 86 112 0 = some (37, 3, 3) := by decide +kernel
theorem cg_87_111 : fm_cg 87 111 0 = some (101, 2, 9) := by decide +kernel
theorem cg_87_113 : fm_cg 87 113 0 = some (2, 2, 0) := by decide +kernel
theorem cg_88_111 : fm_cg 88 111 0 = some (101, 2, 9) := by decide +kernel
theorem cg_88_114 : fm_cg 88 114 0 = some (3, 2, 0) := by decide +kernel
theorem cg_89_111 : fm_cg 89 111 0 = some (101, 2, 9) := by decide +kernel
theorem cg_89_115 : fm_cg 89 115 0 = some (4, 2, 0) := by decide +kernel
theorem cg_90_111 : fm_cg 90 111 0 = some (101, 2, 9) := by decide +kernel
theorem cg_90_116 : fm_cg 90 116 0 = some (5, 2, 0) := by decide +kernel
theorem cg_91_117 : fm_cg 91 117 0 = some (102, 2, 9) := by decide +kernel
theorem cg_91_118 : fm_cg 91 118 0 = some (31, 2, 2) := by decide +kernel
theorem cg_91_119 : fm_cg 91 119 0 = some (7, 2, 0) := by decide +kernel
theorem cg_92_117 : fm_cg 92 117 0 = some (102, 2, 9) := by decide +kernel
theorem cg_92_119 : fm_cg 92 119 0 = some (7, 2, 0) := by decide +kernel
theorem cg_93_118 : fm_cg 93 118 0 = some (31, 2, 2) := by decide +kernel
theorem cg_95_120 : fm_cg 95 120 0 = some (30, 2, 2) := by decide +kernel
theorem cg_95_121 : fm_cg 95 121 0 = some (50, 3, 4) := by decide +kernel
theorem cg_95_122 : fm_cg 95 122 0 = some (72, 2, 6) := by decide +kernel
theorem cg_96_123 : fm_cg 96 123 0 = some (73, 2, 6) := by decide +kernel
theorem cg_97_111 : fm_cg 97 111 0 = some (101, 2, 9) := by decide +kernel
theorem cg_97_119 : fm_cg 97 119 0 = some (7, 2, 0) := by decide +kernel
theorem cg_97_124 : fm_cg 97 124 0 = some (54, 2, 5) := by decide +kernel
theorem cg_97_125 : fm_cg 97 125 0 = some (71, 1, 6) := by decide +kernel
theorem cg_98_126 : fm_cg 98 126 0 = some (103, 2, 9) := by decide +kernel
theorem cg_98_127 : fm_cg 98 127 0 = some (6, 1, 0) := by decide +kernel
theorem cg_99_111 : fm_cg 99 111 0 = some (101, 2, 9) := by decide +kernel
theorem cg_99_128 : fm_cg 99 128 0 = some (8, 2, 0) := by decide +kernel
theorem cg_100_111 : fm_cg 100 111 0 = some (101, 2, 9) := by decide +kernel
theorem cg_100_129 : fm_cg 100 129 0 = some (34, 3, 3) := by decide +kernel
theorem cg_102_111 : fm_cg 102 111 0 = some (101, 2, 9) := by decide +kernel
theorem cg_102_120 : fm_cg 102 120 0 = some (30, 2, 2) := by decide +kernel
theorem cg_102_130 : fm_cg 102 130 0 = some (47, 2, 4) := by decide +kernel
theorem cg_102_131 : fm_cg 102 131 0 = some (46, 1, 4) := by decide +kernel
theorem cg_103_132 : fm_cg 103 132 0 = some (82, 2, 7) := by decide +kernel
theorem cg_103_133 : fm_cg 103 133 0 = some (81, 1, 7) := by decide +kernel
theorem cg_109_136 : fm_cg 109 136 0 = some (110, 2, 10) := by decide +kernel
theorem cg_115_137 : fm_cg 115 137 2 = some (105, 1, 10) := by decide +kernel
theorem cg_116_137 : fm_cg 116 137 2 = some (105, 1, 10) := by decide +kernel
theorem cg_116_138 : fm_cg 116 138 0 = some (106, 2, 10) := by decide +kernel
theorem cg_116_139 : fm_cg 116 139 0 = some (113, 2, 10) := by decide +kernel
theorem cg_116_140 : fm_cg 116 140 0 = some (112, 2, 10) := by decide +kernel
theorem cg_116_141 : fm_cg 116 141 0 = some (111, 6, 10) := by decide +kernel
theorem cg_116_142 : fm_cg 116 142 0 = some (108, 2, 10) := by decide +kernel
theorem cg_116_143 : fm_cg 116 143 0 = some (109, 3, 10) := by decide +kernel
theorem cg_120_137 : fm_cg 120 137 2 = some (105, 1, 10) := by decide +kernel
theorem cg_120_142 : fm_cg 120 142 0 = some (108, 2, 10) := by decide +kernel
theorem cg_120_143 : fm_cg 120 143 0 = some (109, 3, 10) := by decide +kernel
theorem cg_120_144 : fm_cg 120 144 0 = some (114, 6, 10) := by decide +kernel
theorem cg_120_145 : fm_cg 120 145 0 = some (117, 2, 10) := by decide +kernel
theorem cg_120_146 : fm_cg 120 146 0 = some (118, 3, 10) := by decide +kernel
theorem cg_121_137 : fm_cg 121 137 2 = some (105, 1, 10) := by decide +kernel
theorem cg_121_142 : fm_cg 121 142 0 = some (108, 2, 10) := by decide +kernel
theorem cg_121_143 : fm_cg 121 143 0 = some (109, 3, 10) := by decide +kernel
theorem cg_121_144 : fm_cg 121 144 0 = some (114, 6, 10) := by decide +kernel
theorem cg_122_137 : fm_cg 122 137 2 = some (105, 1, 10) := by decide +kernel
theorem cg_122_140 : fm_cg 122 140 0 = some (112, 2, 10) := by decide +kernel
theorem cg_122_141 : fm_cg 122 141 0 = some (111, 6, 10) := by decide +kernel
theorem cg_122_142 : fm_cg 122 142 0 = some (108, 2, 10) := by decide +kernel
theorem cg_122_143 : fm_cg 122 143 0 = some (109, 3, 10) := by decide +kernel
theorem cg_123_147 : fm_cg 123 147 0 = some (124, 2, 10) := by decide +kernel
theorem cg_123_148 : fm_cg 123 148 0 = some (127, 2, 10) := by decide +kernel
theorem cg_124_135 : fm_cg 124 135 0 = some (107, 2, 10) := by decide +kernel
theorem cg_124_143 : fm_cg 124 143 0 = some (109, 3, 10) := by decide +kernel
theorem cg_124_144 : fm_cg 124 144 0 = some (114, 6, 10) := by decide +kernel
theorem cg_124_149 : fm_cg 124 149 0 = some (125, 2, 10) := by decide +kernel
theorem cg_125_138 : fm_cg 125 138 0 = some (106, 2, 10) := by decide +kernel
theorem cg_125_139 : fm_cg 125 139 0 = some (113, 2, 10) := by decide +kernel
theorem cg_125_143 : fm_cg 125 143 0 = some (109, 3, 10) := by decide +kernel
theorem cg_125_144 : fm_cg 125 144 0 = some (114, 6, 10) := by decide +kernel
theorem cg_125_150 : fm_cg 125 150 0 = some (119, 2, 10) := by decide +kernel
theorem cg_126_141 : fm_cg 126 141 0 = some (111, 6, 10) := by decide +kernel
theorem cg_126_143 : fm_cg 126 143 0 = some (109, 3, 10) := by decide +kernel
theorem cg_127_135 : fm_cg 127 135 0 = some (107, 2, 10) := by decide +kernel
theorem cg_127_140 : fm_cg 127 140 0 = some (112, 2, 10) := by decide +kernel
theorem cg_127_143 : fm_cg 127 143 0 = some (109, 3, 10) := by decide +kernel
theorem cg_127_146 : fm_cg 127 146 0 = some (118, 3, 10) := by decide +kernel
theorem cg_127_151 : fm_cg 127 151 0 = some (126, 4, 10) := by decide +kernel
theorem cg_130_136 : fm_cg 130 136 0 = some (110, 2, 10) := by decide +kernel
theorem cg_130_152 : fm_cg 130 152 0 = some (129, 2, 10) := by decide +kernel
theorem cg_130_153 : fm_cg 130 153 0 = some (128, 2, 10) := by decide +kernel
theorem cg_130_154 : fm_cg 130 154 0 = some (123, 2, 10) := by decide +kernel
theorem cg_131_152 : fm_cg 131 152 0 = some (129, 2, 10) := by decide +kernel
theorem cg_131_153 : fm_cg 131 153 0 = some (128, 2, 10) := by decide +kernel
theorem cg_131_154 : fm_cg 131 154 0 = some (123, 2, 10) := by decide +kernel
theorem cg_132_136 : fm_cg 132 136 0 = some (110, 2, 10) := by decide +kernel
theorem cg_132_152 : fm_cg 132 152 0 = some (129, 2, 10) := by decide +kernel
theorem cg_135_155 : fm_cg 135 155 0 = some (134, 2, 10) := by decide +kernel
theorem cg_136_156 : fm_cg 136 156 2 = some (137, 8, 10) := by decide +kernel
theorem cg_136_157 : fm_cg 136 157 2 = some (139, 1, 10) := by decide +kernel
theorem cg_136_158 : fm_cg 136 158 2 = some (140, 1, 10) := by decide +kernel
theorem cg_136_159 : fm_cg 136 159 2 = some (141, 4, 10) := by decide +kernel
theorem cg_136_160 : fm_cg 136 160 2 = some (142, 1, 10) := by decide +kernel
theorem cg_136_161 : fm_cg 136 161 2 = some (138, 5, 10) := by decide +kernel
theorem cg_136_162 : fm_cg 136 162 2 = some (143, 1, 10) := by decide +kernel
theorem cg_136_163 : fm_cg 136 163 2 = some (144, 1, 10) := by decide +kernel
theorem cg_136_164 : fm_cg 136 164 2 = some (145, 1, 10) := by decide +kernel
theorem cg_136_165 : fm_cg 136 165 2 = some (146, 1, 10) := by decide +kernel
theorem cg_136_166 : fm_cg 136 166 2 = some (147, 1, 10) := by decide +kernel
theorem cg_136_167 : fm_cg 136 167 2 = some (148, 1, 10) := by decide +kernel
theorem cg_137_157 : fm_cg 137 157 2 = some (139, 1, 10) := by decide +kernel
theorem cg_139_161 : fm_cg 139 161 2 = some (138, 5, 10) := by decide +kernel
theorem cg_140_161 : fm_cg 140 161 2 = some (138, 5, 10) := by decide +kernel
theorem cg_141_161 : fm_cg 141 161 2 = some (138, 5, 10) := by decide +kernel
theorem cg_142_161 : fm_cg 142 161 2 = some (138, 5, 10) := by decide +kernel
theorem cg_143_158 : fm_cg 143 158 2 = some (140, 1, 10) := by decide +kernel
theorem cg_143_161 : fm_cg 143 161 2 = some (138, 5, 10) := by decide +kernel
theorem cg_144_161 : fm_cg 144 161 2 = some (138, 5, 10) := by decide +kernel
theorem cg_145_161 : fm_cg 145 161 2 = some (138, 5, 10) := by decide +kernel
theorem cg_146_161 : fm_cg 146 161 2 = some (138, 5, 10) := by decide +kernel
theorem cg_147_161 : fm_cg 147 161 2 = some (138, 5, 10) := by decide +kernel
theorem cg_148_161 : fm_cg 148 161 2 = some (138, 5, 10) := by decide +kernel
theorem cg_149_168 : fm_cg 149 168 2 = some (136, 2, 10) := by decide +kernel
theorem cg_150_155 : fm_cg 150 155 0 = some (134, 2, 10) := by decide +kernel
theorem cg_150_168 : fm_cg 150 168 2 = some (136, 2, 10) := by decide +kernel
theorem cg_150_169 : fm_cg 150 169 2 = some (149, 1, 10) := by decide +kernel
theorem cg_151_155 : fm_cg 151 155 0 = some (134, 2, 10) := by decide +kernel
theorem cg_151_167 : fm_cg 151 167 2 = some (148, 1, 10) := by decide +kernel
theorem cg_151_170 : fm_cg 151 170 0 = some (150, 2, 10) := by decide +kernel
theorem cg_151_171 : fm_cg 151 171 0 = some (135, 2, 10) := by decide +kernel
theorem cg_152_172 : fm_cg 152 172 0 = some (153, 2, 10) := by decide +kernel
theorem cg_153_155 : fm_cg 153 155 0 = some (134, 2, 10) := by decide +kernel
theorem cg_153_171 : fm_cg 153 171 0 = some (135, 2, 10) := by decide +kernel
theorem cg_154_155 : fm_cg 154 155 0 = some (134, 2, 10) := by decide +kernel
theorem cg_154_170 : fm_cg 154 170 0 = some (150, 2, 10) := by decide +kernel
theorem cg_154_171 : fm_cg 154 171 0 = some (135, 2, 10) := by decide +kernel
theorem cg_154_172 : fm_cg 154 172 0 = some (153, 2, 10) := by decide +kernel
theorem cg_154_173 : fm_cg 154 173 0 = some (151, 4, 10) := by decide +kernel
theorem cg_154_174 : fm_cg 154 174 0 = some (152, 2, 10) := by decide +kernel
theorem cg_155_152 : fm_cg 155 152 0 = some (129, 2, 10) := by decide +kernel
theorem cg_155_175 : fm_cg 155 175 0 = some (154, 2, 10) := by decide +kernel
theorem cg_158_168 : fm_cg 158 168 2 = some (136, 2, 10) := by decide +kernel
theorem cg_158_176 : fm_cg 158 176 0 = some (157, 2, 10) := by decide +kernel
theorem cg_159_177 : fm_cg 159 177 0 = some (160, 2, 10) := by decide +kernel
theorem cg_160_176 : fm_cg 160 176 0 = some (157, 2, 10) := by decide +kernel
theorem cg_161_176 : fm_cg 161 176 0 = some (157, 2, 10) := by decide +kernel
theorem cg_162_176 : fm_cg 162 176 0 = some (157, 2, 10) := by decide +kernel
theorem cg_163_167 : fm_cg 163 167 2 = some (148, 1, 10) := by decide +kernel
theorem cg_163_176 : fm_cg 163 176 0 = some (157, 2, 10) := by decide +kernel
theorem cg_163_177 : fm_cg 163 177 0 = some (160, 2, 10) := by decide +kernel
theorem cg_163_178 : fm_cg 163 178 0 = some (164, 1, 10) := by decide +kernel
theorem cg_163_179 : fm_cg 163 179 0 = some (158, 3, 10) := by decide +kernel
theorem cg_163_180 : fm_cg 163 180 0 = some (161, 3, 10) := by decide +kernel
theorem cg_163_181 : fm_cg 163 181 0 = some (162, 2, 10) := by decide +kernel
theorem cg_163_182 : fm_cg 163 182 0 = some (159, 1, 10) := by decide +kernel
theorem cg_164_168 : fm_cg 164 168 2 = some (136, 2, 10) := by decide +kernel
theorem cg_164_176 : fm_cg 164 176 0 = some (157, 2, 10) := by decide +kernel
theorem cg_164_183 : fm_cg 164 183 2 = some (165, 1, 10) := by decide +kernel
theorem cg_166_176 : fm_cg 166 176 0 = some (157, 2, 10) := by decide +kernel
theorem cg_166_184 : fm_cg 166 184 0 = some (167, 2, 10) := by decide +kernel
theorem cg_167_177 : fm_cg 167 177 0 = some (160, 2, 10) := by decide +kernel
theorem cg_167_180 : fm_cg 167 180 0 = some (161, 3, 10) := by decide +kernel
theorem cg_167_181 : fm_cg 167 181 0 = some (162, 2, 10) := by decide +kernel
theorem cg_167_182 : fm_cg 167 182 0 = some (159, 1, 10) := by decide +kernel
theorem cg_168_179 : fm_cg 168 179 0 = some (158, 3, 10) := by decide +kernel
theorem cg_168_180 : fm_cg 168 180 0 = some (161, 3, 10) := by decide +kernel
theorem cg_168_182 : fm_cg 168 182 0 = some (159, 1, 10) := by decide +kernel
theorem cg_168_185 : fm_cg 168 185 0 = some (163, 1, 10) := by decide +kernel
theorem cg_168_186 : fm_cg 168 186 0 = some (166, 2, 10) := by decide +kernel
theorem cg_169_137 : fm_cg 169 137 2 = some (105, 1, 10) := by decide +kernel
theorem cg_169_154 : fm_cg 169 154 0 = some (123, 2, 10) := by decide +kernel
theorem cg_169_187 : fm_cg 169 187 0 = some (168, 1, 10) := by decide +kernel
theorem cg_171_135 : fm_cg 171 135 0 = some (107, 2, 10) := by decide +kernel
theorem cg_171_143 : fm_cg 171 143 0 = some (109, 3, 10) := by decide +kernel
theorem cg_172_188 : fm_cg 172 188 0 = some (170, 2, 10) := by decide +kernel
theorem cg_172_189 : fm_cg 172 189 0 = some (171, 2, 10) := by decide +kernel
theorem cg_173_137 : fm_cg 173 137 2 = some (105, 1, 10) := by decide +kernel
theorem cg_174_137 : fm_cg 174 137 2 = some (105, 1, 10) := by decide +kernel
theorem cg_175_192 : fm_cg 175 192 0 = some (86, 4, 9) := by decide +kernel
theorem cg_175_193 : fm_cg 175 193 0 = some (115, 4, 10) := by decide +kernel
theorem cg_175_194 : fm_cg 175 194 0 = some (87, 2, 9) := by decide +kernel
theorem cg_175_195 : fm_cg 175 195 0 = some (116, 2, 10) := by decide +kernel
theorem cg_175_196 : fm_cg 175 196 0 = some (88, 2, 9) := by decide +kernel
theorem cg_175_197 : fm_cg 175 197 0 = some (120, 2, 10) := by decide +kernel
theorem cg_175_198 : fm_cg 175 198 0 = some (89, 2, 9) := by decide +kernel
theorem cg_175_199 : fm_cg 175 199 0 = some (121, 2, 10) := by decide +kernel
theorem cg_175_200 : fm_cg 175 200 0 = some (90, 2, 9) := by decide +kernel
theorem cg_175_201 : fm_cg 175 201 0 = some (122, 2, 10) := by decide +kernel
theorem cg_175_202 : fm_cg 175 202 0 = some (91, 2, 9) := by decide +kernel
theorem cg_175_203 : fm_cg 175 203 0 = some (130, 2, 10) := by decide +kernel
theorem cg_175_204 : fm_cg 175 204 0 = some (92, 2, 9) := by decide +kernel
theorem cg_175_205 : fm_cg 175 205 0 = some (131, 2, 10) := by decide +kernel
theorem cg_175_206 : fm_cg 175 206 0 = some (93, 2, 9) := by decide +kernel
theorem cg_175_207 : fm_cg 175 207 0 = some (132, 2, 10) := by decide +kernel
theorem cg_175_208 : fm_cg 175 208 0 = some (94, 1, 9) := by decide +kernel
theorem cg_175_209 : fm_cg 175 209 0 = some (133, 1, 10) := by decide +kernel
theorem cg_175_210 : fm_cg 175 210 0 = some (95, 3, 9) := by decide +kernel
theorem cg_175_211 : fm_cg 175 211 0 = some (155, 3, 10) := by decide +kernel
theorem cg_175_212 : fm_cg 175 212 0 = some (96, 2, 9) := by decide +kernel
theorem cg_175_213 : fm_cg 175 213 0 = some (156, 2, 10) := by decide +kernel
theorem cg_175_214 : fm_cg 175 214 0 = some (97, 2, 9) := by decide +kernel
theorem cg_175_215 : fm_cg 175 215 0 = some (169, 2, 10) := by decide +kernel
theorem cg_175_216 : fm_cg 175 216 0 = some (98, 2, 9) := by decide +kernel
theorem cg_175_217 : fm_cg 175 217 0 = some (172, 2, 10) := by decide +kernel
theorem cg_175_218 : fm_cg 175 218 0 = some (99, 3, 9) := by decide +kernel
theorem cg_175_219 : fm_cg 175 219 0 = some (173, 3, 10) := by decide +kernel
theorem cg_175_220 : fm_cg 175 220 0 = some (100, 4, 9) := by decide +kernel
theorem cg_175_221 : fm_cg 175 221 0 = some (174, 4, 10) := by decide +kernel
