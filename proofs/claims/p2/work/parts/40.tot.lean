/-! numbers -/
theorem i_lo (x : Int32) : -2147483648 ≤ x.toInt := Int32.le_toInt x
theorem i_hi (x : Int32) : x.toInt ≤ 2147483647 := by have := Int32.toInt_lt x; omega
theorem i_lt {x y : Int32} (h : x < y) : x.toInt < y.toInt := Int32.lt_iff_toInt_lt.mp h
theorem i_nlt {x y : Int32} (h : ¬ x < y) : y.toInt ≤ x.toInt := by
  have h1 : ¬ x.toInt < y.toInt := fun q => h (Int32.lt_iff_toInt_lt.mpr q)
  omega
theorem i_eq {x y : Int32} (h : x = y) : x.toInt = y.toInt := congrArg _ h
theorem i_ne {x y : Int32} (h : ¬ x = y) : ¬ x.toInt = y.toInt := fun q => h (Int32.toInt_inj.mp q)
theorem i_add {a b : Int32} (h1 : -2147483648 ≤ a.toInt + b.toInt) (h2 : a.toInt + b.toInt ≤ 2147483647) : (a + b).toInt = a.toInt + b.toInt := by
  rw [Int32.toInt_add]
  exact Int.bmod_eq_of_le (by omega) (by omega)
theorem i_sub {a b : Int32} (h1 : -2147483648 ≤ a.toInt - b.toInt) (h2 : a.toInt - b.toInt ≤ 2147483647) : (a - b).toInt = a.toInt - b.toInt := by
  rw [Int32.toInt_sub]
  exact Int.bmod_eq_of_le (by omega) (by omega)
theorem i_mul {a b : Int32} (h1 : -2147483648 ≤ a.toInt * b.toInt) (h2 : a.toInt * b.toInt ≤ 2147483647) : (a * b).toInt = a.toInt * b.toInt := by
  rw [Int32.toInt_mul]
  exact Int.bmod_eq_of_le (by omega) (by omega)
theorem i_mulr {a b : Int32} {k : Int} (hk : b.toInt = k) (h1 : -2147483648 ≤ a.toInt * k) (h2 : a.toInt * k ≤ 2147483647) : (a * b).toInt = a.toInt * k := by
  subst hk
  exact i_mul h1 h2
theorem i_mull {a b : Int32} {k : Int} (hk : a.toInt = k) (h1 : -2147483648 ≤ k * b.toInt) (h2 : k * b.toInt ≤ 2147483647) : (a * b).toInt = k * b.toInt := by
  subst hk
  exact i_mul h1 h2
theorem i_div {a b : Int32} {k : Int} (hk : b.toInt = k) (h1 : 0 < k) (h2 : 0 ≤ a.toInt) : (a / b).toInt = a.toInt / k := by
  subst hk
  rw [Int32.toInt_div_of_ne_right a b (by intro q; rw [q] at h1; exact absurd h1 (by decide)), Int.tdiv_eq_ediv_of_nonneg h2]
theorem i_nat {n : Nat} (h : n < 2147483648) : (Int32.ofNat n).toInt = (n : Int) := Int32.toInt_ofNat_of_lt h
theorem fm_ln_all : ∀ a, a < 256 → fm_ln a < 4000 := by decide +kernel
theorem fm_ln_lt (a : Nat) : fm_ln a < 4000 := by
  by_cases h : a < 256
  · exact fm_ln_all a h
  · unfold fm_ln fm_tm
    rw [List.getD_eq_getElem?_getD, List.getElem?_eq_none (by rw [fm_tl_len]; omega)]
    decide
theorem i_ln (a : Nat) : (Int32.ofNat (fm_ln a)).toInt = (fm_ln a : Int) ∧ (fm_ln a : Int) < 4000 := ⟨i_nat (by have := fm_ln_lt a; omega), by have := fm_ln_lt a; omega⟩
theorem fm_sl_all : ∀ i, i < 24 → mm_slen i < 1000 := by decide +kernel
theorem i_sl {w : Nat} (h : fm_isS w) : (nI (fm_sl w)).toInt = (fm_sl w : Int) ∧ (fm_sl w : Int) < 1000 := by
  have h1 : fm_sl w < 1000 := fm_sl_all (w - 1000001) (by unfold fm_isS at h; omega)
  exact ⟨i_nat (by omega), by omega⟩
/-! that a function answers -/
def fm_tp {β : Type} (Q : β → Prop) (o : Option β) : Prop := ∃ p, o = some p ∧ Q p
def fm_tq {β : Type} (Q : β → Prop) (o : β) : Prop := Q o
section TP
variable {β : Type} {Q : β → Prop}
theorem tp_ite {c : Prop} {hd : Decidable c} {A B : Option β} (h1 : c → fm_tp Q A) (h2 : ¬ c → fm_tp Q B) : fm_tp Q (@ite _ c hd A B) := by
  by_cases hc : c
  · rw [if_pos hc]; exact h1 hc
  · rw [if_neg hc]; exact h2 hc
theorem tq_ite {c : Prop} {hd : Decidable c} {A B : β} (h1 : c → fm_tq Q A) (h2 : ¬ c → fm_tq Q B) : fm_tq Q (@ite _ c hd A B) := by
  by_cases hc : c
  · rw [if_pos hc]; exact h1 hc
  · rw [if_neg hc]; exact h2 hc
theorem tp_if {c : Prop} {hd : Decidable c} {A B : Option β} (hc : c) (h1 : c → fm_tp Q A) : fm_tp Q (@ite _ c hd A B) := by
  rw [if_pos hc]; exact h1 hc
theorem tp_ifn {c : Prop} {hd : Decidable c} {A B : Option β} (hc : ¬ c) (h1 : ¬ c → fm_tp Q B) : fm_tp Q (@ite _ c hd A B) := by
  rw [if_neg hc]; exact h1 hc
theorem tp_let {α : Type} {x : α} {f : α → Option β} (h : ∀ z, x = z → fm_tp Q (f z)) : fm_tp Q (fm_let x f) := h x rfl
theorem tq_let {α : Type} {x : α} {f : α → β} (h : ∀ z, x = z → fm_tq Q (f z)) : fm_tq Q (fm_let x f) := h x rfl
theorem tp_bind {α : Type} {P : α → Prop} {x : Option α} {f : α → Option β} (h : fm_tp P x) (k : ∀ z, x = some z → P z → fm_tp Q (f z)) : fm_tp Q (Option.bind x f) := by
  obtain ⟨z, hz, hP⟩ := h
  subst hz
  exact k z rfl hP
theorem tp_opt {x : Option Nat} {A : Option β} {B : Nat → Option β} (h1 : x = none → fm_tp Q A) (h2 : ∀ a, x = some a → fm_tp Q (B a)) : fm_tp Q (fm_opt x A B) := by
  cases x with
  | none => exact h1 rfl
  | some a => exact h2 a rfl
theorem tq_opt {x : Option Nat} {A : β} {B : Nat → β} (h1 : x = none → fm_tq Q A) (h2 : ∀ a, x = some a → fm_tq Q (B a)) : fm_tq Q (fm_opt x A B) := by
  cases x with
  | none => exact h1 rfl
  | some a => exact h2 a rfl
theorem tp_some {p : β} (h : Q p) : fm_tp Q (some p) := ⟨p, rfl, h⟩
theorem tp_mono {P : β → Prop} {o : Option β} (h : fm_tp Q o) (k : ∀ p, Q p → P p) : fm_tp P o := by
  obtain ⟨p, h1, h2⟩ := h
  exact ⟨p, h1, k p h2⟩
end TP
/-! what the class leaves: the model's cells, and some places S: the collected length, the time, the counts of own media -/
def fm_PS (a j : Nat) : Prop := (a = 213 ∧ j = 1) ∨ (a = 0 ∧ j = 8) ∨ (a = 184 ∧ j = 1) ∨ (a = 199 ∧ j = 1)
def fm_sub (S : Nat → Nat → Prop) : Prop := ∀ a j, S a j → fm_PS a j
def fm_cl (S : Nat → Nat → Prop) (u v : fm) : Prop := (∀ a k, (223 ≤ a ∨ S a k) → fI v a k = fI u a k) ∧ (∀ a k, 223 ≤ a → fJ v a k = fJ u a k ∧ fA v a k = fA u a k ∧ fG v a k = fG u a k)
def fm_kP (a ci : Nat) : Prop := a < 223 ∧ (ci = 3 → a < 222) ∧ (ci = 6 → a < 218) ∧ (¬ ci = 9 → ¬ a = 0) ∧ (¬ ci = 6 → ¬ a = 213) ∧ (¬ ci = 3 → ¬ a = 184 ∧ ¬ a = 199) ∧ (ci = 4 → ¬ a = 183 ∧ ¬ a = 198)
def fm_kB (a ci : Nat) : Bool := decide (a < 223 ∧ (ci = 3 → a < 222) ∧ (ci = 6 → a < 218) ∧ (¬ ci = 9 → ¬ a = 0) ∧ (¬ ci = 6 → ¬ a = 213) ∧ (¬ ci = 3 → ¬ a = 184 ∧ ¬ a = 199) ∧ (ci = 4 → ¬ a = 183 ∧ ¬ a = 198))
theorem fm_kB_ok {a ci : Nat} (h : fm_kB a ci = true) : fm_kP a ci := of_decide_eq_true (p := a < 223 ∧ (ci = 3 → a < 222) ∧ (ci = 6 → a < 218) ∧ (¬ ci = 9 → ¬ a = 0) ∧ (¬ ci = 6 → ¬ a = 213) ∧ (¬ ci = 3 → ¬ a = 184 ∧ ¬ a = 199) ∧ (ci = 4 → ¬ a = 183 ∧ ¬ a = 198)) h
def fm_kC (a : Nat) : Bool := match fm_tm a with
  | .inl ci => Nat.ble 10 ci || fm_kB a ci
  | .inr _ => true
theorem fm_kind_all : ∀ a, a < 256 → fm_kC a = true := by decide +kernel
theorem fm_kind {a ci : Nat} (h : fm_tm a = .inl ci) (hc : ci < 10) : fm_kP a ci := by
  have h1 := fm_kind_all a (fm_lt h (by omega))
  unfold fm_kC at h1
  rw [h] at h1
  simp only [Bool.or_eq_true] at h1
  rcases h1 with h1 | h1
  · have := Nat.le_of_ble_eq_true h1
    omega
  · exact fm_kB_ok h1
section CL
variable {S : Nat → Nat → Prop} {u v w : fm} {a j : Nat} {x : Int32}
theorem fm_cl_rf (u : fm) : fm_cl S u u := ⟨fun _ _ _ => rfl, fun _ _ _ => ⟨rfl, rfl, rfl⟩⟩
theorem fm_cl_tr (h1 : fm_cl S u v) (h2 : fm_cl S v w) : fm_cl S u w :=
  ⟨fun a k h => (h2.1 a k h).trans (h1.1 a k h), fun a k h => ⟨(h2.2 a k h).1.trans (h1.2 a k h).1, (h2.2 a k h).2.1.trans (h1.2 a k h).2.1, (h2.2 a k h).2.2.trans (h1.2 a k h).2.2⟩⟩
theorem fm_cl_I (h : fm_cl S u v) (h1 : a < 223) (h2 : ¬ S a j) : fm_cl S u (sI v a j x) := by
  refine ⟨fun b k hb => ?_, h.2⟩
  have e : fI (sI v a j x) b k = fI v b k := by
    show fm_u2 v.1 a j x b k = v.1 b k
    unfold fm_u2
    rw [if_neg]
    rintro ⟨rfl, rfl⟩
    rcases hb with hb | hb
    · omega
    · exact h2 hb
  rw [e]
  exact h.1 b k hb
theorem fm_cl_A (h : fm_cl S u v) (h1 : a < 223) : fm_cl S u (sA v a j x) := by
  refine ⟨h.1, fun b k hb => ?_⟩
  have e : fA (sA v a j x) b k = fA v b k := fm_u2_ne (by omega)
  rw [e]
  exact h.2 b k hb
theorem fm_cl_P {x : Nat} (h : fm_cl S u v) : fm_cl S u (sP v a j x) := h
theorem fm_S_no (hS : fm_sub S) (h : ¬ fm_PS a j) : ¬ S a j := fun q => h (hS a j q)
/-- a field of an agent, dialog, link, message, reader or timer -/
theorem fm_cl_w {ci : Nat} (hS : fm_sub S) (h : fm_cl S u v) (ht : fm_tm a = .inl ci) (hc : ci < 9 ∧ ¬ ci = 3 ∧ ¬ ci = 6) : fm_cl S u (sI v a j x) := by
  have k := fm_kind ht (by omega)
  refine fm_cl_I h k.1 (fm_S_no hS ?_)
  rintro (⟨q, -⟩ | ⟨q, -⟩ | ⟨q, -⟩ | ⟨q, -⟩)
  · exact k.2.2.2.2.1 hc.2.2 q
  · exact k.2.2.2.1 (by omega) q
  · exact (k.2.2.2.2.2.1 hc.2.1).1 q
  · exact (k.2.2.2.2.2.1 hc.2.1).2 q
theorem fm_cl_wD (h : fm_cl S u v) (ht : fm_tm a = .inl 3) (hn : ¬ S a j) : fm_cl S u (sI v a j x) := fm_cl_I h (fm_kind ht (by decide)).1 hn
theorem fm_cl_wT (h : fm_cl S u v) (ht : fm_tm a = .inl 6) (hn : ¬ S a j) : fm_cl S u (sI v a j x) := fm_cl_I h (fm_kind ht (by decide)).1 hn
theorem fm_cl_w0 (h : fm_cl S u v) (hn : ¬ S 0 j) : fm_cl S u (sI v 0 j x) := fm_cl_I h (by decide) hn
theorem fm_cl_rD {i : Nat} (h : fm_cl S u v) (ht : fm_tm a = .inl 3) : fm_cl S u (sA v (a + 1) i x) := fm_cl_A h (by have := (fm_kind ht (by decide)).2.1 rfl; omega)
theorem fm_cl_rT {i : Nat} (h : fm_cl S u v) (ht : fm_tm a = .inl 6) : fm_cl S u (sA v (a + 1) i x) := fm_cl_A h (by have := (fm_kind ht (by decide)).2.2.1 rfl; omega)
theorem fm_M_n {m : Nat} (hS : fm_sub S) (h : fm_isM m) : ¬ S (m + 1) 1 := by
  have k := (fm_kind h.1 (by decide)).2.2.2.2.2.2 rfl
  have k2 := fm_kind h.2.1 (by decide)
  refine fm_S_no hS ?_
  rintro (⟨q, -⟩ | ⟨q, -⟩ | ⟨q, -⟩ | ⟨q, -⟩)
  · exact k2.2.2.2.2.1 (by decide) q
  · omega
  · omega
  · omega
theorem fm_isA_all : ∀ a, a < 256 → fm_tm a = .inl 0 → a = 183 ∨ a = 198 := by decide +kernel
theorem fm_isA_e (h : fm_isA a) : a = 183 ∨ a = 198 := fm_isA_all a (fm_lt h.1 (by decide)) h.1
theorem fm_A_n {k : Nat} (hS : fm_sub S) (h : fm_isA a) (hk : 2 ≤ k ∧ k ≤ 14) : ¬ S (a + k) 1 := by
  have := fm_isA_e h
  refine fm_S_no hS ?_
  unfold fm_PS
  omega
theorem fm_A_n1 (h : fm_isA a) (h1 : ¬ S 184 1) (h2 : ¬ S 199 1) : ¬ S (a + 1) 1 := by
  rcases fm_isA_e h with rfl | rfl
  · exact h1
  · exact h2
theorem fm_G_all : ∀ a, a < 256 → fm_tm a = .inl 1 → a = 186 ∨ a = 201 := by decide +kernel
theorem fm_G_n {k : Nat} (hS : fm_sub S) (h : fm_isG a) (hk : k < 5) : ¬ S (a + k) 1 := by
  have := fm_G_all a (fm_lt h.1 (by decide)) h.1
  refine fm_S_no hS ?_
  unfold fm_PS
  omega
end CL
theorem jP30i {x : Int32} {u : fm} {p : Option Nat} {q : Nat} (h : jF30 x u = some p) (e : p = some q) : 0 ≤ x.toInt ∧ x.toInt < 60 ∧ x.toInt < (fI u 1 1).toInt := by
  subst e
  unfold jF30 at h
  by_cases c1 : x < 0
  · rw [if_pos c1] at h; cases h
  · rw [if_neg c1] at h
    have d1 := i_nlt c1
    have l0 : (0 : Int32).toInt = 0 := rfl
    have l6 : (60 : Int32).toInt = 60 := rfl
    by_cases c2 : x < fI u 1 1
    · rw [if_pos c2] at h
      have d2 := i_lt c2
      by_cases c3 : x < 60
      · have d3 := i_lt c3
        omega
      · rw [if_neg c3] at h; cases h
    · rw [if_neg c2] at h; cases h
