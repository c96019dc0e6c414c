/-! THE LAW of p14: the class's time is the model's -/
def lT (a j : Nat) : Prop := a = 0 ∧ j = 8
theorem lT_sub : fm_sub lT := fun _ _ h => Or.inr (Or.inl h)
def lI (B : Int) (u : fm) : Prop := mJ True True False B u u ∧ 0 ≤ rZ u ∧ rZ u ≤ 500 ∧ (fI u 0 8).toInt = (fJ u 223 2).toInt
theorem lI_step {B : Int} {u v w : fm} (h : lI B u) (hc : fm_cl lT u v) (hw : mJ True True False B v w) : lI B w := by
  have e1 : fI w 223 32 = fI u 223 32 := (hw.1.2.1 trivial).trans (hc.1 223 32 (Or.inl (by decide)))
  have e2 : fI w 0 8 = fI u 0 8 := (hw.1.1 0 8 (by decide)).trans (hc.1 0 8 (Or.inr ⟨rfl, rfl⟩))
  have e3 : fJ w 223 2 = fJ u 223 2 := (hw.1.2.2.1 trivial).trans (hc.2 223 2 (by decide)).1
  refine ⟨mJ_rx hw, ?_, ?_, by rw [e2, e3]; exact h.2.2.2⟩ <;> unfold rZ <;> rw [e1]
  · exact h.2.1
  · exact h.2.2.1
/-- where the size may change -/
theorem lI_size {B : Int} {u v w : fm} (h : lI B u) (hc : fm_cl lT u v) (hw : mJ False True False B v w) (h0 : 0 ≤ rZ w) (h1 : rZ w ≤ 500) : lI B w := by
  have e2 : fI w 0 8 = fI u 0 8 := (hw.1.1 0 8 (by decide)).trans (hc.1 0 8 (Or.inr ⟨rfl, rfl⟩))
  have e3 : fJ w 223 2 = fJ u 223 2 := (hw.1.2.2.1 trivial).trans (hc.2 223 2 (by decide)).1
  exact ⟨mJ_rx hw, h0, h1, by rw [e2, e3]; exact h.2.2.2⟩
theorem lI_up {B B' : Int} {u : fm} (h : lI B u) (hB : B ≤ B') (hB' : B' ≤ 1000000000) : lI B' u := ⟨mJ_up h.1 hB hB', h.2⟩
abbrev lE (_ _ : Nat) : Prop := False
theorem lE_sub : fm_sub lE := fun _ _ h => h.elim
/-- the class's pass -/
theorem jC98_22 : ∀ (f : Nat) (x2 x3 : Int32) (u0 u : fm) (h3 : 0 ≤ x3.toInt) (hm : 2147483648 - x3.toInt < (f : Int)) (hp : 0 < (f : Int)) (hc : fm_cl lE u0 u), fm_tp (fun p => fm_cl lE u0 p.2 ∧ p.1 = x2 ∧ fI p.2 0 8 = x2) (jF98_22 f x2 x3 u) := by
  intro f
  induction f with
  | zero => intros; omega
  | succ f ih =>
  intro x2 x3 u0 u h3 hm hp hc
  unfold jF98_22
  have l_1 : (1 : Int32).toInt = 1 := rfl
  have l_k : (1000 : Int32).toInt = 1000 := rfl
  have E : fm_tp (fun p => fm_cl lE u0 p.2 ∧ p.1 = x2 ∧ fI p.2 0 8 = x2) (fm_let (sI u 0 8 x2) (fun u3 => some (fI u3 0 8, u3))) := by
    refine tp_let (fun u3 e3 => tp_some ?_)
    have q : fI u3 0 8 = x2 := by rw [← e3]; exact fI_eq
    exact ⟨e3 ▸ fm_cl_I hc (by decide) (fun q => q), q, q⟩
  refine tp_ite (fun c => ?_) (fun c => E)
  have d := i_lt c
  have e_1 := i_add (a := x3) (b := 1) (by omega) (by omega)
  refine tp_opt (fun _ => E) (fun q e => ?_)
  exact tp_bind (jT6 lE_sub (jP103 e) hc) (fun p _ hp' => ih x2 (x3 + 1) u0 p (by omega) (by omega) (by omega) hp')
theorem jC98 {x1 : Int32} {u : fm} : fm_tp (fun p => fm_cl lE u p.2 ∧ ((x1 < 1 ∨ 100000 < x1) → p = (-1, u)) ∧ (¬ (x1 < 1 ∨ 100000 < x1) → p.1 = fI u 0 8 + x1 ∧ fI p.2 0 8 = fI u 0 8 + x1)) (jF98 x1 u) := by
  unfold jF98
  refine tp_ite (fun c => tp_some ⟨fm_cl_rf u, fun _ => rfl, fun q => absurd (Or.inl c) q⟩) (fun c => ?_)
  refine tp_ite (fun c2 => tp_some ⟨fm_cl_rf u, fun _ => rfl, fun q => absurd (Or.inr c2) q⟩) (fun c2 => ?_)
  have k_N : ((fm_N : Nat) : Int) = 4294967296 := rfl
  have l_0 : (0 : Int32).toInt = 0 := rfl
  exact tp_mono (jC98_22 fm_N _ 0 u u (by decide) (by decide) (by decide) (fm_cl_rf u)) (fun p hp => ⟨hp.1, fun q => by rcases q with q | q; exact absurd q c; exact absurd q c2, fun _ => hp.2⟩)
theorem lP {B : Int} {x : Int32} {u : fm} (hB : B + 100000 ≤ 1000000000) (h : lI B u) : ∃ p q : Int32 × fm, jF98 x u = some p ∧ jF172 x p.2 = some q ∧ p.1 = q.1 ∧ lI (B + 100000) q.2 := by
  obtain ⟨hc, h0, h1, he⟩ := h
  obtain ⟨p, hp, k1, k2, k3⟩ := jC98 (x1 := x) (u := u)
  have hv : mJ True False False B p.2 p.2 := cl_mJ hc k1
  obtain ⟨q, hq, j1, j2, j3⟩ := jT172 (x1 := x) (u := p.2) (fun q => q) hB hv
  have eJ : fJ p.2 223 2 = fJ u 223 2 := (k1.2 223 2 (by decide)).1
  have eZ : fI q.2 223 32 = fI u 223 32 := (j1.1.2.1 trivial).trans (k1.1 223 32 (Or.inl (by decide)))
  have eT : fI q.2 0 8 = fI p.2 0 8 := j1.1.1 0 8 (by decide)
  refine ⟨p, q, hp, hq, ?_⟩
  by_cases c : x < 1 ∨ 100000 < x
  · rw [j2 c, k2 c]
    exact ⟨rfl, lI_up ⟨hc, h0, h1, he⟩ (by omega) hB⟩
  · have a1 := k3 c
    have a2 := j3 c
    rw [eJ] at a2
    have c1 := i_nlt (fun q => c (Or.inl q) : ¬ x < 1)
    have c2 := i_nlt (fun q => c (Or.inr q) : ¬ 100000 < x)
    have l_1 : (1 : Int32).toInt = 1 := rfl
    have l_5 : (100000 : Int32).toInt = 100000 := rfl
    have t1 := hc.2.1
    have t2 := hc.2.2.1
    have e_0 : (Int32.toInt64 x).toInt = x.toInt := Int32.toInt_toInt64 x
    have e_1 := i_add (a := fI u 0 8) (b := x) (by omega) (by omega)
    have e_2 := j_add (a := fJ u 223 2) (b := Int32.toInt64 x) (by omega) (by omega)
    have e_3 : (Int64.toInt32 (fJ u 223 2 + Int32.toInt64 x)).toInt = (fJ u 223 2 + Int32.toInt64 x).toInt := by
      rw [Int64.toInt_toInt32]
      exact Int.bmod_eq_of_le (by omega) (by omega)
    refine ⟨?_, mJ_rx j1, ?_, ?_, ?_⟩
    · rw [a1.1, a2.2]
      exact Int32.toInt_inj.mp (by omega)
    · unfold rZ; rw [eZ]; exact h0
    · unfold rZ; rw [eZ]; exact h1
    · rw [eT, a1.2, a2.1]; omega
/-- the loop -/
theorem jL {X : Nat × (Nat → Int32)} (hX : X.1 ≤ 2048) : ∀ (f : Nat) (x3 : Int32) (u : fm) (h0 : 0 ≤ x3.toInt) (h1 : x3.toInt ≤ 2052) (hf : 3000 - x3.toInt < (f : Int)) (h : lI (25000 * x3.toInt) u), fm_tp (fun p => p.1 = 1) (jF175_18 X f x3 u) := by
  intro f
  induction f with
  | zero => intros; omega
  | succ f ih =>
  intro x3 u h0 h1 hf h
  unfold jF175_18
  have lx := i_nat (n := X.1) (by omega)
  have l_1 : (1 : Int32).toInt = 1 := rfl
  have l_2 : (2 : Int32).toInt = 2 := rfl
  have l_3 : (3 : Int32).toInt = 3 := rfl
  have l_4 : (4 : Int32).toInt = 4 := rfl
  have e_0 := i_sub (a := Int32.ofNat X.1) (b := 4) (by omega) (by omega)
  refine tp_ite (fun c => tp_some rfl) (fun c => ?_)
  have d := i_nlt c
  have e_1 := i_add (a := x3) (b := 1) (by omega) (by omega)
  have e_2 := i_add (a := x3) (b := 2) (by omega) (by omega)
  have e_3 := i_add (a := x3) (b := 3) (by omega) (by omega)
  have e_4 := i_add (a := x3) (b := 4) (by omega) (by omega)
  have g0 : fm_in x3 X.1 := ⟨by omega, by omega⟩
  have g1 : fm_in (x3 + 1) X.1 := ⟨by omega, by omega⟩
  have g2 : fm_in (x3 + 2) X.1 := ⟨by omega, by omega⟩
  have g3 : fm_in (x3 + 3) X.1 := ⟨by omega, by omega⟩
  have nx : ∀ w : fm, lI (25000 * x3.toInt) w → fm_tp (fun p => p.1 = 1) (jF175_18 X f (x3 + 4) w) := fun w hw => ih (x3 + 4) w (by omega) (by omega) (by omega) (lI_up hw (by omega) (by omega))
  have nx2 : ∀ v w : fm, fm_cl lT u v → mJ True True False (25000 * x3.toInt) v w → fm_tp (fun p => p.1 = 1) (jF175_18 X f (x3 + 4) w) := fun v w hv hw => nx w (lI_step h hv hw)
  have mv : ∀ v : fm, fm_cl lT u v → mJ True True False (25000 * x3.toInt) v v := fun v hv => cl_mJ h.1 hv
  have mz : ∀ v : fm, fm_cl lT u v → mJ False True False (25000 * x3.toInt) v v := fun v hv => cl_mJ h.1 hv
  have zz : ∀ v : fm, fm_cl lT u v → rZ v = rZ u := fun v hv => by unfold rZ; rw [hv.1 223 32 (Or.inl (by decide))]
  refine tp_if g0 (fun _ => ?_)
  refine tp_ite (fun c => ?_) (fun c => ?_)
  · refine tp_if g1 (fun _ => tp_if g2 (fun _ => tp_if g3 (fun _ => ?_)))
    exact tp_two (jT86 lT_sub (fun q => absurd q.1 (by decide)) (fun q => absurd q.1 (by decide)) (fm_cl_rf u)) (fun p hp => jT115 (fun q => q) (mv _ hp)) (fun p q hp hq => nx2 _ _ hp hq)
  refine tp_ite (fun c => ?_) (fun c => ?_)
  · refine tp_if g1 (fun _ => ?_)
    exact tp_two (jT87 lT_sub (fm_cl_rf u)) (fun p hp => jT116 (mv _ hp)) (fun p q hp hq => nx2 _ _ hp hq)
  refine tp_ite (fun c => ?_) (fun c => ?_)
  · refine tp_if g1 (fun _ => ?_)
    exact tp_two (jT88 lT_sub (fm_cl_rf u)) (fun p hp => jT120 (mv _ hp)) (fun p q hp hq => nx2 _ _ hp hq)
  refine tp_ite (fun c => ?_) (fun c => ?_)
  · refine tp_if g1 (fun _ => ?_)
    exact tp_two (jT89 lT_sub (fm_cl_rf u)) (fun p hp => jT121 (mv _ hp)) (fun p q hp hq => nx2 _ _ hp hq)
  refine tp_ite (fun c => ?_) (fun c => ?_)
  · refine tp_if g1 (fun _ => ?_)
    exact tp_two (jT90 lT_sub (fm_cl_rf u)) (fun p hp => jT122 (mv _ hp)) (fun p q hp hq => nx2 _ _ hp hq)
  refine tp_ite (fun c => ?_) (fun c => ?_)
  · refine tp_if g1 (fun _ => ?_)
    exact tp_two (jT91 lT_sub (fm_cl_rf u)) (fun p hp => jT130 (mv _ hp)) (fun p q hp hq => nx2 _ _ hp hq)
  refine tp_ite (fun c => ?_) (fun c => ?_)
  · refine tp_if g1 (fun _ => ?_)
    exact tp_two (jT92 lT_sub (fm_cl_rf u)) (fun p hp => jT131 (mv _ hp)) (fun p q hp hq => nx2 _ _ hp hq)
  refine tp_ite (fun c => ?_) (fun c => ?_)
  · refine tp_if g1 (fun _ => ?_)
    exact tp_two (jT93 lT_sub (fm_cl_rf u)) (fun p hp => jT132 (mv _ hp)) (fun p q hp hq => nx2 _ _ hp hq)
  refine tp_ite (fun c => nx u h) (fun c => ?_)
  refine tp_ite (fun c => ?_) (fun c => ?_)
  · refine tp_if g1 (fun _ => tp_if g2 (fun _ => ?_))
    exact tp_two (jT95 lT_sub (fm_cl_rf u)) (fun p hp => jT155 (mv _ hp)) (fun p q hp hq => nx2 _ _ hp hq)
  refine tp_ite (fun c => ?_) (fun c => ?_)
  · refine tp_if g1 (fun _ => ?_)
    exact tp_two (jT96 lT_sub (fun q => absurd q.1 (by decide)) (fm_cl_rf u)) (fun p hp => jT156 (fun q => q) (by rw [zz _ hp]; exact h.2.1) (by rw [zz _ hp]; exact h.2.2.1) (mz _ hp)) (fun p q hp hq => nx _ (lI_size h hp hq.1 hq.2.1 hq.2.2))
  refine tp_ite (fun c => ?_) (fun c => ?_)
  · refine tp_if g1 (fun _ => ?_)
    refine tp_two (jT97 lT_sub (fun q => absurd q.1 (by decide)) (fm_cl_rf u)) (fun p hp => jT169 (fun q => q) (by rw [zz _ hp]; exact h.2.1) (by rw [zz _ hp]; exact h.2.2.1) (mz _ hp)) (fun p q hp hq => nx _ ?_)
    have zq : 0 ≤ rZ q.2 ∧ rZ q.2 ≤ 500 := by
      by_cases c5 : jF105 (X.2 (Int32.toNatClampNeg (x3 + 1))) = 0
      · rw [hq.2.1 c5, zz _ hp]; exact ⟨h.2.1, h.2.2.1⟩
      · unfold rZ; rw [hq.2.2 c5]; decide
    exact lI_size h hp hq.1 zq.1 zq.2
  refine tp_ite (fun c => ?_) (fun c => ?_)
  · refine tp_if g1 (fun _ => ?_)
    obtain ⟨p, q, e1, e2, e3, e4⟩ := lP (x := X.2 (Int32.toNatClampNeg (x3 + 1))) (by omega) h
    rw [e1]
    show fm_tp _ (Option.bind (jF172 _ p.2) _)
    rw [e2]
    show fm_tp _ (if p.1 = q.1 then _ else _)
    rw [if_pos e3]
    exact ih (x3 + 4) _ (by omega) (by omega) (by omega) (lI_up e4 (by omega) (by omega))
  refine tp_ite (fun c => ?_) (fun c => ?_)
  · refine tp_if g1 (fun _ => tp_if g2 (fun _ => ?_))
    exact tp_bind jT173 (fun _ _ _ => nx u h)
  refine tp_ite (fun c => ?_) (fun c => nx u h)
  refine tp_if g1 (fun _ => tp_if g2 (fun _ => tp_if g3 (fun _ => ?_)))
  exact tp_bind jT100 (fun _ _ _ => tp_bind (jT174 h.1) (fun _ _ _ => nx u h))
theorem fm_mI0 : lI 0 fm_0 := ⟨mJ0, show 0 ≤ (0 : Int32).toInt by decide, show (0 : Int32).toInt ≤ 500 by decide, rfl⟩
