section MC3
variable {s n m : Prop} {B : Int} {W : fm}
theorem jP105 {x : Int32} (h : ¬ jF105 x = 0) : 0 ≤ x.toInt ∧ x.toInt ≤ 1 := by
  unfold jF105 at h
  by_cases c : x = 0
  · subst c; decide
  · rw [if_neg c] at h
    by_cases c2 : x = 1
    · subst c2; decide
    · rw [if_neg c2] at h
      exact absurd rfl h
theorem jT106 {x1 : Int32} {u : fm} (p1 : 0 ≤ x1.toInt) (p2 : x1.toInt ≤ 1) : fm_tp (fun _ => True) (jF106 x1 u) := by
  unfold jF106
  refine tp_if ⟨by omega, by omega⟩ (fun g1 => ?_)
  exact tp_ite (fun _ => tp_some trivial) (fun _ => tp_ite (fun _ => tp_some trivial) (fun _ => tp_ite (fun _ => tp_some trivial) (fun _ => tp_some trivial)))
/-- invite's lines -/
theorem jT116_195 {Q : Int32 × fm → Prop} {k158 : Int32 → Int32 → fm → Option (Int32 × fm)} : ∀ (f : Nat) (x1 x2 x3 x4 : Int32) (u : fm) (p1 : 0 ≤ x1.toInt) (p2 : x1.toInt ≤ 1) (p3 : 0 ≤ x2.toInt) (p4 : x2.toInt ≤ 2) (p5 : x3.toInt = 13 + 10 * x2.toInt) (v0 : 0 ≤ x4.toInt) (hm : 2147483648 - x4.toInt < (f : Int)) (hp : 0 < (f : Int)) (hM : mS u 252 0) (hq : 0 ≤ (fA u 252 (Int32.toNatClampNeg (x3 + 1))).toInt ∧ (fA u 252 (Int32.toNatClampNeg (x3 + 1))).toInt ≤ x4.toInt) (hZ : ∀ l : Nat, x2.toInt < (l : Int) → l < 3 → fA u 252 (14 + 10 * l) = 0) (hc : mJ s n m B W u) (hk : ∀ u' : fm, mS u' 252 0 → (∀ l : Nat, x2.toInt < (l : Int) → l < 3 → fA u' 252 (14 + 10 * l) = 0) → mJ s n m B W u' → fm_tp Q (k158 x1 (x2 + 1) u')), fm_tp Q (jF116_195 f k158 x1 x2 x3 x4 u) := by
  intro f
  induction f with
  | zero => intros; omega
  | succ f ih =>
  intro x1 x2 x3 x4 u p1 p2 p3 p4 p5 v0 hm hp hM hq hZ hc hk
  unfold jF116_195
  have l_8 : (8 : Int32).toInt = 8 := rfl
  have l_1 : (1 : Int32).toInt = 1 := rfl
  have l_2 : (2 : Int32).toInt = 2 := rfl
  have l_0 : (0 : Int32).toInt = 0 := rfl
  have e_0 := i_mull (a := 3) (b := x1) (k := 3) rfl (by omega) (by omega)
  have e_1 := i_add (a := 3 * x1) (b := x2) (by omega) (by omega)
  have e_2 := i_add (a := x3) (b := 1) (by omega) (by omega)
  have e_3 := i_add (a := x3) (b := 2) (by omega) (by omega)
  refine tp_ite (fun c => ?_) (fun c => hk u hM hZ hc)
  have d := i_lt c
  have e_4 := i_add (a := x4) (b := 1) (by omega) (by omega)
  refine tp_if ⟨by omega, by omega⟩ (fun g1 => ?_)
  refine tp_ite (fun c1 => ?_) (fun c1 => ?_)
  · refine tp_if ⟨by omega, by omega⟩ (fun g2 => ?_)
    have e_5 := i_add (a := x3 + 2) (b := fA u 252 (Int32.toNatClampNeg (x3 + 1))) (by omega) (by omega)
    refine tp_if ⟨by omega, by omega⟩ (fun g3 => ?_)
    have i1 := fm_ixN (x3 + 1) (by omega)
    have i2 := fm_ixN (x3 + 2 + fA u 252 (Int32.toNatClampNeg (x3 + 1))) (by omega)
    refine tp_let (fun u1 e1 => tp_let (fun u2 e2 => ?_))
    have q1 : fA u1 252 (Int32.toNatClampNeg (x3 + 1)) = fA u 252 (Int32.toNatClampNeg (x3 + 1)) := by
      rw [← e1, fA_nk (by omega)]
    rw [q1] at e2
    have e_6 := i_add (a := fA u 252 (Int32.toNatClampNeg (x3 + 1))) (b := 1) (by omega) (by omega)
    have q2 : fA u2 252 (Int32.toNatClampNeg (x3 + 1)) = fA u 252 (Int32.toNatClampNeg (x3 + 1)) + 1 := by
      rw [← e2, fA_eq]
    refine ih x1 x2 x3 (x4 + 1) u2 p1 p2 p3 p4 p5 (by omega) (by omega) (by omega) ?_ (by rw [q2]; omega) (fun l h1 h2 => ?_) ?_ hk
    · rw [← e2, ← e1]
      refine mS_w (mS_w hM (mCol_free (by omega))) ⟨fun q => absurd q (by omega), fun q => absurd q (by omega), fun _ => ⟨by omega, by omega⟩⟩
    · rw [← e2, ← e1, fA_nk (by omega), fA_nk (by omega)]
      exact hZ l h1 h2
    · rw [← e2, ← e1]
      exact mJ_A (mJ_A hc rfl) rfl
  · exact ih x1 x2 x3 (x4 + 1) u p1 p2 p3 p4 p5 (by omega) (by omega) (by omega) hM ⟨hq.1, by omega⟩ hZ hc hk
theorem jT116_158 : ∀ (f : Nat) (x1 x2 : Int32) (u : fm) (p1 : 0 ≤ x1.toInt) (p2 : x1.toInt ≤ 1) (p3 : 0 ≤ x2.toInt) (hm : 2147483648 - x2.toInt < (f : Int)) (hp : 0 < (f : Int)) (hM : mS u 252 0) (hZ : ∀ l : Nat, x2.toInt ≤ (l : Int) → l < 3 → fA u 252 (14 + 10 * l) = 0) (hc : mJ s n m B W u), fm_tp (fun p => mJ s n m B W p.2) (jF116_158 f x1 x2 u) := by
  intro f
  induction f with
  | zero => intros; omega
  | succ f ih =>
  intro x1 x2 u p1 p2 p3 hm hp hM hZ hc
  unfold jF116_158
  have l_10 : (10 : Int32).toInt = 10 := rfl
  have l_13 : (13 : Int32).toInt = 13 := rfl
  have l_1 : (1 : Int32).toInt = 1 := rfl
  have l_0 : (0 : Int32).toInt = 0 := rfl
  refine tp_if ⟨by omega, by omega⟩ (fun g0 => ?_)
  have k3 := mJ_mc3 hc (fm_in_nat g0)
  refine tp_ite (fun c => ?_) (fun c => ?_)
  · have d := i_lt c
    have e_0 := i_mull (a := 3) (b := x1) (k := 3) rfl (by omega) (by omega)
    have e_1 := i_add (a := 3 * x1) (b := x2) (by omega) (by omega)
    have e_2 := i_mull (a := 10) (b := x2) (k := 10) rfl (by omega) (by omega)
    have e_3 := i_add (a := 13) (b := 10 * x2) (by omega) (by omega)
    have e_4 := i_add (a := x2) (b := 1) (by omega) (by omega)
    have e_5 := i_add (a := 13 + 10 * x2) (b := 1) (by omega) (by omega)
    refine tp_if ⟨by omega, by omega⟩ (fun g1 => ?_)
    refine tp_if ⟨by omega, by omega⟩ (fun g2 => ?_)
    have i1 := fm_ixN (13 + 10 * x2) (by omega)
    have i2 := fm_ixN (13 + 10 * x2 + 1) (by omega)
    refine tp_let (fun u1 e1 => ?_)
    have k_N : ((fm_N : Nat) : Int) = 4294967296 := rfl
    have z1 : fA u1 252 (Int32.toNatClampNeg (13 + 10 * x2 + 1)) = 0 := by
      have h1 : Int32.toNatClampNeg (13 + 10 * x2 + 1) = 14 + 10 * x2.toInt.toNat := by omega
      rw [← e1, fA_nk (by omega), h1]
      exact hZ _ (by omega) (by omega)
    refine jT116_195 (s := s) (n := n) (m := m) (B := B) (W := W) fm_N x1 x2 (13 + 10 * x2) 0 u1 p1 p2 p3 (by omega) (by omega) (by decide) (by decide) (by decide) ?_ (by rw [z1]; decide) (fun l h1 h2 => ?_) ?_ (fun u' h1 h2 h3 => ?_)
    · rw [← e1]
      exact mS_w hM (mCol_free (by omega))
    · rw [← e1, fA_nk (by omega)]
      exact hZ l (by omega) h2
    · rw [← e1]
      exact mJ_A hc rfl
    · exact ih x1 (x2 + 1) u' p1 p2 (by omega) (by omega) (by omega) h1 (fun l g1 g2 => h2 l (by omega) g2) h3
  · refine tp_let (fun u1 e1 => ?_)
    subst e1
    refine tp_bind (jT108 p1 p2 (mS_A hM (by decide)) (mJ_A hc rfl)) (fun z ez hz => ?_)
    refine tp_bind (jT109 (Or.inl rfl) (by decide) (by decide) (by decide) (mS_K (mS_A hM (by decide)) hz.2) hz.1) (fun w ew hw => tp_some hw.1)
theorem jT116 {x1 : Int32} {u : fm} (hc : mJ s n m B W u) : fm_tp (fun p => mJ s n m B W p.2) (jF116 x1 u) := by
  unfold jF116
  refine tp_ite (fun c => tp_some hc) (fun c => ?_)
  obtain ⟨p1, p2⟩ := jP105 c
  refine tp_bind (jT106 p1 p2) (fun z ez _ => ?_)
  refine tp_ite (fun c => tp_some hc) (fun c => ?_)
  refine tp_if ⟨by omega, by omega⟩ (fun g1 => ?_)
  refine tp_ite (fun c => tp_some hc) (fun c => ?_)
  refine tp_let (fun u5 e5 => tp_let (fun u6 e6 => ?_))
  have c6 : mJ s n m B W u6 := by subst e5; subst e6; exact mJ_A (mJ_A hc rfl) rfl
  refine tp_bind (jT113 p1 p2 c6) (fun p7 e7 h7 => ?_)
  refine tp_let (fun u8 e8 => tp_let (fun u9 e9 => tp_let (fun u10 e10 => tp_let (fun u11 e11 => tp_let (fun u12 e12 => tp_let (fun u13 e13 => tp_let (fun u14 e14 => ?_)))))))
  have c14 : mJ s n m B W u14 := by
    subst e8; subst e9; subst e10; subst e11; subst e12; subst e13; subst e14
    exact mJ_A (mJ_A (mJ_A (mJ_A (mJ_ac (mJ_A (mJ_A h7.1 rfl) rfl) ⟨by decide, by decide⟩) rfl) rfl) rfl) rfl
  refine tp_bind (jT112 p1 p2 c14) (fun p15 e15 h15 => ?_)
  refine tp_let (fun u16 e16 => ?_)
  have c16 : mJ s n m B W u16 := by subst e16; exact mJ_A h15.1 rfl
  refine tp_bind (jT111 p1 p2 c16) (fun p17 e17 h17 => ?_)
  have k3 := mJ_mc3 h17.1 (fm_in_nat g1)
  refine tp_let (fun u18 e18 => ?_)
  subst e18
  exact jT116_158 fm_N x1 0 _ p1 p2 (by decide) (by decide) (by decide) (mS_w h17.2.1 ⟨fun q => absurd q (by decide), fun _ => k3, fun q => absurd q (by decide)⟩) (fun l _ h2 => by rw [fA_nk (by omega)]; exact h17.2.2.2 _ (by omega) (by omega)) (mJ_A h17.1 rfl)
/-- media -/
theorem jT115_35 {x1 x2 x3 s0 : Int32} {u : fm} (hm : ¬ m) (hx : ¬ s0 = 0 → 0 ≤ x1.toInt ∧ x1.toInt ≤ 1) (hc : mJ s n m B W u) : fm_tp (fun p => mJ s n m B W p.2) (jF115_35 x1 x2 x3 s0 u) := by
  unfold jF115_35
  refine tp_ite (fun c => tp_some hc) (fun c => ?_)
  obtain ⟨p1, p2⟩ := hx c
  refine tp_if ⟨by omega, by omega⟩ (fun g1 => ?_)
  have k3 := mJ_mc3 hc (fm_in_nat g1)
  refine tp_ite (fun c => tp_some hc) (fun c => ?_)
  have d := i_ne c
  have l_3 : (3 : Int32).toInt = 3 := rfl
  have l_1 : (1 : Int32).toInt = 1 := rfl
  have e_0 := i_mull (a := 3) (b := x1) (k := 3) rfl (by omega) (by omega)
  have e_1 := i_add (a := 3 * x1) (b := fA u 236 (Int32.toNatClampNeg x1)) (by omega) (by omega)
  have e_2 := i_add (a := fA u 236 (Int32.toNatClampNeg x1)) (b := 1) (by omega) (by omega)
  refine tp_if ⟨by omega, by omega⟩ (fun g2 => ?_)
  refine tp_let (fun u4 e4 => ?_)
  have q4 : fA u4 236 (Int32.toNatClampNeg x1) = fA u 236 (Int32.toNatClampNeg x1) := by rw [← e4, fA_ne (by decide)]
  rw [q4]
  refine tp_if ⟨by omega, by omega⟩ (fun g3 => ?_)
  refine tp_let (fun u6 e6 => ?_)
  have q6 : fA u6 236 (Int32.toNatClampNeg x1) = fA u 236 (Int32.toNatClampNeg x1) := by rw [← e6, fA_ne (by decide), q4]
  rw [q6]
  refine tp_let (fun u7 e7 => ?_)
  refine tp_some ?_
  subst e4; subst e6; subst e7
  exact mJ_mc (mJ_A (mJ_A hc rfl) rfl) hm ⟨by omega, by omega⟩
theorem jT115 {x1 x2 x3 : Int32} {u : fm} (hm : ¬ m) (hc : mJ s n m B W u) : fm_tp (fun p => mJ s n m B W p.2) (jF115 x1 x2 x3 u) := by
  have h34 : fm_tp (fun p => mJ s n m B W p.2) (jF115_34 x1 x2 x3 u) := jT115_35 hm (fun h => absurd rfl h) hc
  unfold jF115
  exact tp_ite (fun _ => h34) (fun c => tp_ite (fun _ => h34) (fun _ => tp_ite (fun _ => h34) (fun _ => tp_ite (fun _ => h34) (fun _ => tp_ite (fun _ => h34) (fun _ => jT115_35 hm (fun _ => jP105 c) hc)))))
/-- answer -/
theorem jT117_198 {k23 : Int32 → Int32 → Int32 → fm → Option fm} {Q : fm → Prop} : ∀ (f : Nat) (x1 x2 x3 x4 x5 x8 : Int32) (u : fm) (p1 : 0 ≤ x1.toInt) (p2 : x1.toInt ≤ 1) (p3 : 0 ≤ x3.toInt) (p4 : x3.toInt ≤ 2) (p5 : x4.toInt = 13 + 10 * x3.toInt) (p6 : x5.toInt = 50 * x1.toInt + x4.toInt) (v0 : 0 ≤ x8.toInt) (hm : 2147483648 - x8.toInt < (f : Int)) (hp : 0 < (f : Int)) (hM : mS u 252 0) (hc : mJ s n m B W u) (hk : ∀ u' : fm, mS u' 252 0 → mJ s n m B W u' → fm_tp Q (k23 x1 x2 (x3 + 1) u')), fm_tp Q (jF117_198 f k23 x1 x2 x3 x4 x5 x8 u) := by
  intro f
  induction f with
  | zero => intros; omega
  | succ f ih =>
  intro x1 x2 x3 x4 x5 x8 u p1 p2 p3 p4 p5 p6 v0 hm hp hM hc hk
  unfold jF117_198
  have l_9 : (9 : Int32).toInt = 9 := rfl
  have l_1 : (1 : Int32).toInt = 1 := rfl
  refine tp_ite (fun c => ?_) (fun c => ?_)
  · have d := i_lt c
    have e_0 := i_add (a := x5) (b := 1) (by omega) (by omega)
    have e_1 := i_add (a := x5 + 1) (b := x8) (by omega) (by omega)
    have e_2 := i_add (a := x4) (b := 1) (by omega) (by omega)
    have e_3 := i_add (a := x4 + 1) (b := x8) (by omega) (by omega)
    have e_4 := i_add (a := x8) (b := 1) (by omega) (by omega)
    refine tp_if ⟨by omega, by omega⟩ (fun g1 => ?_)
    refine tp_if ⟨by omega, by omega⟩ (fun g2 => ?_)
    refine tp_let (fun u1 e1 => ?_)
    subst e1
    exact ih x1 x2 x3 x4 x5 (x8 + 1) _ p1 p2 p3 p4 p5 p6 (by omega) (by omega) (by omega) (mS_w hM (mCol_ix (mJ_243 hc (fm_in_nat g1)) (by omega) (by omega) (by omega))) (mJ_A hc rfl) hk
  · refine tp_if ⟨by omega, by omega⟩ (fun g1 => ?_)
    have i1 := fm_ixN x4 (by omega)
    refine tp_let (fun u1 e1 => ?_)
    subst e1
    exact hk _ (mS_w hM (mCol_zero _)) (mJ_A hc rfl)
theorem jT117_81 {k23 : Int32 → Int32 → Int32 → fm → Option fm} {Q : fm → Prop} : ∀ (f : Nat) (x1 x2 x3 x4 x5 x6 x7 x8 : Int32) (u : fm) (p1 : 0 ≤ x1.toInt) (p2 : x1.toInt ≤ 1) (p3 : 0 ≤ x3.toInt) (p4 : x3.toInt ≤ 2) (p5 : x4.toInt = 13 + 10 * x3.toInt) (p6 : x5.toInt = 50 * x1.toInt + x4.toInt) (v0 : 0 ≤ x8.toInt) (v1 : 0 ≤ x7.toInt) (v2 : x7.toInt ≤ x8.toInt) (v3 : x7.toInt ≤ 8) (hm : 2147483648 - x8.toInt < (f : Int)) (hp : 0 < (f : Int)) (hM : mS u 252 0) (hc : mJ s n m B W u) (hk : ∀ u' : fm, mS u' 252 0 → mJ s n m B W u' → fm_tp Q (k23 x1 x2 (x3 + 1) u')), fm_tp Q (jF117_81 f k23 x1 x2 x3 x4 x5 x6 x7 x8 u) := by
  intro f
  induction f with
  | zero => intros; omega
  | succ f ih =>
  intro x1 x2 x3 x4 x5 x6 x7 x8 u p1 p2 p3 p4 p5 p6 v0 v1 v2 v3 hm hp hM hc hk
  unfold jF117_81
  have l_2 : (2 : Int32).toInt = 2 := rfl
  have l_1 : (1 : Int32).toInt = 1 := rfl
  have e_0 := i_add (a := x5) (b := 1) (by omega) (by omega)
  have e_1 := i_add (a := x5) (b := 2) (by omega) (by omega)
  have e_2 := i_add (a := x4) (b := 1) (by omega) (by omega)
  have e_3 := i_add (a := x4) (b := 2) (by omega) (by omega)
  have e_8 := i_mull (a := 3) (b := x1) (k := 3) rfl (by omega) (by omega)
  have e_9 := i_add (a := 3 * x1) (b := x3) (by omega) (by omega)
  refine tp_if ⟨by omega, by omega⟩ (fun g1 => ?_)
  have i1 := fm_ixN (x5 + 1) (by omega)
  have kc := (mJ_243 hc (fm_in_nat g1)).2.2 (by omega)
  refine tp_ite (fun c => ?_) (fun c => ?_)
  · have d := i_lt c
    have e_4 := i_add (a := x5 + 2) (b := x8) (by omega) (by omega)
    have e_5 := i_add (a := x8) (b := 1) (by omega) (by omega)
    refine tp_if ⟨by omega, by omega⟩ (fun g2 => ?_)
    refine tp_ite (fun c1 => ?_) (fun c1 => ?_)
    · have e_6 := i_add (a := x4 + 2) (b := x7) (by omega) (by omega)
      have e_7 := i_add (a := x7) (b := 1) (by omega) (by omega)
      refine tp_if ⟨by omega, by omega⟩ (fun g3 => ?_)
      have i2 := fm_ixN (x4 + 2 + x7) (by omega)
      refine tp_let (fun u1 e1 => ?_)
      subst e1
      exact ih x1 x2 x3 x4 x5 x6 (x7 + 1) (x8 + 1) _ p1 p2 p3 p4 p5 p6 (by omega) (by omega) (by omega) (by omega) (by omega) (by omega) (mS_w hM (mCol_free (by omega))) (mJ_A hc rfl) hk
    · exact ih x1 x2 x3 x4 x5 x6 x7 (x8 + 1) u p1 p2 p3 p4 p5 p6 (by omega) v1 (by omega) v3 (by omega) (by omega) hM hc hk
  · refine tp_if ⟨by omega, by omega⟩ (fun g2 => ?_)
    have i2 := fm_ixN (x4 + 1) (by omega)
    have i3 := fm_ixN x4 (by omega)
    refine tp_let (fun u6 e6 => ?_)
    have w6 : mS u6 252 0 ∧ mJ s n m B W u6 := by
      subst e6
      exact ⟨mS_w hM ⟨fun q => absurd q (by omega), fun q => absurd q (by omega), fun _ => ⟨by omega, by omega⟩⟩, mJ_A hc rfl⟩
    have fin : ∀ v : fm, mS v 252 0 ∧ mJ s n m B W v → fm_tp Q (if fm_in x5 100 then if (fA v 243 (Int32.toNatClampNeg x5)) = 0 then (jF117_198 fm_N k23 x1 x2 x3 x4 x5 0 v) else (if x7 = 0 then (jF117_198 fm_N k23 x1 x2 x3 x4 x5 0 v) else (k23 x1 x2 (x3 + 1) v)) else none) := by
      intro v hv
      have h198 : fm_tp Q (jF117_198 fm_N k23 x1 x2 x3 x4 x5 0 v) := jT117_198 (s := s) (n := n) (m := m) (B := B) (W := W) fm_N x1 x2 x3 x4 x5 0 v p1 p2 p3 p4 p5 p6 (by decide) (by decide) (by decide) hv.1 hv.2 hk
      exact tp_if ⟨by omega, by omega⟩ (fun _ => tp_ite (fun _ => h198) (fun _ => tp_ite (fun _ => h198) (fun _ => hk v hv.1 hv.2)))
    refine tp_ite (fun c1 => ?_) (fun c1 => ?_)
    · refine tp_if ⟨by omega, by omega⟩ (fun g3 => tp_if ⟨by omega, by omega⟩ (fun g4 => tp_let (fun u17 e17 => ?_)))
      subst e17
      exact fin _ ⟨mS_w w6.1 (mCol_free (by omega)), mJ_A w6.2 rfl⟩
    · refine tp_if ⟨by omega, by omega⟩ (fun g4 => tp_let (fun u8 e8 => ?_))
      subst e8
      exact fin _ ⟨mS_w w6.1 (mCol_zero _), mJ_A w6.2 rfl⟩
theorem jT117_23 : ∀ (f : Nat) (x1 x2 x3 : Int32) (u : fm) (p1 : 0 ≤ x1.toInt) (p2 : x1.toInt ≤ 1) (p3 : 0 ≤ x3.toInt) (p4 : x2.toInt = 50 * x1.toInt) (hm : 2147483648 - x3.toInt < (f : Int)) (hp : 0 < (f : Int)) (hM : mS u 252 0) (hc : mJ s n m B W u), fm_tp (fun p => mJ s n m B W p ∧ mS p 252 0) (jF117_23 f x1 x2 x3 u) := by
  intro f
  induction f with
  | zero => intros; omega
  | succ f ih =>
  intro x1 x2 x3 u p1 p2 p3 p4 hm hp hM hc
  unfold jF117_23
  have l_10 : (10 : Int32).toInt = 10 := rfl
  have l_13 : (13 : Int32).toInt = 13 := rfl
  have l_1 : (1 : Int32).toInt = 1 := rfl
  have l_0 : (0 : Int32).toInt = 0 := rfl
  have k12 := (hM 12 (by rw [l_0]; decide) (by rw [l_0]; decide)).2.1 rfl
  refine tp_ite (fun c => ?_) (fun c => tp_some ⟨hc, hM⟩)
  have d := i_lt c
  have e_0 := i_mull (a := 3) (b := x1) (k := 3) rfl (by omega) (by omega)
  have e_1 := i_add (a := 3 * x1) (b := x3) (by omega) (by omega)
  have e_2 := i_mull (a := 10) (b := x3) (k := 10) rfl (by omega) (by omega)
  have e_3 := i_add (a := 13) (b := 10 * x3) (by omega) (by omega)
  have e_4 := i_add (a := x2) (b := 13 + 10 * x3) (by omega) (by omega)
  have e_5 := i_add (a := x3) (b := 1) (by omega) (by omega)
  have go : ∀ w : Int32, fm_tp (fun p => mJ s n m B W p ∧ mS p 252 0) (jF117_81 fm_N (fun x1' x2' x3' u' => jF117_23 f x1' x2' x3' u') x1 x2 x3 (13 + (10 * x3)) (x2 + (13 + (10 * x3))) w 0 0 u) := fun w => jT117_81 (s := s) (n := n) (m := m) (B := B) (W := W) fm_N x1 x2 x3 _ _ w 0 0 u p1 p2 p3 (by omega) (by omega) (by omega) (by decide) (by decide) (by decide) (by decide) (by decide) (by decide) hM hc (fun u' h1 h2 => ih x1 x2 (x3 + 1) u' p1 p2 (by omega) p4 (by omega) (by omega) h1 h2)
  exact tp_if ⟨by omega, by omega⟩ (fun _ => tp_ite (fun _ => tp_if ⟨by omega, by omega⟩ (fun _ => go _)) (fun _ => go 0))
theorem jT117 {x1 : Int32} {u : fm} (p1 : 0 ≤ x1.toInt) (p2 : x1.toInt ≤ 1) (hM : mS u 252 0) (hc : mJ s n m B W u) : fm_tp (fun p => mJ s n m B W p ∧ mS p 252 0) (jF117 x1 u) := by
  unfold jF117
  have l_12 : (12 : Int32).toInt = 12 := rfl
  have e_0 := i_mull (a := 50) (b := x1) (k := 50) rfl (by omega) (by omega)
  have e_1 := i_add (a := 50 * x1) (b := 12) (by omega) (by omega)
  refine tp_if ⟨by omega, by omega⟩ (fun g1 => ?_)
  have i1 := fm_ixN (50 * x1 + 12) (by omega)
  refine tp_let (fun u1 e1 => ?_)
  subst e1
  exact jT117_23 fm_N x1 (50 * x1) 0 _ p1 p2 (by decide) (by omega) (by decide) (by decide) (mS_w hM (mCol_mod (mJ_243 hc (fm_in_nat g1)) (by omega))) (mJ_A hc rfl)
/-- accept, refuse, hang -/
theorem jT120 {x1 : Int32} {u : fm} (hc : mJ s n m B W u) : fm_tp (fun p => mJ s n m B W p.2) (jF120 x1 u) := by
  unfold jF120
  refine tp_ite (fun c => tp_some hc) (fun c => ?_)
  obtain ⟨p1, p2⟩ := jP105 c
  refine tp_if ⟨by omega, by omega⟩ (fun g1 => ?_)
  refine tp_ite (fun c => ?_) (fun c => tp_some hc)
  have e_0 := i_mull (a := 50) (b := x1) (k := 50) rfl (by omega) (by omega)
  have l1 : fm_ln 243 = 100 := rfl
  refine tp_bind (jT114 p1 p2 (by omega) (by omega) hc) (fun p3 e3 h3 => ?_)
  refine tp_bind (jT117 p1 p2 h3.2.1 h3.1) (fun p4 e4 h4 => ?_)
  refine tp_bind (jT118 (Or.inl rfl) p1 p2 h4.2 h4.1) (fun p5 e5 h5 => ?_)
  refine tp_let (fun u6 e6 => ?_)
  subst e6
  have hM := mS_A (a := 225) (k := Int32.toNatClampNeg x1) (v := 6) (mS_K h4.2 h5.2) (by decide)
  refine tp_bind (jT108 p1 p2 hM (mJ_A h5.1 rfl)) (fun p7 e7 h7 => ?_)
  refine tp_bind (jT109 (Or.inl rfl) (by decide) (by decide) (by decide) (mS_K hM h7.2) h7.1) (fun w ew hw => tp_some hw.1)
theorem jT121 {x1 : Int32} {u : fm} (hc : mJ s n m B W u) : fm_tp (fun p => mJ s n m B W p.2) (jF121 x1 u) := by
  unfold jF121
  refine tp_ite (fun c => tp_some hc) (fun c => ?_)
  obtain ⟨p1, p2⟩ := jP105 c
  refine tp_if ⟨by omega, by omega⟩ (fun g1 => ?_)
  refine tp_ite (fun c => ?_) (fun c => tp_some hc)
  have e_0 := i_mull (a := 50) (b := x1) (k := 50) rfl (by omega) (by omega)
  have l1 : fm_ln 243 = 100 := rfl
  refine tp_bind (jT114 p1 p2 (by omega) (by omega) hc) (fun p3 e3 h3 => ?_)
  refine tp_let (fun u6 e6 => ?_)
  subst e6
  have hM := mS_A (a := 225) (k := Int32.toNatClampNeg x1) (v := 7) h3.2.1 (by decide)
  refine tp_bind (jT108 p1 p2 hM (mJ_A h3.1 rfl)) (fun p7 e7 h7 => ?_)
  refine tp_bind (jT109 (Or.inl rfl) (by decide) (by decide) (by decide) (mS_K hM h7.2) h7.1) (fun w ew hw => tp_some hw.1)
theorem jT122 {x1 : Int32} {u : fm} (hc : mJ s n m B W u) : fm_tp (fun p => mJ s n m B W p.2) (jF122 x1 u) := by
  unfold jF122
  refine tp_ite (fun c => tp_some hc) (fun c => ?_)
  obtain ⟨p1, p2⟩ := jP105 c
  refine tp_if ⟨by omega, by omega⟩ (fun g1 => ?_)
  refine tp_ite (fun c => ?_) (fun c => tp_some hc)
  refine tp_let (fun u3 e3 => ?_)
  subst e3
  refine tp_bind (jT112 p1 p2 (mJ_A hc rfl)) (fun p4 e4 h4 => ?_)
  refine tp_bind (jT111 p1 p2 h4.1) (fun p5 e5 h5 => ?_)
  refine tp_let (fun u6 e6 => ?_)
  subst e6
  have hM := mS_A (a := 225) (k := Int32.toNatClampNeg x1) (v := 8) h5.2.1 (by decide)
  refine tp_bind (jT108 p1 p2 hM (mJ_A h5.1 rfl)) (fun p7 e7 h7 => ?_)
  refine tp_bind (jT109 (Or.inl rfl) (by decide) (by decide) (by decide) (mS_K hM h7.2) h7.1) (fun w ew hw => tp_some hw.1)
end MC3
