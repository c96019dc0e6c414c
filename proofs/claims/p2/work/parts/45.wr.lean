section MW
variable {s n m : Prop} {B : Int} {W : fm}
theorem mJ_tr {u v : fm} (h1 : mJ s n m B W u) (h2 : mJ s n m B u v) : mJ s n m B W v :=
  ⟨⟨fun a k h => (h2.1.1 a k h).trans (h1.1.1 a k h), fun q => (h2.1.2.1 q).trans (h1.1.2.1 q), fun q => (h2.1.2.2.1 q).trans (h1.1.2.2.1 q), fun q k => (h2.1.2.2.2.1 q k).trans (h1.1.2.2.2.1 q k), h2.1.2.2.2.2⟩, h2.2⟩
theorem jP129 {x : Int32} {u : fm} (h : ¬ jF129 x u = 0) : 0 ≤ x.toInt ∧ x.toInt < (fI u 223 1).toInt := by
  unfold jF129 at h
  by_cases c : x < 0
  · rw [if_pos c] at h; exact absurd rfl h
  · rw [if_neg c] at h
    have d := i_nlt c
    have l_0 : (0 : Int32).toInt = 0 := rfl
    by_cases c2 : x < fI u 223 1
    · have d2 := i_lt c2
      omega
    · rw [if_neg c2] at h; exact absurd rfl h
theorem jT130 {x1 : Int32} {u : fm} (hc : mJ s n m B W u) : fm_tp (fun p => mJ s n m B W p.2) (jF130 x1 u) := by
  unfold jF130
  refine tp_ite (fun c => tp_some hc) (fun c => ?_)
  have h1 := jP129 c
  have kf := mJ_fl hc
  refine tp_bind (jT128 (W := u) (by omega) (by omega) rfl (mJ_rf hc)) (fun p2 e2 h2 => ?_)
  have c2 := mJ_tr hc h2.1
  refine tp_bind (jT110 (by omega) (by omega) (by rw [h2.2.2]; omega) c2) (fun p3 e3 h3 => ?_)
  have hH := mS_H h2.2.1 h3.2.1
  have l_0 : (0 : Int32).toInt = 0 := rfl
  have k1 := (hH 1 (by rw [l_0]; decide) (by rw [l_0]; decide)).1 rfl
  refine tp_bind (jT123 k1.1 k1.2 hH h3.1) (fun p4 e4 h4 => tp_some h4)
theorem jT131 {x1 : Int32} {u : fm} (hc : mJ s n m B W u) : fm_tp (fun p => mJ s n m B W p.2) (jF131 x1 u) := by
  unfold jF131
  refine tp_ite (fun c => tp_some hc) (fun c => ?_)
  have h1 := jP129 c
  have kf := mJ_fl hc
  refine tp_bind (jT128 (W := u) (by omega) (by omega) rfl (mJ_rf hc)) (fun p2 e2 h2 => ?_)
  have c2 := mJ_tr hc h2.1
  have hH := h2.2.1
  have l_0 : (0 : Int32).toInt = 0 := rfl
  have k1 := (hH 1 (by rw [l_0]; decide) (by rw [l_0]; decide)).1 rfl
  refine tp_bind (jT123 k1.1 k1.2 hH c2) (fun p4 e4 h4 => tp_some h4)
theorem jT132 {x1 : Int32} {u : fm} (hc : mJ s n m B W u) : fm_tp (fun p => mJ s n m B W p.2) (jF132 x1 u) := by
  unfold jF132
  refine tp_ite (fun c => tp_some hc) (fun c => ?_)
  have h1 := jP129 c
  have kf := mJ_fl hc
  refine tp_bind (jT110 (by omega) (by omega) (by omega) hc) (fun p3 e3 h3 => tp_some h3.1)
/-! the written signs: how many -/
def mL (u : fm) : Int := (fI u 223 37).toInt
theorem jT134 {x1 : Int32} {u : fm} (h0 : 0 ≤ mL u) (h1 : mL u < 500) (hc : mJ s n m B W u) : fm_tp (fun p => mJ s n m B W p ∧ mL p = mL u + 1) (jF134 x1 u) := by
  unfold jF134
  unfold mL at h0 h1
  refine tp_if ⟨h0, h1⟩ (fun g1 => ?_)
  refine tp_let (fun u2 e2 => tp_let (fun u3 e3 => ?_))
  have l_1 : (1 : Int32).toInt = 1 := rfl
  have e_1 := i_add (a := fI u 223 37) (b := 1) (by omega) (by omega)
  subst e2
  have q : fI u3 223 37 = fI u 223 37 + 1 := by rw [← e3]; exact fI_eq
  refine tp_some ⟨?_, ?_⟩
  · rw [← e3]; exact mJ_I (mJ_A hc rfl) (by decide)
  · unfold mL; rw [q]; omega
def mP (d : Nat) : Int := ([0, 1, 10, 100, 1000, 10000, 100000, 1000000, 10000000, 100000000, 1000000000] : List Int).getD d 0
theorem mP_all : ∀ d, d < 10 → mP (d + 1) / 10 = mP d ∧ 0 < mP (d + 1) ∧ mP (d + 1) ≤ 1000000000 ∧ (d < 9 → mP (d + 2) = mP (d + 1) * 10) ∧ (d = 9 → mP (d + 1) = 1000000000) := by decide
theorem jT135_18 : ∀ (f : Nat) (x1 x2 : Int32) (u : fm) (d : Nat) (hd : d ≤ 10) (hx : x2.toInt = mP d) (hf : d < f) (h0 : 0 ≤ mL u) (h1 : mL u + (d : Int) ≤ 500) (hc : mJ s n m B W u), fm_tp (fun p => mJ s n m B W p ∧ mL u ≤ mL p ∧ mL p ≤ mL u + (d : Int)) (jF135_18 f x1 x2 u) := by
  intro f
  induction f with
  | zero => intros; omega
  | succ f ih =>
  intro x1 x2 u d hd hx hf h0 h1 hc
  unfold jF135_18
  have l_0 : (0 : Int32).toInt = 0 := rfl
  have l_10 : (10 : Int32).toInt = 10 := rfl
  refine tp_ite (fun c => ?_) (fun c => tp_some ⟨hc, by omega, by omega⟩)
  have k := i_lt c
  cases d with
  | zero => have : mP 0 = 0 := rfl; omega
  | succ d =>
    have t := mP_all d (by omega)
    refine tp_ifn (fun q => by rw [q] at hx; omega) (fun _ => ?_)
    refine tp_bind (jT134 h0 (by omega) hc) (fun p e h => ?_)
    have e_1 := i_div (a := x2) (b := 10) (k := 10) rfl (by omega) (by omega)
    refine tp_mono (ih x1 (x2 / 10) p d (by omega) (by omega) (by omega) (by omega) (by omega) h.1) (fun q hq => ⟨hq.1, by omega, by omega⟩)
theorem jT135_2 : ∀ (f : Nat) (x1 x2 : Int32) (u : fm) (d : Nat) (hd : d < 10) (hx : x2.toInt = mP (d + 1)) (hf : 10 - d < f) (h0 : 0 ≤ mL u) (h1 : mL u + 10 ≤ 500) (hc : mJ s n m B W u), fm_tp (fun p => mJ s n m B W p ∧ mL u ≤ mL p ∧ mL p ≤ mL u + 10) (jF135_2 f x1 x2 u) := by
  intro f
  induction f with
  | zero => intros; omega
  | succ f ih =>
  intro x1 x2 u d hd hx hf h0 h1 hc
  unfold jF135_2
  have t := mP_all d hd
  have l_0 : (0 : Int32).toInt = 0 := rfl
  have l_9 : (9 : Int32).toInt = 9 := rfl
  refine tp_ifn (fun q => by rw [q] at hx; omega) (fun _ => ?_)
  refine tp_ite (fun c => ?_) (fun c => ?_)
  · have k := i_lt c
    have hb := i_hi x1
    have hx1 : 0 ≤ x1.toInt := by
      apply Decidable.byContradiction
      intro hn
      have q := Int32.toInt_div_of_ne_right x1 x2 (by intro q; rw [q] at hx; have : (-1 : Int32).toInt = -1 := rfl; omega)
      rw [q] at k
      have h2 : Int.tdiv x1.toInt x2.toInt ≤ 0 := by
        have h3 := Int.tdiv_nonneg (a := -x1.toInt) (b := x2.toInt) (by omega) (by omega)
        rw [Int.neg_tdiv] at h3
        omega
      omega
    have e_1 := i_div (a := x1) (b := x2) rfl (by omega) hx1
    have h10 : mP (d + 1) * 10 ≤ x1.toInt := by
      rw [e_1, hx] at k
      have := Int.ediv_mul_le x1.toInt (b := mP (d + 1)) (by omega)
      have h5 : 10 * mP (d + 1) ≤ x1.toInt / mP (d + 1) * mP (d + 1) := Int.mul_le_mul_of_nonneg_right (by omega) (by omega)
      omega
    have h9 : d < 9 := by
      apply Decidable.byContradiction
      intro hn
      have : d = 9 := by omega
      have t2 := t.2.2.2.2 this
      omega
    have t3 := t.2.2.2.1 h9
    have e_2 := i_mulr (a := x2) (b := 10) (k := 10) rfl (by omega) (by omega)
    exact ih x1 (x2 * 10) u (d + 1) (by omega) (show (x2 * 10).toInt = mP (d + 2) by omega) (by omega) h0 h1 hc
  · have hN : 20 < fm_N := by decide
    exact tp_mono (jT135_18 fm_N x1 x2 u (d + 1) (by omega) hx (by omega) h0 (by omega) hc) (fun q hq => ⟨hq.1, hq.2.1, by omega⟩)
theorem jT135 {x1 : Int32} {u : fm} (h0 : 0 ≤ mL u) (h1 : mL u + 10 ≤ 500) (hc : mJ s n m B W u) : fm_tp (fun p => mJ s n m B W p ∧ mL u ≤ mL p ∧ mL p ≤ mL u + 10) (jF135 x1 u) := by
  unfold jF135
  exact jT135_2 fm_N x1 1 u 0 (by decide) (by decide) (by decide) h0 h1 hc
theorem fm_itec {c : Prop} {hd : Decidable c} {a b : Int32} (ha : c → a = 0) (hb : ¬ c → b = 0) : (@ite _ c hd a b) = 0 := by
  by_cases h : c
  · rw [if_pos h]; exact ha h
  · rw [if_neg h]; exact hb h
theorem jP136 (x : Int32) : jF136 x 21 = 0 := by
  unfold jF136
  repeat refine fm_itec (fun c => by subst c; decide) (fun _ => ?_)
  decide
theorem jT149_2 : ∀ (f : Nat) (x0 x1 : Int32) (h0 : 0 ≤ x1.toInt) (h1 : x1.toInt ≤ 21) (hf : 21 - x1.toInt < (f : Int)), fm_tp (fun r => 0 ≤ r.toInt ∧ r.toInt ≤ 21) (jF149_2 f x0 x1) := by
  intro f
  induction f with
  | zero => intros; omega
  | succ f ih =>
  intro x0 x1 h0 h1 hf
  unfold jF149_2
  have l_1 : (1 : Int32).toInt = 1 := rfl
  refine tp_ite (fun c => tp_some ⟨h0, h1⟩) (fun c => ?_)
  have h21 : ¬ x1.toInt = 21 := by
    intro q
    have : x1 = 21 := Int32.toInt_inj.mp q
    rw [this] at c
    exact c (jP136 x0)
  have e_1 := i_add (a := x1) (b := 1) (by omega) (by omega)
  exact ih x0 (x1 + 1) (by omega) (by omega) (by omega)
theorem jT149 (x0 : Int32) : fm_tp (fun r => 0 ≤ r.toInt ∧ r.toInt ≤ 21) (jF149 x0) := by
  unfold jF149
  exact jT149_2 fm_N x0 0 (by decide) (by decide) (by decide)
theorem jT150_2 : ∀ (f : Nat) (x1 x2 : Int32) (u : fm) (v0 : 0 ≤ x2.toInt) (v1 : x2.toInt ≤ 21) (hf : 21 - x2.toInt < (f : Int)) (h0 : 0 ≤ mL u) (h1 : mL u + (21 - x2.toInt) ≤ 500) (hc : mJ s n m B W u), fm_tp (fun p => mJ s n m B W p ∧ mL u ≤ mL p ∧ mL p ≤ mL u + (21 - x2.toInt)) (jF150_2 f x1 x2 u) := by
  intro f
  induction f with
  | zero => intros; omega
  | succ f ih =>
  intro x1 x2 u v0 v1 hf h0 h1 hc
  unfold jF150_2
  have l_1 : (1 : Int32).toInt = 1 := rfl
  refine tp_bind (jT149 x1) (fun r er hr => ?_)
  refine tp_ite (fun c => ?_) (fun c => tp_some ⟨hc, by omega, by omega⟩)
  have d := i_lt c
  have e_1 := i_add (a := x2) (b := 1) (by omega) (by omega)
  refine tp_bind (jT134 h0 (by omega) hc) (fun p e h => ?_)
  refine tp_mono (ih x1 (x2 + 1) p (by omega) (by omega) (by omega) (by omega) (by omega) h.1) (fun q hq => ⟨hq.1, by omega, by omega⟩)
theorem jT150 {x1 : Int32} {u : fm} (h0 : 0 ≤ mL u) (h1 : mL u + 21 ≤ 500) (hc : mJ s n m B W u) : fm_tp (fun p => mJ s n m B W p ∧ mL u ≤ mL p ∧ mL p ≤ mL u + 21) (jF150 x1 u) := by
  unfold jF150
  have l_0 : (0 : Int32).toInt = 0 := rfl
  exact tp_mono (jT150_2 fm_N x1 0 u (by decide) (by decide) (by decide) h0 (by omega) hc) (fun q hq => ⟨hq.1, hq.2.1, by omega⟩)
theorem jT151_27 : ∀ (f : Nat) (x3 x4 : Int32) (u : fm) (v0 : 0 ≤ x4.toInt) (v1 : x4.toInt ≤ 5) (hf : 5 - x4.toInt < (f : Int)) (h0 : 0 ≤ mL u) (h1 : mL u + (16 - x4.toInt) ≤ 500) (hc : mJ s n m B W u), fm_tp (fun p => mJ s n m B W p ∧ mL u ≤ mL p ∧ mL p ≤ mL u + (16 - x4.toInt)) (jF151_27 f x3 x4 u) := by
  intro f
  induction f with
  | zero => intros; omega
  | succ f ih =>
  intro x3 x4 u v0 v1 hf h0 h1 hc
  unfold jF151_27
  have l_1 : (1 : Int32).toInt = 1 := rfl
  have l_5 : (5 : Int32).toInt = 5 := rfl
  refine tp_ite (fun c => ?_) (fun c => ?_)
  · have d := i_lt c
    have e_1 := i_add (a := x4) (b := 1) (by omega) (by omega)
    refine tp_bind (jT134 h0 (by omega) hc) (fun p e h => ?_)
    refine tp_mono (ih x3 (x4 + 1) p (by omega) (by omega) (by omega) (by omega) (by omega) h.1) (fun q hq => ⟨hq.1, by omega, by omega⟩)
  · have d := i_nlt c
    refine tp_bind (jT135 h0 (by omega) hc) (fun p e h => ?_)
    refine tp_bind (jT134 (by omega) (by omega) h.1) (fun q e2 h2 => tp_some ⟨h2.1, by omega, by omega⟩)
theorem jT151 {x1 x2 x3 : Int32} {u : fm} (h0 : 0 ≤ mL u) (h1 : mL u + 39 ≤ 500) (hc : mJ s n m B W u) : fm_tp (fun p => mJ s n m B W p ∧ mL u ≤ mL p ∧ mL p ≤ mL u + 39) (jF151 x1 x2 x3 u) := by
  unfold jF151
  have l_0 : (0 : Int32).toInt = 0 := rfl
  refine tp_bind (jT150 h0 (by omega) hc) (fun p1 e1 k1 => ?_)
  refine tp_bind (jT134 (by omega) (by omega) k1.1) (fun p2 e2 k2 => ?_)
  refine tp_bind (jT134 (by omega) (by omega) k2.1) (fun p3 e3 k3 => ?_)
  refine tp_ite (fun c => ?_) (fun c => ?_)
  · exact tp_bind (jT134 (by omega) (by omega) k3.1) (fun p4 e4 k4 => tp_some ⟨k4.1, by omega, by omega⟩)
  · exact tp_mono (jT151_27 fm_N x3 0 p3 (by decide) (by decide) (by decide) (by omega) (by omega) k3.1) (fun q hq => ⟨hq.1, by omega, by omega⟩)
theorem jT153_50 {k2 : Int32 → Int32 → fm → Option fm} {Q : fm → Prop} : ∀ (f : Nat) (x1 x2 x3 x4 : Int32) (u : fm) (p1 : 0 ≤ x1.toInt) (p2 : x1.toInt < 3000) (p3 : x1.toInt % 50 = 0) (p4 : 0 ≤ x2.toInt) (p5 : x2.toInt ≤ 2) (p6 : x3.toInt = x1.toInt + 13 + 10 * x2.toInt) (v0 : 0 ≤ x4.toInt) (v1 : x4.toInt ≤ 8) (hf : 8 - x4.toInt < (f : Int)) (h0 : 0 ≤ mL u) (h1 : mL u + (17 - 2 * x4.toInt) ≤ 500) (hc : mJ s n m B W u) (hk : ∀ u' : fm, mL u ≤ mL u' → mL u' ≤ mL u + (17 - 2 * x4.toInt) → mJ s n m B W u' → fm_tp Q (k2 x1 (x2 + 1) u')), fm_tp Q (jF153_50 f k2 x1 x2 x3 x4 u) := by
  intro f
  induction f with
  | zero => intros; omega
  | succ f ih =>
  intro x1 x2 x3 x4 u p1 p2 p3 p4 p5 p6 v0 v1 hf h0 h1 hc hk
  unfold jF153_50
  have l_1 : (1 : Int32).toInt = 1 := rfl
  have l_2 : (2 : Int32).toInt = 2 := rfl
  have e_0 := i_add (a := x3) (b := 1) (by omega) (by omega)
  have e_1 := i_add (a := x3) (b := 2) (by omega) (by omega)
  have e_2 := i_add (a := x3 + 2) (b := x4) (by omega) (by omega)
  refine tp_if ⟨by omega, by omega⟩ (fun g1 => ?_)
  have i1 := fm_ixN (x3 + 1) (by omega)
  have kc := (mJ_224 hc (fm_in_nat g1)).2.2 (by omega)
  refine tp_ite (fun c => ?_) (fun c => ?_)
  · have d := i_lt c
    have e_3 := i_add (a := x4) (b := 1) (by omega) (by omega)
    refine tp_bind (jT134 h0 (by omega) hc) (fun p8 e8 k8 => ?_)
    refine tp_if ⟨by omega, by omega⟩ (fun g2 => ?_)
    refine tp_bind (jT134 (by omega) (by omega) k8.1) (fun p9 e9 k9 => ?_)
    exact ih x1 x2 x3 (x4 + 1) p9 p1 p2 p3 p4 p5 p6 (by omega) (by omega) (by omega) (by omega) (by omega) k9.1 (fun u' a1 a2 a3 => hk u' (by omega) (by omega) a3)
  · refine tp_bind (jT134 h0 (by omega) hc) (fun p7 e7 k7 => ?_)
    exact hk p7 (by omega) (by omega) k7.1
theorem jT153_2 : ∀ (f : Nat) (x1 x2 : Int32) (u : fm) (p1 : 0 ≤ x1.toInt) (p2 : x1.toInt < 3000) (p3 : x1.toInt % 50 = 0) (p4 : 0 ≤ x2.toInt) (p5 : x2.toInt ≤ 3) (hf : 3 - x2.toInt < (f : Int)) (h0 : 0 ≤ mL u) (h1 : mL u + 29 * (3 - x2.toInt) ≤ 500) (hc : mJ s n m B W u), fm_tp (fun p => mJ s n m B W p ∧ mL u ≤ mL p ∧ mL p ≤ mL u + 29 * (3 - x2.toInt)) (jF153_2 f x1 x2 u) := by
  intro f
  induction f with
  | zero => intros; omega
  | succ f ih =>
  intro x1 x2 u p1 p2 p3 p4 p5 hf h0 h1 hc
  unfold jF153_2
  have l_1 : (1 : Int32).toInt = 1 := rfl
  have l_12 : (12 : Int32).toInt = 12 := rfl
  have l_13 : (13 : Int32).toInt = 13 := rfl
  have l_0 : (0 : Int32).toInt = 0 := rfl
  have e_0 := i_add (a := x1) (b := 12) (by omega) (by omega)
  have e_1 := i_add (a := x1) (b := 13) (by omega) (by omega)
  have e_2 := i_mull (a := 10) (b := x2) (k := 10) rfl (by omega) (by omega)
  have e_3 := i_add (a := x1 + 13) (b := 10 * x2) (by omega) (by omega)
  refine tp_if ⟨by omega, by omega⟩ (fun g1 => ?_)
  have i1 := fm_ixN (x1 + 12) (by omega)
  have kc := (mJ_224 hc (fm_in_nat g1)).2.1 (by omega)
  refine tp_ite (fun c => ?_) (fun c => tp_some ⟨hc, by omega, by omega⟩)
  have d := i_lt c
  have e_4 := i_add (a := x2) (b := 1) (by omega) (by omega)
  refine tp_bind (jT134 h0 (by omega) hc) (fun p2' e2 k2 => ?_)
  refine tp_bind (jT134 (by omega) (by omega) k2.1) (fun p3' e3 k3 => ?_)
  refine tp_if ⟨by omega, by omega⟩ (fun g2 => ?_)
  refine tp_bind (jT135 (by omega) (by omega) k3.1) (fun p5' e5 k5 => ?_)
  refine jT153_50 (s := s) (n := n) (m := m) (B := B) (W := W) fm_N x1 x2 _ 0 p5' p1 p2 p3 p4 (by omega) (by omega) (by decide) (by decide) (by decide) (by omega) (by omega) k5.1 (fun u' a1 a2 a3 => ?_)
  refine tp_mono (ih x1 (x2 + 1) u' p1 p2 p3 (by omega) (by omega) (by omega) (by omega) (by omega) a3) (fun q hq => ⟨hq.1, by omega, by omega⟩)
theorem jT153 {x1 : Int32} {u : fm} (p1 : 0 ≤ x1.toInt) (p2 : x1.toInt < 3000) (p3 : x1.toInt % 50 = 0) (h0 : 0 ≤ mL u) (h1 : mL u + 87 ≤ 500) (hc : mJ s n m B W u) : fm_tp (fun p => mJ s n m B W p ∧ mL u ≤ mL p ∧ mL p ≤ mL u + 87) (jF153 x1 u) := by
  unfold jF153
  have l_0 : (0 : Int32).toInt = 0 := rfl
  exact tp_mono (jT153_2 fm_N x1 0 u p1 p2 p3 (by decide) (by decide) (by decide) h0 (by omega) hc) (fun q hq => ⟨hq.1, hq.2.1, by omega⟩)
theorem jT152 {x1 : Int32} {u : fm} (p1 : 0 ≤ x1.toInt) (p2 : x1.toInt < 3000) (p3 : x1.toInt % 50 = 0) (h0 : 0 ≤ mL u) (h1 : mL u + 87 ≤ 500) (hc : mJ s n m B W u) : fm_tp (fun p => mJ s n m B W p.2 ∧ mL p.2 = mL u) (jF152 x1 u) := by
  unfold jF152
  refine tp_bind (jT153 p1 p2 p3 h0 h1 hc) (fun p e k => ?_)
  refine tp_let (fun u2 e2 => ?_)
  subst e2
  refine tp_some ⟨mJ_I k.1 (by decide), ?_⟩
  show (fI (sI p 223 37 (fI u 223 37)) 223 37).toInt = mL u
  rw [fI_eq]
  rfl
end MW
