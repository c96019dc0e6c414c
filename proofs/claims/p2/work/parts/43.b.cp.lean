section MC2
variable {s n m : Prop} {B : Int} {W : fm}
theorem mS_w {u : fm} {q k : Nat} {x v : Int32} (h : mS u q x) (hv : mCol k v) : mS (sA u q k v) q x := fun i h1 h2 => by
  rw [fA_sA]
  split
  · rename_i e; rw [e.1]; exact hv
  · exact h i h1 h2
theorem fG_sG {u : fm} {a k b i : Nat} {v : Int64} : fG (sG u a k v) b i = if i = k ∧ b = a then v else fG u b i := rfl
theorem j_add {a b : Int64} (h1 : -9223372036854775808 ≤ a.toInt + b.toInt) (h2 : a.toInt + b.toInt ≤ 9223372036854775807) : (a + b).toInt = a.toInt + b.toInt := by
  rw [Int64.toInt_add]
  exact Int.bmod_eq_of_le (by omega) (by omega)
theorem j_mul {a b : Int64} {k : Int} (hk : b.toInt = k) (h1 : -9223372036854775808 ≤ a.toInt * k) (h2 : a.toInt * k ≤ 9223372036854775807) : (a * b).toInt = a.toInt * k := by
  subst hk
  rw [Int64.toInt_mul]
  exact Int.bmod_eq_of_le (by omega) (by omega)
/-- timers set or off -/
theorem tI_on {u : fm} {k : Nat} {r p g : Int64} (h : tI B u) (hA : tA B r p g) : tI B (sG (sG (sG u 249 k p) 248 k r) 250 k g) := by
  refine ⟨h.1, h.2.1, h.2.2.1, fun i hi => ?_⟩
  have h1 := h.2.2.2 i hi
  simp only [fG_sG]
  by_cases e : i = k
  · subst e
    simpa using hA
  · simpa [e] using h1
theorem tI_off {u : fm} {k : Nat} (h : tI B u) : tI B (sG (sG u 248 k (-1)) 250 k (-1)) := by
  refine ⟨h.1, h.2.1, h.2.2.1, fun i hi => ?_⟩
  have h1 := h.2.2.2 i hi
  simp only [fG_sG]
  by_cases e : i = k
  · subst e
    have : tA B (-1) (fG u 249 i) (-1) := Or.inl ⟨rfl, rfl⟩
    simpa using this
  · simpa [e] using h1
theorem jT107 {x1 : Int32} {u : fm} (p1 : 0 ≤ x1.toInt) (p2 : x1.toInt ≤ 1) (hc : mJ s n m B W u) : fm_tp (fun p => mJ s n m B W p ∧ mK u p) (jF107 x1 u) := by
  unfold jF107
  refine tp_if ⟨by omega, by omega⟩ (fun g1 => ?_)
  exact tp_some ⟨⟨hc.1, tI_off hc.2⟩, mK_rf u⟩
/-- start -/
theorem jT108_2 : ∀ (f : Nat) (x1 x2 : Int32) (u0 u : fm) (p1 : 0 ≤ x1.toInt) (p2 : x1.toInt ≤ 1) (v0 : 0 ≤ x2.toInt) (hm : 2147483648 - x2.toInt < (f : Int)) (hp : 0 < (f : Int)) (hM : mS u 252 0) (hk : mK u0 u) (hc : mJ s n m B W u), fm_tp (fun p => mJ s n m B W p ∧ mK u0 p) (jF108_2 f x1 x2 u) := by
  intro f
  induction f with
  | zero => intros; omega
  | succ f ih =>
  intro x1 x2 u0 u p1 p2 v0 hm hp hM hk hc
  unfold jF108_2
  have l_50 : (50 : Int32).toInt = 50 := rfl
  have l_1 : (1 : Int32).toInt = 1 := rfl
  have l_0 : (0 : Int32).toInt = 0 := rfl
  have e_0 := i_mull (a := 50) (b := x1) (k := 50) rfl (by omega) (by omega)
  refine tp_ite (fun c => ?_) (fun c => ?_)
  · have d := i_lt c
    have e_1 := i_add (a := 50 * x1) (b := x2) (by omega) (by omega)
    have e_2 := i_add (a := x2) (b := 1) (by omega) (by omega)
    refine tp_if ⟨by omega, by omega⟩ (fun g1 => ?_)
    refine tp_if ⟨by omega, by omega⟩ (fun g2 => ?_)
    refine tp_let (fun u3 e => ?_)
    subst e
    exact ih x1 (x2 + 1) u0 _ p1 p2 (by omega) (by omega) (by omega) (mS_A hM (by decide)) (mK_A hk (by decide) (by decide)) (mJ_R hc (by decide) (mCol_ix (mS_at hM (by omega) (by omega) (by omega)) (by omega) (by omega) (by omega)))
  · refine tp_if ⟨by omega, by omega⟩ (fun g1 => ?_)
    have hT := hc.2
    have a1 : (500 : Int64).toInt = 500 := rfl
    have a2 : (32000 : Int64).toInt = 32000 := rfl
    have b1 := hT.1
    have b2 := hT.2.1
    have b3 := hT.2.2.1
    have e_1 := j_add (a := fJ u 223 2) (b := 500) (by omega) (by omega)
    have e_2 := j_add (a := fJ u 223 2) (b := 32000) (by omega) (by omega)
    refine tp_some (p := sG (sG (sG u 249 (Int32.toNatClampNeg x1) 500) 248 (Int32.toNatClampNeg x1) (fJ u 223 2 + 500)) 250 (Int32.toNatClampNeg x1) (fJ u 223 2 + 32000)) ⟨⟨hc.1, tI_on hT (Or.inr ⟨by omega, by omega, by omega, by omega, by omega⟩)⟩, hk⟩
theorem jT108 {x1 : Int32} {u : fm} (p1 : 0 ≤ x1.toInt) (p2 : x1.toInt ≤ 1) (hM : mS u 252 0) (hc : mJ s n m B W u) : fm_tp (fun p => mJ s n m B W p ∧ mK u p) (jF108 x1 u) := by
  unfold jF108
  exact jT108_2 fm_N x1 0 u u p1 p2 (by decide) (by decide) (by decide) hM (mK_rf u) hc
/-- a made record whose lines are none -/
theorem mS_made {u : fm} {x1 x2 : Int32} (p1 : 0 ≤ x1.toInt) (p2 : x1.toInt ≤ 1) (hZ : ∀ k : Nat, 12 ≤ k → k < 50 → fA u 252 k = 0) : mS (sA (sA u 252 0 x2) 252 1 (1 - x1)) 252 0 := by
  intro k h1 h2
  have l_0 : (0 : Int32).toInt = 0 := rfl
  have l_1 : (1 : Int32).toInt = 1 := rfl
  rw [fA_sA]
  split
  · rename_i e
    rw [e.1]
    have e_1 := i_sub (a := 1) (b := x1) (by omega) (by omega)
    exact ⟨fun _ => ⟨by omega, by omega⟩, fun q => absurd q (by decide), fun q => absurd q (by decide)⟩
  · rename_i e
    by_cases h12 : 12 ≤ k
    · rw [fA_nk (by omega), hZ k h12 (by omega)]
      exact mCol_zero k
    · exact mCol_free (by omega)
theorem jT111_3 : ∀ (f : Nat) (x1 x2 x3 x4 x5 x6 : Int32) (u0 u : fm) (p1 : 0 ≤ x1.toInt) (p2 : x1.toInt ≤ 1) (v0 : 0 ≤ x6.toInt) (hm : 2147483648 - x6.toInt < (f : Int)) (hp : 0 < (f : Int)) (hZ : ∀ k : Nat, 12 ≤ k → (k : Int) < x6.toInt → fA u 252 k = 0) (hH : ∀ k, fA u 251 k = fA u0 251 k) (hc : mJ s n m B W u), fm_tp (fun p => mJ s n m B W p ∧ mS p 252 0 ∧ (∀ k, fA p 251 k = fA u0 251 k) ∧ ∀ k : Nat, 12 ≤ k → k < 50 → fA p 252 k = 0) (jF111_3 f x1 x2 x3 x4 x5 x6 u) := by
  intro f
  induction f with
  | zero => intros; omega
  | succ f ih =>
  intro x1 x2 x3 x4 x5 x6 u0 u p1 p2 v0 hm hp hZ hH hc
  unfold jF111_3
  have l_50 : (50 : Int32).toInt = 50 := rfl
  have l_1 : (1 : Int32).toInt = 1 := rfl
  refine tp_ite (fun c => ?_) (fun c => ?_)
  · have d := i_lt c
    have e_2 := i_add (a := x6) (b := 1) (by omega) (by omega)
    have ix := fm_ixN x6 v0
    refine tp_if ⟨by omega, by omega⟩ (fun g1 => ?_)
    refine tp_let (fun u3 e => ?_)
    subst e
    refine ih x1 x2 x3 x4 x5 (x6 + 1) u0 _ p1 p2 (by omega) (by omega) (by omega) (fun k h1 h2 => ?_) (fun k => by rw [fA_ne (by decide)]; exact hH k) (mJ_A hc rfl)
    rw [fA_sA]
    split
    · rfl
    · rename_i e
      exact hZ k h1 (by have : ¬ k = Int32.toNatClampNeg x6 := fun q => e ⟨q, rfl⟩; omega)
  · have d := i_nlt c
    have h0 := mS_made (u := u) (x1 := x1) (x2 := x2) p1 p2 (fun k h1 h2 => hZ k h1 (by omega))
    refine tp_let (fun u1 e1 => tp_let (fun u2 e2 => tp_let (fun u3 e3 => tp_let (fun u4 e4 => tp_let (fun u5 e5 => tp_let (fun u6 e6 => tp_if ⟨by omega, by omega⟩ (fun g1 => ?_)))))))
    have w2 : mS u2 252 0 ∧ mJ s n m B W u2 ∧ (∀ k, fA u2 251 k = fA u0 251 k) ∧ ∀ k : Nat, 12 ≤ k → k < 50 → fA u2 252 k = 0 := by
      subst e1; subst e2
      exact ⟨h0, mJ_A (mJ_A hc rfl) rfl, fun k => by rw [fA_ne (by decide), fA_ne (by decide)]; exact hH k, fun k h1 h2 => by rw [fA_nk (by omega), fA_nk (by omega)]; exact hZ k h1 (by omega)⟩
    have st : ∀ {v w : fm} {i : Nat} {x : Int32}, (mS v 252 0 ∧ mJ s n m B W v ∧ (∀ k, fA v 251 k = fA u0 251 k) ∧ ∀ k : Nat, 12 ≤ k → k < 50 → fA v 252 k = 0) → sA v 252 i x = w → (¬ i % 50 = 1 ∧ i < 12) → (mS w 252 0 ∧ mJ s n m B W w ∧ (∀ k, fA w 251 k = fA u0 251 k) ∧ ∀ k : Nat, 12 ≤ k → k < 50 → fA w 252 k = 0) := by
      intro v w i x h e hi
      subst e
      exact ⟨mS_w h.1 (mCol_free (by omega)), mJ_A h.2.1 rfl, fun k => by rw [fA_ne (by decide)]; exact h.2.2.1 k, fun k h1 h2 => by rw [fA_nk (by omega)]; exact h.2.2.2 k h1 h2⟩
    have w6 := st (st (st (st w2 e3 (by decide)) e4 (by decide)) e5 (by decide)) e6 (by decide)
    refine tp_let (fun u8 e8 => tp_let (fun u9 e9 => tp_let (fun u10 e10 => tp_let (fun u11 e11 => tp_let (fun u12 e12 => tp_let (fun u13 e13 => tp_let (fun u14 e14 => ?_)))))))
    have w13 := st (st (st (st (st (st w6 e8 (by decide)) e9 (by decide)) e10 (by decide)) e11 (by decide)) e12 (by decide)) e13 (by decide)
    subst e14
    exact tp_some ⟨mJ_A w13.2.1 rfl, mS_A w13.1 (by decide), fun k => by rw [fA_ne (by decide)]; exact w13.2.2.1 k, fun k h1 h2 => by rw [fA_ne (by decide)]; exact w13.2.2.2 k h1 h2⟩
theorem jT111 {x1 x2 x3 x4 x5 : Int32} {u : fm} (p1 : 0 ≤ x1.toInt) (p2 : x1.toInt ≤ 1) (hc : mJ s n m B W u) : fm_tp (fun p => mJ s n m B W p ∧ mS p 252 0 ∧ (∀ k, fA p 251 k = fA u 251 k) ∧ ∀ k : Nat, 12 ≤ k → k < 50 → fA p 252 k = 0) (jF111 x1 x2 x3 x4 x5 u) := by
  unfold jF111
  exact jT111_3 fm_N x1 x2 x3 x4 x5 0 u u p1 p2 (by decide) (by decide) (by decide) (fun k h1 h2 => absurd h2 (by rw [show (0 : Int32).toInt = 0 from rfl]; omega)) (fun _ => rfl) hc
/-- respond -/
theorem jT114_3 : ∀ (f : Nat) (x1 x2 : Int32) (a3 : Nat) (x4 x5 x6 : Int32) (u0 u : fm) (p1 : 0 ≤ x1.toInt) (p2 : x1.toInt ≤ 1) (p3 : 0 ≤ x4.toInt) (p4 : x4.toInt + 50 ≤ (fm_ln a3 : Int)) (v0 : 0 ≤ x6.toInt) (hm : 2147483648 - x6.toInt < (f : Int)) (hp : 0 < (f : Int)) (hZ : ∀ k : Nat, 12 ≤ k → (k : Int) < x6.toInt → fA u 252 k = 0) (hH : ∀ k, fA u 251 k = fA u0 251 k) (hc : mJ s n m B W u), fm_tp (fun p => mJ s n m B W p ∧ mS p 252 0 ∧ ∀ k, fA p 251 k = fA u0 251 k) (jF114_3 f x1 x2 a3 x4 x5 x6 u) := by
  intro f
  induction f with
  | zero => intros; omega
  | succ f ih =>
  intro x1 x2 a3 x4 x5 x6 u0 u p1 p2 p3 p4 v0 hm hp hZ hH hc
  unfold jF114_3
  have l_50 : (50 : Int32).toInt = 50 := rfl
  have l_12 : (12 : Int32).toInt = 12 := rfl
  have l_1 : (1 : Int32).toInt = 1 := rfl
  have kl := fm_ln_lt a3
  refine tp_ite (fun c => ?_) (fun c => ?_)
  · have d := i_lt c
    have e_2 := i_add (a := x6) (b := 1) (by omega) (by omega)
    have e_3 := i_add (a := x4) (b := x6) (by omega) (by omega)
    have ix := fm_ixN x6 v0
    refine tp_ite (fun c2 => ?_) (fun c2 => ?_)
    · have d2 := i_lt c2
      refine tp_if ⟨by omega, by omega⟩ (fun g1 => ?_)
      refine tp_if ⟨by omega, by omega⟩ (fun g2 => ?_)
      refine tp_let (fun u3 e => ?_)
      subst e
      refine ih x1 x2 a3 x4 x5 (x6 + 1) u0 _ p1 p2 p3 p4 (by omega) (by omega) (by omega) (fun k h1 h2 => by omega) (fun k => by rw [fA_ne (by decide)]; exact hH k) (mJ_A hc rfl)
    · refine tp_if ⟨by omega, by omega⟩ (fun g1 => ?_)
      refine tp_let (fun u3 e => ?_)
      subst e
      refine ih x1 x2 a3 x4 x5 (x6 + 1) u0 _ p1 p2 p3 p4 (by omega) (by omega) (by omega) (fun k h1 h2 => ?_) (fun k => by rw [fA_ne (by decide)]; exact hH k) (mJ_A hc rfl)
      rw [fA_sA]
      split
      · rfl
      · rename_i e
        exact hZ k h1 (by have : ¬ k = Int32.toNatClampNeg x6 := fun q => e ⟨q, rfl⟩; omega)
  · have d := i_nlt c
    have h0 := mS_made (u := u) (x1 := x1) (x2 := x2) p1 p2 (fun k h1 h2 => hZ k h1 (by omega))
    refine tp_let (fun u1 e1 => tp_let (fun u2 e2 => tp_let (fun u3 e3 => ?_)))
    subst e1; subst e2; subst e3
    exact tp_some ⟨mJ_A (mJ_A (mJ_A hc rfl) rfl) rfl, mS_w h0 (mCol_free (by decide)), fun k => by rw [fA_ne (by decide), fA_ne (by decide), fA_ne (by decide)]; exact hH k⟩
theorem jT114 {x1 x2 : Int32} {a3 : Nat} {x4 x5 : Int32} {u : fm} (p1 : 0 ≤ x1.toInt) (p2 : x1.toInt ≤ 1) (p3 : 0 ≤ x4.toInt) (p4 : x4.toInt + 50 ≤ (fm_ln a3 : Int)) (hc : mJ s n m B W u) : fm_tp (fun p => mJ s n m B W p ∧ mS p 252 0 ∧ ∀ k, fA p 251 k = fA u 251 k) (jF114 x1 x2 a3 x4 x5 u) := by
  unfold jF114
  exact jT114_3 fm_N x1 x2 a3 x4 x5 0 u u p1 p2 p3 p4 (by decide) (by decide) (by decide) (fun k h1 h2 => absurd h2 (by rw [show (0 : Int32).toInt = 0 from rfl]; omega)) (fun _ => rfl) hc
/-- agree -/
theorem jT118_12 : ∀ (f : Nat) (x1 : Int32) (a2 : Nat) (x3 : Int32) (u0 u : fm) (ha : a2 = 252 ∨ a2 = 251) (p1 : 0 ≤ x1.toInt) (p2 : x1.toInt ≤ 1) (v0 : 0 ≤ x3.toInt) (hm : 2147483648 - x3.toInt < (f : Int)) (hp : 0 < (f : Int)) (hM : mS u a2 0) (hk : mK u0 u) (hc : mJ s n m B W u), fm_tp (fun p => mJ s n m B W p ∧ mK u0 p) (jF118_12 f x1 a2 x3 u) := by
  intro f
  induction f with
  | zero => intros; omega
  | succ f ih =>
  intro x1 a2 x3 u0 u ha p1 p2 v0 hm hp hM hk hc
  unfold jF118_12
  have l_30 : (30 : Int32).toInt = 30 := rfl
  have l_13 : (13 : Int32).toInt = 13 := rfl
  have l_1 : (1 : Int32).toInt = 1 := rfl
  have l_0 : (0 : Int32).toInt = 0 := rfl
  have kl : fm_ln a2 = 50 := by rcases ha with rfl | rfl <;> rfl
  have e_0 := i_mull (a := 30) (b := x1) (k := 30) rfl (by omega) (by omega)
  refine tp_ite (fun c => ?_) (fun c => tp_some ⟨hc, hk⟩)
  have d := i_lt c
  have e_1 := i_add (a := 13) (b := x3) (by omega) (by omega)
  have e_2 := i_add (a := x3) (b := 1) (by omega) (by omega)
  have e_3 := i_add (a := 30 * x1) (b := x3) (by omega) (by omega)
  refine tp_if ⟨by omega, by omega⟩ (fun g1 => ?_)
  refine tp_if ⟨by omega, by omega⟩ (fun g2 => ?_)
  refine tp_let (fun u3 e => ?_)
  subst e
  have hcol := (mS_at hM (i := 13 + x3) (by omega) (by omega) (by omega)).2.2
  have i1 := fm_ixN (13 + x3) (by omega)
  have i2 := fm_ixN (30 * x1 + x3) (by omega)
  exact ih x1 a2 (x3 + 1) u0 _ ha p1 p2 (by omega) (by omega) (by omega) (mS_A hM (by omega)) (mK_A hk (by decide) (by decide)) (mJ_ag hc (fun q => hcol (by omega)))
theorem jT118 {x1 : Int32} {a2 : Nat} {u : fm} (ha : a2 = 252 ∨ a2 = 251) (p1 : 0 ≤ x1.toInt) (p2 : x1.toInt ≤ 1) (hM : mS u a2 0) (hc : mJ s n m B W u) : fm_tp (fun p => mJ s n m B W p ∧ mK u p) (jF118 x1 a2 u) := by
  unfold jF118
  have l_12 : (12 : Int32).toInt = 12 := rfl
  have l_0 : (0 : Int32).toInt = 0 := rfl
  have kl : fm_ln a2 = 50 := by rcases ha with rfl | rfl <;> rfl
  refine tp_if ⟨by omega, by omega⟩ (fun g1 => ?_)
  refine tp_if ⟨by omega, by omega⟩ (fun g2 => ?_)
  refine tp_let (fun u3 e => ?_)
  subst e
  have hcol := (hM 12 (by rw [l_0]; decide) (by rw [l_0]; decide)).2.1 rfl
  exact jT118_12 fm_N x1 a2 0 u _ ha p1 p2 (by decide) (by decide) (by decide) (mS_A hM (by omega)) (mK_A (mK_rf u) (by decide) (by decide)) (mJ_ac hc hcol)
/-- take -/
theorem jT128_2 : ∀ (f : Nat) (x1 x2 : Int32) (u : fm) (p1 : 0 ≤ x1.toInt) (p2 : x1.toInt ≤ 60) (v0 : 0 ≤ x2.toInt) (hm : 2147483648 - x2.toInt < (f : Int)) (hp : 0 < (f : Int)) (hZ : ∀ k : Nat, (k : Int) < x2.toInt → mCol k (fA u 251 k)) (hF : fI u 223 1 = fI W 223 1) (hc : mJ s n m B W u), fm_tp (fun p => mJ s n m B W p ∧ mS p 251 0 ∧ fI p 223 1 = fI W 223 1) (jF128_2 f x1 x2 u) := by
  intro f
  induction f with
  | zero => intros; omega
  | succ f ih =>
  intro x1 x2 u p1 p2 v0 hm hp hZ hF hc
  unfold jF128_2
  have l_50 : (50 : Int32).toInt = 50 := rfl
  have l_0 : (0 : Int32).toInt = 0 := rfl
  have l_1 : (1 : Int32).toInt = 1 := rfl
  have e_0 := i_mull (a := 50) (b := x1) (k := 50) rfl (by omega) (by omega)
  refine tp_ite (fun c => ?_) (fun c => ?_)
  · have d := i_lt c
    have e_1 := i_add (a := 50 * x1) (b := x2) (by omega) (by omega)
    have e_2 := i_add (a := x2) (b := 1) (by omega) (by omega)
    have ix := fm_ixN x2 v0
    refine tp_if ⟨by omega, by omega⟩ (fun g1 => ?_)
    refine tp_if ⟨by omega, by omega⟩ (fun g2 => ?_)
    refine tp_let (fun u3 e => ?_)
    subst e
    refine ih x1 (x2 + 1) _ p1 p2 (by omega) (by omega) (by omega) (fun k h1 => ?_) hF (mJ_A hc rfl)
    rw [fA_sA]
    split
    · rename_i e
      rw [e.1]
      exact mCol_ix (mJ_224 hc (fm_in_nat g1)) (by omega) (by omega) (by omega)
    · rename_i e
      exact hZ k (by have : ¬ k = Int32.toNatClampNeg x2 := fun q => e ⟨q, rfl⟩; omega)
  · have d := i_nlt c
    exact tp_some ⟨hc, fun k h1 h2 => hZ k (by omega), hF⟩
theorem jT128 {x1 : Int32} {u : fm} (p1 : 0 ≤ x1.toInt) (p2 : x1.toInt ≤ 60) (hF : fI u 223 1 = fI W 223 1) (hc : mJ s n m B W u) : fm_tp (fun p => mJ s n m B W p ∧ mS p 251 0 ∧ fI p 223 1 = fI W 223 1) (jF128 x1 u) := by
  unfold jF128
  exact jT128_2 fm_N x1 0 u p1 p2 (by decide) (by decide) (by decide) (fun k h2 => absurd h2 (by rw [show (0 : Int32).toInt = 0 from rfl]; omega)) hF hc
theorem jT112 {x1 : Int32} {u : fm} (p1 : 0 ≤ x1.toInt) (p2 : x1.toInt ≤ 1) (hc : mJ s n m B W u) : fm_tp (fun p => mJ s n m B W p.2 ∧ mK u p.2) (jF112 x1 u) := by
  unfold jF112
  refine tp_if ⟨by omega, by omega⟩ (fun g1 => ?_)
  exact tp_some ⟨mJ_A hc rfl, mK_A (mK_rf u) (by decide) (by decide)⟩
theorem jT113 {x1 : Int32} {u : fm} (p1 : 0 ≤ x1.toInt) (p2 : x1.toInt ≤ 1) (hc : mJ s n m B W u) : fm_tp (fun p => mJ s n m B W p.2 ∧ mK u p.2) (jF113 x1 u) := by
  unfold jF113
  refine tp_if ⟨by omega, by omega⟩ (fun g1 => ?_)
  exact tp_some ⟨mJ_A hc rfl, mK_A (mK_rf u) (by decide) (by decide)⟩
/-- sendAck -/
theorem jT126_17 : ∀ (f : Nat) (x1 x4 : Int32) (u : fm) (p1 : 0 ≤ x1.toInt) (p2 : x1.toInt ≤ 1) (v0 : 0 ≤ x4.toInt) (hm : 2147483648 - x4.toInt < (f : Int)) (hp : 0 < (f : Int)) (hM : mS u 252 0) (hc : mJ s n m B W u), fm_tp (fun p => mJ s n m B W p) (jF126_17 f x1 x4 u) := by
  intro f
  induction f with
  | zero => intros; omega
  | succ f ih =>
  intro x1 x4 u p1 p2 v0 hm hp hM hc
  unfold jF126_17
  have l_50 : (50 : Int32).toInt = 50 := rfl
  have l_1 : (1 : Int32).toInt = 1 := rfl
  have l_0 : (0 : Int32).toInt = 0 := rfl
  have e_0 := i_mull (a := 50) (b := x1) (k := 50) rfl (by omega) (by omega)
  refine tp_ite (fun c => ?_) (fun c => ?_)
  · have d := i_lt c
    have e_1 := i_add (a := 50 * x1) (b := x4) (by omega) (by omega)
    have e_2 := i_add (a := x4) (b := 1) (by omega) (by omega)
    refine tp_if ⟨by omega, by omega⟩ (fun g1 => ?_)
    refine tp_if ⟨by omega, by omega⟩ (fun g2 => ?_)
    refine tp_let (fun u3 e => ?_)
    subst e
    exact ih x1 (x4 + 1) _ p1 p2 (by omega) (by omega) (by omega) (mS_A hM (by decide)) (mJ_R hc (by decide) (mCol_ix (mS_at hM (by omega) (by omega) (by omega)) (by omega) (by omega) (by omega)))
  · refine tp_if ⟨by omega, by omega⟩ (fun g1 => ?_)
    refine tp_let (fun u4 e => ?_)
    subst e
    refine tp_bind (jT109 (Or.inl rfl) (by decide) (by decide) (by decide) (mS_A hM (by decide)) (mJ_A hc rfl)) (fun p e h => tp_some h.1)
theorem jT126 {x1 x2 x3 : Int32} {u : fm} (p1 : 0 ≤ x1.toInt) (p2 : x1.toInt ≤ 1) (hc : mJ s n m B W u) : fm_tp (fun p => mJ s n m B W p) (jF126 x1 x2 x3 u) := by
  unfold jF126
  refine tp_if ⟨by omega, by omega⟩ (fun g1 => ?_)
  refine tp_bind (jT111 p1 p2 hc) (fun p e h => ?_)
  exact jT126_17 fm_N x1 0 p p1 p2 (by decide) (by decide) (by decide) h.2.1 h.1
end MC2
