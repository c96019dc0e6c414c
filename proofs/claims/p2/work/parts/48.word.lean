section MRw
variable {s n m : Prop} {B : Int} {W : fm}
/-- word -/
theorem jT158_74 {k9 : Int32 → Int32 → Int32 → Int32 → fm → Option (Int32 × fm)} {Q : Int32 × fm → Prop} : ∀ (f : Nat) (x1 x2 x3 x4 x5 x6 : Int32) (u : fm) (h2 : x2.toInt ≤ 100) (h4 : 0 ≤ x4.toInt) (h4' : rA u + x4.toInt ≤ rZ u) (h6 : 0 ≤ x6.toInt) (h6' : x6.toInt ≤ 101) (hf : 200 - x6.toInt < (f : Int)) (h5 : ¬ x5 = 0 → rA u + x4.toInt < rZ u) (hc : mJ s n m B W u) (hr : rS u) (hk : ∀ (x5' : Int32) (u' : fm), rQ s n m B W u u' → fI u' 223 33 = fI u 223 33 → (fI u' 223 34 = -1 → rA u + x4.toInt < rZ u) → fm_tp Q (k9 x1 x2 x5' (x4 + 1) u')), fI u 223 34 = -1 → fm_tp Q (jF158_74 f k9 x1 x2 x3 x4 x5 x6 u) := by
  intro f
  induction f with
  | zero => intros; omega
  | succ f ih =>
  intro x1 x2 x3 x4 x5 x6 u h2 h4 h4' h6 h6' hf h5 hc hr hk hw
  unfold jF158_74
  have hr' := hr
  unfold rS at hr'
  simp only [rA, rZ] at h4' h5 hr'
  have l_1 : (1 : Int32).toInt = 1 := rfl
  have e_1 := i_add (a := fI u 223 33) (b := x4) (by omega) (by omega)
  refine tp_ite (fun c => ?_) (fun c => ?_)
  · have d := i_lt c
    have e_2 := i_add (a := x6) (b := 1) (by omega) (by omega)
    have R : ∀ x5' : Int32, (¬ x5' = 0 → (fI u 223 33).toInt + x4.toInt < (fI u 223 32).toInt) → fm_tp Q (jF158_74 f k9 x1 x2 x3 x4 x5' (x6 + 1) u) := fun x5' h => ih x1 x2 x3 x4 x5' (x6 + 1) u h2 h4 h4' (by omega) (by omega) (by omega) h hc hr hk hw
    refine tp_ite (fun c1 => ?_) (fun c1 => R x5 h5)
    have d1 := i_lt c1
    refine tp_ite (fun c2 => ?_) (fun c2 => R x5 h5)
    exact tp_if ⟨by omega, by omega⟩ (fun _ => tp_ite (fun _ => R _ (fun _ => by omega)) (fun _ => R x5 h5))
  · refine tp_ite (fun c1 => ?_) (fun c1 => hk x5 u (rQ_rf hc hr) rfl (fun _ => h5 c1))
    have hq := jT157 (x1 := fI u 223 33 + x4) (by omega) hc hr
    refine tp_let (fun p e => ?_)
    subst e
    exact hk x5 _ hq.1 hq.2.2 (fun q => absurd q hq.2.1)
theorem jT158_20 {k9 : Int32 → Int32 → Int32 → Int32 → fm → Option (Int32 × fm)} {u0 : fm} : ∀ (f : Nat) (x1 x2 x3 x4 x5 : Int32) (u : fm) (h2 : x2.toInt ≤ 100) (h4 : 0 ≤ x4.toInt) (h4' : rA u + x4.toInt ≤ rZ u) (h6 : 0 ≤ x5.toInt) (h6' : x5.toInt ≤ 101) (hf : 200 - x5.toInt < (f : Int)) (hF : rF u0 u) (hc : mJ s n m B W u) (hr : rS u) (hk : ∀ (x5' : Int32) (u' : fm), rQ s n m B W u u' → fI u' 223 33 = fI u 223 33 → (fI u' 223 34 = -1 → rA u + x4.toInt < rZ u) → fm_tp (fun p => rQ s n m B W u0 p.2) (k9 x1 x2 x5' (x4 + 1) u')), fI u 223 34 = -1 → fm_tp (fun p => rQ s n m B W u0 p.2) (jF158_20 f k9 x1 x2 x3 x4 x5 u) := by
  intro f
  induction f with
  | zero => intros; omega
  | succ f ih =>
  intro x1 x2 x3 x4 x5 u h2 h4 h4' h6 h6' hf hF hc hr hk hw
  unfold jF158_20
  have hr' := hr
  unfold rS at hr'
  have h4'' := h4'
  simp only [rA, rZ] at h4' hr'
  have l_1 : (1 : Int32).toInt = 1 := rfl
  have e_1 := i_add (a := fI u 223 33) (b := x4) (by omega) (by omega)
  refine tp_ite (fun c => ?_) (fun c => ?_)
  · have d := i_lt c
    have e_2 := i_add (a := x5) (b := 1) (by omega) (by omega)
    have R := ih x1 x2 x3 x4 (x5 + 1) u h2 h4 h4'' (by omega) (by omega) (by omega) hF hc hr hk hw
    refine tp_ite (fun c1 => ?_) (fun c1 => R)
    refine tp_ite (fun c2 => ?_) (fun c2 => R)
    refine tp_let (fun p e => tp_some ?_)
    subst e
    exact rQ_tr hF (rQ_at hc hr (by omega) (by unfold rZ; omega))
  · exact jT158_74 (s := s) (n := n) (m := m) (B := B) (W := W) fm_N x1 x2 x3 x4 0 0 u h2 h4 h4'' (by decide) (by decide) (by decide) (fun q => absurd rfl q) hc hr hk hw
theorem jT158_9 : ∀ (f : Nat) (x1 x2 x3 x4 : Int32) (u0 u : fm) (h2 : x2.toInt ≤ 100) (h4 : 0 ≤ x4.toInt) (h4' : fI u 223 34 = -1 → rA u + x4.toInt ≤ rZ u) (h4'' : rA u + x4.toInt ≤ 501) (hf : 502 - (rA u + x4.toInt) ≤ (f : Int)) (hF : rF u0 u) (hc : mJ s n m B W u) (hr : rS u), fm_tp (fun p => rQ s n m B W u0 p.2) (jF158_9 f x1 x2 x3 x4 u) := by
  intro f
  induction f with
  | zero => intros; omega
  | succ f ih =>
  intro x1 x2 x3 x4 u0 u h2 h4 h4' h4'' hf hF hc hr
  unfold jF158_9
  have hr' := hr
  unfold rS at hr'
  have l_1 : (1 : Int32).toInt = 1 := rfl
  refine tp_ite (fun c => ?_) (fun c => tp_some ⟨hc, hr, hF⟩)
  have g4 := h4' c
  have e_2 := i_add (a := x4) (b := 1) (by omega) (by omega)
  refine jT158_20 fm_N x1 x2 x3 x4 0 u h2 h4 g4 (by decide) (by decide) (by decide) hF hc hr (fun x5' u' hq ha hw => ?_) c
  have ha' : rA u' = rA u := by unfold rA; rw [ha]
  have hz' : rZ u' = rZ u := by unfold rZ; rw [hq.2.2.1]
  exact ih x1 x2 x5' (x4 + 1) u0 u' h2 (by omega) (fun q => by have := hw q; omega) (by omega) (by omega) (rF_tr hF hq.2.2) hq.1 hq.2.1
theorem jT158 {x1 x2 : Int32} {u : fm} (h2 : x2.toInt ≤ 100) (hc : mJ s n m B W u) (hr : rS u) : fm_tp (fun p => rQ s n m B W u p.2) (jF158 x1 x2 u) := by
  unfold jF158
  have hr' := hr
  unfold rS at hr'
  have l_0 : (0 : Int32).toInt = 0 := rfl
  have k_N : ((fm_N : Nat) : Int) = 4294967296 := rfl
  exact jT158_9 fm_N x1 x2 _ 0 u u h2 (by decide) (fun _ => by omega) (by omega) (by omega) (rF_rf u) hc hr
/-- which -/
def rWc (v : Nat) : Bool := match jF165_2 40 (Int32.ofNat v) 0 with
  | some r => decide (0 ≤ r.toInt ∧ r.toInt ≤ 5)
  | none => false
theorem rWc_all : ∀ v, v < 64 → ¬ v = 0 → rWc v = true := by decide +kernel
theorem jF165_more : ∀ (f : Nat) (x0 x1 r : Int32), jF165_2 f x0 x1 = some r → ∀ k, jF165_2 (f + k) x0 x1 = some r := by
  intro f
  induction f with
  | zero => intro x0 x1 r h; unfold jF165_2 at h; cases h
  | succ f ih =>
    intro x0 x1 r h k
    rw [Nat.add_right_comm]
    unfold jF165_2 at h ⊢
    by_cases c : (fm_shr x0 x1 &&& 1) = 0
    · rw [if_pos c] at h ⊢
      exact ih _ _ _ h k
    · rw [if_neg c] at h ⊢
      exact h
theorem jT165 {x0 : Int32} (h0 : 0 < x0.toInt) (h1 : x0.toInt < 64) : fm_tp (fun r => 0 ≤ r.toInt ∧ r.toInt ≤ 5) (jF165 x0) := by
  have e : x0 = Int32.ofNat x0.toInt.toNat := Int32.toInt_inj.mp (by rw [i_nat (by omega)]; omega)
  have h := rWc_all x0.toInt.toNat (by omega) (by omega)
  unfold rWc at h
  rw [← e] at h
  unfold jF165
  cases hq : jF165_2 40 x0 0 with
  | none => rw [hq] at h; cases h
  | some r =>
    rw [hq] at h
    have h2 := jF165_more 40 x0 0 r hq (fm_N - 40)
    rw [show 40 + (fm_N - 40) = fm_N from rfl] at h2
    exact ⟨r, h2, of_decide_eq_true h⟩
theorem rOr_all : ∀ w, w < 6 → ∀ v, v < 2 ^ w → 0 < (Int32.ofNat v ||| fm_shl 1 (Int32.ofNat w)).toInt ∧ (Int32.ofNat v ||| fm_shl 1 (Int32.ofNat w)).toInt < ((2 ^ (w + 1) : Nat) : Int) := by decide +kernel
theorem rOr {x w : Int32} (hx : 0 ≤ x.toInt) (hw : 0 ≤ w.toInt) (hw6 : w.toInt < 6) (hxw : x.toInt < ((2 ^ w.toInt.toNat : Nat) : Int)) : 0 < (x ||| fm_shl 1 w).toInt ∧ (x ||| fm_shl 1 w).toInt < ((2 ^ (w.toInt.toNat + 1) : Nat) : Int) := by
  have e1 : x = Int32.ofNat x.toInt.toNat := Int32.toInt_inj.mp (by have := i_hi x; rw [i_nat (by omega)]; omega)
  have e2 : w = Int32.ofNat w.toInt.toNat := Int32.toInt_inj.mp (by rw [i_nat (by omega)]; omega)
  have h := rOr_all w.toInt.toNat (by omega) x.toInt.toNat (by omega)
  rw [← e1, ← e2] at h
  exact h
/-- name -/
theorem jT164_18 {k5 : Int32 → Int32 → fm → Option (Int32 × fm)} {u0 : fm} : ∀ (f : Nat) (x1 x2 x3 x4 : Int32) (u : fm) (h2 : 0 ≤ x2.toInt) (h2' : rA u + x2.toInt ≤ rZ u) (h4 : 0 ≤ x4.toInt) (h4' : x4.toInt ≤ 6) (hf : 7 - x4.toInt ≤ (f : Int)) (h3 : 0 ≤ x3.toInt ∧ x3.toInt < ((2 ^ x4.toInt.toNat : Nat) : Int)) (h5 : ¬ x3 = 0 → rA u + x2.toInt < rZ u) (hF : rF u0 u) (hc : mJ s n m B W u) (hr : rS u) (hk : ∀ (x3' : Int32) (u' : fm), rQ s n m B W u u' → fI u' 223 33 = fI u 223 33 → (fI u' 223 34 = -1 → rA u + x2.toInt < rZ u) → fm_tp (fun p => rQ s n m B W u0 p.2 ∧ 0 ≤ p.1.toInt ∧ p.1.toInt ≤ 5) (k5 x3' (x2 + 1) u')), fI u 223 34 = -1 → fm_tp (fun p => rQ s n m B W u0 p.2 ∧ 0 ≤ p.1.toInt ∧ p.1.toInt ≤ 5) (jF164_18 f k5 x1 x2 x3 x4 u) := by
  intro f
  induction f with
  | zero => intros; omega
  | succ f ih =>
  intro x1 x2 x3 x4 u h2 h2' h4 h4' hf h3 h5 hF hc hr hk hw
  unfold jF164_18
  have hr' := hr
  unfold rS at hr'
  have g2 := h2'
  simp only [rA, rZ] at h2' h5 hr'
  have l_1 : (1 : Int32).toInt = 1 := rfl
  have l_0 : (0 : Int32).toInt = 0 := rfl
  have l_6 : (6 : Int32).toInt = 6 := rfl
  have e_1 := i_add (a := fI u 223 33) (b := x2) (by omega) (by omega)
  refine tp_ite (fun c => ?_) (fun c => ?_)
  · have d := i_lt c
    have e_2 := i_add (a := x4) (b := 1) (by omega) (by omega)
    have e_3 : (x4 + 1).toInt.toNat = x4.toInt.toNat + 1 := by omega
    have e_4 : ((2 ^ x4.toInt.toNat : Nat) : Int) ≤ ((2 ^ (x4.toInt.toNat + 1) : Nat) : Int) := by
      have : 2 ^ x4.toInt.toNat ≤ 2 ^ (x4.toInt.toNat + 1) := Nat.pow_le_pow_right (by decide) (by omega)
      omega
    have R : ∀ x3' : Int32, (0 ≤ x3'.toInt ∧ x3'.toInt < ((2 ^ (x4.toInt.toNat + 1) : Nat) : Int)) → (¬ x3' = 0 → (fI u 223 33).toInt + x2.toInt < (fI u 223 32).toInt) → fm_tp (fun p => rQ s n m B W u0 p.2 ∧ 0 ≤ p.1.toInt ∧ p.1.toInt ≤ 5) (jF164_18 f k5 x1 x2 x3' (x4 + 1) u) := fun x3' a1 h => ih x1 x2 x3' (x4 + 1) u h2 g2 (by omega) (by omega) (by omega) (by rw [e_3]; exact a1) h hF hc hr hk hw
    have R3 := R x3 ⟨h3.1, by omega⟩ h5
    refine tp_ite (fun c1 => ?_) (fun c1 => R3)
    have d1 := i_lt c1
    refine tp_ite (fun c2 => ?_) (fun c2 => R3)
    have o := rOr h3.1 h4 (by omega) h3.2
    exact tp_if ⟨by omega, by omega⟩ (fun _ => tp_ite (fun _ => R _ ⟨by omega, o.2⟩ (fun _ => by omega)) (fun _ => R3))
  · have d := i_nlt c
    refine tp_ite (fun c1 => ?_) (fun c1 => ?_)
    · have hq := jT157 (x1 := fI u 223 33 + x2) (by omega) hc hr
      refine tp_let (fun p e => ?_)
      subst e
      exact hk x3 _ hq.1 hq.2.2 (fun q => absurd q hq.2.1)
    · have g5 := h5 c1
      have d1 := i_ne c1
      have h64 : ((2 ^ x4.toInt.toNat : Nat) : Int) = 64 := by
        have : x4.toInt.toNat = 6 := by omega
        rw [this]; rfl
      refine tp_if ⟨by omega, by omega⟩ (fun _ => tp_ite (fun _ => ?_) (fun _ => hk x3 u (rQ_rf hc hr) rfl (fun _ => g5)))
      refine tp_bind (jT165 (by omega) (by omega)) (fun r er h => tp_some ⟨⟨hc, hr, hF⟩, h⟩)
theorem jT164_5 : ∀ (f : Nat) (x1 x2 : Int32) (u0 u : fm) (h4 : 0 ≤ x2.toInt) (h4' : fI u 223 34 = -1 → rA u + x2.toInt ≤ rZ u) (h4'' : rA u + x2.toInt ≤ 501) (hf : 502 - (rA u + x2.toInt) ≤ (f : Int)) (hF : rF u0 u) (hc : mJ s n m B W u) (hr : rS u), fm_tp (fun p => rQ s n m B W u0 p.2 ∧ 0 ≤ p.1.toInt ∧ p.1.toInt ≤ 5) (jF164_5 f x1 x2 u) := by
  intro f
  induction f with
  | zero => intros; omega
  | succ f ih =>
  intro x1 x2 u0 u h4 h4' h4'' hf hF hc hr
  unfold jF164_5
  have hr' := hr
  unfold rS at hr'
  have l_1 : (1 : Int32).toInt = 1 := rfl
  refine tp_ite (fun c => ?_) (fun c => tp_some ⟨⟨hc, hr, hF⟩, show 0 ≤ (0 : Int32).toInt by decide, show (0 : Int32).toInt ≤ 5 by decide⟩)
  have g4 := h4' c
  have e_2 := i_add (a := x2) (b := 1) (by omega) (by omega)
  refine jT164_18 fm_N x1 x2 0 0 u h4 g4 (by decide) (by decide) (by decide) (by decide) (fun q => absurd rfl q) hF hc hr (fun x5' u' hq ha hw => ?_) c
  have ha' : rA u' = rA u := by unfold rA; rw [ha]
  have hz' : rZ u' = rZ u := by unfold rZ; rw [hq.2.2.1]
  exact ih x5' (x2 + 1) u0 u' (by omega) (fun q => by have := hw q; omega) (by omega) (by omega) (rF_tr hF hq.2.2) hq.1 hq.2.1
theorem jT164 {u : fm} (hc : mJ s n m B W u) (hr : rS u) : fm_tp (fun p => rQ s n m B W u p.2 ∧ 0 ≤ p.1.toInt ∧ p.1.toInt ≤ 5) (jF164 u) := by
  unfold jF164
  have hr' := hr
  unfold rS at hr'
  have l_0 : (0 : Int32).toInt = 0 := rfl
  have k_N : ((fm_N : Nat) : Int) = 4294967296 := rfl
  exact jT164_5 fm_N 63 0 u u (by decide) (fun _ => by omega) (by omega) (by omega) (rF_rf u) hc hr
end MRw
