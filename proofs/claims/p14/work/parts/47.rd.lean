section MRd
variable {s n m : Prop} {B : Int} {W : fm}
def rA (u : fm) : Int := (fI u 223 33).toInt
def rZ (u : fm) : Int := (fI u 223 32).toInt
def rS (u : fm) : Prop := 0 ≤ rA u ∧ rA u ≤ rZ u ∧ rZ u ≤ 500
/-- size and the record at hand stay; a fault stays a fault -/
def rF (u p : fm) : Prop := fI p 223 32 = fI u 223 32 ∧ (∀ k, fA p 251 k = fA u 251 k) ∧ (¬ fI u 223 34 = -1 → ¬ fI p 223 34 = -1)
theorem rF_rf (u : fm) : rF u u := ⟨rfl, fun _ => rfl, fun h => h⟩
theorem rF_tr {u v w : fm} (h1 : rF u v) (h2 : rF v w) : rF u w := ⟨h2.1.trans h1.1, fun k => (h2.2.1 k).trans (h1.2.1 k), fun h => h2.2.2 (h1.2.2 h)⟩
def rQ (s n m : Prop) (B : Int) (W u p : fm) : Prop := mJ s n m B W p ∧ rS p ∧ rF u p
theorem rQ_rf {u : fm} (hc : mJ s n m B W u) (hr : rS u) : rQ s n m B W u u := ⟨hc, hr, rF_rf u⟩
theorem rQ_tr {u v w : fm} (h1 : rF u v) (h2 : rQ s n m B W v w) : rQ s n m B W u w := ⟨h2.1, h2.2.1, rF_tr h1 h2.2.2⟩
theorem i_m1 : (-1 : Int32).toInt = -1 := rfl
theorem jT157 {x1 : Int32} {u : fm} (hx : 0 ≤ x1.toInt) (hc : mJ s n m B W u) (hr : rS u) : rQ s n m B W u (jF157 x1 u) ∧ ¬ fI (jF157 x1 u) 223 34 = -1 ∧ fI (jF157 x1 u) 223 33 = fI u 223 33 := by
  unfold jF157 fm_let
  have hx1 : ¬ x1 = -1 := fun q => by rw [q, i_m1] at hx; omega
  by_cases c : fI u 223 34 = -1
  · rw [if_pos c]
    have q : fI (sI u 223 34 x1) 223 34 = x1 := fI_eq
    exact ⟨⟨mJ_I hc (by decide), hr, rfl, fun _ => rfl, fun _ => by rw [q]; exact hx1⟩, by rw [q]; exact hx1, rfl⟩
  · rw [if_neg c]
    have q : fI (sI u 223 34 (fI u 223 34)) 223 34 = fI u 223 34 := fI_eq
    exact ⟨⟨mJ_I hc (by decide), hr, rfl, fun _ => rfl, fun _ => by rw [q]; exact c⟩, by rw [q]; exact c, rfl⟩
theorem rS_at {u : fm} {x : Int32} (hr : rS u) (h0 : 0 ≤ x.toInt) (h1 : x.toInt ≤ rZ u) : rS (sI u 223 33 x) := by
  have q : fI (sI u 223 33 x) 223 33 = x := fI_eq
  unfold rS rA
  rw [q]
  exact ⟨h0, h1, hr.2.2⟩
theorem rQ_at {u : fm} {x : Int32} (hc : mJ s n m B W u) (hr : rS u) (h0 : 0 ≤ x.toInt) (h1 : x.toInt ≤ rZ u) : rQ s n m B W u (sI u 223 33 x) := ⟨mJ_I hc (by decide), rS_at hr h0 h1, rfl, fun _ => rfl, fun h => h⟩
theorem jT160 {x1 : Int32} {u : fm} (hc : mJ s n m B W u) (hr : rS u) : fm_tp (fun p => rQ s n m B W u p) (jF160 x1 u) := by
  unfold jF160
  have hr' := hr
  unfold rS rA rZ at hr'
  refine tp_ite (fun c => ?_) (fun c => tp_some (rQ_rf hc hr))
  have hf := (jT157 (x1 := fI u 223 33) hr'.1 hc hr).1
  refine tp_ite (fun c => ?_) (fun c => tp_let (fun p e => tp_some (e ▸ hf)))
  have d := i_lt c
  refine tp_if ⟨by omega, by omega⟩ (fun g => ?_)
  refine tp_ite (fun c => ?_) (fun c => tp_let (fun p e => tp_some (e ▸ hf)))
  refine tp_let (fun p e => tp_some ?_)
  subst e
  have l_1 : (1 : Int32).toInt = 1 := rfl
  have e_1 := i_add (a := fI u 223 33) (b := 1) (by omega) (by omega)
  exact rQ_at hc hr (by omega) (by unfold rZ; omega)
theorem jT159 {u : fm} (hc : mJ s n m B W u) (hr : rS u) : fm_tp (fun p => rQ s n m B W u p) (jF159 u) := by
  unfold jF159
  exact tp_bind (jT160 hc hr) (fun p e h => tp_some h)
theorem jT161 {x1 x2 : Int32} {u : fm} (hc : mJ s n m B W u) (hr : rS u) : fm_tp (fun p => rQ s n m B W u p.2) (jF161 x1 x2 u) := by
  unfold jF161
  have hr' := hr
  unfold rS rA rZ at hr'
  refine tp_ite (fun c => ?_) (fun c => tp_some (rQ_rf hc hr))
  have hf := (jT157 (x1 := fI u 223 33) hr'.1 hc hr).1
  refine tp_ite (fun c => ?_) (fun c => tp_let (fun p e => tp_some (e ▸ hf)))
  have d := i_lt c
  refine tp_if ⟨by omega, by omega⟩ (fun g => ?_)
  refine tp_ite (fun c => tp_let (fun p e => tp_some (e ▸ hf))) (fun c => ?_)
  refine tp_ite (fun c => tp_let (fun p e => tp_some (e ▸ hf))) (fun c => ?_)
  refine tp_let (fun p e => ?_)
  have l_1 : (1 : Int32).toInt = 1 := rfl
  have e_1 := i_add (a := fI u 223 33) (b := 1) (by omega) (by omega)
  have q : fI p 223 33 = fI u 223 33 + 1 := by rw [← e]; exact fI_eq
  have e_2 := i_sub (a := fI u 223 33 + 1) (b := 1) (by omega) (by omega)
  rw [q]
  refine tp_if ⟨by omega, by omega⟩ (fun g2 => tp_some ?_)
  subst e
  exact rQ_at hc hr (by omega) (by unfold rZ; omega)
/-- number -/
def rN (x3 x4 : Int32) : Prop := 0 ≤ x3.toInt ∧ x3.toInt < 1000000000 ∧ 0 ≤ x4.toInt ∧ (x4.toInt ≤ 9 → x3.toInt < mP (x4.toInt.toNat + 1))
theorem jT162_102 {x1 x2 x3 x4 : Int32} {u : fm} (h2 : 0 ≤ x2.toInt) (h2' : x2.toInt ≤ rZ u) (hx4 : 1 < x4.toInt → x2.toInt < rZ u) (hn : rN x3 x4) (hc : mJ s n m B W u) (hr : rS u) : fm_tp (fun p => rQ s n m B W u p.2 ∧ 0 ≤ p.1.toInt ∧ p.1.toInt < 1000000000) (jF162_102 x1 x2 x3 x4 u) := by
  unfold jF162_102
  have hf := (jT157 (x1 := x2) h2 hc hr).1
  have hr' := hr
  unfold rS at hr'
  have l_1 : (1 : Int32).toInt = 1 := rfl
  have F : fm_tp (fun p => rQ s n m B W u p.2 ∧ 0 ≤ p.1.toInt ∧ p.1.toInt < 1000000000) (fm_let (jF157 x2 u) (fun p1 => some (x3, p1))) := tp_let (fun p e => tp_some ⟨e ▸ hf, hn.1, hn.2.1⟩)
  have G : fm_tp (fun p => rQ s n m B W u p.2 ∧ 0 ≤ p.1.toInt ∧ p.1.toInt < 1000000000) (some (x3, u)) := tp_some ⟨rQ_rf hc hr, hn.1, hn.2.1⟩
  refine tp_ite (fun c => ?_) (fun c => G)
  refine tp_ite (fun c => F) (fun c => ?_)
  refine tp_ite (fun c => F) (fun c => ?_)
  refine tp_ite (fun c => ?_) (fun c => ?_)
  · have d := i_lt c
    have := hx4 (by omega)
    exact tp_if ⟨by omega, by omega⟩ (fun _ => tp_ite (fun _ => F) (fun _ => tp_ite (fun _ => F) (fun _ => G)))
  · exact tp_ite (fun _ => F) (fun _ => G)
theorem jT162_10 : ∀ (f : Nat) (x1 x2 x3 x4 : Int32) (u0 u : fm) (h2 : 0 ≤ x2.toInt) (h3 : x2.toInt + x4.toInt = rA u) (hf : rZ u - rA u < (f : Int)) (hn : rN x3 x4) (hF : rF u0 u) (hc : mJ s n m B W u) (hr : rS u), fm_tp (fun p => rQ s n m B W u0 p.2 ∧ 0 ≤ p.1.toInt ∧ p.1.toInt < 1000000000) (jF162_10 f x1 x2 x3 x4 u) := by
  intro f
  induction f with
  | zero => intro x1 x2 x3 x4 u0 u h2 h3 hf hn hF hc hr; unfold rS at hr; omega
  | succ f ih =>
  intro x1 x2 x3 x4 u0 u h2 h3 hf hn hF hc hr
  have hr' := hr
  unfold rS at hr'
  have E : fm_tp (fun p => rQ s n m B W u0 p.2 ∧ 0 ≤ p.1.toInt ∧ p.1.toInt < 1000000000) (jF162_102 x1 x2 x3 x4 u) := tp_mono (jT162_102 h2 (by have := hn.2.2.1; omega) (fun q => by omega) hn hc hr) (fun p hp => ⟨rQ_tr hF hp.1, hp.2⟩)
  unfold jF162_10
  simp only [rA, rZ] at h3 hf hr'
  have l_1 : (1 : Int32).toInt = 1 := rfl
  have l_9 : (9 : Int32).toInt = 9 := rfl
  have l_48 : (48 : Int32).toInt = 48 := rfl
  have l_57 : (57 : Int32).toInt = 57 := rfl
  refine tp_ite (fun c => ?_) (fun c => E)
  refine tp_ite (fun c => ?_) (fun c => E)
  have d := i_lt c
  refine tp_if ⟨by omega, by omega⟩ (fun g => ?_)
  refine tp_ite (fun c => E) (fun c => ?_)
  have d1 := i_nlt c
  refine tp_ite (fun c => E) (fun c => ?_)
  have d2 := i_nlt c
  have e_1 := i_add (a := fI u 223 33) (b := 1) (by omega) (by omega)
  have hat := rQ_at (x := fI u 223 33 + 1) hc hr (by omega) (by unfold rZ; omega)
  have hz : rA (sI u 223 33 (fI u 223 33 + 1)) = (fI u 223 33 + 1).toInt := by unfold rA; rw [fI_eq]
  have hz2 : rZ (sI u 223 33 (fI u 223 33 + 1)) = (fI u 223 32).toInt := rfl
  have n4 := hn.2.2.1
  have e_2 := i_add (a := x4) (b := 1) (by omega) (by omega)
  refine tp_ite (fun c => ?_) (fun c => ?_)
  · have d3 := i_lt c
    have n5 := hn.2.2.2 (by omega)
    have t := mP_all x4.toInt.toNat (by omega)
    have t3 := t.2.2.2
    have hb : x3.toInt < 100000000 ∨ x4.toInt.toNat = 9 := by
      by_cases q : x4.toInt.toNat < 9
      · have t4 := (mP_all (x4.toInt.toNat + 1) (by omega)).2.2.1
        have t5 := t3.1 q
        have : mP (x4.toInt.toNat + 1 + 1) = mP (x4.toInt.toNat + 2) := rfl
        left; omega
      · right; omega
    have n1 := hn.1
    have e_3 := i_mull (a := 10) (b := x3) (k := 10) rfl (by omega) (by omega)
    have e_4 := i_add (a := 10 * x3) (b := fA u 253 (Int32.toNatClampNeg (fI u 223 33))) (by omega) (by omega)
    have e_5 := i_sub (a := 10 * x3 + fA u 253 (Int32.toNatClampNeg (fI u 223 33))) (b := 48) (by omega) (by omega)
    refine tp_let (fun p e => ?_)
    subst e
    refine ih x1 x2 _ (x4 + 1) u0 _ h2 (by omega) (by omega) ⟨by omega, by omega, by omega, fun q => ?_⟩ (rF_tr hF hat.2.2) hat.1 hat.2.1
    have t5 := t3.1 (by omega)
    have : (x4 + 1).toInt.toNat + 1 = x4.toInt.toNat + 2 := by omega
    rw [this]
    omega
  · have d3 := i_nlt c
    refine tp_let (fun p e => ?_)
    subst e
    exact ih x1 x2 x3 (x4 + 1) u0 _ h2 (by omega) (by omega) ⟨hn.1, hn.2.1, by omega, fun q => by omega⟩ (rF_tr hF hat.2.2) hat.1 hat.2.1
theorem jT162 {x1 : Int32} {u : fm} (hc : mJ s n m B W u) (hr : rS u) : fm_tp (fun p => rQ s n m B W u p.2 ∧ 0 ≤ p.1.toInt ∧ p.1.toInt < 1000000000) (jF162 x1 u) := by
  unfold jF162
  have hr' := hr
  unfold rS at hr'
  have k_N : ((fm_N : Nat) : Int) = 4294967296 := rfl
  have l_0 : (0 : Int32).toInt = 0 := rfl
  exact jT162_10 fm_N x1 (fI u 223 33) 0 0 u u hr'.1 (by unfold rA; omega) (by omega) ⟨by decide, by decide, by decide, fun _ => by decide⟩ (rF_rf u) hc hr
end MRd
