section MRh
variable {s n m : Prop} {B : Int} {W : fm}
/-- the record at hand while it is read: all columns but the lines' count, which is some number -/
def rH (u : fm) : Prop := (∀ k : Nat, k < 50 → ¬ k = 12 → mCol k (fA u 251 k)) ∧ 0 ≤ (fA u 251 12).toInt ∧ (fA u 251 12).toInt < 1000000000
theorem rH_same {u p : fm} (h : rH u) (e : ∀ k, fA p 251 k = fA u 251 k) : rH p := by
  refine ⟨fun k h1 h2 => by rw [e]; exact h.1 k h1 h2, ?_, ?_⟩ <;> rw [e]
  · exact h.2.1
  · exact h.2.2
theorem rH_w {u : fm} {k : Nat} {v : Int32} (h : rH u) (hk : ¬ k = 12) (hv : mCol k v) : rH (sA u 251 k v) := by
  refine ⟨fun i h1 h2 => ?_, ?_, ?_⟩
  · rw [fA_sA]
    split
    · rename_i e; rw [e.1]; exact hv
    · exact h.1 i h1 h2
  · rw [fA_nk (fun e => hk e.symm)]; exact h.2.1
  · rw [fA_nk (fun e => hk e.symm)]; exact h.2.2
theorem rH_12 {u : fm} {v : Int32} (h : rH u) (h0 : 0 ≤ v.toInt) (h1 : v.toInt < 1000000000) : rH (sA u 251 12 v) := by
  refine ⟨fun i h2 h3 => ?_, ?_, ?_⟩
  · rw [fA_nk h3]; exact h.1 i h2 h3
  · rw [fA_eq]; exact h0
  · rw [fA_eq]; exact h1
/-- what a piece of reading leaves -/
def rP (s n m : Prop) (B : Int) (W u p : fm) : Prop := mJ s n m B W p ∧ rS p ∧ rH p ∧ fI p 223 32 = fI u 223 32 ∧ (¬ fI u 223 34 = -1 → ¬ fI p 223 34 = -1)
theorem rP_rf {u : fm} (hc : mJ s n m B W u) (hr : rS u) (hh : rH u) : rP s n m B W u u := ⟨hc, hr, hh, rfl, fun h => h⟩
theorem rP_tr {u v w : fm} (h1 : rP s n m B W u v) (h2 : rP s n m B W v w) : rP s n m B W u w := ⟨h2.1, h2.2.1, h2.2.2.1, h2.2.2.2.1.trans h1.2.2.2.1, fun h => h2.2.2.2.2 (h1.2.2.2.2 h)⟩
theorem rP_q {u p : fm} (hh : rH u) (h : rQ s n m B W u p) : rP s n m B W u p := ⟨h.1, h.2.1, rH_same hh h.2.2.2.1, h.2.2.1, h.2.2.2.2⟩
theorem rP_w {u v : fm} {k : Nat} {x : Int32} (h : rP s n m B W u v) (hk : ¬ k = 12) (hv : mCol k x) : rP s n m B W u (sA v 251 k x) := ⟨mJ_A h.1 rfl, h.2.1, rH_w h.2.2.1 hk hv, h.2.2.2⟩
theorem rP_12 {u v : fm} {x : Int32} (h : rP s n m B W u v) (h0 : 0 ≤ x.toInt) (h1 : x.toInt < 1000000000) : rP s n m B W u (sA v 251 12 x) := ⟨mJ_A h.1 rfl, h.2.1, rH_12 h.2.2.1 h0 h1, h.2.2.2⟩
theorem rP_254 {u v : fm} {k : Nat} {x : Int32} (h : rP s n m B W u v) : rP s n m B W u (sA v 254 k x) := ⟨mJ_A h.1 rfl, h.2.1, rH_same h.2.2.1 (fun k => fA_ne (by decide)), h.2.2.2⟩
theorem rP_at {u v : fm} {x : Int32} (h : rP s n m B W u v) (h0 : 0 ≤ x.toInt) (h1 : x.toInt ≤ rZ v) : rP s n m B W u (sI v 223 33 x) := ⟨mJ_I h.1 (by decide), rS_at h.2.1 h0 h1, h.2.2.1, h.2.2.2⟩
/-- a piece behind another -/
theorem tp_rQ {α : Type} {u v : fm} {x : Option α} {f : α → Option fm} {g : α → fm} (h : rP s n m B W u v) (hx : fm_tp (fun p => rQ s n m B W v (g p)) x) (k : ∀ p, x = some p → rP s n m B W u (g p) → fm_tp (fun p => rP s n m B W u p) (f p)) : fm_tp (fun p => rP s n m B W u p) (Option.bind x f) :=
  tp_bind hx (fun p e hp => k p e (rP_tr h (rP_q h.2.2.1 hp)))
theorem tp_rN {u v : fm} {x : Option (Int32 × fm)} {f : Int32 × fm → Option fm} (h : rP s n m B W u v) (hx : fm_tp (fun p => rQ s n m B W v p.2 ∧ 0 ≤ p.1.toInt ∧ p.1.toInt < 1000000000) x) (k : ∀ p, (0 ≤ p.1.toInt ∧ p.1.toInt < 1000000000) → rP s n m B W u p.2 → fm_tp (fun p => rP s n m B W u p) (f p)) : fm_tp (fun p => rP s n m B W u p) (Option.bind x f) :=
  tp_bind hx (fun p e hp => k p hp.2 (rP_tr h (rP_q h.2.2.1 hp.1)))
theorem jT159e {u v : fm} (h : rP s n m B W u v) : fm_tp (fun p => rP s n m B W u p) (Option.bind (jF159 v) (fun p => some p)) := tp_rQ (g := fun p => p) h (jT159 h.1 h.2.1) (fun p _ hp => tp_some hp)
/-- readHeader -/
theorem jT163_259 : ∀ (f : Nat) (x3 : Int32) (u0 u : fm) (v0 : 0 ≤ x3.toInt) (v1 : x3.toInt ≤ 5) (hf : 6 - x3.toInt ≤ (f : Int)) (h : rP s n m B W u0 u), fm_tp (fun p => rP s n m B W u0 p) (jF163_259 f x3 u) := by
  intro f
  induction f with
  | zero => intros; omega
  | succ f ih =>
  intro x3 u0 u v0 v1 hf h
  unfold jF163_259
  have l_1 : (1 : Int32).toInt = 1 := rfl
  have l_5 : (5 : Int32).toInt = 5 := rfl
  refine tp_ite (fun c => ?_) (fun c => ?_)
  · have d := i_lt c
    have e_1 := i_add (a := x3) (b := 1) (by omega) (by omega)
    exact tp_rQ (g := fun p => p) h (jT160 h.1 h.2.1) (fun p _ hp => ih (x3 + 1) u0 p (by omega) (by omega) (by omega) hp)
  · exact tp_rN h (jT162 h.1 h.2.1) (fun p _ hp => tp_let (fun v e => jT159e (e ▸ rP_w hp (by decide) (mCol_free (by decide)))))
theorem jT163_39 {x1 : Int32} {u : fm} (h0 : 0 ≤ x1.toInt) (h1 : x1.toInt ≤ rZ u) (hc : mJ s n m B W u) (hr : rS u) (hh : rH u) : fm_tp (fun p => rP s n m B W u p) (jF163_39 x1 u) := by
  unfold jF163_39
  refine tp_bind (jT164 hc hr) (fun p1 e1 k1 => ?_)
  have w1 := rP_q hh k1.1
  refine tp_ite (fun c => ?_) (fun c => tp_some w1)
  refine tp_if ⟨k1.2.1, by have := k1.2.2; omega⟩ (fun g => ?_)
  refine tp_ite (fun c => ?_) (fun c => ?_)
  · refine tp_let (fun u3 e3 => tp_let (fun u4 e4 => ?_))
    have w4 : rP s n m B W u u4 := by
      subst e3; subst e4
      have hz : rZ p1.2 = rZ u := by unfold rZ; rw [w1.2.2.2.1]
      exact rP_at (rP_254 w1) h0 (by show x1.toInt ≤ rZ p1.2; omega)
    refine tp_rQ (g := fun p => p.2) w4 (jT158 (by decide) w4.1 w4.2.1) (fun p5 _ w5 => ?_)
    have C : ∀ {i : Nat} {v w : fm} {x : Int32}, rP s n m B W u v → sA v 251 i x = w → (¬ i = 12 ∧ ¬ i % 50 = 1 ∧ ¬ i % 50 = 12 ∧ ¬ i % 50 = 14 ∧ ¬ i % 50 = 24 ∧ ¬ i % 50 = 34) → rP s n m B W u w := fun a b c => b ▸ rP_w a c.1 (mCol_free c.2)
    refine tp_ite (fun c => ?_) (fun c => ?_)
    · refine tp_rQ (g := fun p => p.2) w5 (jT161 w5.1 w5.2.1) (fun p6 _ w6 => tp_let (fun u7 e7 => ?_))
      have w7 := C w6 e7 (by decide)
      refine tp_rQ (g := fun p => p.2) w7 (jT158 (by decide) w7.1 w7.2.1) (fun p8 _ w8 => ?_)
      exact tp_rN w8 (jT162 w8.1 w8.2.1) (fun p9 _ w9 => tp_let (fun v e => jT159e (C w9 e (by decide))))
    refine tp_ite (fun c => ?_) (fun c => ?_)
    · refine tp_rQ (g := fun p => p.2) w5 (jT161 w5.1 w5.2.1) (fun p6 _ w6 => tp_let (fun u7 e7 => ?_))
      have w7 := C w6 e7 (by decide)
      refine tp_rQ (g := fun p => p.2) w7 (jT158 (by decide) w7.1 w7.2.1) (fun p8 _ w8 => ?_)
      exact tp_rN w8 (jT162 w8.1 w8.2.1) (fun p9 _ w9 => tp_let (fun v e => jT159e (C w9 e (by decide))))
    refine tp_ite (fun c => ?_) (fun c => ?_)
    · refine tp_rQ (g := fun p => p.2) w5 (jT161 w5.1 w5.2.1) (fun p6 _ w6 => tp_let (fun u7 e7 => ?_))
      have w7 := C w6 e7 (by decide)
      refine tp_rQ (g := fun p => p) w7 (jT160 w7.1 w7.2.1) (fun p20 _ w20 => tp_let (fun u21 e21 => ?_))
      have w21 := C w20 e21 (by decide)
      refine tp_ite (fun c => ?_) (fun c => jT159e w21)
      have d := i_lt c
      have r21 := w21.2.1
      simp only [rS, rA, rZ] at r21
      refine tp_if ⟨by omega, by omega⟩ (fun _ => tp_ite (fun _ => tp_ite (fun _ => ?_) (fun _ => jT159e w21)) (fun _ => jT159e w21))
      exact jT163_259 fm_N 0 u u21 (by decide) (by decide) (by decide) w21
    refine tp_ite (fun c => ?_) (fun c => ?_)
    · exact tp_rN w5 (jT162 w5.1 w5.2.1) (fun p9 _ w9 => tp_let (fun v e => jT159e (C w9 e (by decide))))
    refine tp_ite (fun c => ?_) (fun c => ?_)
    · refine tp_rN w5 (jT162 w5.1 w5.2.1) (fun p33 _ w33 => tp_let (fun u34 e34 => ?_))
      have w34 := C w33 e34 (by decide)
      refine tp_rQ (g := fun p => p) w34 (jT160 w34.1 w34.2.1) (fun p35 _ w35 => ?_)
      refine tp_rQ (g := fun p => p.2) w35 (jT158 (by decide) w35.1 w35.2.1) (fun p36 _ w36 => tp_let (fun u37 e37 => ?_))
      have w37 := C w36 e37 (by decide)
      refine tp_ite (fun c => ?_) (fun c => jT159e w37)
      refine tp_ite (fun c => ?_) (fun c => jT159e w37)
      refine tp_ite (fun c => jT159e w37) (fun c => tp_let (fun p41 e41 => ?_))
      have r35 := w35.2.1
      simp only [rS, rA, rZ] at r35
      have hq := (jT157 (x1 := fI p35 223 33) r35.1 w37.1 w37.2.1).1
      exact jT159e (e41 ▸ rP_tr w37 (rP_q w37.2.2.1 hq))
    · exact tp_rN w5 (jT162 w5.1 w5.2.1) (fun p9 h9 w9 => tp_let (fun v e => jT159e (e ▸ rP_12 w9 h9.1 h9.2)))
  · refine tp_let (fun p e => tp_some ?_)
    subst e
    exact rP_tr w1 (rP_q w1.2.2.1 (jT157 h0 w1.1 w1.2.1).1)
theorem jT163 {u : fm} (hc : mJ s n m B W u) (hr : rS u) (hh : rH u) : fm_tp (fun p => rP s n m B W u p) (jF163 u) := by
  unfold jF163
  have hr' := hr
  simp only [rS, rA, rZ] at hr'
  have E := jT163_39 (x1 := fI u 223 33) hr'.1 hr'.2.1 hc hr hh
  refine tp_ite (fun c => ?_) (fun c => E)
  have d := i_lt c
  refine tp_if ⟨by omega, by omega⟩ (fun _ => tp_ite (fun _ => tp_let (fun p e => tp_some (e ▸ rP_q hh (jT157 hr'.1 hc hr).1))) (fun _ => E))
/-- readLine -/
theorem jT167_64 : ∀ (f : Nat) (x1 x3 : Int32) (u0 u : fm) (h1 : x1.toInt = 13 ∨ x1.toInt = 23 ∨ x1.toInt = 33) (v0 : 1 ≤ x3.toInt) (v1 : x3.toInt ≤ 8) (hf : 9 - x3.toInt ≤ (f : Int)) (h : rP s n m B W u0 u), fm_tp (fun p => rP s n m B W u0 p) (jF167_64 f x1 x3 u) := by
  intro f
  induction f with
  | zero => intros; omega
  | succ f ih =>
  intro x1 x3 u0 u h1 v0 v1 hf h
  unfold jF167_64
  have l_1 : (1 : Int32).toInt = 1 := rfl
  have l_2 : (2 : Int32).toInt = 2 := rfl
  have l_8 : (8 : Int32).toInt = 8 := rfl
  have e_0 := i_add (a := x1) (b := 1) (by omega) (by omega)
  have e_1 := i_add (a := x1) (b := 2) (by omega) (by omega)
  have e_2 := i_add (a := x1 + 2) (b := x3) (by omega) (by omega)
  have i0 := fm_ixN (x1 + 1) (by omega)
  have i1 := fm_ixN (x1 + 2 + x3) (by omega)
  have r1 := h.2.1
  simp only [rS, rA, rZ] at r1
  have E : fm_tp (fun p => rP s n m B W u0 p) (if fm_in (x1 + 1) 50 then fm_let (sA u 251 (Int32.toNatClampNeg (x1 + 1)) x3) (fun u21 => Option.bind (jF159 u21) (fun p22 => some p22)) else none) := tp_if ⟨by omega, by omega⟩ (fun _ => tp_let (fun v e => jT159e (e ▸ rP_w h (by omega) ⟨fun q => absurd q (by omega), fun q => absurd q (by omega), fun _ => ⟨by omega, by omega⟩⟩)))
  refine tp_ite (fun c => ?_) (fun c => E)
  have d := i_lt c
  refine tp_ite (fun c => ?_) (fun c => E)
  have d1 := i_lt c
  refine tp_if ⟨by omega, by omega⟩ (fun _ => tp_ite (fun _ => tp_ite (fun _ => ?_) (fun _ => E)) (fun _ => E))
  have e_3 := i_add (a := fI u 223 33) (b := 1) (by omega) (by omega)
  have e_4 := i_add (a := x3) (b := 1) (by omega) (by omega)
  refine tp_let (fun v e => ?_)
  have wv : rP s n m B W u0 v := e ▸ rP_at h (by omega) (by unfold rZ; omega)
  refine tp_rQ (g := fun p => p.2) wv (jT161 wv.1 wv.2.1) (fun p24 _ w24 => ?_)
  refine tp_if ⟨by omega, by omega⟩ (fun _ => tp_let (fun w e2 => ?_))
  exact ih x1 (x3 + 1) u0 w h1 (by omega) (by omega) (by omega) (e2 ▸ rP_w w24 (by omega) (mCol_free (by omega)))
theorem jT167 {x1 : Int32} {u : fm} (h1 : x1.toInt = 13 ∨ x1.toInt = 23 ∨ x1.toInt = 33) (hc : mJ s n m B W u) (hr : rS u) (hh : rH u) : fm_tp (fun p => rP s n m B W u p) (jF167 x1 u) := by
  unfold jF167
  have l_2 : (2 : Int32).toInt = 2 := rfl
  have e_1 := i_add (a := x1) (b := 2) (by omega) (by omega)
  have i0 := fm_ixN x1 (by omega)
  have i1 := fm_ixN (x1 + 2) (by omega)
  have w0 := rP_rf hc hr hh
  refine tp_rQ (g := fun p => p) w0 (jT160 hc hr) (fun p1 _ w1 => ?_)
  refine tp_rQ (g := fun p => p) w1 (jT160 w1.1 w1.2.1) (fun p2 _ w2 => ?_)
  refine tp_rN w2 (jT162 w2.1 w2.2.1) (fun p3 _ w3 => ?_)
  refine tp_rQ (g := fun p => p) w3 (jT160 w3.1 w3.2.1) (fun p4 _ w4 => ?_)
  refine tp_rQ (g := fun p => p.2) w4 (jT161 w4.1 w4.2.1) (fun p5 _ w5 => ?_)
  refine tp_ite (fun c => ?_) (fun c => tp_some w5)
  refine tp_if ⟨by omega, by omega⟩ (fun _ => tp_let (fun u7 e7 => ?_))
  have w7 : rP s n m B W u u7 := e7 ▸ rP_w w5 (by omega) (mCol_free (by omega))
  refine tp_if ⟨by omega, by omega⟩ (fun _ => tp_let (fun u9 e9 => ?_))
  have w9 : rP s n m B W u u9 := e9 ▸ rP_w w7 (by omega) (mCol_free (by omega))
  exact jT167_64 fm_N x1 1 u u9 h1 (by decide) (by decide) (by decide) w9
end MRh
