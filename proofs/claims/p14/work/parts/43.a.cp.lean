/-! the model's loops that copy -/
section MC
variable {s n m : Prop} {B : Int} {W : fm}
/-- keepAgain -/
theorem jT119_2 : ∀ (f : Nat) (x1 x2 : Int32) (u0 u : fm) (p1 : 0 ≤ x1.toInt) (p2 : x1.toInt ≤ 1) (v0 : 0 ≤ x2.toInt) (hm : 2147483648 - x2.toInt < (f : Int)) (hp : 0 < (f : Int)) (hM : mS u 252 0) (hk : mK u0 u) (hc : mJ s n m B W u), fm_tp (fun p => mJ s n m B W p ∧ mK u0 p) (jF119_2 f x1 x2 u) := by
  intro f
  induction f with
  | zero => intros; omega
  | succ f ih =>
  intro x1 x2 u0 u p1 p2 v0 hm hp hM hk hc
  unfold jF119_2
  have l_50 : (50 : Int32).toInt = 50 := rfl
  have l_1 : (1 : Int32).toInt = 1 := rfl
  have l_0 : (0 : Int32).toInt = 0 := rfl
  have e_0 := i_mull (a := 50) (b := x1) (k := 50) rfl (by omega) (by omega)
  refine tp_ite (fun c => ?_) (fun c => tp_some ⟨hc, hk⟩)
  have d := i_lt c
  have e_1 := i_add (a := 50 * x1) (b := x2) (by omega) (by omega)
  have e_2 := i_add (a := x2) (b := 1) (by omega) (by omega)
  refine tp_if ⟨by omega, by omega⟩ (fun g1 => ?_)
  refine tp_if ⟨by omega, by omega⟩ (fun g2 => ?_)
  refine tp_let (fun u3 e => ?_)
  subst e
  exact ih x1 (x2 + 1) u0 _ p1 p2 (by omega) (by omega) (by omega) (mS_A hM (by decide)) (mK_A hk (by decide) (by decide)) (mJ_R hc (by decide) (mCol_ix (mS_at hM (by omega) (by omega) (by omega)) (by omega) (by omega) (by omega)))
theorem jT119 {x1 : Int32} {u : fm} (p1 : 0 ≤ x1.toInt) (p2 : x1.toInt ≤ 1) (hM : mS u 252 0) (hc : mJ s n m B W u) : fm_tp (fun p => mJ s n m B W p ∧ mK u p) (jF119 x1 u) := by
  unfold jF119
  exact jT119_2 fm_N x1 0 u u p1 p2 (by decide) (by decide) (by decide) hM (mK_rf u) hc
/-- drop -/
theorem jT110_15 : ∀ (f : Nat) (x2 : Int32) (u0 u : fm) (v0 : 0 ≤ x2.toInt) (v1 : (fI u 223 1).toInt ≤ 59) (hm : 2147483648 - x2.toInt < (f : Int)) (hp : 0 < (f : Int)) (hk : mK u0 u) (hF : fI u 223 1 = fI u0 223 1 - 1) (hc : mJ s n m B W u), fm_tp (fun p => mJ s n m B W p ∧ mK u0 p ∧ fI p 223 1 = fI u0 223 1 - 1) (jF110_15 f x2 u) := by
  intro f
  induction f with
  | zero => intros; omega
  | succ f ih =>
  intro x2 u0 u v0 v1 hm hp hk hF hc
  unfold jF110_15
  have l_50 : (50 : Int32).toInt = 50 := rfl
  have l_1 : (1 : Int32).toInt = 1 := rfl
  have kf := mJ_fl hc
  have e_0 := i_mull (a := 50) (b := fI u 223 1) (k := 50) rfl (by omega) (by omega)
  refine tp_ite (fun c => ?_) (fun c => tp_some ⟨hc, hk, hF⟩)
  have d := i_lt c
  have e_1 := i_add (a := x2) (b := 50) (by omega) (by omega)
  have e_2 := i_add (a := x2) (b := 1) (by omega) (by omega)
  refine tp_if ⟨by omega, by omega⟩ (fun g1 => ?_)
  refine tp_if ⟨by omega, by omega⟩ (fun g2 => ?_)
  refine tp_let (fun u3 e => ?_)
  subst e
  exact ih (x2 + 1) u0 _ (by omega) v1 (by omega) (by omega) (mK_A hk (by decide) (by decide)) hF (mJ_R hc (by decide) (mCol_ix (mJ_224 hc (fm_in_nat g1)) (by omega) (by omega) (by omega)))
theorem jT110 {x1 : Int32} {u : fm} (p1 : 0 ≤ x1.toInt) (p2 : x1.toInt ≤ 60) (p3 : 1 ≤ (fI u 223 1).toInt) (hc : mJ s n m B W u) : fm_tp (fun p => mJ s n m B W p ∧ mK u p ∧ fI p 223 1 = fI u 223 1 - 1) (jF110 x1 u) := by
  unfold jF110
  refine tp_let (fun u1 e => ?_)
  subst e
  have kf := mJ_fl hc
  have l_50 : (50 : Int32).toInt = 50 := rfl
  have l_1 : (1 : Int32).toInt = 1 := rfl
  have e_0 := i_mull (a := 50) (b := x1) (k := 50) rfl (by omega) (by omega)
  have e_1 := i_sub (a := fI u 223 1) (b := 1) (by omega) (by omega)
  have k_N : ((fm_N : Nat) : Int) = 4294967296 := rfl
  have e_2 : fI (sI u 223 1 (fI u 223 1 - 1)) 223 1 = fI u 223 1 - 1 := fI_eq
  exact jT110_15 fm_N (50 * x1) u _ (by omega) (by rw [e_2]; omega) (by omega) (by omega) (mK_I (mK_rf u)) e_2 (mJ_fly hc ⟨by omega, by omega⟩)
/-- fly -/
theorem jT109_16 : ∀ (f : Nat) (a1 : Nat) (x2 x3 : Int32) (u0 u : fm) (ha : a1 = 252 ∨ a1 = 244 ∨ a1 = 245) (hl : x2.toInt + 50 ≤ (fm_ln a1 : Int)) (p1 : 0 ≤ x2.toInt) (p2 : x2.toInt % 50 = 0) (v0 : 0 ≤ x3.toInt) (v1 : (fI u 223 1).toInt ≤ 59) (hm : 2147483648 - x3.toInt < (f : Int)) (hp : 0 < (f : Int)) (hM : mS u a1 x2) (hk : mK u0 u) (hc : mJ s n m B W u), fm_tp (fun p => mJ s n m B W p ∧ mK u0 p) (jF109_16 f a1 x2 x3 u) := by
  intro f
  induction f with
  | zero => intros; omega
  | succ f ih =>
  intro a1 x2 x3 u0 u ha hl p1 p2 v0 v1 hm hp hM hk hc
  unfold jF109_16
  have l_50 : (50 : Int32).toInt = 50 := rfl
  have l_1 : (1 : Int32).toInt = 1 := rfl
  have kf := mJ_fl hc
  have kl := fm_ln_lt a1
  have e_0 := i_mull (a := 50) (b := fI u 223 1) (k := 50) rfl (by omega) (by omega)
  refine tp_ite (fun c => ?_) (fun c => ?_)
  · have d := i_lt c
    have e_1 := i_add (a := x2) (b := x3) (by omega) (by omega)
    have e_2 := i_add (a := x3) (b := 1) (by omega) (by omega)
    have e_3 := i_add (a := 50 * fI u 223 1) (b := x3) (by omega) (by omega)
    refine tp_if ⟨by omega, by omega⟩ (fun g1 => ?_)
    refine tp_if ⟨by omega, by omega⟩ (fun g2 => ?_)
    refine tp_let (fun u3 e => ?_)
    subst e
    exact ih a1 x2 (x3 + 1) u0 _ ha hl p1 p2 (by omega) v1 (by omega) (by omega) (mS_A hM (by omega)) (mK_A hk (by decide) (by decide)) (mJ_R hc (by decide) (mCol_ix (mS_at hM (by omega) (by omega) (by omega)) (by omega) (by omega) (by omega)))
  · refine tp_let (fun u1 e => ?_)
    subst e
    have e_1 := i_add (a := x2) (b := 1) (by omega) (by omega)
    have e_2 := i_add (a := fI u 223 1) (b := 1) (by omega) (by omega)
    refine tp_if ⟨by omega, by omega⟩ (fun g1 => ?_)
    have hG := (mS_at hM (i := x2 + 1) (by omega) (by omega) (by omega)).1 (by have := fm_ixN (x2 + 1) (by omega); omega)
    have hG2 : 0 ≤ (fA (sI u 223 1 (fI u 223 1 + 1)) a1 (Int32.toNatClampNeg (x2 + 1))).toInt ∧ (fA (sI u 223 1 (fI u 223 1 + 1)) a1 (Int32.toNatClampNeg (x2 + 1))).toInt ≤ 1 := hG
    have e_3 := i_sub (a := 1) (b := fA (sI u 223 1 (fI u 223 1 + 1)) a1 (Int32.toNatClampNeg (x2 + 1))) (by omega) (by omega)
    refine tp_if ⟨by omega, by omega⟩ (fun g2 => ?_)
    refine tp_let (fun u4 e => ?_)
    subst e
    exact tp_some ⟨mJ_A (mJ_fly hc ⟨by omega, by omega⟩) rfl, mK_A (mK_I hk) (by decide) (by decide)⟩
theorem jT109 {a1 : Nat} {x2 : Int32} {u : fm} (ha : a1 = 252 ∨ a1 = 244 ∨ a1 = 245) (hl : x2.toInt + 50 ≤ (fm_ln a1 : Int)) (p1 : 0 ≤ x2.toInt) (p2 : x2.toInt % 50 = 0) (hM : mS u a1 x2) (hc : mJ s n m B W u) : fm_tp (fun p => mJ s n m B W p ∧ mK u p) (jF109 a1 x2 u) := by
  unfold jF109
  have kf := mJ_fl hc
  have l_60 : (60 : Int32).toInt = 60 := rfl
  have l_1 : (1 : Int32).toInt = 1 := rfl
  refine tp_ite (fun c => ?_) (fun c => ?_)
  · have d := i_eq c
    refine tp_bind (jT110 (by decide) (by decide) (by omega) hc) (fun z ez hz => ?_)
    have e_1 := i_sub (a := fI u 223 1) (b := 1) (by omega) (by omega)
    have hMz : mS z a1 x2 := by
      rcases ha with rfl | rfl | rfl
      · exact mS_K hM hz.2.1
      · exact mS_244 hz.1 (by have : fm_ln 244 = 100 := rfl; omega)
      · exact mS_245 hz.1 (by have : fm_ln 245 = 100 := rfl; omega)
    exact jT109_16 fm_N a1 x2 0 u z ha hl p1 p2 (by decide) (by rw [hz.2.2]; omega) (by decide) (by decide) hMz hz.2.1 hz.1
  · have d := i_ne c
    exact jT109_16 fm_N a1 x2 0 u u ha hl p1 p2 (by decide) (by omega) (by decide) (by decide) hM (mK_rf u) hc
end MC
