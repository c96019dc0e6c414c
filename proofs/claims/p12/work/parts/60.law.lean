/-! THE LAW of p12: the collected length is the model's size -/
def lS (a j : Nat) : Prop := a = 213 ∧ j = 1
theorem lS_sub : fm_sub lS := fun _ _ h => Or.inl h
def lI (B : Int) (u : fm) : Prop := mJ True False False B u u ∧ 0 ≤ rZ u ∧ rZ u ≤ 500 ∧ fI u 213 1 = fI u 223 32
theorem cl_mJ {S : Nat → Nat → Prop} {s n m s' n' m' : Prop} {B : Int} {W u v : fm} (h : mJ s n m B W u) (hc : fm_cl S u v) : mJ s' n' m' B v v := by
  have hI : ∀ k, fI v 223 k = fI u 223 k := fun k => hc.1 223 k (Or.inl (by decide))
  have hJ : ∀ k, fJ v 223 k = fJ u 223 k := fun k => (hc.2 223 k (by decide)).1
  have hA : ∀ a k, 223 ≤ a → fA v a k = fA u a k := fun a k q => (hc.2 a k q).2.1
  have hG : ∀ a k, 223 ≤ a → fG v a k = fG u a k := fun a k q => (hc.2 a k q).2.2
  obtain ⟨⟨-, -, -, -, g5, g6, g7, g8, g9, g10, g11, g12⟩, t1, t2, t3, t4⟩ := h
  refine ⟨⟨fun _ _ _ => rfl, fun _ => rfl, fun _ => rfl, fun _ _ => rfl, ?_, fun k hk => ?_, fun k hk => ?_, fun k hk => ?_, fun k hk => ?_, fun k hk => ?_, fun k hk => ?_, fun k hk h1 => ?_⟩, ?_, ?_, t3, fun k hk => ?_⟩
  · rw [hI]; exact g5
  · rw [hA _ _ (by decide)]; exact g6 k hk
  · rw [hA _ _ (by decide)]; exact g7 k hk
  · rw [hA _ _ (by decide)]; exact g8 k hk
  · rw [hA _ _ (by decide)]; exact g9 k hk
  · rw [hA _ _ (by decide)]; exact g10 k hk
  · rw [hA _ _ (by decide)]; exact g11 k hk
  · rw [hA _ _ (by decide)]; exact g12 k hk h1
  · rw [hJ]; exact t1
  · rw [hJ]; exact t2
  · rw [hG _ _ (by decide), hG _ _ (by decide), hG _ _ (by decide)]; exact t4 k hk
/-- a call of both that leaves length and size -/
theorem lI_step {B B' : Int} {u v w : fm} (h : lI B u) (hc : fm_cl lS u v) (hw : mJ True False False B' v w) : lI B' w := by
  have e1 : fI w 223 32 = fI u 223 32 := (hw.1.2.1 trivial).trans (hc.1 223 32 (Or.inl (by decide)))
  have e2 : fI w 213 1 = fI u 213 1 := (hw.1.1 213 1 (by decide)).trans (hc.1 213 1 (Or.inr ⟨rfl, rfl⟩))
  refine ⟨mJ_rx hw, ?_, ?_, by rw [e1, e2]; exact h.2.2.2⟩ <;> unfold rZ <;> rw [e1]
  · exact h.2.1
  · exact h.2.2.1
theorem lI_up {B B' : Int} {u : fm} (h : lI B u) (hB : B ≤ B') (hB' : B' ≤ 1000000000) : lI B' u := ⟨mJ_up h.1 hB hB', h.2⟩
/-- unit -/
theorem lU_a {x : Int32} {u : fm} (h0 : 0 ≤ (fI u 213 1).toInt) (h1 : (fI u 213 1).toInt < 500) : jF73 213 x u = some (1, sI (sA u 214 (Int32.toNatClampNeg (fI u 213 1)) (vp_nar .char (fm_i2c x))) 213 1 (fI u 213 1 + 1)) := by
  unfold jF73 fm_let
  have ln : fm_ln (213 + 1) = 500 := rfl
  have l_0 : (0 : Int32).toInt = 0 := rfl
  have l_6 : (Int32.ofNat 500).toInt = 500 := rfl
  rw [if_neg (fun q => by have := i_lt q; omega), ln, if_pos (Int32.lt_iff_toInt_lt.mpr (by omega)), if_pos ⟨h0, h1⟩]
  rfl
theorem lU_b {x : Int32} {u : fm} (h1 : (fI u 213 1).toInt = 500) : jF73 213 x u = some (0, u) := by
  unfold jF73
  have ln : fm_ln (213 + 1) = 500 := rfl
  have l_0 : (0 : Int32).toInt = 0 := rfl
  have l_6 : (Int32.ofNat 500).toInt = 500 := rfl
  rw [if_neg (fun q => by have := i_lt q; omega), ln, if_neg (fun q => by have := i_lt q; omega)]
theorem lU_c {x : Int32} {u : fm} (h0 : 0 ≤ (fI u 223 32).toInt) (h1 : (fI u 223 32).toInt < 500) : jF156_18 x u = some (1, sI (sA u 253 (Int32.toNatClampNeg (fI u 223 32)) x) 223 32 (fI u 223 32 + 1)) := by
  unfold jF156_18 fm_let
  have l_6 : (500 : Int32).toInt = 500 := rfl
  rw [if_neg (fun q => by have := i_eq q; omega), if_pos ⟨h0, h1⟩]
  rfl
theorem lU_d {x : Int32} {u : fm} (h1 : (fI u 223 32).toInt = 500) : jF156_18 x u = some (0, u) := by
  unfold jF156_18
  rw [if_pos (Int32.toInt_inj.mp h1)]
theorem fI_sA {u : fm} {a k b i : Nat} {v : Int32} : fI (sA u a k v) b i = fI u b i := rfl
theorem lI_mk {s n m : Prop} {B : Int} {W w : fm} (hw : mJ s n m B W w) (e : fI w 223 32 = fI w 213 1) (h0 : 0 ≤ rZ w) (h1 : rZ w ≤ 500) : lI B w := ⟨mJ_rx hw, h0, h1, e.symm⟩
theorem lU_k {B : Int} {x : Int32} {u : fm} (h : lI B u) : ∃ p q : Int32 × fm, (Option.bind (jF73 213 x u) (fun p1 => if p1.1 = 0 then (some (0, p1.2)) else (some (1, p1.2)))) = some p ∧ jF156_18 x p.2 = some q ∧ p.1 = q.1 ∧ lI B q.2 := by
  obtain ⟨hc, h0, h1, he⟩ := h
  unfold rZ at h0 h1
  by_cases c : (fI u 223 32).toInt < 500
  · rw [lU_a (by rw [he]; exact h0) (by rw [he]; exact c)]
    have cl : fm_cl (fun _ _ => False) u (sI (sA u 214 (Int32.toNatClampNeg (fI u 213 1)) (vp_nar .char (fm_i2c x))) 213 1 (fI u 213 1 + 1)) := fm_cl_I (fm_cl_A (fm_cl_rf u) (by decide)) (by decide) (fun q => q)
    have hv := cl_mJ (s' := False) (n' := False) (m' := False) hc cl
    have k1 : fI (sI (sA u 214 (Int32.toNatClampNeg (fI u 213 1)) (vp_nar .char (fm_i2c x))) 213 1 (fI u 213 1 + 1)) 223 32 = fI u 223 32 := fI_ne (by decide)
    have k2 : fI (sI (sA u 214 (Int32.toNatClampNeg (fI u 213 1)) (vp_nar .char (fm_i2c x))) 213 1 (fI u 213 1 + 1)) 213 1 = fI u 213 1 + 1 := fI_eq
    generalize sI (sA u 214 (Int32.toNatClampNeg (fI u 213 1)) (vp_nar .char (fm_i2c x))) 213 1 (fI u 213 1 + 1) = v at cl hv k1 k2
    have l_1 : (1 : Int32).toInt = 1 := rfl
    have e_1 := i_add (a := fI u 223 32) (b := 1) (by omega) (by omega)
    refine ⟨(1, v), (1, sI (sA v 253 (Int32.toNatClampNeg (fI v 223 32)) x) 223 32 (fI v 223 32 + 1)), by simp [Option.bind], lU_c (by rw [k1]; exact h0) (by rw [k1]; exact c), show (1 : Int32) = 1 from Eq.refl 1, ?_⟩
    have hw := mJ_size (v := fI v 223 32 + 1) (mJ_A (a := 253) (k := Int32.toNatClampNeg (fI v 223 32)) (v := x) hv rfl) (fun q => q)
    have k3 : fI (sI (sA v 253 (Int32.toNatClampNeg (fI v 223 32)) x) 223 32 (fI v 223 32 + 1)) 223 32 = fI u 223 32 + 1 := by rw [fI_eq, k1]
    have k4 : fI (sI (sA v 253 (Int32.toNatClampNeg (fI v 223 32)) x) 223 32 (fI v 223 32 + 1)) 213 1 = fI u 213 1 + 1 := by
      rw [fI_ne (by decide), fI_sA]
      exact k2
    exact lI_mk hw (k3.trans (by rw [← he]; exact k4.symm)) (by unfold rZ; rw [k3]; omega) (by unfold rZ; rw [k3]; omega)
  · rw [lU_b (by rw [he]; omega)]
    exact ⟨(0, u), (0, u), by simp [Option.bind], lU_d (show (fI u 223 32).toInt = 500 by omega), rfl, hc, h0, h1, he⟩
theorem lU {B : Int} {x : Int32} {u : fm} (h : lI B u) : ∃ p q : Int32 × fm, jF96 x u = some p ∧ jF156 x p.2 = some q ∧ p.1 = q.1 ∧ lI B q.2 := by
  by_cases c1 : x = 10
  · have a1 : jF96 x u = Option.bind (jF73 213 x u) (fun p1 => if p1.1 = 0 then (some (0, p1.2)) else (some (1, p1.2))) := by unfold jF96; rw [if_pos c1]
    have a2 : ∀ v, jF156 x v = jF156_18 x v := fun v => by unfold jF156; rw [if_pos c1]
    obtain ⟨p, q, e1, e2, e3, e4⟩ := lU_k (x := x) h
    exact ⟨p, q, a1.trans e1, (a2 _).trans e2, e3, e4⟩
  · by_cases c2 : x < 32
    · have a1 : jF96 x u = some (0, u) := by unfold jF96; rw [if_neg c1, if_pos c2]
      have a2 : jF156 x u = some (0, u) := by unfold jF156; rw [if_neg c1, if_pos c2]
      exact ⟨(0, u), (0, u), a1, a2, rfl, h⟩
    · by_cases c3 : 126 < x
      · have a1 : jF96 x u = some (0, u) := by unfold jF96; rw [if_neg c1, if_neg c2, if_pos c3]
        have a2 : jF156 x u = some (0, u) := by unfold jF156; rw [if_neg c1, if_neg c2, if_pos c3]
        exact ⟨(0, u), (0, u), a1, a2, rfl, h⟩
      · have a1 : jF96 x u = Option.bind (jF73 213 x u) (fun p1 => if p1.1 = 0 then (some (0, p1.2)) else (some (1, p1.2))) := by unfold jF96; rw [if_neg c1, if_neg c2, if_neg c3]
        have a2 : ∀ v, jF156 x v = jF156_18 x v := fun v => by unfold jF156; rw [if_neg c1, if_neg c2, if_neg c3]
        obtain ⟨p, q, e1, e2, e3, e4⟩ := lU_k (x := x) h
        exact ⟨p, q, a1.trans e1, (a2 _).trans e2, e3, e4⟩
/-- inject -/
theorem lF_none {x : Int32} {u : fm} (h : jF105 x = 0) : jF101 x u = none := by
  unfold jF101
  unfold jF105 at h
  by_cases c : x = 0
  · rw [if_pos c] at h; exact absurd h (by decide)
  · rw [if_neg c] at h ⊢
    by_cases c2 : x = 1
    · rw [if_pos c2] at h; exact absurd h (by decide)
    · rw [if_neg c2]
theorem lF_some {x : Int32} {u : fm} (h : ¬ jF105 x = 0) : ∃ q, jF101 x u = some q := by
  unfold jF101
  unfold jF105 at h
  by_cases c : x = 0
  · rw [if_pos c]; exact ⟨_, rfl⟩
  · rw [if_neg c] at h ⊢
    by_cases c2 : x = 1
    · rw [if_pos c2]; exact ⟨_, rfl⟩
    · rw [if_neg c2] at h; exact absurd rfl h
theorem lJ97 {x : Int32} {u : fm} : fm_tp (fun p => fm_cl (fun _ _ => False) u p.2 ∧ (jF105 x = 0 → p.2 = u) ∧ (¬ jF105 x = 0 → fI p.2 213 1 = 0)) (jF97 x u) := by
  unfold jF97
  by_cases c : jF105 x = 0
  · rw [lF_none c]
    exact tp_some ⟨fm_cl_rf u, fun _ => rfl, fun q => absurd c q⟩
  · obtain ⟨q, hq⟩ := lF_some (u := u) c
    have hA := jP101 hq
    rw [hq]
    have hf : fm_sub (fun _ _ => False) := fun _ _ h => h.elim
    refine tp_bind (jT54 hf (a1 := 220) ⟨rfl, rfl, rfl⟩ (fm_cl_rf u)) (fun p2 e2 h2 => ?_)
    refine tp_let (fun p3 e3 => ?_)
    have e3' : sI p2.2 213 1 0 = p3 := e3
    have h3 : fm_cl (fun _ _ => False) u p3 := e3' ▸ fm_cl_I h2 (by decide) (fun q => q)
    have z3 : fI p3 213 1 = 0 := by rw [← e3']; exact fI_eq
    refine tp_ite (fun c2 => ?_) (fun c2 => tp_some ⟨h3, fun q => absurd q c, fun _ => z3⟩)
    refine tp_bind (jT7 lS_sub hA (a1 := 220) ⟨rfl, rfl, rfl⟩ (fm_cl_rf p3)) (fun p4 e4 h4 => tp_some ⟨?_, fun q => absurd q c, fun _ => (h4.1 213 1 (Or.inr ⟨rfl, rfl⟩)).trans z3⟩)
    exact fm_cl_tr h3 ⟨fun a k h => h4.1 a k (Or.inl (h.resolve_right (fun q => q))), h4.2⟩
theorem lNj {B : Int} {x : Int32} {u : fm} (h : lI B u) : ∃ p q : Int32 × fm, jF97 x u = some p ∧ jF169 x p.2 = some q ∧ lI B q.2 := by
  obtain ⟨hc, h0, h1, he⟩ := h
  obtain ⟨p, hp, k1, k2, k3⟩ := lJ97 (x := x) (u := u)
  have ez : rZ p.2 = rZ u := by unfold rZ; rw [k1.1 223 32 (Or.inl (by decide))]
  have hv : mJ False False False B p.2 p.2 := cl_mJ hc k1
  obtain ⟨q, hq, j1, j2, j3⟩ := jT169 (x1 := x) (u := p.2) (fun q => q) (by omega) (by omega) hv
  refine ⟨p, q, hp, hq, ?_⟩
  by_cases c : jF105 x = 0
  · rw [j2 c, k2 c]
    exact ⟨hc, h0, h1, he⟩
  · have a1 := j3 c
    have a2 : fI q.2 213 1 = 0 := (j1.1.1 213 1 (by decide)).trans (k3 c)
    refine ⟨mJ_rx j1, ?_, ?_, by rw [a1, a2]⟩
    · unfold rZ; rw [a1]; decide
    · unfold rZ; rw [a1]; decide
theorem tp_two {P : Int32 × fm → Prop} {Q : Int32 × fm → Int32 × fm → Prop} {R : Int32 × fm → Prop} {F : Option (Int32 × fm)} {G : fm → Option (Int32 × fm)} {f : Int32 × fm → Int32 × fm → Option (Int32 × fm)} (h1 : fm_tp P F) (h2 : ∀ p, P p → fm_tp (fun q => Q p q) (G p.2)) (k : ∀ p q, P p → Q p q → fm_tp R (f p q)) : fm_tp R (Option.bind F (fun p => Option.bind (G p.2) (fun q => f p q))) :=
  tp_bind h1 (fun p _ hp => tp_bind (h2 p hp) (fun q _ hq => k p q hp hq))
/-- the loop -/
theorem jL {X : Nat × (Nat → Int32)} (hX : X.1 ≤ 2048) : ∀ (f : Nat) (x3 : Int32) (u : fm) (h0 : 0 ≤ x3.toInt) (h1 : x3.toInt ≤ 2052) (hf : 3000 - x3.toInt < (f : Int)) (h : lI (25000 * x3.toInt) u), fm_tp (fun p => p.1 = 1) (jF175_18 X f x3 u) := by
  intro f
  induction f with
  | zero => intros; omega
  | succ f ih =>
  intro x3 u h0 h1 hf h
  unfold jF175_18
  have lx := i_nat (n := X.1) (by omega)
  have l_1 : (1 : Int32).toInt = 1 := rfl
  have l_2 : (2 : Int32).toInt = 2 := rfl
  have l_3 : (3 : Int32).toInt = 3 := rfl
  have l_4 : (4 : Int32).toInt = 4 := rfl
  have e_0 := i_sub (a := Int32.ofNat X.1) (b := 4) (by omega) (by omega)
  refine tp_ite (fun c => tp_some rfl) (fun c => ?_)
  have d := i_nlt c
  have e_1 := i_add (a := x3) (b := 1) (by omega) (by omega)
  have e_2 := i_add (a := x3) (b := 2) (by omega) (by omega)
  have e_3 := i_add (a := x3) (b := 3) (by omega) (by omega)
  have e_4 := i_add (a := x3) (b := 4) (by omega) (by omega)
  have g0 : fm_in x3 X.1 := ⟨by omega, by omega⟩
  have g1 : fm_in (x3 + 1) X.1 := ⟨by omega, by omega⟩
  have g2 : fm_in (x3 + 2) X.1 := ⟨by omega, by omega⟩
  have g3 : fm_in (x3 + 3) X.1 := ⟨by omega, by omega⟩
  have nx : ∀ w : fm, lI (25000 * x3.toInt) w → fm_tp (fun p => p.1 = 1) (jF175_18 X f (x3 + 4) w) := fun w hw => ih (x3 + 4) w (by omega) (by omega) (by omega) (lI_up hw (by omega) (by omega))
  have nx2 : ∀ v w : fm, fm_cl lS u v → mJ True False False (25000 * x3.toInt) v w → fm_tp (fun p => p.1 = 1) (jF175_18 X f (x3 + 4) w) := fun v w hv hw => nx w (lI_step h hv hw)
  have mv : ∀ v : fm, fm_cl lS u v → mJ True False False (25000 * x3.toInt) v v := fun v hv => cl_mJ h.1 hv
  refine tp_if g0 (fun _ => ?_)
  refine tp_ite (fun c => ?_) (fun c => ?_)
  · refine tp_if g1 (fun _ => tp_if g2 (fun _ => tp_if g3 (fun _ => ?_)))
    exact tp_two (jT86 lS_sub (fun q => absurd q.1 (by decide)) (fun q => absurd q.1 (by decide)) (fm_cl_rf u)) (fun p hp => jT115 (fun q => q) (mv _ hp)) (fun p q hp hq => nx2 _ _ hp hq)
  refine tp_ite (fun c => ?_) (fun c => ?_)
  · refine tp_if g1 (fun _ => ?_)
    exact tp_two (jT87 lS_sub (fm_cl_rf u)) (fun p hp => jT116 (mv _ hp)) (fun p q hp hq => nx2 _ _ hp hq)
  refine tp_ite (fun c => ?_) (fun c => ?_)
  · refine tp_if g1 (fun _ => ?_)
    exact tp_two (jT88 lS_sub (fm_cl_rf u)) (fun p hp => jT120 (mv _ hp)) (fun p q hp hq => nx2 _ _ hp hq)
  refine tp_ite (fun c => ?_) (fun c => ?_)
  · refine tp_if g1 (fun _ => ?_)
    exact tp_two (jT89 lS_sub (fm_cl_rf u)) (fun p hp => jT121 (mv _ hp)) (fun p q hp hq => nx2 _ _ hp hq)
  refine tp_ite (fun c => ?_) (fun c => ?_)
  · refine tp_if g1 (fun _ => ?_)
    exact tp_two (jT90 lS_sub (fm_cl_rf u)) (fun p hp => jT122 (mv _ hp)) (fun p q hp hq => nx2 _ _ hp hq)
  refine tp_ite (fun c => ?_) (fun c => ?_)
  · refine tp_if g1 (fun _ => ?_)
    exact tp_two (jT91 lS_sub (fm_cl_rf u)) (fun p hp => jT130 (mv _ hp)) (fun p q hp hq => nx2 _ _ hp hq)
  refine tp_ite (fun c => ?_) (fun c => ?_)
  · refine tp_if g1 (fun _ => ?_)
    exact tp_two (jT92 lS_sub (fm_cl_rf u)) (fun p hp => jT131 (mv _ hp)) (fun p q hp hq => nx2 _ _ hp hq)
  refine tp_ite (fun c => ?_) (fun c => ?_)
  · refine tp_if g1 (fun _ => ?_)
    exact tp_two (jT93 lS_sub (fm_cl_rf u)) (fun p hp => jT132 (mv _ hp)) (fun p q hp hq => nx2 _ _ hp hq)
  refine tp_ite (fun c => nx u h) (fun c => ?_)
  refine tp_ite (fun c => ?_) (fun c => ?_)
  · refine tp_if g1 (fun _ => tp_if g2 (fun _ => ?_))
    exact tp_two (jT95 lS_sub (fm_cl_rf u)) (fun p hp => jT155 (mv _ hp)) (fun p q hp hq => nx2 _ _ hp hq)
  refine tp_ite (fun c => ?_) (fun c => ?_)
  · refine tp_if g1 (fun _ => ?_)
    obtain ⟨p, q, e1, e2, e3, e4⟩ := lU (x := X.2 (Int32.toNatClampNeg (x3 + 1))) h
    rw [e1]
    show fm_tp _ (Option.bind (jF156 _ p.2) _)
    rw [e2]
    show fm_tp _ (if p.1 = q.1 then _ else _)
    rw [if_pos e3]
    exact nx _ e4
  refine tp_ite (fun c => ?_) (fun c => ?_)
  · refine tp_if g1 (fun _ => ?_)
    obtain ⟨p, q, e1, e2, e4⟩ := lNj (x := X.2 (Int32.toNatClampNeg (x3 + 1))) h
    rw [e1]
    show fm_tp _ (Option.bind (jF169 _ p.2) _)
    rw [e2]
    exact nx _ e4
  refine tp_ite (fun c => ?_) (fun c => ?_)
  · refine tp_if g1 (fun _ => ?_)
    exact tp_two (jT98 lS_sub (fun q => absurd q.1 (by decide)) (fm_cl_rf u)) (fun p hp => jT172 (fun q => q) (by omega) (mv _ hp)) (fun p q hp hq => ih (x3 + 4) _ (by omega) (by omega) (by omega) (lI_up (lI_step h hp hq.1) (by omega) (by omega)))
  refine tp_ite (fun c => ?_) (fun c => ?_)
  · refine tp_if g1 (fun _ => tp_if g2 (fun _ => ?_))
    exact tp_bind jT173 (fun _ _ _ => nx u h)
  refine tp_ite (fun c => ?_) (fun c => nx u h)
  refine tp_if g1 (fun _ => tp_if g2 (fun _ => tp_if g3 (fun _ => ?_)))
  exact tp_bind jT100 (fun _ _ _ => tp_bind (jT174 h.1) (fun _ _ _ => nx u h))
