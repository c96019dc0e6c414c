section MPs
variable {s n m : Prop} {B : Int} {W : fm}
/-- if it answers, then so -/
def fm_pp {β : Type} (Q : β → Prop) (o : Option β) : Prop := ∀ p, o = some p → Q p
theorem pp_none {β : Type} {Q : β → Prop} : fm_pp Q none := fun p h => by cases h
theorem pp_some {β : Type} {Q : β → Prop} {p : β} (h : Q p) : fm_pp Q (some p) := fun q e => by cases e; exact h
theorem pp_ite {β : Type} {Q : β → Prop} {c : Prop} {hd : Decidable c} {A D : Option β} (h1 : fm_pp Q A) (h2 : fm_pp Q D) : fm_pp Q (@ite _ c hd A D) := by
  by_cases hc : c
  · rw [if_pos hc]; exact h1
  · rw [if_neg hc]; exact h2
theorem pp_let {α β : Type} {Q : β → Prop} {x : α} {f : α → Option β} (h : fm_pp Q (f x)) : fm_pp Q (fm_let x f) := h
theorem pp_bind {α β : Type} {P : α → Prop} {Q : β → Prop} {x : Option α} {f : α → Option β} (h : fm_pp P x) (k : ∀ z, P z → fm_pp Q (f z)) : fm_pp Q (Option.bind x f) := by
  cases x with
  | none => exact pp_none
  | some z => exact k z (h z rfl)
theorem fm_u2_over {α : Type} {f : Nat → Nat → α} {a k : Nat} {x y : α} : fm_u2 (fm_u2 f a k x) a k y = fm_u2 f a k y := by
  funext b i
  unfold fm_u2
  by_cases h : i = k ∧ b = a
  · rw [if_pos h, if_pos h]
  · rw [if_neg h, if_neg h, if_neg h]
theorem sG_over {u : fm} {a k : Nat} {x y : Int64} : sG (sG u a k x) a k y = sG u a k y := by
  show (u.1, u.2.1, u.2.2.1, fm_u2 (fm_u2 u.2.2.2.1 a k x) a k y, u.2.2.2.2) = (u.1, u.2.1, u.2.2.1, fm_u2 u.2.2.2.1 a k y, u.2.2.2.2)
  rw [fm_u2_over]
theorem jG110_15 : ∀ (f : Nat) (x2 : Int32) (u0 u : fm), fG u = fG u0 → fm_pp (fun p => fG p = fG u0) (jF110_15 f x2 u) := by
  intro f
  induction f with
  | zero => intro x2 u0 u h; unfold jF110_15; exact pp_none
  | succ f ih =>
  intro x2 u0 u h
  unfold jF110_15
  exact pp_ite (pp_ite (pp_ite (pp_let (ih _ _ _ h)) pp_none) pp_none) (pp_some h)
theorem jG110 {x1 : Int32} {u : fm} : fm_pp (fun p => fG p = fG u) (jF110 x1 u) := by
  unfold jF110
  exact pp_let (jG110_15 fm_N _ u _ rfl)
theorem jG109_16 : ∀ (f : Nat) (a1 : Nat) (x2 x3 : Int32) (u0 u : fm), fG u = fG u0 → fm_pp (fun p => fG p = fG u0) (jF109_16 f a1 x2 x3 u) := by
  intro f
  induction f with
  | zero => intro a1 x2 x3 u0 u h; unfold jF109_16; exact pp_none
  | succ f ih =>
  intro a1 x2 x3 u0 u h
  unfold jF109_16
  exact pp_ite (pp_ite (pp_ite (pp_let (ih _ _ _ _ _ h)) pp_none) pp_none) (pp_let (pp_ite (pp_ite (pp_let (pp_some h)) pp_none) pp_none))
theorem jG109 {a1 : Nat} {x2 : Int32} {u : fm} : fm_pp (fun p => fG p = fG u) (jF109 a1 x2 u) := by
  unfold jF109
  exact pp_ite (pp_bind jG110 (fun z h => jG109_16 fm_N _ _ _ _ _ h)) (jG109_16 fm_N _ _ _ _ _ rfl)
/-- how often an agent's timers can still run out -/
def tZ (r g : Int64) : Int := if r = -1 ∧ g = -1 then 0 else if r.toInt ≤ g.toInt then g.toInt - r.toInt + 2 else 1
def tU (u : fm) (k : Nat) : Int := tZ (fG u 248 k) (fG u 250 k)
theorem tZ_nn (r g : Int64) : 0 ≤ tZ r g := by
  unfold tZ
  split
  · omega
  · split <;> omega
theorem tZ_on {r g : Int64} (h : ¬ (r = -1 ∧ g = -1)) : 1 ≤ tZ r g := by
  unfold tZ
  rw [if_neg h]
  split <;> omega
theorem tZ_le {r p g : Int64} (h : tA B r p g) : tZ r g ≤ 40000 := by
  unfold tZ
  split
  · omega
  · rename_i c
    rcases h with h | h
    · exact absurd h c
    · split <;> omega
theorem jm1 : (-1 : Int64).toInt = -1 := rfl
theorem jT170 {x1 : Int32} {u : fm} (p1 : 0 ≤ x1.toInt) (p2 : x1.toInt ≤ 1) : fm_tp (fun r => ¬ r = -1 → ¬ (fG u 248 (Int32.toNatClampNeg x1) = -1 ∧ fG u 250 (Int32.toNatClampNeg x1) = -1)) (jF170 x1 u) := by
  unfold jF170
  refine tp_if ⟨by omega, by omega⟩ (fun g => ?_)
  refine tp_ite (fun c => tp_some (fun q h => q h.2)) (fun c => ?_)
  refine tp_ite (fun c1 => tp_some (fun q h => c h.1)) (fun c1 => ?_)
  exact tp_ite (fun _ => tp_some (fun q h => c h.1)) (fun _ => tp_some (fun q h => c h.1))
theorem tI_up {u : fm} {k : Nat} {r p : Int64} (h : tI B u) (hA : tA B r p (fG u 250 k)) : tI B (sG (sG u 249 k p) 248 k r) := by
  refine ⟨h.1, h.2.1, h.2.2.1, fun i hi => ?_⟩
  have h1 := h.2.2.2 i hi
  simp only [fG_sG]
  by_cases e : i = k
  · subst e
    simpa using hA
  · simpa [e] using h1
theorem tU_up {u : fm} {k i : Nat} {r p : Int64} : tU (sG (sG u 249 k p) 248 k r) i = if i = k then tZ r (fG u 250 k) else tU u i := by
  unfold tU
  simp only [fG_sG]
  by_cases e : i = k
  · subst e; simp
  · simp [e]
theorem jT171_109 {x1 : Int32} {u : fm} (p1 : 0 ≤ x1.toInt) (p2 : x1.toInt ≤ 1) (hon : ¬ (fG u 248 (Int32.toNatClampNeg x1) = -1 ∧ fG u 250 (Int32.toNatClampNeg x1) = -1)) (hc : mJ s n m B W u) : fm_tp (fun p => mJ s n m B W p ∧ tU p 0 + tU p 1 < tU u 0 + tU u 1) (jF171_109 x1 u) := by
  unfold jF171_109
  have stop : ∀ v : fm, fG v = fG u → mJ s n m B W v → fm_tp (fun p => mJ s n m B W p ∧ tU p 0 + tU p 1 < tU u 0 + tU u 1) (Option.bind (jF107 x1 v) (fun p => some p)) := by
    intro v hv h
    unfold jF107
    refine tp_bind (P := fun p => mJ s n m B W p ∧ tU p 0 + tU p 1 < tU u 0 + tU u 1) ?_ (fun p e hp => tp_some hp)
    refine tp_if ⟨by omega, by omega⟩ (fun g1 => ?_)
    refine tp_some (p := sG (sG v 248 (Int32.toNatClampNeg x1) (-1)) 250 (Int32.toNatClampNeg x1) (-1)) ⟨⟨h.1, tI_off h.2⟩, ?_⟩
    have ix := fm_ixN x1 p1
    have h1 := tZ_on hon
    have h2 := tZ_nn (fG u 248 0) (fG u 250 0)
    have h3 := tZ_nn (fG u 248 1) (fG u 250 1)
    have z : tZ (-1) (-1) = 0 := by decide
    unfold tU
    simp only [fG_sG, hv]
    have hk : Int32.toNatClampNeg x1 = 0 ∨ Int32.toNatClampNeg x1 = 1 := by omega
    rcases hk with hk | hk <;> rw [hk] at h1 ⊢ <;> simp [z] <;> omega
  refine tp_if ⟨by omega, by omega⟩ (fun g1 => ?_)
  refine tp_ite (fun c => ?_) (fun c => ?_)
  · refine tp_let (fun u5 e5 => ?_)
    subst e5
    exact stop _ rfl (mJ_A hc rfl)
  · refine tp_let (fun u5 e5 => ?_)
    subst e5
    exact stop _ rfl (mJ_A hc rfl)
theorem j_lt {x y : Int64} (h : x < y) : x.toInt < y.toInt := Int64.lt_iff_toInt_lt.mp h
theorem j_nlt {x y : Int64} (h : ¬ x < y) : y.toInt ≤ x.toInt := by
  have h1 : ¬ x.toInt < y.toInt := fun q => h (Int64.lt_iff_toInt_lt.mpr q)
  omega
theorem j_ne {x y : Int64} (h : ¬ x = y) : ¬ x.toInt = y.toInt := fun q => h (Int64.toInt_inj.mp q)
theorem tU_less {u v : fm} {x1 : Int32} {r p : Int64} (p1 : 0 ≤ x1.toInt) (p2 : x1.toInt ≤ 1) (hv : fG v = fG u) (h0 : ¬ (fG u 248 (Int32.toNatClampNeg x1) = -1)) (hr : (fG u 248 (Int32.toNatClampNeg x1)).toInt < r.toInt) (hg : (fG u 248 (Int32.toNatClampNeg x1)).toInt ≤ (fG u 250 (Int32.toNatClampNeg x1)).toInt) : tU (sG (sG v 249 (Int32.toNatClampNeg x1) p) 248 (Int32.toNatClampNeg x1) r) 0 + tU (sG (sG v 249 (Int32.toNatClampNeg x1) p) 248 (Int32.toNatClampNeg x1) r) 1 < tU u 0 + tU u 1 := by
  rw [tU_up, tU_up]
  have ix := fm_ixN x1 p1
  have hvu : ∀ i, tU v i = tU u i := fun i => by unfold tU; rw [hv]
  rw [hvu, hvu, hv]
  have q : tZ r (fG u 250 (Int32.toNatClampNeg x1)) < tZ (fG u 248 (Int32.toNatClampNeg x1)) (fG u 250 (Int32.toNatClampNeg x1)) := by
    have hR : tZ (fG u 248 (Int32.toNatClampNeg x1)) (fG u 250 (Int32.toNatClampNeg x1)) = (fG u 250 (Int32.toNatClampNeg x1)).toInt - (fG u 248 (Int32.toNatClampNeg x1)).toInt + 2 := by
      unfold tZ
      rw [if_neg (fun e => h0 e.1), if_pos hg]
    rw [hR]
    unfold tZ
    split
    · omega
    · split <;> omega
  have hk : Int32.toNatClampNeg x1 = 0 ∨ Int32.toNatClampNeg x1 = 1 := by omega
  unfold tU at *
  rcases hk with hk | hk <;> rw [hk] at q ⊢ <;> simp <;> omega
theorem jT171 {x1 : Int32} {u : fm} (p1 : 0 ≤ x1.toInt) (p2 : x1.toInt ≤ 1) (hon : ¬ (fG u 248 (Int32.toNatClampNeg x1) = -1 ∧ fG u 250 (Int32.toNatClampNeg x1) = -1)) (hc : mJ s n m B W u) : fm_tp (fun p => mJ s n m B W p ∧ tU p 0 + tU p 1 < tU u 0 + tU u 1) (jF171 x1 u) := by
  unfold jF171
  have E := jT171_109 p1 p2 hon hc
  refine tp_if ⟨by omega, by omega⟩ (fun g1 => ?_)
  refine tp_ite (fun c => E) (fun c => ?_)
  refine tp_ite (fun c1 => E) (fun c1 => ?_)
  have d1 := j_nlt c1
  have e_0 := i_mull (a := 50) (b := x1) (k := 50) rfl (by omega) (by omega)
  have kl : fm_ln 244 = 100 := rfl
  refine tp_bind (jT109 (Or.inr (Or.inl rfl)) (by omega) (by omega) (by omega) (mS_244 hc (by omega)) hc) (fun v ev hv => ?_)
  have hG := jG109 v ev
  have hA := hc.2.2.2.2 _ (fm_in_nat g1)
  have hB := hc.2.2.2.1
  have a2 : (2 : Int64).toInt = 2 := rfl
  have a4 : (4000 : Int64).toInt = 4000 := rfl
  rcases hA with hA | hA
  · exact absurd hA.1 c
  · have m1 := j_mul (a := fG u 249 (Int32.toNatClampNeg x1)) (b := 2) (k := 2) rfl (by omega) (by omega)
    have s1 := j_add (a := fG u 248 (Int32.toNatClampNeg x1)) (b := fG u 249 (Int32.toNatClampNeg x1) * 2) (by omega) (by omega)
    have s2 := j_add (a := fG u 248 (Int32.toNatClampNeg x1)) (b := 4000) (by omega) (by omega)
    have q8 : ∀ {x : Int64}, fG (sG v 249 (Int32.toNatClampNeg x1) x) 248 (Int32.toNatClampNeg x1) = fG u 248 (Int32.toNatClampNeg x1) := by
      intro x
      rw [fG_sG, if_neg (by omega), hG]
    have q9 : ∀ {w : fm} {x : Int64}, fG (sG w 249 (Int32.toNatClampNeg x1) x) 249 (Int32.toNatClampNeg x1) = x := by
      intro w x
      rw [fG_sG, if_pos ⟨rfl, rfl⟩]
    have hgv : fG v 249 (Int32.toNatClampNeg x1) = fG u 249 (Int32.toNatClampNeg x1) := by rw [hG]
    have up : fm_tp (fun p => mJ s n m B W p ∧ tU p 0 + tU p 1 < tU u 0 + tU u 1) (some (sG (sG v 249 (Int32.toNatClampNeg x1) (fG u 249 (Int32.toNatClampNeg x1) * 2)) 248 (Int32.toNatClampNeg x1) (fG u 248 (Int32.toNatClampNeg x1) + fG u 249 (Int32.toNatClampNeg x1) * 2))) := by
      refine tp_some ⟨⟨hv.1.1, tI_up hv.1.2 (Or.inr ?_)⟩, tU_less p1 p2 hG c (by omega) d1⟩
      rw [hG]
      exact ⟨hA.1, hA.2.1, by omega, by omega, by omega⟩
    refine tp_let (fun u8 e8 => ?_)
    rw [hgv] at e8
    subst e8
    refine tp_ite (fun c2 => ?_) (fun c2 => ?_)
    · refine tp_let (fun u9 e9 => ?_)
      rw [q8, q9] at e9
      subst e9
      exact up
    · refine tp_ite (fun c3 => ?_) (fun c3 => ?_)
      · refine tp_let (fun u11 e11 => tp_let (fun u12 e12 => ?_))
        have f11 : fG u11 248 (Int32.toNatClampNeg x1) = fG u 248 (Int32.toNatClampNeg x1) := by rw [← e11, fG_sG, if_neg (by omega), q8]
        have f12 : fG u11 249 (Int32.toNatClampNeg x1) = 4000 := by rw [← e11, q9]
        rw [f11, f12] at e12
        rw [sG_over] at e11
        subst e11
        subst e12
        refine tp_some ⟨⟨hv.1.1, tI_up hv.1.2 (Or.inr ?_)⟩, tU_less p1 p2 hG c (by omega) d1⟩
        rw [hG]
        exact ⟨hA.1, hA.2.1, by omega, by omega, by omega⟩
      · refine tp_let (fun u9 e9 => ?_)
        rw [q8, q9] at e9
        subst e9
        exact up
end MPs
