section MPt
variable {s n m : Prop} {B : Int} {W : fm}
theorem fJ_eq {u : fm} {a j : Nat} {v : Int64} : fJ (sJ u a j v) a j = v := fm_u2_eq
theorem jT170b {x1 : Int32} {u : fm} (p1 : 0 ≤ x1.toInt) (p2 : x1.toInt ≤ 1) (hc : mJ s n m B W u) : fm_tp (fun r => ¬ r = -1 → ¬ (fG u 248 (Int32.toNatClampNeg x1) = -1 ∧ fG u 250 (Int32.toNatClampNeg x1) = -1) ∧ 0 ≤ r.toInt) (jF170 x1 u) := by
  unfold jF170
  refine tp_if ⟨by omega, by omega⟩ (fun g => ?_)
  have hA := hc.2.2.2.2 _ (fm_in_nat g)
  refine tp_ite (fun c => tp_some (fun q => ?_)) (fun c => ?_)
  · rcases hA with hA | hA
    · exact absurd hA.2 q
    · exact ⟨fun h => q h.2, by omega⟩
  · rcases hA with hA | hA
    · exact absurd hA.1 c
    · refine tp_ite (fun c1 => tp_some (fun q => ⟨fun h => c h.1, by omega⟩)) (fun c1 => ?_)
      exact tp_ite (fun _ => tp_some (fun q => ⟨fun h => c h.1, by omega⟩)) (fun _ => tp_some (fun q => ⟨fun h => c h.1, by omega⟩))
theorem mJ_now {u : fm} {v : Int64} (h : mJ s n m B W u) (hn : ¬ n) (h0 : 0 ≤ v.toInt) (h1 : v.toInt ≤ B) : mJ s n m B W (sJ u 223 2 v) := by
  obtain ⟨⟨g1, g2, g3, g4⟩, hT⟩ := h
  have q : fJ (sJ u 223 2 v) 223 2 = v := fJ_eq
  refine ⟨⟨g1, g2, fun a => absurd a hn, g4⟩, ?_, ?_, hT.2.2.1, hT.2.2.2⟩
  · rw [q]; exact h0
  · rw [q]; exact h1
theorem jT172_89 {k25 : Int64 → Int32 → fm → Option (Int32 × fm)} {Q : Int32 × fm → Prop} {x2 s0 : Int64} {x9 : Int32} {u : fm} (hn : ¬ n) (p1 : 0 ≤ x9.toInt) (p2 : x9.toInt ≤ 1) (hx : x2.toInt ≤ B) (hs0 : ¬ s0 = -1 → ¬ (fG u 248 (Int32.toNatClampNeg x9) = -1 ∧ fG u 250 (Int32.toNatClampNeg x9) = -1) ∧ 0 ≤ s0.toInt) (hc : mJ s n m B W u) (hk0 : fm_tp Q (k25 x2 0 u)) (hk1 : ∀ v : fm, mJ s n m B W v → tU v 0 + tU v 1 < tU u 0 + tU u 1 → fm_tp Q (k25 x2 1 v)) : fm_tp Q (jF172_89 k25 x2 x9 s0 u) := by
  unfold jF172_89
  refine tp_ite (fun c => hk0) (fun c => ?_)
  obtain ⟨hon, h0⟩ := hs0 c
  refine tp_ite (fun c1 => hk0) (fun c1 => ?_)
  have d := j_nlt c1
  refine tp_let (fun u4 e4 => ?_)
  subst e4
  exact tp_bind (jT171 (u := sJ u 223 2 s0) p1 p2 hon (mJ_now hc hn h0 (by omega))) (fun p e h => hk1 p h.1 h.2)
theorem jT172_25 (hn : ¬ n) : ∀ (f : Nat) (x2 : Int64) (x4 : Int32) (u : fm) (h0 : 0 ≤ x2.toInt) (hx : x2.toInt ≤ B) (hf : 1 ≤ (f : Int)) (hf2 : ¬ x4 = 0 → tU u 0 + tU u 1 + 2 ≤ (f : Int)) (hc : mJ s n m B W u), fm_tp (fun p => mJ s n m B W p.2 ∧ fJ p.2 223 2 = x2 ∧ p.1 = Int64.toInt32 x2) (jF172_25 f x2 x4 u) := by
  intro f
  induction f with
  | zero => intros; omega
  | succ f ih =>
  intro x2 x4 u h0 hx hf hf2 hc
  unfold jF172_25
  refine tp_ite (fun c => ?_) (fun c => ?_)
  · refine tp_let (fun u1 e1 => tp_some ?_)
    subst e1
    have q : fJ (sJ u 223 2 x2) 223 2 = x2 := fJ_eq
    exact ⟨mJ_now hc hn h0 hx, q, by rw [q]⟩
  · have g2 := hf2 c
    have n0 := tZ_nn (fG u 248 0) (fG u 250 0)
    have n1 := tZ_nn (fG u 248 1) (fG u 250 1)
    unfold tU at g2
    refine tp_bind (jT170b (x1 := 0) (by decide) (by decide) hc) (fun a ea ha => ?_)
    refine tp_bind (jT170b (x1 := 1) (by decide) (by decide) hc) (fun b eb hb => ?_)
    have K0 := ih x2 0 u h0 hx (by omega) (fun q => absurd rfl q) hc
    have K1 : ∀ v : fm, mJ s n m B W v → tU v 0 + tU v 1 < tU u 0 + tU u 1 → fm_tp (fun p => mJ s n m B W p.2 ∧ fJ p.2 223 2 = x2 ∧ p.1 = Int64.toInt32 x2) (jF172_25 f x2 1 v) := fun v h1 h2 => ih x2 1 v h0 hx (by omega) (fun _ => by unfold tU at h2 ⊢; omega) h1
    have A0 : fm_tp (fun p => mJ s n m B W p.2 ∧ fJ p.2 223 2 = x2 ∧ p.1 = Int64.toInt32 x2) (jF172_70 (fun x2' x4' u' => jF172_25 f x2' x4' u') x2 a b u) := by
      unfold jF172_70 jF172_75
      rw [if_pos rfl]
      exact jT172_89 hn (by decide) (by decide) hx ha hc K0 K1
    have A1 : fm_tp (fun p => mJ s n m B W p.2 ∧ fJ p.2 223 2 = x2 ∧ p.1 = Int64.toInt32 x2) (jF172_74 (fun x2' x4' u' => jF172_25 f x2' x4' u') x2 a b u) := by
      unfold jF172_74 jF172_75
      rw [if_neg (by decide)]
      exact jT172_89 hn (by decide) (by decide) hx hb hc K0 K1
    exact tp_ite (fun _ => A1) (fun _ => tp_ite (fun _ => A0) (fun _ => tp_ite (fun _ => A1) (fun _ => A0)))
theorem mJ_up {B' : Int} {u : fm} (h : mJ s n m B W u) (hB : B ≤ B') (hB' : B' ≤ 1000000000) : mJ s n m B' W u := by
  refine ⟨h.1, h.2.1, by have := h.2.2.1; omega, hB', fun k hk => ?_⟩
  rcases h.2.2.2.2 k hk with q | q
  · exact Or.inl q
  · exact Or.inr ⟨q.1, by omega, q.2.2⟩
theorem jT172 {x1 : Int32} {u : fm} (hn : ¬ n) (hB : B + 100000 ≤ 1000000000) (hc : mJ s n m B W u) : fm_tp (fun p => mJ s n m (B + 100000) W p.2 ∧ ((x1 < 1 ∨ 100000 < x1) → p = (-1, u)) ∧ (¬ (x1 < 1 ∨ 100000 < x1) → fJ p.2 223 2 = fJ u 223 2 + Int32.toInt64 x1 ∧ p.1 = Int64.toInt32 (fJ u 223 2 + Int32.toInt64 x1))) (jF172 x1 u) := by
  unfold jF172
  have hc' := mJ_up (B' := B + 100000) hc (by omega) hB
  refine tp_ite (fun c => tp_some ⟨hc', fun _ => rfl, fun q => absurd (Or.inl c) q⟩) (fun c => ?_)
  refine tp_ite (fun c2 => tp_some ⟨hc', fun _ => rfl, fun q => absurd (Or.inr c2) q⟩) (fun c2 => ?_)
  have d1 := i_nlt c
  have d2 := i_nlt c2
  have l_1 : (1 : Int32).toInt = 1 := rfl
  have l_5 : (100000 : Int32).toInt = 100000 := rfl
  have e_0 : (Int32.toInt64 x1).toInt = x1.toInt := Int32.toInt_toInt64 x1
  have t1 := hc.2.1
  have t2 := hc.2.2.1
  have e_1 := j_add (a := fJ u 223 2) (b := Int32.toInt64 x1) (by omega) (by omega)
  have z0 := tZ_le (hc.2.2.2.2 0 (by decide))
  have z1 := tZ_le (hc.2.2.2.2 1 (by decide))
  have k_N : ((fm_N : Nat) : Int) = 4294967296 := rfl
  exact tp_mono (jT172_25 hn fm_N _ 1 u (by omega) (by omega) (by omega) (fun _ => by unfold tU; omega) hc') (fun p hp => ⟨hp.1, fun q => by rcases q with q | q; exact absurd q c; exact absurd q c2, fun _ => hp.2⟩)
end MPt
