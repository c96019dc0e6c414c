/-! THE LAW of p2: the counts of own media are the model's -/
def lO (a j : Nat) : Prop := (a = 184 ∧ j = 1) ∨ (a = 199 ∧ j = 1)
theorem lO_sub : fm_sub lO := fun _ _ h => Or.inr (Or.inr h)
def lI (B : Int) (u : fm) : Prop := mJ True False True B u u ∧ 0 ≤ rZ u ∧ rZ u ≤ 500 ∧ fI u 184 1 = fA u 236 0 ∧ fI u 199 1 = fA u 236 1
theorem lI_rel {s n : Prop} {B B' : Int} {u v w : fm} (h : lI B u) (hc : fm_cl lO u v) (hw : mJ s n True B' v w) : fI w 184 1 = fA w 236 0 ∧ fI w 199 1 = fA w 236 1 := by
  have e1 : fI w 184 1 = fI u 184 1 := (hw.1.1 184 1 (by decide)).trans (hc.1 184 1 (Or.inr (Or.inl ⟨rfl, rfl⟩)))
  have e2 : fI w 199 1 = fI u 199 1 := (hw.1.1 199 1 (by decide)).trans (hc.1 199 1 (Or.inr (Or.inr ⟨rfl, rfl⟩)))
  have e3 : ∀ k, fA w 236 k = fA u 236 k := fun k => (hw.1.2.2.2.1 trivial k).trans (hc.2 236 k (by decide)).2.1
  rw [e1, e2, e3, e3]
  exact h.2.2.2
theorem lI_step {n : Prop} {B B' : Int} {u v w : fm} (h : lI B u) (hc : fm_cl lO u v) (hw : mJ True n True B' v w) : lI B' w := by
  have e1 : fI w 223 32 = fI u 223 32 := (hw.1.2.1 trivial).trans (hc.1 223 32 (Or.inl (by decide)))
  refine ⟨mJ_rx hw, ?_, ?_, lI_rel h hc hw⟩ <;> unfold rZ <;> rw [e1]
  · exact h.2.1
  · exact h.2.2.1
/-- where the size may change -/
theorem lI_size {B : Int} {u v w : fm} (h : lI B u) (hc : fm_cl lO u v) (hw : mJ False False True B v w) (h0 : 0 ≤ rZ w) (h1 : rZ w ≤ 500) : lI B w := ⟨mJ_rx hw, h0, h1, lI_rel h hc hw⟩
theorem lI_up {B B' : Int} {u : fm} (h : lI B u) (hB : B ≤ B') (hB' : B' ≤ 1000000000) : lI B' u := ⟨mJ_up h.1 hB hB', h.2⟩
/-- the class's media -/
theorem jG36 {a0 : Nat} {x1 : Int32} {u : fm} : fm_pp (fun p => fI p = fI u) (jF36 a0 x1 u) := by
  unfold jF36
  exact pp_ite (pp_some rfl) (pp_ite (pp_some rfl) (pp_ite (pp_ite (pp_some rfl) (pp_ite (pp_ite (pp_let (pp_let (pp_some rfl))) pp_none) (pp_some rfl))) pp_none))
theorem jG37_12 : ∀ (f : Nat) (a0 : Nat) (x2 x3 : Int32) (u0 u : fm), fI u = fI u0 → fm_pp (fun p => p.1 = 1 ∧ fI p.2 = fI u0) (jF37_12 f a0 x2 x3 u) := by
  intro f
  induction f with
  | zero => intro a0 x2 x3 u0 u h; unfold jF37_12; exact pp_none
  | succ f ih =>
  intro a0 x2 x3 u0 u h
  unfold jF37_12
  exact pp_ite (pp_ite (pp_bind jG36 (fun z hz => ih _ _ _ _ _ (hz.trans h))) (ih _ _ _ _ _ h)) (pp_some ⟨rfl, h⟩)
theorem jG35 {a0 : Nat} {x1 : Int32} {u : fm} : fm_pp (fun p => ((fI u a0 1).toInt = 3 → p = (0, u)) ∧ (0 ≤ (fI u a0 1).toInt → (fI u a0 1).toInt < 3 → p.1 = 1 ∧ fI p.2 a0 1 = fI u a0 1 + 1)) (jF35 a0 x1 u) := by
  unfold jF35
  have l_0 : (0 : Int32).toInt = 0 := rfl
  have l_3 : (3 : Int32).toInt = 3 := rfl
  refine pp_itec (fun c => pp_some ?_) (fun c => pp_itec (fun c2 => ?_) (fun c2 => pp_some ?_))
  · have d := i_lt c
    exact ⟨fun _ => rfl, fun q => by omega⟩
  · have d := i_lt c2
    refine pp_ite (pp_let (pp_ite (pp_let (pp_let (pp_some ?_))) pp_none)) pp_none
    refine ⟨fun q => by omega, fun _ _ => ⟨rfl, ?_⟩⟩
    show fI (sI (sA (sA u _ _ _) _ _ _) a0 1 _) a0 1 = _
    rw [fI_eq, fI_sA, fI_sA]
  · have d := i_nlt c2
    exact ⟨fun _ => rfl, fun _ q => by omega⟩
theorem jG37 {a0 : Nat} {x1 x2 : Int32} {u : fm} : fm_pp (fun p => ((fI u a0 1).toInt = 3 → p = (0, u)) ∧ (0 ≤ (fI u a0 1).toInt → (fI u a0 1).toInt < 3 → p.1 = 1 ∧ fI p.2 a0 1 = fI u a0 1 + 1)) (jF37 a0 x1 x2 u) := by
  unfold jF37
  refine pp_bind jG35 (fun z hz => pp_itec (fun c => pp_some ⟨fun q => ?_, fun q1 q2 => ?_⟩) (fun c => ?_))
  · rw [hz.1 q]
  · have := (hz.2 q1 q2).1
    rw [c] at this
    exact absurd this (by decide)
  · intro p hp
    have h := jG37_12 fm_N a0 x2 0 z.2 z.2 rfl p hp
    refine ⟨fun q => ?_, fun q1 q2 => ⟨h.1, ?_⟩⟩
    · rw [hz.1 q] at c
      exact absurd rfl c
    · rw [h.2]
      exact (hz.2 q1 q2).2
/-- what media answers: n, the count before -/
def lA (x2 x3 : Int32) : Prop := x2 < 1 ∨ 65535 < x2 ∨ x3 < 1 ∨ 255 < x3
theorem jC86 {x1 x2 x3 : Int32} {u : fm} {q : Nat} (hq : jF101 x1 u = some q) (h0 : 0 ≤ (fI u (q + 1) 1).toInt) (h3 : (fI u (q + 1) 1).toInt ≤ 3) : fm_tp (fun p => fm_cl (fun a j => lO a j ∧ ¬ a = q + 1) u p.2 ∧ ((lA x2 x3 ∨ (fI u (q + 1) 1).toInt = 3) → p = (-1, u)) ∧ (¬ (lA x2 x3 ∨ (fI u (q + 1) 1).toInt = 3) → p.1 = fI u (q + 1) 1 + 1 ∧ fI p.2 (q + 1) 1 = fI u (q + 1) 1 + 1)) (jF86 x1 x2 x3 u) := by
  have hA := jP101 hq
  unfold jF86
  rw [hq]
  have sub : fm_sub (fun a j => lO a j ∧ ¬ a = q + 1) := fun a j h => lO_sub a j h.1
  refine tp_ite (fun c => tp_some ⟨fm_cl_rf u, fun _ => rfl, fun h => absurd (Or.inl (Or.inl c)) h⟩) (fun c1 => ?_)
  refine tp_ite (fun c => tp_some ⟨fm_cl_rf u, fun _ => rfl, fun h => absurd (Or.inl (Or.inr (Or.inl c))) h⟩) (fun c2 => ?_)
  refine tp_ite (fun c => tp_some ⟨fm_cl_rf u, fun _ => rfl, fun h => absurd (Or.inl (Or.inr (Or.inr (Or.inl c)))) h⟩) (fun c3 => ?_)
  refine tp_ite (fun c => tp_some ⟨fm_cl_rf u, fun _ => rfl, fun h => absurd (Or.inl (Or.inr (Or.inr (Or.inr c)))) h⟩) (fun c4 => ?_)
  have nA : ¬ lA x2 x3 := by
    rintro (h | h | h | h)
    · exact c1 h
    · exact c2 h
    · exact c3 h
    · exact c4 h
  refine tp_bind (tp_pp (jT37 sub (a0 := q + 1) ⟨hA.2.1, hA.2.2.1⟩ (fun h => h.2 rfl) (fm_cl_rf u)) jG37) (fun p e hp => ?_)
  by_cases c : (fI u (q + 1) 1).toInt = 3
  · have e2 := hp.2.1 c
    subst e2
    exact tp_if (c := (0 : Int32) = 0) rfl (fun _ => tp_some ⟨fm_cl_rf u, fun _ => rfl, fun h => absurd (Or.inr c) h⟩)
  · have e2 := hp.2.2 h0 (by omega)
    have n0 : ¬ p.1 = 0 := by rw [e2.1]; decide
    refine tp_ite (fun c => absurd c n0) (fun _ => tp_some ⟨hp.1, fun h => ?_, fun _ => ⟨e2.2, e2.2⟩⟩)
    rcases h with h | h
    · exact absurd h nA
    · exact absurd h c
/-- the model's media -/
theorem jC115 {s n : Prop} {B : Int} {x1 x2 x3 : Int32} {u : fm} (hx : ¬ jF105 x1 = 0) (hc : mJ s n False B u u) : fm_tp (fun p => mJ s n False B u p.2 ∧ ((lA x2 x3 ∨ (fA u 236 (Int32.toNatClampNeg x1)).toInt = 3) → p = (-1, u)) ∧ (¬ (lA x2 x3 ∨ (fA u 236 (Int32.toNatClampNeg x1)).toInt = 3) → p.1 = fA u 236 (Int32.toNatClampNeg x1) + 1 ∧ ∀ k, fA p.2 236 k = if k = Int32.toNatClampNeg x1 then fA u 236 (Int32.toNatClampNeg x1) + 1 else fA u 236 k)) (jF115 x1 x2 x3 u) := by
  obtain ⟨p1, p2⟩ := jP105 hx
  have l_3 : (3 : Int32).toInt = 3 := rfl
  have l_1 : (1 : Int32).toInt = 1 := rfl
  have g1 : fm_in x1 2 := ⟨by omega, by omega⟩
  have k3 := mJ_mc3 hc (fm_in_nat g1)
  have bad : lA x2 x3 → fm_tp (fun p => mJ s n False B u p.2 ∧ ((lA x2 x3 ∨ (fA u 236 (Int32.toNatClampNeg x1)).toInt = 3) → p = (-1, u)) ∧ (¬ (lA x2 x3 ∨ (fA u 236 (Int32.toNatClampNeg x1)).toInt = 3) → p.1 = fA u 236 (Int32.toNatClampNeg x1) + 1 ∧ ∀ k, fA p.2 236 k = if k = Int32.toNatClampNeg x1 then fA u 236 (Int32.toNatClampNeg x1) + 1 else fA u 236 k)) (jF115_34 x1 x2 x3 u) := by
    intro hA
    unfold jF115_34 jF115_35
    rw [if_pos rfl]
    exact tp_some ⟨hc, fun _ => rfl, fun h => absurd (Or.inl hA) h⟩
  unfold jF115
  refine tp_ite (fun c => absurd c hx) (fun _ => ?_)
  refine tp_ite (fun c => bad (Or.inl c)) (fun c1 => ?_)
  refine tp_ite (fun c => bad (Or.inr (Or.inl c))) (fun c2 => ?_)
  refine tp_ite (fun c => bad (Or.inr (Or.inr (Or.inl c)))) (fun c3 => ?_)
  refine tp_ite (fun c => bad (Or.inr (Or.inr (Or.inr c)))) (fun c4 => ?_)
  have nA : ¬ lA x2 x3 := by
    rintro (h | h | h | h)
    · exact c1 h
    · exact c2 h
    · exact c3 h
    · exact c4 h
  unfold jF115_35
  rw [if_neg (by decide)]
  refine tp_if g1 (fun _ => ?_)
  refine tp_ite (fun c => tp_some ⟨hc, fun _ => rfl, fun h => absurd (Or.inr (i_eq c)) h⟩) (fun c => ?_)
  have d := i_ne c
  have e_0 := i_mull (a := 3) (b := x1) (k := 3) rfl (by omega) (by omega)
  have e_1 := i_add (a := 3 * x1) (b := fA u 236 (Int32.toNatClampNeg x1)) (by omega) (by omega)
  have e_2 := i_add (a := fA u 236 (Int32.toNatClampNeg x1)) (b := 1) (by omega) (by omega)
  refine tp_if ⟨by omega, by omega⟩ (fun g2 => ?_)
  refine tp_let (fun u4 e4 => ?_)
  have q4 : ∀ k, fA u4 236 k = fA u 236 k := fun k => by rw [← e4, fA_ne (by decide)]
  rw [q4]
  refine tp_if ⟨by omega, by omega⟩ (fun g3 => ?_)
  refine tp_let (fun u6 e6 => ?_)
  have q6 : ∀ k, fA u6 236 k = fA u 236 k := fun k => by rw [← e6, fA_ne (by decide), q4]
  rw [q6]
  refine tp_let (fun u7 e7 => ?_)
  have c6 : mJ s n False B u u6 := by
    rw [← e6, ← e4]
    exact mJ_A (mJ_A hc rfl) rfl
  have q7 : ∀ k, fA u7 236 k = if k = Int32.toNatClampNeg x1 then fA u 236 (Int32.toNatClampNeg x1) + 1 else fA u 236 k := by
    intro k
    rw [← e7, fA_sA]
    by_cases hk : k = Int32.toNatClampNeg x1
    · rw [if_pos ⟨hk, rfl⟩, if_pos hk]
    · rw [if_neg (fun q => hk q.1), if_neg hk, q6]
  refine tp_some ⟨by rw [← e7]; exact mJ_mc c6 (fun q => q) ⟨by omega, by omega⟩, fun h => ?_, fun _ => ⟨?_, q7⟩⟩
  · rcases h with h | h
    · exact absurd h nA
    · exact absurd h d
  · rw [q7, if_pos rfl]
theorem lM {B : Int} {x1 x2 x3 : Int32} {u : fm} (h : lI B u) : ∃ p q : Int32 × fm, jF86 x1 x2 x3 u = some p ∧ jF115 x1 x2 x3 p.2 = some q ∧ p.1 = q.1 ∧ lI B q.2 := by
  obtain ⟨hc, h0, h1, r0, r1⟩ := h
  by_cases hx : jF105 x1 = 0
  · have hn : jF101 x1 u = none := by
      unfold jF101
      unfold jF105 at hx
      by_cases c : x1 = 0
      · rw [if_pos c] at hx; exact absurd hx (by decide)
      · rw [if_neg c] at hx ⊢
        by_cases c2 : x1 = 1
        · rw [if_pos c2] at hx; exact absurd hx (by decide)
        · rw [if_neg c2]
    refine ⟨(-1, u), (-1, u), ?_, ?_, rfl, hc, h0, h1, r0, r1⟩
    · unfold jF86; rw [hn]; rfl
    · unfold jF115
      rw [if_pos hx]
      unfold jF115_34 jF115_35
      rw [if_pos rfl]
  · obtain ⟨p1, p2⟩ := jP105 hx
    -- the agent's own media and its number
    have key : ∃ a : Nat, ∃ k : Nat, jF101 x1 u = some a ∧ Int32.toNatClampNeg x1 = k ∧ fI u (a + 1) 1 = fA u 236 k ∧ ((a + 1 = 184 ∧ k = 0) ∨ (a + 1 = 199 ∧ k = 1)) := by
      unfold jF101
      by_cases c : x1 = 0
      · rw [if_pos c]
        exact ⟨183, 0, rfl, by rw [c]; rfl, r0, Or.inl ⟨rfl, rfl⟩⟩
      · rw [if_neg c]
        by_cases c2 : x1 = 1
        · rw [if_pos c2]
          exact ⟨198, 1, rfl, by rw [c2]; rfl, r1, Or.inr ⟨rfl, rfl⟩⟩
        · exfalso
          unfold jF105 at hx
          rw [if_neg c, if_neg c2] at hx
          exact hx rfl
    obtain ⟨a, k, ha, hk, he, hak⟩ := key
    have hk2 : k < 2 := by omega
    have kc := mJ_mc3 hc hk2
    obtain ⟨p, hp, c1, c2, c3⟩ := jC86 (x2 := x2) (x3 := x3) ha (by rw [he]; exact kc.1) (by rw [he]; exact kc.2)
    have hv : mJ True False False B p.2 p.2 := cl_mJ hc c1
    obtain ⟨q, hq, d1, d2, d3⟩ := jC115 (x1 := x1) (x2 := x2) (x3 := x3) (u := p.2) hx hv
    have eA : ∀ i, fA p.2 236 i = fA u 236 i := fun i => (c1.2 236 i (by decide)).2.1
    rw [hk] at d2 d3
    simp only [eA] at d2 d3
    rw [he] at c2 c3
    refine ⟨p, q, hp, hq, ?_⟩
    by_cases c : lA x2 x3 ∨ (fA u 236 k).toInt = 3
    · rw [d2 c, c2 c]
      exact ⟨rfl, hc, h0, h1, r0, r1⟩
    · obtain ⟨a1, a2⟩ := c3 c
      obtain ⟨b1, b2⟩ := d3 c
      have eZ : fI q.2 223 32 = fI u 223 32 := (d1.1.2.1 trivial).trans (c1.1 223 32 (Or.inl (by decide)))
      have qI : ∀ b j, b < 223 → fI q.2 b j = fI p.2 b j := fun b j hb => d1.1.1 b j hb
      refine ⟨by rw [a1, b1], mJ_rx d1, ?_, ?_, ?_, ?_⟩
      · unfold rZ; rw [eZ]; exact h0
      · unfold rZ; rw [eZ]; exact h1
      · rcases hak with hak | hak
        · rw [qI 184 1 (by decide), b2, hak.2, if_pos rfl]
          rw [hak.1, hak.2] at a2
          exact a2
        · rw [qI 184 1 (by decide), c1.1 184 1 (Or.inr ⟨Or.inl ⟨rfl, rfl⟩, by omega⟩), b2, hak.2, if_neg (by decide)]
          exact r0
      · rcases hak with hak | hak
        · rw [qI 199 1 (by decide), c1.1 199 1 (Or.inr ⟨Or.inr ⟨rfl, rfl⟩, by omega⟩), b2, hak.2, if_neg (by decide)]
          exact r1
        · rw [qI 199 1 (by decide), b2, hak.2, if_pos rfl]
          rw [hak.1, hak.2] at a2
          exact a2
/-- the loop -/
theorem jL {X : Nat × (Nat → Int32)} (hX : X.1 ≤ 2048) : ∀ (f : Nat) (x3 : Int32) (u : fm) (h0 : 0 ≤ x3.toInt) (h1 : x3.toInt ≤ 2052) (hf : 3000 - x3.toInt < (f : Int)) (h : lI (25000 * x3.toInt) u), fm_tp (fun p => p.1 = 1) (jF175_18 X f x3 u) := by
  intro f
  induction f with
  | zero => intros; omega
  | succ f ih =>
  intro x3 u h0 h1 hf h
  unfold jF175_18
  have lx := i_nat (n := X.1) (by omega)
  have l_1 : (1 : Int32).toInt = 1 := rfl
  have l_2 : (2 : Int32).toInt = 2 := rfl
  have l_3 : (3 : Int32).toInt = 3 := rfl
  have l_4 : (4 : Int32).toInt = 4 := rfl
  have e_0 := i_sub (a := Int32.ofNat X.1) (b := 4) (by omega) (by omega)
  refine tp_ite (fun c => tp_some rfl) (fun c => ?_)
  have d := i_nlt c
  have e_1 := i_add (a := x3) (b := 1) (by omega) (by omega)
  have e_2 := i_add (a := x3) (b := 2) (by omega) (by omega)
  have e_3 := i_add (a := x3) (b := 3) (by omega) (by omega)
  have e_4 := i_add (a := x3) (b := 4) (by omega) (by omega)
  have g0 : fm_in x3 X.1 := ⟨by omega, by omega⟩
  have g1 : fm_in (x3 + 1) X.1 := ⟨by omega, by omega⟩
  have g2 : fm_in (x3 + 2) X.1 := ⟨by omega, by omega⟩
  have g3 : fm_in (x3 + 3) X.1 := ⟨by omega, by omega⟩
  have nx : ∀ w : fm, lI (25000 * x3.toInt) w → fm_tp (fun p => p.1 = 1) (jF175_18 X f (x3 + 4) w) := fun w hw => ih (x3 + 4) w (by omega) (by omega) (by omega) (lI_up hw (by omega) (by omega))
  have nx2 : ∀ v w : fm, fm_cl lO u v → mJ True False True (25000 * x3.toInt) v w → fm_tp (fun p => p.1 = 1) (jF175_18 X f (x3 + 4) w) := fun v w hv hw => nx w (lI_step h hv hw)
  have mv : ∀ v : fm, fm_cl lO u v → mJ True False True (25000 * x3.toInt) v v := fun v hv => cl_mJ h.1 hv
  have mz : ∀ v : fm, fm_cl lO u v → mJ False False True (25000 * x3.toInt) v v := fun v hv => cl_mJ h.1 hv
  have zz : ∀ v : fm, fm_cl lO u v → rZ v = rZ u := fun v hv => by unfold rZ; rw [hv.1 223 32 (Or.inl (by decide))]
  refine tp_if g0 (fun _ => ?_)
  refine tp_ite (fun c => ?_) (fun c => ?_)
  · refine tp_if g1 (fun _ => tp_if g2 (fun _ => tp_if g3 (fun _ => ?_)))
    obtain ⟨p, q, e1, e2, e3, e4⟩ := lM (x1 := X.2 (Int32.toNatClampNeg (x3 + 1))) (x2 := X.2 (Int32.toNatClampNeg (x3 + 2))) (x3 := X.2 (Int32.toNatClampNeg (x3 + 3))) h
    rw [e1]
    show fm_tp _ (Option.bind (jF115 _ _ _ p.2) _)
    rw [e2]
    show fm_tp _ (if p.1 = q.1 then _ else _)
    rw [if_pos e3]
    exact nx _ e4
  refine tp_ite (fun c => ?_) (fun c => ?_)
  · refine tp_if g1 (fun _ => ?_)
    exact tp_two (jT87 lO_sub (fm_cl_rf u)) (fun p hp => jT116 (mv _ hp)) (fun p q hp hq => nx2 _ _ hp hq)
  refine tp_ite (fun c => ?_) (fun c => ?_)
  · refine tp_if g1 (fun _ => ?_)
    exact tp_two (jT88 lO_sub (fm_cl_rf u)) (fun p hp => jT120 (mv _ hp)) (fun p q hp hq => nx2 _ _ hp hq)
  refine tp_ite (fun c => ?_) (fun c => ?_)
  · refine tp_if g1 (fun _ => ?_)
    exact tp_two (jT89 lO_sub (fm_cl_rf u)) (fun p hp => jT121 (mv _ hp)) (fun p q hp hq => nx2 _ _ hp hq)
  refine tp_ite (fun c => ?_) (fun c => ?_)
  · refine tp_if g1 (fun _ => ?_)
    exact tp_two (jT90 lO_sub (fm_cl_rf u)) (fun p hp => jT122 (mv _ hp)) (fun p q hp hq => nx2 _ _ hp hq)
  refine tp_ite (fun c => ?_) (fun c => ?_)
  · refine tp_if g1 (fun _ => ?_)
    exact tp_two (jT91 lO_sub (fm_cl_rf u)) (fun p hp => jT130 (mv _ hp)) (fun p q hp hq => nx2 _ _ hp hq)
  refine tp_ite (fun c => ?_) (fun c => ?_)
  · refine tp_if g1 (fun _ => ?_)
    exact tp_two (jT92 lO_sub (fm_cl_rf u)) (fun p hp => jT131 (mv _ hp)) (fun p q hp hq => nx2 _ _ hp hq)
  refine tp_ite (fun c => ?_) (fun c => ?_)
  · refine tp_if g1 (fun _ => ?_)
    exact tp_two (jT93 lO_sub (fm_cl_rf u)) (fun p hp => jT132 (mv _ hp)) (fun p q hp hq => nx2 _ _ hp hq)
  refine tp_ite (fun c => nx u h) (fun c => ?_)
  refine tp_ite (fun c => ?_) (fun c => ?_)
  · refine tp_if g1 (fun _ => tp_if g2 (fun _ => ?_))
    exact tp_two (jT95 lO_sub (fm_cl_rf u)) (fun p hp => jT155 (mv _ hp)) (fun p q hp hq => nx2 _ _ hp hq)
  refine tp_ite (fun c => ?_) (fun c => ?_)
  · refine tp_if g1 (fun _ => ?_)
    exact tp_two (jT96 lO_sub (fun q => by rcases q with q | q <;> exact absurd q.1 (by decide)) (fm_cl_rf u)) (fun p hp => jT156 (fun q => q) (by rw [zz _ hp]; exact h.2.1) (by rw [zz _ hp]; exact h.2.2.1) (mz _ hp)) (fun p q hp hq => nx _ (lI_size h hp hq.1 hq.2.1 hq.2.2))
  refine tp_ite (fun c => ?_) (fun c => ?_)
  · refine tp_if g1 (fun _ => ?_)
    refine tp_two (jT97 lO_sub (fun q => by rcases q with q | q <;> exact absurd q.1 (by decide)) (fm_cl_rf u)) (fun p hp => jT169 (fun q => q) (by rw [zz _ hp]; exact h.2.1) (by rw [zz _ hp]; exact h.2.2.1) (mz _ hp)) (fun p q hp hq => nx _ ?_)
    have zq : 0 ≤ rZ q.2 ∧ rZ q.2 ≤ 500 := by
      by_cases c5 : jF105 (X.2 (Int32.toNatClampNeg (x3 + 1))) = 0
      · rw [hq.2.1 c5, zz _ hp]; exact ⟨h.2.1, h.2.2.1⟩
      · unfold rZ; rw [hq.2.2 c5]; decide
    exact lI_size h hp hq.1 zq.1 zq.2
  refine tp_ite (fun c => ?_) (fun c => ?_)
  · refine tp_if g1 (fun _ => ?_)
    exact tp_two (jT98 lO_sub (fun q => by rcases q with q | q <;> exact absurd q.1 (by decide)) (fm_cl_rf u)) (fun p hp => jT172 (fun q => q) (by omega) (mv _ hp)) (fun p q hp hq => ih (x3 + 4) _ (by omega) (by omega) (by omega) (lI_up (lI_step h hp hq.1) (by omega) (by omega)))
  refine tp_ite (fun c => ?_) (fun c => ?_)
  · refine tp_if g1 (fun _ => tp_if g2 (fun _ => ?_))
    exact tp_bind jT173 (fun _ _ _ => nx u h)
  refine tp_ite (fun c => ?_) (fun c => nx u h)
  refine tp_if g1 (fun _ => tp_if g2 (fun _ => tp_if g3 (fun _ => ?_)))
  exact tp_bind jT100 (fun _ _ _ => tp_bind (jT174 h.1) (fun _ _ _ => nx u h))
theorem fm_mI0 : lI 0 fm_0 := ⟨mJ0, show 0 ≤ (0 : Int32).toInt by decide, show (0 : Int32).toInt ≤ 500 by decide, rfl, rfl⟩
