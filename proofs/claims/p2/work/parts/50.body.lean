section MRb
variable {s n m : Prop} {B : Int} {W : fm}
/-- behind the body: where no fault was met the record is whole -/
def rE (s n m : Prop) (B : Int) (W p : fm) : Prop := mJ s n m B W p ∧ (fI p 223 34 = -1 → mS p 251 0)
theorem rH_mS {u : fm} {v : Int32} (h : rH u) (h0 : 0 ≤ v.toInt) (h1 : v.toInt ≤ 3) : mS (sA u 251 12 v) 251 0 := by
  intro k a b
  have l_0 : (0 : Int32).toInt = 0 := rfl
  rw [fA_sA]
  split
  · rename_i e
    rw [e.1]
    exact ⟨fun q => absurd q (by decide), fun _ => ⟨h0, h1⟩, fun q => absurd q (by decide)⟩
  · rename_i e
    exact h.1 k (by omega) (fun q => e ⟨q, rfl⟩)
theorem jT166_110 {x2 x4 : Int32} {u : fm} (hs : ¬ s) (h4 : 0 ≤ x4.toInt) (h4' : fI u 223 34 = -1 → x4.toInt ≤ 3) (hc : mJ s n m B W u) (hh : rH u) (ha : 0 ≤ rA u) : fm_tp (fun p => rE s n m B W p) (jF166_110 x2 x4 u) := by
  unfold jF166_110
  refine tp_let (fun u3 e3 => ?_)
  have c3 : mJ s n m B W u3 := e3 ▸ mJ_size hc hs
  have h3 : rH u3 := e3 ▸ hh
  have w3 : fI u3 223 34 = fI u 223 34 := by rw [← e3]; rfl
  have a3 : rA u3 = rA u := by rw [← e3]; rfl
  refine tp_ite (fun c => ?_) (fun c => ?_)
  · refine tp_ite (fun c2 => ?_) (fun c2 => ?_)
    · refine tp_let (fun p e => tp_let (fun q e2 => tp_some ?_))
      have f0 : mJ s n m B W p ∧ ¬ fI p 223 34 = -1 := by
        rw [← e]
        unfold jF157 fm_let
        rw [if_pos c]
        refine ⟨mJ_I c3 (by decide), ?_⟩
        rw [fI_eq]
        intro q
        have : (fI u3 223 33).toInt = -1 := by rw [q]; rfl
        unfold rA at a3 ha
        omega
      subst e2
      exact ⟨mJ_A f0.1 rfl, fun q => absurd q f0.2⟩
    · refine tp_let (fun q e2 => tp_some ?_)
      subst e2
      exact ⟨mJ_A c3 rfl, fun _ => rH_mS h3 h4 (h4' (w3 ▸ c))⟩
  · refine tp_let (fun q e2 => tp_some ?_)
    subst e2
    exact ⟨mJ_A c3 rfl, fun q => absurd q c⟩
theorem jT166_37 (hs : ¬ s) : ∀ (f : Nat) (x1 x2 x3 x4 : Int32) (u : fm) (h4 : 0 ≤ x4.toInt) (h4' : x4.toInt ≤ 4) (h4'' : fI u 223 34 = -1 → x4.toInt ≤ 3) (hf : 5 - x4.toInt ≤ (f : Int)) (hc : mJ s n m B W u) (hr : rS u) (hh : rH u), fm_tp (fun p => rE s n m B W p) (jF166_37 f x1 x2 x3 x4 u) := by
  intro f
  induction f with
  | zero => intros; omega
  | succ f ih =>
  intro x1 x2 x3 x4 u h4 h4' h4'' hf hc hr hh
  have E := jT166_110 (x2 := x2) hs h4 h4'' hc hh hr.1
  have l_1 : (1 : Int32).toInt = 1 := rfl
  have l_3 : (3 : Int32).toInt = 3 := rfl
  have l_13 : (13 : Int32).toInt = 13 := rfl
  have e_1 := i_add (a := x4) (b := 1) (by omega) (by omega)
  have e_2 := i_mull (a := 10) (b := x4) (k := 10) rfl (by omega) (by omega)
  have e_3 := i_add (a := 13) (b := 10 * x4) (by omega) (by omega)
  have e_4 : ((13 : Int32) + (10 * 0)).toInt = 13 := by decide
  have G : fI u 223 34 = -1 → fm_tp (fun p => rE s n m B W p) (jF166_68 (fun x1' x2' x3' x4' u' => jF166_37 f x1' x2' x3' x4' u') x1 x2 x3 x4 u) := by
    intro hw
    have g4 := h4'' hw
    unfold jF166_68
    refine tp_ite (fun c => ?_) (fun c => ?_)
    · have d := i_eq c
      have hq := jT157 (x1 := fI u 223 33) hr.1 hc hr
      refine tp_let (fun p10 e10 => ?_)
      subst e10
      have wp := rP_q hh hq.1
      refine tp_ite (fun c2 => ?_) (fun c2 => ?_)
      · have d2 := i_lt c2; omega
      · refine tp_bind (jT167 (Or.inl e_4) wp.1 wp.2.1 wp.2.2.1) (fun p e hp => ?_)
        exact ih x1 x2 x3 (x4 + 1) p (by omega) (by omega) (fun q => absurd q (hp.2.2.2.2 hq.2.1)) (by omega) hp.1 hp.2.1 hp.2.2.1
    · have d := i_ne c
      refine tp_ite (fun c2 => ?_) (fun c2 => ?_)
      · have d2 := i_lt c2
        refine tp_bind (jT167 (by omega) hc hr hh) (fun p e hp => ?_)
        exact ih x1 x2 x3 (x4 + 1) p (by omega) (by omega) (fun q => by omega) (by omega) hp.1 hp.2.1 hp.2.2.1
      · have d2 := i_nlt c2; omega
  unfold jF166_37
  exact tp_ite (fun c => tp_ite (fun _ => G c) (fun _ => tp_ite (fun _ => tp_ite (fun _ => G c) (fun _ => E)) (fun _ => E))) (fun _ => E)
theorem jT166 {x1 : Int32} {u : fm} (hs : ¬ s) (h0 : 0 ≤ x1.toInt) (h1 : x1.toInt < 1000000000) (hc : mJ s n m B W u) (hr : rS u) (hh : rH u) : fm_tp (fun p => rE s n m B W p) (jF166 x1 u) := by
  unfold jF166
  have hr' := hr
  simp only [rS, rA, rZ] at hr'
  have e_1 := i_add (a := fI u 223 33) (b := x1) (by omega) (by omega)
  have st : ∀ z : Int32, (fI u 223 33).toInt ≤ z.toInt → z.toInt ≤ 500 → rS (sA (sI u 223 32 z) 251 12 0) := by
    intro z h2 h3
    have q : fI (sA (sI u 223 32 z) 251 12 0) 223 32 = z := (show fI (sI u 223 32 z) 223 32 = z from fI_eq)
    unfold rS rA rZ
    rw [q]
    exact ⟨hr'.1, h2, h3⟩
  refine tp_ite (fun c => ?_) (fun c => ?_)
  · have d := i_lt c
    refine tp_let (fun u13 e13 => tp_let (fun u14 e14 => ?_))
    subst e13; subst e14
    exact jT166_37 hs fm_N x1 _ _ 0 _ (by decide) (by decide) (fun _ => by decide) (by decide) (mJ_A (mJ_size hc hs) rfl) (st _ (by omega) (by omega)) (rH_12 (show rH (sI u 223 32 _) from hh) (by decide) (by decide))
  · have d := i_nlt c
    refine tp_let (fun u13 e13 => tp_let (fun u14 e14 => ?_))
    subst e13; subst e14
    exact jT166_37 hs fm_N x1 _ _ 0 _ (by decide) (by decide) (fun _ => by decide) (by decide) (mJ_A (mJ_size hc hs) rfl) (st _ (by omega) (by omega)) (rH_12 (show rH (sI u 223 32 _) from hh) (by decide) (by decide))
/-- read -/
theorem jT168_133 {u : fm} (hs : ¬ s) (hc : mJ s n m B W u) (hr : rS u) (hh : rH u) : fm_tp (fun p => rE s n m B W p) (jF168_133 u) := by
  unfold jF168_133
  have hr' := hr
  simp only [rS, rA, rZ] at hr'
  have E : ∀ v : fm, mJ s n m B W v → rS v → rH v → fm_tp (fun p => rE s n m B W p) (Option.bind (jF159 v) (fun p11 => if (fI p11 223 34) = (-1) then (Option.bind (jF166 (fA p11 251 12) p11) (fun p12 => some p12)) else (some p11))) := by
    intro v h1 h2 h3
    refine tp_bind (jT159 h1 h2) (fun p e k => ?_)
    have w := rP_q h3 k
    refine tp_ite (fun c => ?_) (fun c => tp_some ⟨w.1, fun q => absurd q c⟩)
    exact tp_bind (jT166 hs w.2.2.1.2.1 w.2.2.1.2.2 w.1 w.2.1 w.2.2.1) (fun q e h => tp_some h)
  refine tp_ite (fun c => ?_) (fun c => E u hc hr hh)
  refine tp_ite (fun c => ?_) (fun c => E u hc hr hh)
  have d := i_lt c
  refine tp_if ⟨by omega, by omega⟩ (fun _ => tp_ite (fun _ => E u hc hr hh) (fun _ => ?_))
  exact tp_bind (jT163 hc hr hh) (fun p e w => E p w.1 w.2.1 w.2.2.1)
theorem jT168_109 (hs : ¬ s) : ∀ (f : Nat) (x1 : Int32) (u : fm) (v0 : 0 ≤ x1.toInt) (v1 : x1.toInt ≤ 6) (hf : 7 - x1.toInt ≤ (f : Int)) (hc : mJ s n m B W u) (hr : rS u) (hh : rH u), fm_tp (fun p => rE s n m B W p) (jF168_109 f x1 u) := by
  intro f
  induction f with
  | zero => intros; omega
  | succ f ih =>
  intro x1 u v0 v1 hf hc hr hh
  unfold jF168_109
  have l_1 : (1 : Int32).toInt = 1 := rfl
  have l_6 : (6 : Int32).toInt = 6 := rfl
  have E := jT168_133 hs hc hr hh
  refine tp_ite (fun c => ?_) (fun c => E)
  have d := i_lt c
  have e_1 := i_add (a := x1) (b := 1) (by omega) (by omega)
  refine tp_ite (fun c => ?_) (fun c => E)
  exact tp_bind (jT163 hc hr hh) (fun p e w => ih (x1 + 1) p (by omega) (by omega) (by omega) w.1 w.2.1 w.2.2.1)
theorem jT168_33 (hs : ¬ s) : ∀ (f : Nat) (x1 : Int32) (u : fm) (v0 : 0 ≤ x1.toInt) (v1 : x1.toInt ≤ 6) (hf : 7 - x1.toInt ≤ (f : Int)) (hc : mJ s n m B W u) (hr : rS u) (hh : rH u), fm_tp (fun p => rE s n m B W p) (jF168_33 f x1 u) := by
  intro f
  induction f with
  | zero => intros; omega
  | succ f ih =>
  intro x1 u v0 v1 hf hc hr hh
  unfold jF168_33
  have l_1 : (1 : Int32).toInt = 1 := rfl
  have l_6 : (6 : Int32).toInt = 6 := rfl
  refine tp_ite (fun c => ?_) (fun c => ?_)
  · have d := i_lt c
    have e_1 := i_add (a := x1) (b := 1) (by omega) (by omega)
    refine tp_if ⟨by omega, by omega⟩ (fun _ => tp_let (fun v e => ?_))
    subst e
    exact ih (x1 + 1) _ (by omega) (by omega) (by omega) (mJ_A hc rfl) hr (rH_same hh (fun k => fA_ne (by decide)))
  · have L : ∀ v : fm, mJ s n m B W v → rS v → rH v → fm_tp (fun p => rE s n m B W p) (Option.bind (jF159 v) (fun p => jF168_109 fm_N 0 p)) := by
      intro v h1 h2 h3
      refine tp_bind (jT159 h1 h2) (fun p e k => ?_)
      have w := rP_q h3 k
      exact jT168_109 hs fm_N 0 p (by decide) (by decide) (by decide) w.1 w.2.1 w.2.2.1
    refine tp_bind (jT158 (by decide) hc hr) (fun p3 e3 k3 => tp_let (fun u4 e4 => ?_))
    have w3 := rP_q hh k3
    have w4 : rP s n m B W u u4 := e4 ▸ rP_w w3 (by decide) (mCol_free (by decide))
    refine tp_ite (fun c => ?_) (fun c => L u4 w4.1 w4.2.1 w4.2.2.1)
    refine tp_ite (fun c => ?_) (fun c => L u4 w4.1 w4.2.1 w4.2.2.1)
    refine tp_bind (jT161 w4.1 w4.2.1) (fun p18 e18 k18 => tp_let (fun u19 e19 => ?_))
    have w18 := rP_tr w4 (rP_q w4.2.2.1 k18)
    have w19 : rP s n m B W u u19 := e19 ▸ rP_w w18 (by decide) (mCol_free (by decide))
    refine tp_bind (jT158 (by decide) w19.1 w19.2.1) (fun p20 e20 k20 => ?_)
    have w20 := rP_tr w19 (rP_q w19.2.2.1 k20)
    exact L p20.2 w20.1 w20.2.1 w20.2.2.1
theorem jT168_12 (hs : ¬ s) : ∀ (f : Nat) (x1 : Int32) (u : fm) (v0 : 0 ≤ x1.toInt) (v1 : x1.toInt ≤ 50) (hf : 51 - x1.toInt ≤ (f : Int)) (hZ : ∀ k : Nat, (k : Int) < x1.toInt → fA u 251 k = 0) (hc : mJ s n m B W u) (hr : rS u), fm_tp (fun p => rE s n m B W p) (jF168_12 f x1 u) := by
  intro f
  induction f with
  | zero => intros; omega
  | succ f ih =>
  intro x1 u v0 v1 hf hZ hc hr
  unfold jF168_12
  have l_1 : (1 : Int32).toInt = 1 := rfl
  have l_50 : (50 : Int32).toInt = 50 := rfl
  refine tp_ite (fun c => ?_) (fun c => ?_)
  · have d := i_lt c
    have e_1 := i_add (a := x1) (b := 1) (by omega) (by omega)
    have ix := fm_ixN x1 v0
    refine tp_if ⟨by omega, by omega⟩ (fun _ => tp_let (fun v e => ?_))
    subst e
    refine ih (x1 + 1) _ (by omega) (by omega) (by omega) (fun k hk => ?_) (mJ_A hc rfl) hr
    rw [fA_sA]
    split
    · rfl
    · rename_i e
      exact hZ k (by have : ¬ k = Int32.toNatClampNeg x1 := fun q => e ⟨q, rfl⟩; omega)
  · have d := i_nlt c
    refine jT168_33 hs fm_N 0 u (by decide) (by decide) (by decide) hc hr ⟨fun k h1 h2 => ?_, ?_, ?_⟩
    · rw [hZ k (by omega)]; exact mCol_zero k
    · rw [hZ 12 (by omega)]; decide
    · rw [hZ 12 (by omega)]; decide
theorem jT168 {u : fm} (hs : ¬ s) (h0 : 0 ≤ rZ u) (h1 : rZ u ≤ 500) (hc : mJ s n m B W u) : fm_tp (fun p => rE s n m B W p) (jF168 u) := by
  unfold jF168
  refine tp_let (fun u1 e1 => tp_let (fun u2 e2 => ?_))
  subst e1; subst e2
  have l_0 : (0 : Int32).toInt = 0 := rfl
  have q : fI (sI (sI u 223 33 0) 223 34 (-1)) 223 33 = 0 := rfl
  refine jT168_12 hs fm_N 0 _ (by decide) (by decide) (by decide) (fun k hk => by omega) (mJ_I (mJ_I hc (by decide)) (by decide)) ⟨?_, ?_, h1⟩
  · unfold rA; rw [q]; decide
  · unfold rA; rw [q]; exact h0
theorem mJ_rx {s' n' m' : Prop} {u : fm} (h : mJ s n m B W u) : mJ s' n' m' B u u := ⟨⟨fun _ _ _ => rfl, fun _ => rfl, fun _ => rfl, fun _ _ => rfl, h.1.2.2.2.2⟩, h.2⟩
theorem mJ_tx {s' n' m' : Prop} {u v : fm} (h1 : mJ s n m B W u) (h2 : mJ s' n' m' B u v) (hs : s → s') (hn : n → n') (hm : m → m') : mJ s n m B W v :=
  ⟨⟨fun a k h => (h2.1.1 a k h).trans (h1.1.1 a k h), fun q => (h2.1.2.1 (hs q)).trans (h1.1.2.1 q), fun q => (h2.1.2.2.1 (hn q)).trans (h1.1.2.2.1 q), fun q k => (h2.1.2.2.2.1 (hm q) k).trans (h1.1.2.2.2.1 q k), h2.1.2.2.2.2⟩, h2.2⟩
/-- inject: it leaves size 0 -/
theorem jT169 {x1 : Int32} {u : fm} (hs : ¬ s) (h0 : 0 ≤ rZ u) (h1 : rZ u ≤ 500) (hc : mJ s n m B W u) : fm_tp (fun p => mJ s n m B W p.2 ∧ (jF105 x1 = 0 → p.2 = u) ∧ (¬ jF105 x1 = 0 → fI p.2 223 32 = 0)) (jF169 x1 u) := by
  unfold jF169
  refine tp_ite (fun c => tp_some ⟨hc, fun _ => rfl, fun q => absurd c q⟩) (fun c => ?_)
  obtain ⟨p1, p2⟩ := jP105 c
  refine tp_bind (jT168 hs h0 h1 hc) (fun p e k => tp_let (fun u3 e3 => ?_))
  have z3 : fI u3 223 32 = 0 := by rw [← e3]; exact fI_eq
  have c3 : mJ s n m B W u3 := e3 ▸ mJ_size k.1 hs
  refine tp_ite (fun c2 => ?_) (fun c2 => tp_some ⟨c3, fun q => absurd q c, fun _ => z3⟩)
  have hH : mS u3 251 0 := by
    rw [← e3]
    exact mS_I (k.2 (by rw [← e3] at c2; exact c2))
  refine tp_bind (jT123 (s := True) (n := True) (m := True) p1 p2 hH (mJ_rx c3)) (fun q e h => tp_some ⟨mJ_tx c3 h (fun _ => trivial) (fun _ => trivial) (fun _ => trivial), fun q => absurd q c, fun _ => (h.1.2.1 trivial).trans z3⟩)
end MRb
