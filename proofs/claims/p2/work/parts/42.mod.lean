/-! THE MODEL'S MEMORY: what holds of it all the time -/
/-- columns of a record of fifty: whom it goes to, how many lines, how many formats of each -/
def mCol (k : Nat) (v : Int32) : Prop := (k % 50 = 1 → 0 ≤ v.toInt ∧ v.toInt ≤ 1) ∧ (k % 50 = 12 → 0 ≤ v.toInt ∧ v.toInt ≤ 3) ∧ ((k % 50 = 14 ∨ k % 50 = 24 ∨ k % 50 = 34) → 0 ≤ v.toInt ∧ v.toInt ≤ 8)
theorem mCol_mod {k j : Nat} {v : Int32} (h : mCol k v) (e : k % 50 = j % 50) : mCol j v := by
  unfold mCol at h ⊢
  rw [← e]
  exact h
theorem mCol_free {k : Nat} {v : Int32} (h : ¬ k % 50 = 1 ∧ ¬ k % 50 = 12 ∧ ¬ k % 50 = 14 ∧ ¬ k % 50 = 24 ∧ ¬ k % 50 = 34) : mCol k v := ⟨fun q => absurd q h.1, fun q => absurd q h.2.1, fun q => by omega⟩
theorem mCol_zero (k : Nat) : mCol k 0 := ⟨fun _ => by decide, fun _ => by decide, fun _ => by decide⟩
def mIb (v : Int32) (n : Int) : Prop := 0 ≤ v.toInt ∧ v.toInt ≤ n
/-- W: the memory before; s, n, m: whether size, time and the counts of media stay -/
def mI (s n m : Prop) (W u : fm) : Prop :=
  (∀ a k, a < 223 → fI u a k = fI W a k) ∧ (s → fI u 223 32 = fI W 223 32) ∧ (n → fJ u 223 2 = fJ W 223 2) ∧ (m → ∀ k, fA u 236 k = fA W 236 k) ∧ mIb (fI u 223 1) 60 ∧ (∀ k, k < 2 → mIb (fA u 236 k) 3) ∧ (∀ k, k < 3050 → mCol k (fA u 224 k)) ∧ (∀ k, k < 100 → mCol k (fA u 243 k)) ∧ (∀ k, k < 100 → mCol k (fA u 244 k)) ∧ (∀ k, k < 100 → mCol k (fA u 245 k)) ∧ (∀ k, k < 2 → mIb (fA u 246 k) 3) ∧ (∀ k, k < 60 → k % 10 = 1 → mIb (fA u 247 k) 8)
/-- an agent's timers: both off, or on since some time -/
def tA (B : Int) (r p g : Int64) : Prop := (r = -1 ∧ g = -1) ∨ (32000 ≤ g.toInt ∧ g.toInt ≤ B + 32000 ∧ 1 ≤ p.toInt ∧ p.toInt ≤ r.toInt - (g.toInt - 32000) ∧ r.toInt ≤ g.toInt + 64000)
def tI (B : Int) (u : fm) : Prop := 0 ≤ (fJ u 223 2).toInt ∧ (fJ u 223 2).toInt ≤ B ∧ B ≤ 1000000000 ∧ ∀ k, k < 2 → tA B (fG u 248 k) (fG u 249 k) (fG u 250 k)
def mJ (s n m : Prop) (B : Int) (W u : fm) : Prop := mI s n m W u ∧ tI B u
section MJ
variable {s n m : Prop} {B : Int} {W u : fm} {a j k : Nat} {v : Int32}
theorem fA_sA {b i : Nat} : fA (sA u a k v) b i = if i = k ∧ b = a then v else fA u b i := rfl
theorem fI_sI {b i : Nat} : fI (sI u a j v) b i = if i = j ∧ b = a then v else fI u b i := rfl
theorem fA_ne {b i : Nat} (h : ¬ b = a) : fA (sA u a k v) b i = fA u b i := fm_u2_ne h
theorem fA_nk {b i : Nat} (h : ¬ i = k) : fA (sA u a k v) b i = fA u b i := fm_u2_nk h
theorem fA_eq : fA (sA u a k v) a k = v := fm_u2_eq
theorem fI_ne {b i : Nat} (h : ¬ b = a) : fI (sI u a j v) b i = fI u b i := fm_u2_ne h
theorem fI_nk {b i : Nat} (h : ¬ i = j) : fI (sI u a j v) b i = fI u b i := fm_u2_nk h
theorem fI_eq : fI (sI u a j v) a j = v := fm_u2_eq
theorem mJ_rf (h : mJ s n m B W u) : mJ s n m B u u := ⟨⟨fun _ _ _ => rfl, fun _ => rfl, fun _ => rfl, fun _ _ => rfl, h.1.2.2.2.2⟩, h.2⟩
theorem mJ_I (h : mJ s n m B W u) (hj : ¬ j = 1 ∧ ¬ j = 32) : mJ s n m B W (sI u 223 j v) := by
  obtain ⟨⟨h1, h2, h3, h4, h5, h6⟩, hT⟩ := h
  refine ⟨⟨fun b i hb => ?_, fun q => ?_, h3, h4, ?_, h6⟩, hT⟩
  · rw [fI_ne (by omega)]; exact h1 b i hb
  · rw [fI_nk (by omega)]; exact h2 q
  · rw [fI_nk (by omega)]; exact h5
theorem mJ_fly (h : mJ s n m B W u) (hv : mIb v 60) : mJ s n m B W (sI u 223 1 v) := by
  obtain ⟨⟨h1, h2, h3, h4, h5, h6⟩, hT⟩ := h
  refine ⟨⟨fun b i hb => ?_, fun q => ?_, h3, h4, ?_, h6⟩, hT⟩
  · rw [fI_ne (by omega)]; exact h1 b i hb
  · rw [fI_nk (by omega)]; exact h2 q
  · rw [fI_eq]; exact hv
theorem mJ_size (h : mJ s n m B W u) (hs : ¬ s) : mJ s n m B W (sI u 223 32 v) := by
  obtain ⟨⟨h1, h2, h3, h4, h5, h6⟩, hT⟩ := h
  refine ⟨⟨fun b i hb => ?_, fun q => absurd q hs, h3, h4, ?_, h6⟩, hT⟩
  · rw [fI_ne (by omega)]; exact h1 b i hb
  · rw [fI_nk (by omega)]; exact h5
theorem mI_A (h : mI s n m W u) (h4 : a = 236 → ¬ m) (h6 : a = 236 → mIb v 3) (h7 : a = 224 → mCol k v) (h8 : a = 243 → mCol k v) (h9 : a = 244 → mCol k v) (h10 : a = 245 → mCol k v) (h11 : a = 246 → mIb v 3) (h12 : a = 247 → k % 10 = 1 → mIb v 8) : mI s n m W (sA u a k v) := by
  obtain ⟨g1, g2, g3, g4, g5, g6, g7, g8, g9, g10, g11, g12⟩ := h
  refine ⟨g1, g2, g3, fun q i => ?_, g5, fun i hi => ?_, fun i hi => ?_, fun i hi => ?_, fun i hi => ?_, fun i hi => ?_, fun i hi => ?_, fun i hi hi2 => ?_⟩
  · rw [fA_ne (fun e => h4 e.symm q)]; exact g4 q i
  all_goals rw [fA_sA]; split
  · rename_i e; exact h6 e.2.symm
  · exact g6 i hi
  · rename_i e; rw [e.1]; exact h7 e.2.symm
  · exact g7 i hi
  · rename_i e; rw [e.1]; exact h8 e.2.symm
  · exact g8 i hi
  · rename_i e; rw [e.1]; exact h9 e.2.symm
  · exact g9 i hi
  · rename_i e; rw [e.1]; exact h10 e.2.symm
  · exact g10 i hi
  · rename_i e; exact h11 e.2.symm
  · exact g11 i hi
  · rename_i e; exact h12 e.2.symm (by rw [← e.1]; exact hi2)
  · exact g12 i hi hi2
/-- rows of which nothing is asked -/
def mFree (a : Nat) : Bool := !(Nat.beq a 224) && !(Nat.beq a 236) && !(Nat.beq a 243) && !(Nat.beq a 244) && !(Nat.beq a 245) && !(Nat.beq a 246) && !(Nat.beq a 247)
theorem mFree_ok (h : mFree a = true) : ¬ a = 224 ∧ ¬ a = 236 ∧ ¬ a = 243 ∧ ¬ a = 244 ∧ ¬ a = 245 ∧ ¬ a = 246 ∧ ¬ a = 247 := by
  refine ⟨?_, ?_, ?_, ?_, ?_, ?_, ?_⟩ <;> (rintro rfl; exact absurd h (by decide))
theorem mJ_A (h : mJ s n m B W u) (ha : mFree a = true) : mJ s n m B W (sA u a k v) := by
  have q := mFree_ok ha
  exact ⟨mI_A h.1 (fun e => absurd e q.2.1) (fun e => absurd e q.2.1) (fun e => absurd e q.1) (fun e => absurd e q.2.2.1) (fun e => absurd e q.2.2.2.1) (fun e => absurd e q.2.2.2.2.1) (fun e => absurd e q.2.2.2.2.2.1) (fun e => absurd e q.2.2.2.2.2.2), h.2⟩
theorem mJ_R (h : mJ s n m B W u) (ha : a = 224 ∨ a = 243 ∨ a = 244 ∨ a = 245) (hv : mCol k v) : mJ s n m B W (sA u a k v) :=
  ⟨mI_A h.1 (fun e => by omega) (fun e => by omega) (fun _ => hv) (fun _ => hv) (fun _ => hv) (fun _ => hv) (fun e => by omega) (fun e => by omega), h.2⟩
theorem mJ_mc (h : mJ s n m B W u) (hm : ¬ m) (hv : mIb v 3) : mJ s n m B W (sA u 236 k v) :=
  ⟨mI_A h.1 (fun _ => hm) (fun _ => hv) (fun e => by omega) (fun e => by omega) (fun e => by omega) (fun e => by omega) (fun e => by omega) (fun e => by omega), h.2⟩
theorem mJ_ac (h : mJ s n m B W u) (hv : mIb v 3) : mJ s n m B W (sA u 246 k v) :=
  ⟨mI_A h.1 (fun e => by omega) (fun e => by omega) (fun e => by omega) (fun e => by omega) (fun e => by omega) (fun e => by omega) (fun _ => hv) (fun e => by omega), h.2⟩
theorem mJ_ag (h : mJ s n m B W u) (hv : k % 10 = 1 → mIb v 8) : mJ s n m B W (sA u 247 k v) :=
  ⟨mI_A h.1 (fun e => by omega) (fun e => by omega) (fun e => by omega) (fun e => by omega) (fun e => by omega) (fun e => by omega) (fun e => by omega) (fun _ => hv), h.2⟩
theorem mJ_fl (h : mJ s n m B W u) : 0 ≤ (fI u 223 1).toInt ∧ (fI u 223 1).toInt ≤ 60 := h.1.2.2.2.2.1
theorem mJ_mc3 (h : mJ s n m B W u) (hk : k < 2) : 0 ≤ (fA u 236 k).toInt ∧ (fA u 236 k).toInt ≤ 3 := h.1.2.2.2.2.2.1 k hk
theorem mJ_224 (h : mJ s n m B W u) (hk : k < 3050) : mCol k (fA u 224 k) := h.1.2.2.2.2.2.2.1 k hk
theorem mJ_243 (h : mJ s n m B W u) (hk : k < 100) : mCol k (fA u 243 k) := h.1.2.2.2.2.2.2.2.1 k hk
theorem mJ_244 (h : mJ s n m B W u) (hk : k < 100) : mCol k (fA u 244 k) := h.1.2.2.2.2.2.2.2.2.1 k hk
theorem mJ_245 (h : mJ s n m B W u) (hk : k < 100) : mCol k (fA u 245 k) := h.1.2.2.2.2.2.2.2.2.2.1 k hk
theorem mJ_246 (h : mJ s n m B W u) (hk : k < 2) : 0 ≤ (fA u 246 k).toInt ∧ (fA u 246 k).toInt ≤ 3 := h.1.2.2.2.2.2.2.2.2.2.2.1 k hk
theorem mJ_247 (h : mJ s n m B W u) (hk : k < 60) (h1 : k % 10 = 1) : 0 ≤ (fA u 247 k).toInt ∧ (fA u 247 k).toInt ≤ 8 := h.1.2.2.2.2.2.2.2.2.2.2.2 k hk h1
end MJ
/-- a record at a place of a row -/
def mR (u : fm) (q p : Nat) : Prop := ∀ k, k < 50 → mCol k (fA u q (p + k))
theorem mR_A {u : fm} {q p a k : Nat} {v : Int32} (h : mR u q p) (ha : ¬ q = a) : mR (sA u a k v) q p := fun i hi => by rw [fA_ne ha]; exact h i hi
theorem mR_same {u v : fm} {q p : Nat} (h : mR u q p) (e : ∀ k, fA v q k = fA u q k) : mR v q p := fun i hi => by rw [e]; exact h i hi
/-- an index of an int: its number -/
theorem fm_ixI {i : Int32} {k : Nat} (h : i.toInt = (k : Int)) : i.toNatClampNeg = k := by
  rw [Int32.toNatClampNeg]
  omega
theorem fm_ixN (i : Int32) (h : 0 ≤ i.toInt) : ((i.toNatClampNeg : Nat) : Int) = i.toInt := by
  rw [Int32.toNatClampNeg]
  omega
/-- the fifty of a row from a place on -/
def mS (u : fm) (q : Nat) (x : Int32) : Prop := ∀ k : Nat, x.toInt ≤ (k : Int) → (k : Int) < x.toInt + 50 → mCol k (fA u q k)
theorem mS_at {u : fm} {q : Nat} {x i : Int32} (h : mS u q x) (h0 : 0 ≤ i.toInt) (h1 : x.toInt ≤ i.toInt) (h2 : i.toInt < x.toInt + 50) : mCol i.toNatClampNeg (fA u q i.toNatClampNeg) := by
  have e := fm_ixN i h0
  exact h _ (by omega) (by omega)
theorem mS_A {u : fm} {q a k : Nat} {x v : Int32} (h : mS u q x) (ha : ¬ q = a) : mS (sA u a k v) q x := fun i h1 h2 => by rw [fA_ne ha]; exact h i h1 h2
theorem mS_same {u v : fm} {q : Nat} {x : Int32} (h : mS u q x) (e : ∀ k, fA v q k = fA u q k) : mS v q x := fun i h1 h2 => by rw [e]; exact h i h1 h2
theorem mCol_ix {v i j : Int32} (h : mCol i.toNatClampNeg v) (hi : 0 ≤ i.toInt) (hj : 0 ≤ j.toInt) (e : i.toInt % 50 = j.toInt % 50) : mCol j.toNatClampNeg v := by
  have e1 := fm_ixN i hi
  have e2 := fm_ixN j hj
  exact mCol_mod h (by omega)
theorem mS_244 {s n m : Prop} {B : Int} {W u : fm} {x : Int32} (h : mJ s n m B W u) (h2 : x.toInt ≤ 50) : mS u 244 x := fun k _ h4 => mJ_244 h (by omega)
theorem mS_245 {s n m : Prop} {B : Int} {W u : fm} {x : Int32} (h : mJ s n m B W u) (h2 : x.toInt ≤ 50) : mS u 245 x := fun k _ h4 => mJ_245 h (by omega)
/-- the made record and the one at hand stay -/
def mK (u v : fm) : Prop := (∀ k, fA v 252 k = fA u 252 k) ∧ (∀ k, fA v 251 k = fA u 251 k)
theorem mK_rf (u : fm) : mK u u := ⟨fun _ => rfl, fun _ => rfl⟩
theorem mK_tr {u v w : fm} (h1 : mK u v) (h2 : mK v w) : mK u w := ⟨fun k => (h2.1 k).trans (h1.1 k), fun k => (h2.2 k).trans (h1.2 k)⟩
theorem mK_A {u v : fm} {a k : Nat} {x : Int32} (h : mK u v) (h1 : ¬ 252 = a) (h2 : ¬ 251 = a) : mK u (sA v a k x) := ⟨fun i => by rw [fA_ne h1]; exact h.1 i, fun i => by rw [fA_ne h2]; exact h.2 i⟩
theorem mK_I {u v : fm} {a k : Nat} {x : Int32} (h : mK u v) : mK u (sI v a k x) := h
theorem mK_G {u v : fm} {a k : Nat} {x : Int64} (h : mK u v) : mK u (sG v a k x) := h
theorem mS_I {u : fm} {q a k : Nat} {x v : Int32} (h : mS u q x) : mS (sI u a k v) q x := h
theorem mS_G {u : fm} {q a k : Nat} {x : Int32} {v : Int64} (h : mS u q x) : mS (sG u a k v) q x := h
theorem mS_K {u v : fm} {x : Int32} (h : mS u 252 x) (k : mK u v) : mS v 252 x := mS_same h k.1
theorem mS_H {u v : fm} {x : Int32} (h : mS u 251 x) (k : mK u v) : mS v 251 x := mS_same h k.2
