/-! for the laws -/
theorem cl_mJ {S : Nat → Nat → Prop} {s n m s' n' m' : Prop} {B : Int} {W u v : fm} (h : mJ s n m B W u) (hc : fm_cl S u v) : mJ s' n' m' B v v := by
  have hI : ∀ k, fI v 223 k = fI u 223 k := fun k => hc.1 223 k (Or.inl (by decide))
  have hJ : ∀ k, fJ v 223 k = fJ u 223 k := fun k => (hc.2 223 k (by decide)).1
  have hA : ∀ a k, 223 ≤ a → fA v a k = fA u a k := fun a k q => (hc.2 a k q).2.1
  have hG : ∀ a k, 223 ≤ a → fG v a k = fG u a k := fun a k q => (hc.2 a k q).2.2
  obtain ⟨⟨-, -, -, -, g5, g6, g7, g8, g9, g10, g11, g12⟩, t1, t2, t3, t4⟩ := h
  refine ⟨⟨fun _ _ _ => rfl, fun _ => rfl, fun _ => rfl, fun _ _ => rfl, ?_, fun k hk => ?_, fun k hk => ?_, fun k hk => ?_, fun k hk => ?_, fun k hk => ?_, fun k hk => ?_, fun k hk h1 => ?_⟩, ?_, ?_, t3, fun k hk => ?_⟩
  · rw [hI]; exact g5
  · rw [hA _ _ (by decide)]; exact g6 k hk
  · rw [hA _ _ (by decide)]; exact g7 k hk
  · rw [hA _ _ (by decide)]; exact g8 k hk
  · rw [hA _ _ (by decide)]; exact g9 k hk
  · rw [hA _ _ (by decide)]; exact g10 k hk
  · rw [hA _ _ (by decide)]; exact g11 k hk
  · rw [hA _ _ (by decide)]; exact g12 k hk h1
  · rw [hJ]; exact t1
  · rw [hJ]; exact t2
  · rw [hG _ _ (by decide), hG _ _ (by decide), hG _ _ (by decide)]; exact t4 k hk
theorem fI_sA {u : fm} {a k b i : Nat} {v : Int32} : fI (sA u a k v) b i = fI u b i := rfl
theorem tp_two {P : Int32 × fm → Prop} {Q : Int32 × fm → Int32 × fm → Prop} {R : Int32 × fm → Prop} {F : Option (Int32 × fm)} {G : fm → Option (Int32 × fm)} {f : Int32 × fm → Int32 × fm → Option (Int32 × fm)} (h1 : fm_tp P F) (h2 : ∀ p, P p → fm_tp (fun q => Q p q) (G p.2)) (k : ∀ p q, P p → Q p q → fm_tp R (f p q)) : fm_tp R (Option.bind F (fun p => Option.bind (G p.2) (fun q => f p q))) :=
  tp_bind h1 (fun p _ hp => tp_bind (h2 p hp) (fun q _ hq => k p q hp hq))
theorem tp_pp {β : Type} {P Q : β → Prop} {o : Option β} (h1 : fm_tp P o) (h2 : fm_pp Q o) : fm_tp (fun p => P p ∧ Q p) o := by
  obtain ⟨p, e, hp⟩ := h1
  exact ⟨p, e, hp, h2 p e⟩
theorem pp_itec {β : Type} {Q : β → Prop} {c : Prop} {hd : Decidable c} {A D : Option β} (h1 : c → fm_pp Q A) (h2 : ¬ c → fm_pp Q D) : fm_pp Q (@ite _ c hd A D) := by
  by_cases hc : c
  · rw [if_pos hc]; exact h1 hc
  · rw [if_neg hc]; exact h2 hc
/-- unit of the model: size stays within its bounds -/
theorem jT156 {s n m : Prop} {B : Int} {W : fm} {x : Int32} {u : fm} (hs : ¬ s) (h0 : 0 ≤ rZ u) (h1 : rZ u ≤ 500) (hc : mJ s n m B W u) : fm_tp (fun p => mJ s n m B W p.2 ∧ 0 ≤ rZ p.2 ∧ rZ p.2 ≤ 500) (jF156 x u) := by
  have E : fm_tp (fun p => mJ s n m B W p.2 ∧ 0 ≤ rZ p.2 ∧ rZ p.2 ≤ 500) (jF156_18 x u) := by
    unfold jF156_18
    refine tp_ite (fun c => tp_some ⟨hc, h0, h1⟩) (fun c => ?_)
    have d := i_ne c
    have l_5 : (500 : Int32).toInt = 500 := rfl
    have l_1 : (1 : Int32).toInt = 1 := rfl
    have g0 := h0
    have g1 := h1
    unfold rZ at g0 g1
    refine tp_if ⟨by omega, by omega⟩ (fun _ => tp_let (fun u2 e2 => tp_let (fun u3 e3 => tp_some ?_)))
    have e_1 := i_add (a := fI u 223 32) (b := 1) (by omega) (by omega)
    have q2 : fI u2 223 32 = fI u 223 32 := by rw [← e2, fI_sA]
    have q3 : fI u3 223 32 = fI u 223 32 + 1 := by rw [← e3, fI_eq, q2]
    refine ⟨by rw [← e3, ← e2]; exact mJ_size (mJ_A hc rfl) hs, ?_, ?_⟩
    · unfold rZ; rw [q3]; omega
    · unfold rZ; rw [q3]; omega
  unfold jF156
  exact tp_ite (fun _ => E) (fun _ => tp_ite (fun _ => tp_some ⟨hc, h0, h1⟩) (fun _ => tp_ite (fun _ => tp_some ⟨hc, h0, h1⟩) (fun _ => E)))
theorem mJ0 {s n m : Prop} : mJ s n m 0 fm_0 fm_0 := by
  refine ⟨⟨fun _ _ _ => rfl, fun _ => rfl, fun _ => rfl, fun _ _ => rfl, ?_, fun k _ => ?_, fun k _ => mCol_zero k, fun k _ => mCol_zero k, fun k _ => mCol_zero k, fun k _ => mCol_zero k, fun k _ => ?_, fun k _ _ => ?_⟩, ?_, ?_, by decide, fun k _ => Or.inl ⟨rfl, rfl⟩⟩
  · exact ⟨by decide, by decide⟩
  · exact ⟨show 0 ≤ (0 : Int32).toInt by decide, show (0 : Int32).toInt ≤ 3 by decide⟩
  · exact ⟨show 0 ≤ (0 : Int32).toInt by decide, show (0 : Int32).toInt ≤ 3 by decide⟩
  · exact ⟨show 0 ≤ (0 : Int32).toInt by decide, show (0 : Int32).toInt ≤ 8 by decide⟩
  · exact (show 0 ≤ (0 : Int64).toInt by decide)
  · exact (show (0 : Int64).toInt ≤ 0 by decide)
