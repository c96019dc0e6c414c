set_option maxRecDepth 8000
/-- CallAgents$Agent isFree -/
def jF1 (a0 : Nat) (u : fm) : Int32 :=
  if (fI u a0 8) = 0 then
  (1)
  else
  (if (fI u a0 8) = 4 then
  (1)
  else
  (if (fI u a0 8) = 9 then
  (1)
  else
  (0)))
theorem jK1 {X : Nat × (Nat → Int32)} {a0 : Nat} {u : fm} {r : Int32} (h0 : fm_isA a0) (h : jF1 a0 u = r) : ev X 1 0 [some (.inr (.inl (some a0)))] [] u ([.inl r], u) := by
  unfold jF1 at h
  refine ev_aload_n (pc := 0) (fe_1 rfl) rfl ?_
  refine ev_getI (pc := 1) (fe_1 rfl) fr_8 h0.1 ?_
  refine ev_if_eq (pc := 4) (fe_1 rfl) (t := 24) rfl h (fun h => ?_) (fun h => ?_)
  refine ev_iconst (pc := 24) (fe_1 rfl) li_1 ?_
  refine ev_goto (pc := 25) (fe_1 rfl) (t := 29) rfl ?_
  exact ev_R (ev_zrt (pc := 29) (fe_1 rfl) rt_1 (Or.inr rfl)) (by rw [← h])
  refine ev_aload_n (pc := 7) (fe_1 rfl) rfl ?_
  refine ev_getI (pc := 8) (fe_1 rfl) fr_8 h0.1 ?_
  refine ev_iconst (pc := 11) (fe_1 rfl) li_4 ?_
  refine ev_ic_eq (pc := 12) (fe_1 rfl) (t := 24) rfl h (fun h => ?_) (fun h => ?_)
  refine ev_iconst (pc := 24) (fe_1 rfl) li_1 ?_
  refine ev_goto (pc := 25) (fe_1 rfl) (t := 29) rfl ?_
  exact ev_R (ev_zrt (pc := 29) (fe_1 rfl) rt_1 (Or.inr rfl)) (by rw [← h])
  refine ev_aload_n (pc := 15) (fe_1 rfl) rfl ?_
  refine ev_getI (pc := 16) (fe_1 rfl) fr_8 h0.1 ?_
  refine ev_bipush (pc := 19) (fe_1 rfl) lb_9 ?_
  refine ev_ic_ne (pc := 21) (fe_1 rfl) (t := 28) rfl h (fun h => ?_) (fun h => ?_)
  refine ev_iconst (pc := 28) (fe_1 rfl) li_0 ?_
  exact ev_R (ev_zrt (pc := 29) (fe_1 rfl) rt_1 (Or.inl rfl)) (by rw [← h])
  refine ev_iconst (pc := 24) (fe_1 rfl) li_1 ?_
  refine ev_goto (pc := 25) (fe_1 rfl) (t := 29) rfl ?_
  exact ev_R (ev_zrt (pc := 29) (fe_1 rfl) rt_1 (Or.inr rfl)) (by rw [← h])
/-- CallAgents$Media clear -/
def jF38 (a0 : Nat) (u : fm) : fm :=
  fm_let (sI u a0 1 0) (fun u1 => u1)
theorem jK38 {X : Nat × (Nat → Int32)} {a0 : Nat} {u : fm} {r : fm} (h0 : fm_isD a0) (h : jF38 a0 u = r) : ev X 38 0 [some (.inr (.inl (some a0)))] [] u ([], r) := by
  unfold jF38 at h
  refine ev_aload_n (pc := 0) (fe_38 rfl) rfl ?_
  refine ev_iconst (pc := 1) (fe_38 rfl) li_0 ?_
  refine fm_lt_h h (fun u1 eu1 h => ?_)
  refine ev_putI (pc := 2) (fe_38 rfl) fr_54 h0.1 eu1 ?_
  exact ev_R (ev_vrt (pc := 5) (fe_38 rfl) rt_38) (by rw [← h])
/-- CallAgents$Agent draftRequest -/
def jF19 (a0 : Nat) (x1 : Int32) (x2 : Int32) (x3 : Int32) (u : fm) : fm :=
  fm_let (sI u (a0 + 12) 1 x1) (fun u1 => fm_let (sI u1 (a0 + 12) 12 x1) (fun u2 => fm_let (sI u2 (a0 + 12) 2 (fI u2 a0 1)) (fun u3 => fm_let (sI u3 (a0 + 12) 3 (fI u3 a0 0)) (fun u4 => fm_let (sI u4 (a0 + 12) 4 (fI u4 a0 10)) (fun u5 => fm_let (sI u5 (a0 + 12) 5 (fI u5 a0 0)) (fun u6 => fm_let (sI u6 (a0 + 12) 6 x3) (fun u7 => fm_let (sI u7 (a0 + 12) 7 (fI u7 a0 1)) (fun u8 => fm_let (sI u8 (a0 + 12) 10 x2) (fun u9 => fm_let (sI u9 (a0 + 12) 11 (fI u9 a0 9)) (fun u10 => fm_let (jF38 (a0 + 13) u10) (fun p11 => p11)))))))))))
theorem jK19 {X : Nat × (Nat → Int32)} {a0 : Nat} {x1 : Int32} {x2 : Int32} {x3 : Int32} {u : fm} {r : fm} (h0 : fm_isA a0) (h : jF19 a0 x1 x2 x3 u = r) : ev X 19 0 [some (.inr (.inl (some a0))), some (.inl x1), some (.inl x2), some (.inl x3)] [] u ([], r) := by
  unfold jF19 at h
  refine ev_aload_n (pc := 0) (fe_19 rfl) rfl ?_
  refine ev_getR (a1 := a0 + 12) (pc := 1) (fe_19 rfl) fr_4 h0.1 rfl ?_
  refine ev_iload_n (pc := 4) (fe_19 rfl) rfl ?_
  refine fm_lt_h h (fun u1 eu1 h => ?_)
  refine ev_putI (pc := 5) (fe_19 rfl) fr_20 h0.2.2.2.2.2.2.2.2.2.2.2.2.1 eu1 ?_
  refine ev_aload_n (pc := 8) (fe_19 rfl) rfl ?_
  refine ev_getR (a1 := a0 + 12) (pc := 9) (fe_19 rfl) fr_4 h0.1 rfl ?_
  refine ev_iload_n (pc := 12) (fe_19 rfl) rfl ?_
  refine fm_lt_h h (fun u2 eu2 h => ?_)
  refine ev_putI (pc := 13) (fe_19 rfl) fr_36 h0.2.2.2.2.2.2.2.2.2.2.2.2.1 eu2 ?_
  refine ev_aload_n (pc := 16) (fe_19 rfl) rfl ?_
  refine ev_getR (a1 := a0 + 12) (pc := 17) (fe_19 rfl) fr_4 h0.1 rfl ?_
  refine ev_aload_n (pc := 20) (fe_19 rfl) rfl ?_
  refine ev_getI (pc := 21) (fe_19 rfl) fr_6 h0.1 ?_
  refine fm_lt_h h (fun u3 eu3 h => ?_)
  refine ev_putI (pc := 24) (fe_19 rfl) fr_26 h0.2.2.2.2.2.2.2.2.2.2.2.2.1 eu3 ?_
  refine ev_aload_n (pc := 27) (fe_19 rfl) rfl ?_
  refine ev_getR (a1 := a0 + 12) (pc := 28) (fe_19 rfl) fr_4 h0.1 rfl ?_
  refine ev_aload_n (pc := 31) (fe_19 rfl) rfl ?_
  refine ev_getI (pc := 32) (fe_19 rfl) fr_5 h0.1 ?_
  refine fm_lt_h h (fun u4 eu4 h => ?_)
  refine ev_putI (pc := 35) (fe_19 rfl) fr_28 h0.2.2.2.2.2.2.2.2.2.2.2.2.1 eu4 ?_
  refine ev_aload_n (pc := 38) (fe_19 rfl) rfl ?_
  refine ev_getR (a1 := a0 + 12) (pc := 39) (fe_19 rfl) fr_4 h0.1 rfl ?_
  refine ev_aload_n (pc := 42) (fe_19 rfl) rfl ?_
  refine ev_getI (pc := 43) (fe_19 rfl) fr_11 h0.1 ?_
  refine fm_lt_h h (fun u5 eu5 h => ?_)
  refine ev_putI (pc := 46) (fe_19 rfl) fr_34 h0.2.2.2.2.2.2.2.2.2.2.2.2.1 eu5 ?_
  refine ev_aload_n (pc := 49) (fe_19 rfl) rfl ?_
  refine ev_getR (a1 := a0 + 12) (pc := 50) (fe_19 rfl) fr_4 h0.1 rfl ?_
  refine ev_aload_n (pc := 53) (fe_19 rfl) rfl ?_
  refine ev_getI (pc := 54) (fe_19 rfl) fr_5 h0.1 ?_
  refine fm_lt_h h (fun u6 eu6 h => ?_)
  refine ev_putI (pc := 57) (fe_19 rfl) fr_29 h0.2.2.2.2.2.2.2.2.2.2.2.2.1 eu6 ?_
  refine ev_aload_n (pc := 60) (fe_19 rfl) rfl ?_
  refine ev_getR (a1 := a0 + 12) (pc := 61) (fe_19 rfl) fr_4 h0.1 rfl ?_
  refine ev_iload_n (pc := 64) (fe_19 rfl) rfl ?_
  refine fm_lt_h h (fun u7 eu7 h => ?_)
  refine ev_putI (pc := 65) (fe_19 rfl) fr_30 h0.2.2.2.2.2.2.2.2.2.2.2.2.1 eu7 ?_
  refine ev_aload_n (pc := 68) (fe_19 rfl) rfl ?_
  refine ev_getR (a1 := a0 + 12) (pc := 69) (fe_19 rfl) fr_4 h0.1 rfl ?_
  refine ev_aload_n (pc := 72) (fe_19 rfl) rfl ?_
  refine ev_getI (pc := 73) (fe_19 rfl) fr_6 h0.1 ?_
  refine fm_lt_h h (fun u8 eu8 h => ?_)
  refine ev_putI (pc := 76) (fe_19 rfl) fr_27 h0.2.2.2.2.2.2.2.2.2.2.2.2.1 eu8 ?_
  refine ev_aload_n (pc := 79) (fe_19 rfl) rfl ?_
  refine ev_getR (a1 := a0 + 12) (pc := 80) (fe_19 rfl) fr_4 h0.1 rfl ?_
  refine ev_iload_n (pc := 83) (fe_19 rfl) rfl ?_
  refine fm_lt_h h (fun u9 eu9 h => ?_)
  refine ev_putI (pc := 84) (fe_19 rfl) fr_31 h0.2.2.2.2.2.2.2.2.2.2.2.2.1 eu9 ?_
  refine ev_aload_n (pc := 87) (fe_19 rfl) rfl ?_
  refine ev_getR (a1 := a0 + 12) (pc := 88) (fe_19 rfl) fr_4 h0.1 rfl ?_
  refine ev_aload_n (pc := 91) (fe_19 rfl) rfl ?_
  refine ev_getI (pc := 92) (fe_19 rfl) fr_10 h0.1 ?_
  refine fm_lt_h h (fun u10 eu10 h => ?_)
  refine ev_putI (pc := 95) (fe_19 rfl) fr_32 h0.2.2.2.2.2.2.2.2.2.2.2.2.1 eu10 ?_
  refine ev_aload_n (pc := 98) (fe_19 rfl) rfl ?_
  refine ev_getR (a1 := a0 + 12) (pc := 99) (fe_19 rfl) fr_4 h0.1 rfl ?_
  refine ev_getR (a1 := a0 + 13) (pc := 102) (fe_19 rfl) fr_16 h0.2.2.2.2.2.2.2.2.2.2.2.2.1 rfl ?_
  refine fm_lt_h h (fun p11 ep11 h => ?_)
  refine ev_callVk (pc := 105) (fe_19 rfl) (z := 38) (na := 1) (ow := 3) cg_19_32 rfl rfl rfl h0.2.2.2.2.2.2.2.2.2.2.2.2.2.1 (m := 0) rfl (jK38 ⟨h0.2.2.2.2.2.2.2.2.2.2.2.2.2.1, h0.2.2.2.2.2.2.2.2.2.2.2.2.2.2⟩ ep11) (st1 := []) rfl ?_
  exact ev_R (ev_vrt (pc := 108) (fe_19 rfl) rt_19) (by rw [← h])
/-- CallAgents$Media copy -/
def jF39_10 : Nat → Nat → Nat → Int32 → fm → Option (fm)
  | 0, _, _, _, _ => none
  | n + 1, a0, a1, x2, u =>
  if x2 < 30 then
  (if fm_in x2 30 then fm_let (sA u (a0 + 1) (Int32.toNatClampNeg x2) (fA u (a1 + 1) (Int32.toNatClampNeg x2))) (fun u3 => jF39_10 n a0 a1 (x2 + 1) u3) else none)
  else
  (some u)
def jF39 (a0 : Nat) (a1 : Nat) (u : fm) : Option (fm) :=
  fm_let (sI u a0 1 (fI u a1 1)) (fun u1 => jF39_10 fm_N a0 a1 0 u1)
theorem jK39_10 {X : Nat × (Nat → Int32)} {r : fm} : ∀ (n : Nat) (a0 : Nat) (a1 : Nat) (x2 : Int32) (u : fm) (h0 : fm_isD a0) (h1 : fm_isD a1), jF39_10 n a0 a1 x2 u = some r → ev X 39 10 [some (.inr (.inl (some a0))), some (.inr (.inl (some a1))), some (.inl x2)] [] u ([], r) := by
  intro n
  induction n with
  | zero =>
    intro _ _ _ _ _ _ h
    unfold jF39_10 at h
    cases h
  | succ n ih =>
  intro a0 a1 x2 u h0 h1 h
  unfold jF39_10 at h
  refine ev_iload_n (pc := 10) (fe_39 rfl) rfl ?_
  refine ev_bipush (pc := 11) (fe_39 rfl) lb_30 ?_
  refine ev_ic_ge (pc := 13) (fe_39 rfl) (t := 34) rfl h (fun h => ?_) (fun h => ?_)
  exact ev_R (ev_vrt (pc := 34) (fe_39 rfl) rt_39) (by rw [← Option.some.inj h])
  refine ev_aload_n (pc := 16) (fe_39 rfl) rfl ?_
  refine ev_getR (a1 := a0 + 1) (pc := 17) (fe_39 rfl) fr_53 h0.1 rfl ?_
  refine ev_iload_n (pc := 20) (fe_39 rfl) rfl ?_
  refine ev_aload_n (pc := 21) (fe_39 rfl) rfl ?_
  refine ev_getR (a1 := a1 + 1) (pc := 22) (fe_39 rfl) fr_53 h1.1 rfl ?_
  refine ev_iload_n (pc := 25) (fe_39 rfl) rfl ?_
  refine fm_ob h (fun g2 h => ?_)
  refine ev_iaload (pc := 26) (fe_39 rfl) h1.2 g2 ?_
  refine fm_lt_h h (fun u3 eu3 h => ?_)
  refine ev_iastore (pc := 27) (fe_39 rfl) h0.2 g2 eu3 ?_
  refine ev_iinc (pc := 28) (fe_39 rfl) mx_39 rfl rfl li_1 ?_
  refine ev_goto (pc := 31) (fe_39 rfl) (t := 10) rfl ?_
  exact ih a0 a1 (x2 + 1) u3 h0 h1 h
theorem jK39 {X : Nat × (Nat → Int32)} {a0 : Nat} {a1 : Nat} {u : fm} {r : fm} (h0 : fm_isD a0) (h1 : fm_isD a1) (h : jF39 a0 a1 u = some r) : ev X 39 0 [some (.inr (.inl (some a0))), some (.inr (.inl (some a1))), none] [] u ([], r) := by
  unfold jF39 at h
  refine ev_aload_n (pc := 0) (fe_39 rfl) rfl ?_
  refine ev_aload_n (pc := 1) (fe_39 rfl) rfl ?_
  refine ev_getI (pc := 2) (fe_39 rfl) fr_54 h1.1 ?_
  refine fm_lt_h h (fun u1 eu1 h => ?_)
  refine ev_putI (pc := 5) (fe_39 rfl) fr_54 h0.1 eu1 ?_
  refine ev_iconst (pc := 8) (fe_39 rfl) li_0 ?_
  refine ev_istore_n (pc := 9) (fe_39 rfl) mx_39 rfl ?_
  exact jK39_10 fm_N a0 a1 0 u1 h0 h1 h
/-- CallAgents$Message copy -/
def jF47 (a0 : Nat) (a1 : Nat) (u : fm) : Option (fm) :=
  fm_let (sI u a0 1 (fI u a1 1)) (fun u1 => fm_let (sI u1 a0 2 (fI u1 a1 2)) (fun u2 => fm_let (sI u2 a0 3 (fI u2 a1 3)) (fun u3 => fm_let (sI u3 a0 4 (fI u3 a1 4)) (fun u4 => fm_let (sI u4 a0 5 (fI u4 a1 5)) (fun u5 => fm_let (sI u5 a0 6 (fI u5 a1 6)) (fun u6 => fm_let (sI u6 a0 7 (fI u6 a1 7)) (fun u7 => fm_let (sI u7 a0 8 (fm_b01 (fI u7 a1 8))) (fun u8 => fm_let (sI u8 a0 9 (fI u8 a1 9)) (fun u9 => fm_let (sI u9 a0 10 (fI u9 a1 10)) (fun u10 => fm_let (sI u10 a0 11 (fI u10 a1 11)) (fun u11 => fm_let (sI u11 a0 12 (fI u11 a1 12)) (fun u12 => Option.bind (jF39 (a0 + 1) (a1 + 1) u12) (fun p13 => some p13)))))))))))))
theorem jK47 {X : Nat × (Nat → Int32)} {a0 : Nat} {a1 : Nat} {u : fm} {r : fm} (h0 : fm_isM a0) (h1 : fm_isM a1) (h : jF47 a0 a1 u = some r) : ev X 47 0 [some (.inr (.inl (some a0))), some (.inr (.inl (some a1)))] [] u ([], r) := by
  unfold jF47 at h
  refine ev_aload_n (pc := 0) (fe_47 rfl) rfl ?_
  refine ev_aload_n (pc := 1) (fe_47 rfl) rfl ?_
  refine ev_getI (pc := 2) (fe_47 rfl) fr_56 h1.1 ?_
  refine fm_lt_h h (fun u1 eu1 h => ?_)
  refine ev_putI (pc := 5) (fe_47 rfl) fr_56 h0.1 eu1 ?_
  refine ev_aload_n (pc := 8) (fe_47 rfl) rfl ?_
  refine ev_aload_n (pc := 9) (fe_47 rfl) rfl ?_
  refine ev_getI (pc := 10) (fe_47 rfl) fr_57 h1.1 ?_
  refine fm_lt_h h (fun u2 eu2 h => ?_)
  refine ev_putI (pc := 13) (fe_47 rfl) fr_57 h0.1 eu2 ?_
  refine ev_aload_n (pc := 16) (fe_47 rfl) rfl ?_
  refine ev_aload_n (pc := 17) (fe_47 rfl) rfl ?_
  refine ev_getI (pc := 18) (fe_47 rfl) fr_58 h1.1 ?_
  refine fm_lt_h h (fun u3 eu3 h => ?_)
  refine ev_putI (pc := 21) (fe_47 rfl) fr_58 h0.1 eu3 ?_
  refine ev_aload_n (pc := 24) (fe_47 rfl) rfl ?_
  refine ev_aload_n (pc := 25) (fe_47 rfl) rfl ?_
  refine ev_getI (pc := 26) (fe_47 rfl) fr_59 h1.1 ?_
  refine fm_lt_h h (fun u4 eu4 h => ?_)
  refine ev_putI (pc := 29) (fe_47 rfl) fr_59 h0.1 eu4 ?_
  refine ev_aload_n (pc := 32) (fe_47 rfl) rfl ?_
  refine ev_aload_n (pc := 33) (fe_47 rfl) rfl ?_
  refine ev_getI (pc := 34) (fe_47 rfl) fr_60 h1.1 ?_
  refine fm_lt_h h (fun u5 eu5 h => ?_)
  refine ev_putI (pc := 37) (fe_47 rfl) fr_60 h0.1 eu5 ?_
  refine ev_aload_n (pc := 40) (fe_47 rfl) rfl ?_
  refine ev_aload_n (pc := 41) (fe_47 rfl) rfl ?_
  refine ev_getI (pc := 42) (fe_47 rfl) fr_61 h1.1 ?_
  refine fm_lt_h h (fun u6 eu6 h => ?_)
  refine ev_putI (pc := 45) (fe_47 rfl) fr_61 h0.1 eu6 ?_
  refine ev_aload_n (pc := 48) (fe_47 rfl) rfl ?_
  refine ev_aload_n (pc := 49) (fe_47 rfl) rfl ?_
  refine ev_getI (pc := 50) (fe_47 rfl) fr_62 h1.1 ?_
  refine fm_lt_h h (fun u7 eu7 h => ?_)
  refine ev_putI (pc := 53) (fe_47 rfl) fr_62 h0.1 eu7 ?_
  refine ev_aload_n (pc := 56) (fe_47 rfl) rfl ?_
  refine ev_aload_n (pc := 57) (fe_47 rfl) rfl ?_
  refine ev_getZ (pc := 58) (fe_47 rfl) fr_63 h1.1 ?_
  refine fm_lt_h h (fun u8 eu8 h => ?_)
  refine ev_putZ (pc := 61) (fe_47 rfl) fr_63 h0.1 (fm_b01_01 _) eu8 ?_
  refine ev_aload_n (pc := 64) (fe_47 rfl) rfl ?_
  refine ev_aload_n (pc := 65) (fe_47 rfl) rfl ?_
  refine ev_getI (pc := 66) (fe_47 rfl) fr_64 h1.1 ?_
  refine fm_lt_h h (fun u9 eu9 h => ?_)
  refine ev_putI (pc := 69) (fe_47 rfl) fr_64 h0.1 eu9 ?_
  refine ev_aload_n (pc := 72) (fe_47 rfl) rfl ?_
  refine ev_aload_n (pc := 73) (fe_47 rfl) rfl ?_
  refine ev_getI (pc := 74) (fe_47 rfl) fr_65 h1.1 ?_
  refine fm_lt_h h (fun u10 eu10 h => ?_)
  refine ev_putI (pc := 77) (fe_47 rfl) fr_65 h0.1 eu10 ?_
  refine ev_aload_n (pc := 80) (fe_47 rfl) rfl ?_
  refine ev_aload_n (pc := 81) (fe_47 rfl) rfl ?_
  refine ev_getI (pc := 82) (fe_47 rfl) fr_66 h1.1 ?_
  refine fm_lt_h h (fun u11 eu11 h => ?_)
  refine ev_putI (pc := 85) (fe_47 rfl) fr_66 h0.1 eu11 ?_
  refine ev_aload_n (pc := 88) (fe_47 rfl) rfl ?_
  refine ev_aload_n (pc := 89) (fe_47 rfl) rfl ?_
  refine ev_getI (pc := 90) (fe_47 rfl) fr_67 h1.1 ?_
  refine fm_lt_h h (fun u12 eu12 h => ?_)
  refine ev_putI (pc := 93) (fe_47 rfl) fr_67 h0.1 eu12 ?_
  refine ev_aload_n (pc := 96) (fe_47 rfl) rfl ?_
  refine ev_getR (a1 := a0 + 1) (pc := 97) (fe_47 rfl) fr_55 h0.1 rfl ?_
  refine ev_aload_n (pc := 100) (fe_47 rfl) rfl ?_
  refine ev_getR (a1 := a1 + 1) (pc := 101) (fe_47 rfl) fr_55 h1.1 rfl ?_
  refine fm_bd h (fun p13 ep13 h => ?_)
  refine ev_callVk (pc := 104) (fe_47 rfl) (z := 39) (na := 2) (ow := 3) cg_47_58 rfl rfl rfl h0.2.1 (m := 1) rfl (jK39 ⟨h0.2.1, h0.2.2⟩ ⟨h1.2.1, h1.2.2⟩ ep13) (st1 := []) rfl ?_
  exact ev_R (ev_vrt (pc := 107) (fe_47 rfl) rt_47) (by rw [← Option.some.inj h])
/-- CallAgents$Agent keep -/
def jF20 (a0 : Nat) (u : fm) : Option (fm) :=
  Option.bind (jF47 (a0 + 9) (a0 + 12) u) (fun p1 => some p1)
theorem jK20 {X : Nat × (Nat → Int32)} {a0 : Nat} {u : fm} {r : fm} (h0 : fm_isA a0) (h : jF20 a0 u = some r) : ev X 20 0 [some (.inr (.inl (some a0)))] [] u ([], r) := by
  unfold jF20 at h
  refine ev_aload_n (pc := 0) (fe_20 rfl) rfl ?_
  refine ev_getR (a1 := a0 + 9) (pc := 1) (fe_20 rfl) fr_3 h0.1 rfl ?_
  refine ev_aload_n (pc := 4) (fe_20 rfl) rfl ?_
  refine ev_getR (a1 := a0 + 12) (pc := 5) (fe_20 rfl) fr_4 h0.1 rfl ?_
  refine fm_bd h (fun p1 ep1 h => ?_)
  refine ev_callVk (pc := 8) (fe_20 rfl) (z := 47) (na := 2) (ow := 4) cg_20_13 rfl rfl rfl h0.2.2.2.2.2.2.2.2.2.1 (m := 0) rfl (jK47 ⟨h0.2.2.2.2.2.2.2.2.2.1, h0.2.2.2.2.2.2.2.2.2.2.1, h0.2.2.2.2.2.2.2.2.2.2.2.1⟩ ⟨h0.2.2.2.2.2.2.2.2.2.2.2.2.1, h0.2.2.2.2.2.2.2.2.2.2.2.2.2.1, h0.2.2.2.2.2.2.2.2.2.2.2.2.2.2⟩ ep1) (st1 := []) rfl ?_
  exact ev_R (ev_vrt (pc := 11) (fe_20 rfl) rt_20) (by rw [← Option.some.inj h])
/-- CallAgents$Link get -/
def jF30 (x1 : Int32) (u : fm) : Option (Option Nat) :=
  if x1 < 0 then
  (some none)
  else
  (if x1 < (fI u 1 1) then
  (if x1 < 60 then
  (if fm_in x1 60 then fm_let (3 + 3 * (fP u 2 (Int32.toNatClampNeg x1) % 60)) (fun m2 => some (some m2)) else none)
  else
  (some none))
  else
  (some none))
theorem jK30 {X : Nat × (Nat → Int32)} {x1 : Int32} {u : fm} {r : Option Nat} (h : jF30 x1 u = some r) : ev X 30 0 [some (.inr (.inl (some 1))), some (.inl x1)] [] u ([.inr (.inl r)], u) := by
  unfold jF30 at h
  refine ev_iload_n (pc := 0) (fe_30 rfl) rfl ?_
  refine ev_if_lt (pc := 1) (fe_30 rfl) (t := 27) rfl h (fun h => ?_) (fun h => ?_)
  refine ev_null (pc := 27) (fe_30 rfl) ?_
  exact ev_R (ev_art (pc := 28) (fe_30 rfl) rt_30) (by rw [← Option.some.inj h])
  refine ev_iload_n (pc := 4) (fe_30 rfl) rfl ?_
  refine ev_aload_n (pc := 5) (fe_30 rfl) rfl ?_
  refine ev_getI (pc := 6) (fe_30 rfl) fr_52 t_1 ?_
  refine ev_ic_ge (pc := 9) (fe_30 rfl) (t := 27) rfl h (fun h => ?_) (fun h => ?_)
  refine ev_null (pc := 27) (fe_30 rfl) ?_
  exact ev_R (ev_art (pc := 28) (fe_30 rfl) rt_30) (by rw [← Option.some.inj h])
  refine ev_iload_n (pc := 12) (fe_30 rfl) rfl ?_
  refine ev_bipush (pc := 13) (fe_30 rfl) lb_60 ?_
  refine ev_ic_ge (pc := 15) (fe_30 rfl) (t := 27) rfl h (fun h => ?_) (fun h => ?_)
  refine ev_null (pc := 27) (fe_30 rfl) ?_
  exact ev_R (ev_art (pc := 28) (fe_30 rfl) rt_30) (by rw [← Option.some.inj h])
  refine ev_aload_n (pc := 18) (fe_30 rfl) rfl ?_
  refine ev_getR (a1 := 2) (pc := 19) (fe_30 rfl) fr_51 t_1 rfl ?_
  refine ev_iload_n (pc := 22) (fe_30 rfl) rfl ?_
  refine fm_ob h (fun g1 h => ?_)
  refine fm_lt_h h (fun m2 em2 h => ?_)
  have hm2 : fm_isL m2 := em2 ▸ fm_isL_mk _
  refine ev_aaloadk (pc := 23) (fe_30 rfl) t_2 g1 em2 ?_
  refine ev_goto (pc := 24) (fe_30 rfl) (t := 28) rfl ?_
  exact ev_R (ev_art (pc := 28) (fe_30 rfl) rt_30) (by rw [← Option.some.inj h])
theorem jP30 {x : Int32} {u : fm} {p : Option Nat} {q : Nat} (h : jF30 x u = some p) (e : p = some q) : fm_isL q := by
  subst e
  unfold jF30 fm_let at h
  repeat' split at h
  all_goals first | (cases h; exact fm_isL_mk _) | cases h
/-- CallAgents$Link remove -/
def jF31_52 (q2 : Nat) (u : fm) : Option (Int32 × fm) :=
  fm_let (sI u 1 1 ((fI u 1 1) - 1)) (fun u3 => if (fI u3 1 1) < 0 then
  (some (1, u3))
  else
  (if (fI u3 1 1) < 60 then
  (if fm_in (fI u3 1 1) 60 then fm_let (sP u3 2 (Int32.toNatClampNeg (fI u3 1 1)) ((q2 - 3) / 3)) (fun u5 => some (1, u5)) else none)
  else
  (some (1, u3))))
def jF31_14 : Nat → Nat → Int32 → fm → Option (Int32 × fm)
  | 0, _, _, _ => none
  | n + 1, q2, x3, u =>
  if (x3 + 1) < (fI u 1 1) then
  (if (x3 + 1) < 60 then
  (if fm_in (x3 + 1) 60 then fm_let (3 + 3 * (fP u 2 (Int32.toNatClampNeg (x3 + 1)) % 60)) (fun m7 => if fm_in x3 60 then fm_let (sP u 2 (Int32.toNatClampNeg x3) ((m7 - 3) / 3)) (fun u9 => jF31_14 n q2 (x3 + 1) u9) else none) else none)
  else
  (jF31_52 q2 u))
  else
  (jF31_52 q2 u)
def jF31 (x1 : Int32) (u : fm) : Option (Int32 × fm) :=
  Option.bind (jF30 x1 u) (fun p1 => fm_opt p1
  (some (0, u))
  (fun q2 => jF31_14 fm_N q2 x1 u))
theorem jK31_52 {X : Nat × (Nat → Int32)} {r : Int32 × fm} (q2 : Nat) (u : fm) (hq2 : fm_isL q2) (h : jF31_52 q2 u = some r) : ev X 31 52 [some (.inr (.inl (some 1))), none, some (.inr (.inl (some q2))), none] [] u ([.inl r.1], r.2) := by
  unfold jF31_52 at h
  refine ev_aload_n (pc := 52) (fe_31 rfl) rfl ?_
  refine ev_dup (pc := 53) (fe_31 rfl) rfl ?_
  refine ev_getI (pc := 54) (fe_31 rfl) fr_52 t_1 ?_
  refine ev_iconst (pc := 57) (fe_31 rfl) li_1 ?_
  refine ev_isub (pc := 58) (fe_31 rfl) ?_
  refine fm_lt_h h (fun u3 eu3 h => ?_)
  refine ev_putI (pc := 59) (fe_31 rfl) fr_52 t_1 eu3 ?_
  refine ev_aload_n (pc := 62) (fe_31 rfl) rfl ?_
  refine ev_getI (pc := 63) (fe_31 rfl) fr_52 t_1 ?_
  refine ev_if_lt (pc := 66) (fe_31 rfl) (t := 88) rfl h (fun h => ?_) (fun h => ?_)
  refine ev_iconst (pc := 88) (fe_31 rfl) li_1 ?_
  exact ev_R (ev_zrt (pc := 89) (fe_31 rfl) rt_31 (Or.inr rfl)) (by rw [← Option.some.inj h])
  refine ev_aload_n (pc := 69) (fe_31 rfl) rfl ?_
  refine ev_getI (pc := 70) (fe_31 rfl) fr_52 t_1 ?_
  refine ev_bipush (pc := 73) (fe_31 rfl) lb_60 ?_
  refine ev_ic_ge (pc := 75) (fe_31 rfl) (t := 88) rfl h (fun h => ?_) (fun h => ?_)
  refine ev_iconst (pc := 88) (fe_31 rfl) li_1 ?_
  exact ev_R (ev_zrt (pc := 89) (fe_31 rfl) rt_31 (Or.inr rfl)) (by rw [← Option.some.inj h])
  refine ev_aload_n (pc := 78) (fe_31 rfl) rfl ?_
  refine ev_getR (a1 := 2) (pc := 79) (fe_31 rfl) fr_51 t_1 rfl ?_
  refine ev_aload_n (pc := 82) (fe_31 rfl) rfl ?_
  refine ev_getI (pc := 83) (fe_31 rfl) fr_52 t_1 ?_
  refine ev_aload_n (pc := 86) (fe_31 rfl) rfl ?_
  refine fm_ob h (fun g4 h => ?_)
  refine fm_lt_h h (fun u5 eu5 h => ?_)
  refine ev_aastore (pc := 87) (fe_31 rfl) t_2 g4 hq2 eu5 ?_
  refine ev_iconst (pc := 88) (fe_31 rfl) li_1 ?_
  exact ev_R (ev_zrt (pc := 89) (fe_31 rfl) rt_31 (Or.inr rfl)) (by rw [← Option.some.inj h])
theorem jK31_14 {X : Nat × (Nat → Int32)} {r : Int32 × fm} : ∀ (n : Nat) (q2 : Nat) (x3 : Int32) (u : fm) (hq2 : fm_isL q2), jF31_14 n q2 x3 u = some r → ev X 31 14 [some (.inr (.inl (some 1))), none, some (.inr (.inl (some q2))), some (.inl x3)] [] u ([.inl r.1], r.2) := by
  intro n
  induction n with
  | zero =>
    intro _ _ _ _ h
    unfold jF31_14 at h
    cases h
  | succ n ih =>
  intro q2 x3 u hq2 h
  unfold jF31_14 at h
  refine ev_iload_n (pc := 14) (fe_31 rfl) rfl ?_
  refine ev_iconst (pc := 15) (fe_31 rfl) li_1 ?_
  refine ev_iadd (pc := 16) (fe_31 rfl) ?_
  refine ev_aload_n (pc := 17) (fe_31 rfl) rfl ?_
  refine ev_getI (pc := 18) (fe_31 rfl) fr_52 t_1 ?_
  refine ev_ic_ge (pc := 21) (fe_31 rfl) (t := 52) rfl h (fun h => ?_) (fun h => ?_)
  refine ev_w [true, true, true, false] ?_
  exact jK31_52 q2 u hq2 h
  refine ev_iload_n (pc := 24) (fe_31 rfl) rfl ?_
  refine ev_iconst (pc := 25) (fe_31 rfl) li_1 ?_
  refine ev_iadd (pc := 26) (fe_31 rfl) ?_
  refine ev_bipush (pc := 27) (fe_31 rfl) lb_60 ?_
  refine ev_ic_ge (pc := 29) (fe_31 rfl) (t := 52) rfl h (fun h => ?_) (fun h => ?_)
  refine ev_w [true, true, true, false] ?_
  exact jK31_52 q2 u hq2 h
  refine ev_aload_n (pc := 32) (fe_31 rfl) rfl ?_
  refine ev_getR (a1 := 2) (pc := 33) (fe_31 rfl) fr_51 t_1 rfl ?_
  refine ev_iload_n (pc := 36) (fe_31 rfl) rfl ?_
  refine ev_aload_n (pc := 37) (fe_31 rfl) rfl ?_
  refine ev_getR (a1 := 2) (pc := 38) (fe_31 rfl) fr_51 t_1 rfl ?_
  refine ev_iload_n (pc := 41) (fe_31 rfl) rfl ?_
  refine ev_iconst (pc := 42) (fe_31 rfl) li_1 ?_
  refine ev_iadd (pc := 43) (fe_31 rfl) ?_
  refine fm_ob h (fun g6 h => ?_)
  refine fm_lt_h h (fun m7 em7 h => ?_)
  have hm7 : fm_isL m7 := em7 ▸ fm_isL_mk _
  refine ev_aaloadk (pc := 44) (fe_31 rfl) t_2 g6 em7 ?_
  refine fm_ob h (fun g8 h => ?_)
  refine fm_lt_h h (fun u9 eu9 h => ?_)
  refine ev_aastore (pc := 45) (fe_31 rfl) t_2 g8 hm7 eu9 ?_
  refine ev_iinc (pc := 46) (fe_31 rfl) mx_31 rfl rfl li_1 ?_
  refine ev_goto (pc := 49) (fe_31 rfl) (t := 14) rfl ?_
  exact ih q2 (x3 + 1) u9 hq2 h
theorem jK31 {X : Nat × (Nat → Int32)} {x1 : Int32} {u : fm} {r : Int32 × fm} (h : jF31 x1 u = some r) : ev X 31 0 [some (.inr (.inl (some 1))), some (.inl x1), none, none] [] u ([.inl r.1], r.2) := by
  unfold jF31 at h
  refine ev_aload_n (pc := 0) (fe_31 rfl) rfl ?_
  refine ev_iload_n (pc := 1) (fe_31 rfl) rfl ?_
  refine fm_bd h (fun p1 ep1 h => ?_)
  refine fm_op h (fun eq2 h => ?_) (fun q2 eq2 h => ?_)
  refine ev_callVk (pc := 2) (fe_31 rfl) (z := 30) (na := 2) (ow := 2) cg_31_42 rfl rfl rfl t_1 (m := 0) rfl (jK30 ep1) (st1 := [.inr (.inl none)]) (by rw [eq2]; rfl) ?_
  refine ev_astore_n (pc := 5) (fe_31 rfl) mx_31 rfl ?_
  refine ev_aload_n (pc := 6) (fe_31 rfl) rfl ?_
  refine ev_nnl_f (pc := 7) (fe_31 rfl) (t := 12) rfl ?_
  refine ev_iconst (pc := 10) (fe_31 rfl) li_0 ?_
  exact ev_R (ev_zrt (pc := 11) (fe_31 rfl) rt_31 (Or.inl rfl)) (by rw [← Option.some.inj h])
  have hq2 := jP30 ep1 eq2
  refine ev_callVk (pc := 2) (fe_31 rfl) (z := 30) (na := 2) (ow := 2) cg_31_42 rfl rfl rfl t_1 (m := 0) rfl (jK30 ep1) (st1 := [.inr (.inl (some q2))]) (by rw [eq2]; rfl) ?_
  refine ev_astore_n (pc := 5) (fe_31 rfl) mx_31 rfl ?_
  refine ev_aload_n (pc := 6) (fe_31 rfl) rfl ?_
  refine ev_nnl_t (pc := 7) (fe_31 rfl) (t := 12) rfl ?_
  refine ev_iload_n (pc := 12) (fe_31 rfl) rfl ?_
  refine ev_istore_n (pc := 13) (fe_31 rfl) mx_31 rfl ?_
  refine ev_w [true, false, true, true] ?_
  exact jK31_14 fm_N q2 x1 u hq2 h
/-- CallAgents$Link push -/
def jF32_15 (a1 : Nat) (u : fm) : Option (fm) :=
  if (fI u 1 1) < 0 then
  (some u)
  else
  (if (fI u 1 1) < 60 then
  (if fm_in (fI u 1 1) 60 then fm_let (3 + 3 * (fP u 2 (Int32.toNatClampNeg (fI u 1 1)) % 60)) (fun m2 => fm_let (3 + 3 * (fP u 2 (Int32.toNatClampNeg (fI u 1 1)) % 60)) (fun m3 => Option.bind (jF47 m3 a1 u) (fun p4 => fm_let (sI p4 1 1 ((fI p4 1 1) + 1)) (fun u5 => some u5)))) else none)
  else
  (some u))
def jF32 (a1 : Nat) (u : fm) : Option (fm) :=
  if (fI u 1 1) < 60 then
  (jF32_15 a1 u)
  else
  (Option.bind (jF31 0 u) (fun p6 => jF32_15 a1 p6.2))
theorem jK32_15 {X : Nat × (Nat → Int32)} {r : fm} (a1 : Nat) (u : fm) (h1 : fm_isM a1) (h : jF32_15 a1 u = some r) : ev X 32 15 [some (.inr (.inl (some 1))), some (.inr (.inl (some a1)))] [] u ([], r) := by
  unfold jF32_15 at h
  refine ev_aload_n (pc := 15) (fe_32 rfl) rfl ?_
  refine ev_getI (pc := 16) (fe_32 rfl) fr_52 t_1 ?_
  refine ev_if_lt (pc := 19) (fe_32 rfl) (t := 66) rfl h (fun h => ?_) (fun h => ?_)
  exact ev_R (ev_vrt (pc := 66) (fe_32 rfl) rt_32) (by rw [← Option.some.inj h])
  refine ev_aload_n (pc := 22) (fe_32 rfl) rfl ?_
  refine ev_getI (pc := 23) (fe_32 rfl) fr_52 t_1 ?_
  refine ev_bipush (pc := 26) (fe_32 rfl) lb_60 ?_
  refine ev_ic_ge (pc := 28) (fe_32 rfl) (t := 66) rfl h (fun h => ?_) (fun h => ?_)
  exact ev_R (ev_vrt (pc := 66) (fe_32 rfl) rt_32) (by rw [← Option.some.inj h])
  refine ev_aload_n (pc := 31) (fe_32 rfl) rfl ?_
  refine ev_getR (a1 := 2) (pc := 32) (fe_32 rfl) fr_51 t_1 rfl ?_
  refine ev_aload_n (pc := 35) (fe_32 rfl) rfl ?_
  refine ev_getI (pc := 36) (fe_32 rfl) fr_52 t_1 ?_
  refine fm_ob h (fun g1 h => ?_)
  refine fm_lt_h h (fun m2 em2 h => ?_)
  have hm2 : fm_isL m2 := em2 ▸ fm_isL_mk _
  refine ev_aaloadk (pc := 39) (fe_32 rfl) t_2 g1 em2 ?_
  refine ev_nul_f (pc := 40) (fe_32 rfl) (t := 66) rfl ?_
  refine ev_aload_n (pc := 43) (fe_32 rfl) rfl ?_
  refine ev_getR (a1 := 2) (pc := 44) (fe_32 rfl) fr_51 t_1 rfl ?_
  refine ev_aload_n (pc := 47) (fe_32 rfl) rfl ?_
  refine ev_getI (pc := 48) (fe_32 rfl) fr_52 t_1 ?_
  refine fm_lt_h h (fun m3 em3 h => ?_)
  have hm3 : fm_isL m3 := em3 ▸ fm_isL_mk _
  refine ev_aaloadk (pc := 51) (fe_32 rfl) t_2 g1 em3 ?_
  refine ev_aload_n (pc := 52) (fe_32 rfl) rfl ?_
  refine fm_bd h (fun p4 ep4 h => ?_)
  refine ev_callVk (pc := 53) (fe_32 rfl) (z := 47) (na := 2) (ow := 4) cg_32_44 rfl rfl rfl (fm_isL_M hm3).1 (m := 0) rfl (jK47 (fm_isL_M hm3) h1 ep4) (st1 := []) rfl ?_
  refine ev_aload_n (pc := 56) (fe_32 rfl) rfl ?_
  refine ev_dup (pc := 57) (fe_32 rfl) rfl ?_
  refine ev_getI (pc := 58) (fe_32 rfl) fr_52 t_1 ?_
  refine ev_iconst (pc := 61) (fe_32 rfl) li_1 ?_
  refine ev_iadd (pc := 62) (fe_32 rfl) ?_
  refine fm_lt_h h (fun u5 eu5 h => ?_)
  refine ev_putI (pc := 63) (fe_32 rfl) fr_52 t_1 eu5 ?_
  exact ev_R (ev_vrt (pc := 66) (fe_32 rfl) rt_32) (by rw [← Option.some.inj h])
theorem jK32 {X : Nat × (Nat → Int32)} {a1 : Nat} {u : fm} {r : fm} (h1 : fm_isM a1) (h : jF32 a1 u = some r) : ev X 32 0 [some (.inr (.inl (some 1))), some (.inr (.inl (some a1)))] [] u ([], r) := by
  unfold jF32 at h
  refine ev_aload_n (pc := 0) (fe_32 rfl) rfl ?_
  refine ev_getI (pc := 1) (fe_32 rfl) fr_52 t_1 ?_
  refine ev_bipush (pc := 4) (fe_32 rfl) lb_60 ?_
  refine ev_ic_lt (pc := 6) (fe_32 rfl) (t := 15) rfl h (fun h => ?_) (fun h => ?_)
  exact jK32_15 a1 u h1 h
  refine ev_aload_n (pc := 9) (fe_32 rfl) rfl ?_
  refine ev_iconst (pc := 10) (fe_32 rfl) li_0 ?_
  refine fm_bd h (fun p6 ep6 h => ?_)
  refine ev_callVZk (pc := 11) (fe_32 rfl) (z := 31) (na := 2) (ow := 2) cg_32_43 rfl rt_31 rfl rfl t_1 (m := 2) rfl (jK31 ep6) (st1 := [.inl p6.1]) rfl (fun z7 => ?_)
  refine ev_pop (pc := 14) (fe_32 rfl) rfl ?_
  exact jK32_15 a1 p6.2 h1 h
/-- CallAgents$Agent send -/
def jF21 (a0 : Nat) (a1 : Nat) (u : fm) : Option (fm) :=
  fm_let (sI u a0 14 ((fI u a0 14) + 1)) (fun u1 => Option.bind (jF32 a1 u1) (fun p2 => some p2))
theorem jK21 {X : Nat × (Nat → Int32)} {a0 : Nat} {a1 : Nat} {u : fm} {r : fm} (h0 : fm_isA a0) (h1 : fm_isM a1) (h : jF21 a0 a1 u = some r) : ev X 21 0 [some (.inr (.inl (some a0))), some (.inr (.inl (some a1)))] [] u ([], r) := by
  unfold jF21 at h
  refine ev_aload_n (pc := 0) (fe_21 rfl) rfl ?_
  refine ev_dup (pc := 1) (fe_21 rfl) rfl ?_
  refine ev_getI (pc := 2) (fe_21 rfl) fr_25 h0.1 ?_
  refine ev_iconst (pc := 5) (fe_21 rfl) li_1 ?_
  refine ev_iadd (pc := 6) (fe_21 rfl) ?_
  refine fm_lt_h h (fun u1 eu1 h => ?_)
  refine ev_putI (pc := 7) (fe_21 rfl) fr_25 h0.1 eu1 ?_
  refine ev_aload_n (pc := 10) (fe_21 rfl) rfl ?_
  refine ev_getR (a1 := 1) (pc := 11) (fe_21 rfl) fr_7 h0.1 rfl ?_
  refine ev_aload_n (pc := 14) (fe_21 rfl) rfl ?_
  refine fm_bd h (fun p2 ep2 h => ?_)
  refine ev_callVk (pc := 15) (fe_21 rfl) (z := 32) (na := 2) (ow := 2) cg_21_33 rfl rfl rfl t_1 (m := 0) rfl (jK32 h1 ep2) (st1 := []) rfl ?_
  exact ev_R (ev_vrt (pc := 18) (fe_21 rfl) rt_21) (by rw [← Option.some.inj h])
/-- CallAgents$Timer start -/
def jF78 (a0 : Nat) (x1 : Int32) (x2 : Int32) (u : fm) : fm :=
  fm_let (sI u a0 0 1) (fun u1 => fm_let (sI u1 a0 3 500) (fun u2 => fm_let (sI u2 a0 4 x2) (fun u3 => fm_let (sI u3 a0 1 (x1 + (fI u3 a0 3))) (fun u4 => fm_let (sI u4 a0 2 (x1 + 32000)) (fun u5 => u5)))))
theorem jK78 {X : Nat × (Nat → Int32)} {a0 : Nat} {x1 : Int32} {x2 : Int32} {u : fm} {r : fm} (h0 : fm_isR a0) (h : jF78 a0 x1 x2 u = r) : ev X 78 0 [some (.inr (.inl (some a0))), some (.inl x1), some (.inl x2)] [] u ([], r) := by
  unfold jF78 at h
  refine ev_aload_n (pc := 0) (fe_78 rfl) rfl ?_
  refine ev_iconst (pc := 1) (fe_78 rfl) li_1 ?_
  refine fm_lt_h h (fun u1 eu1 h => ?_)
  refine ev_putZ (pc := 2) (fe_78 rfl) fr_90 h0 (Or.inr rfl) eu1 ?_
  refine ev_aload_n (pc := 5) (fe_78 rfl) rfl ?_
  refine ev_sipush (pc := 6) (fe_78 rfl) ls_500 ?_
  refine fm_lt_h h (fun u2 eu2 h => ?_)
  refine ev_putI (pc := 9) (fe_78 rfl) fr_91 h0 eu2 ?_
  refine ev_aload_n (pc := 12) (fe_78 rfl) rfl ?_
  refine ev_iload_n (pc := 13) (fe_78 rfl) rfl ?_
  refine fm_lt_h h (fun u3 eu3 h => ?_)
  refine ev_putI (pc := 14) (fe_78 rfl) fr_92 h0 eu3 ?_
  refine ev_aload_n (pc := 17) (fe_78 rfl) rfl ?_
  refine ev_iload_n (pc := 18) (fe_78 rfl) rfl ?_
  refine ev_aload_n (pc := 19) (fe_78 rfl) rfl ?_
  refine ev_getI (pc := 20) (fe_78 rfl) fr_91 h0 ?_
  refine ev_iadd (pc := 23) (fe_78 rfl) ?_
  refine fm_lt_h h (fun u4 eu4 h => ?_)
  refine ev_putI (pc := 24) (fe_78 rfl) fr_93 h0 eu4 ?_
  refine ev_aload_n (pc := 27) (fe_78 rfl) rfl ?_
  refine ev_iload_n (pc := 28) (fe_78 rfl) rfl ?_
  refine ev_sipush (pc := 29) (fe_78 rfl) ls_32000 ?_
  refine ev_iadd (pc := 32) (fe_78 rfl) ?_
  refine fm_lt_h h (fun u5 eu5 h => ?_)
  refine ev_putI (pc := 33) (fe_78 rfl) fr_94 h0 eu5 ?_
  exact ev_R (ev_vrt (pc := 36) (fe_78 rfl) rt_78) (by rw [← h])
/-- CallAgents$Agent waitIn -/
def jF23 (a0 : Nat) (x1 : Int32) (x2 : Int32) (x3 : Int32) (u : fm) : fm :=
  fm_let (sI u a0 8 x1) (fun u1 => fm_let (jF78 (a0 + 8) x2 x3 u1) (fun p2 => p2))
theorem jK23 {X : Nat × (Nat → Int32)} {a0 : Nat} {x1 : Int32} {x2 : Int32} {x3 : Int32} {u : fm} {r : fm} (h0 : fm_isA a0) (h : jF23 a0 x1 x2 x3 u = r) : ev X 23 0 [some (.inr (.inl (some a0))), some (.inl x1), some (.inl x2), some (.inl x3)] [] u ([], r) := by
  unfold jF23 at h
  refine ev_aload_n (pc := 0) (fe_23 rfl) rfl ?_
  refine ev_iload_n (pc := 1) (fe_23 rfl) rfl ?_
  refine fm_lt_h h (fun u1 eu1 h => ?_)
  refine ev_putI (pc := 2) (fe_23 rfl) fr_8 h0.1 eu1 ?_
  refine ev_aload_n (pc := 5) (fe_23 rfl) rfl ?_
  refine ev_getR (a1 := a0 + 8) (pc := 6) (fe_23 rfl) fr_2 h0.1 rfl ?_
  refine ev_iload_n (pc := 9) (fe_23 rfl) rfl ?_
  refine ev_iload_n (pc := 10) (fe_23 rfl) rfl ?_
  refine fm_lt_h h (fun p2 ep2 h => ?_)
  refine ev_callVk (pc := 11) (fe_23 rfl) (z := 78) (na := 3) (ow := 7) cg_23_35 rfl rfl rfl h0.2.2.2.2.2.2.2.2.1 (m := 0) rfl (jK78 h0.2.2.2.2.2.2.2.2.1 ep2) (st1 := []) rfl ?_
  exact ev_R (ev_vrt (pc := 14) (fe_23 rfl) rt_23) (by rw [← h])
/-- CallAgents$Dialog begin -/
def jF25 (a0 : Nat) (a1 : Nat) (x2 : Int32) (x3 : Int32) (u : fm) : Option (fm) :=
  fm_let (sI u a0 2 (fI u a1 10)) (fun u1 => fm_let (sI u1 a0 3 (fI u1 a1 4)) (fun u2 => fm_let (sI u2 a0 4 (fI u2 a1 11)) (fun u3 => fm_let (sI u3 a0 5 x2) (fun u4 => fm_let (sI u4 a0 6 x3) (fun u5 => Option.bind (jF39 (a0 + 1) (a1 + 1) u5) (fun p6 => fm_let (jF38 (a0 + 3) p6) (fun p7 => some p7)))))))
theorem jK25 {X : Nat × (Nat → Int32)} {a0 : Nat} {a1 : Nat} {x2 : Int32} {x3 : Int32} {u : fm} {r : fm} (h0 : fm_isG a0) (h1 : fm_isM a1) (h : jF25 a0 a1 x2 x3 u = some r) : ev X 25 0 [some (.inr (.inl (some a0))), some (.inr (.inl (some a1))), some (.inl x2), some (.inl x3)] [] u ([], r) := by
  unfold jF25 at h
  refine ev_aload_n (pc := 0) (fe_25 rfl) rfl ?_
  refine ev_aload_n (pc := 1) (fe_25 rfl) rfl ?_
  refine ev_getI (pc := 2) (fe_25 rfl) fr_39 h1.1 ?_
  refine fm_lt_h h (fun u1 eu1 h => ?_)
  refine ev_putI (pc := 5) (fe_25 rfl) fr_40 h0.1 eu1 ?_
  refine ev_aload_n (pc := 8) (fe_25 rfl) rfl ?_
  refine ev_aload_n (pc := 9) (fe_25 rfl) rfl ?_
  refine ev_getI (pc := 10) (fe_25 rfl) fr_41 h1.1 ?_
  refine fm_lt_h h (fun u2 eu2 h => ?_)
  refine ev_putI (pc := 13) (fe_25 rfl) fr_42 h0.1 eu2 ?_
  refine ev_aload_n (pc := 16) (fe_25 rfl) rfl ?_
  refine ev_aload_n (pc := 17) (fe_25 rfl) rfl ?_
  refine ev_getI (pc := 18) (fe_25 rfl) fr_43 h1.1 ?_
  refine fm_lt_h h (fun u3 eu3 h => ?_)
  refine ev_putI (pc := 21) (fe_25 rfl) fr_44 h0.1 eu3 ?_
  refine ev_aload_n (pc := 24) (fe_25 rfl) rfl ?_
  refine ev_iload_n (pc := 25) (fe_25 rfl) rfl ?_
  refine fm_lt_h h (fun u4 eu4 h => ?_)
  refine ev_putI (pc := 26) (fe_25 rfl) fr_45 h0.1 eu4 ?_
  refine ev_aload_n (pc := 29) (fe_25 rfl) rfl ?_
  refine ev_iload_n (pc := 30) (fe_25 rfl) rfl ?_
  refine fm_lt_h h (fun u5 eu5 h => ?_)
  refine ev_putI (pc := 31) (fe_25 rfl) fr_46 h0.1 eu5 ?_
  refine ev_aload_n (pc := 34) (fe_25 rfl) rfl ?_
  refine ev_getR (a1 := a0 + 1) (pc := 35) (fe_25 rfl) fr_37 h0.1 rfl ?_
  refine ev_aload_n (pc := 38) (fe_25 rfl) rfl ?_
  refine ev_getR (a1 := a1 + 1) (pc := 39) (fe_25 rfl) fr_47 h1.1 rfl ?_
  refine fm_bd h (fun p6 ep6 h => ?_)
  refine ev_callVk (pc := 42) (fe_25 rfl) (z := 39) (na := 2) (ow := 3) cg_25_38 rfl rfl rfl h0.2.1 (m := 1) rfl (jK39 ⟨h0.2.1, h0.2.2.1⟩ ⟨h1.2.1, h1.2.2⟩ ep6) (st1 := []) rfl ?_
  refine ev_aload_n (pc := 45) (fe_25 rfl) rfl ?_
  refine ev_getR (a1 := a0 + 3) (pc := 46) (fe_25 rfl) fr_38 h0.1 rfl ?_
  refine fm_lt_h h (fun p7 ep7 h => ?_)
  refine ev_callVk (pc := 49) (fe_25 rfl) (z := 38) (na := 1) (ow := 3) cg_25_39 rfl rfl rfl h0.2.2.2.1 (m := 0) rfl (jK38 ⟨h0.2.2.2.1, h0.2.2.2.2⟩ ep7) (st1 := []) rfl ?_
  exact ev_R (ev_vrt (pc := 52) (fe_25 rfl) rt_25) (by rw [← Option.some.inj h])
/-- CallAgents$Agent startCall -/
def jF2 (a0 : Nat) (x1 : Int32) (u : fm) : Option (Int32 × fm) :=
  if (jF1 a0 u) = 0 then
  (some (0, u))
  else
  (if (fI u (a0 + 1) 1) = 0 then
  (some (0, u))
  else
  (fm_let (sI u a0 9 ((fI u a0 9) + 1)) (fun u2 => fm_let (sI u2 a0 10 ((fI u2 a0 10) + 1)) (fun u3 => fm_let (sI u3 a0 11 ((fI u3 a0 11) + 1)) (fun u4 => fm_let (sI u4 a0 12 ((fI u4 a0 12) + 1)) (fun u5 => fm_let (jF19 a0 0 ((2 * (fI u5 a0 12)) + (fI u5 a0 0)) (fI u5 a0 11) u5) (fun p6 => fm_let (sI p6 (a0 + 12) 8 0) (fun u7 => fm_let (sI u7 (a0 + 12) 9 0) (fun u8 => Option.bind (jF39 (a0 + 13) (a0 + 1) u8) (fun p9 => Option.bind (jF25 (a0 + 3) (a0 + 12) (fI p9 a0 11) 0 p9) (fun p10 => fm_let (sI p10 a0 13 0) (fun u11 => Option.bind (jF20 a0 u11) (fun p12 => Option.bind (jF21 a0 (a0 + 9) p12) (fun p13 => fm_let (jF23 a0 1 x1 32000 p13) (fun p14 => some (1, p14))))))))))))))))
theorem jK2 {X : Nat × (Nat → Int32)} {a0 : Nat} {x1 : Int32} {u : fm} {r : Int32 × fm} (h0 : fm_isA a0) (h : jF2 a0 x1 u = some r) : ev X 2 0 [some (.inr (.inl (some a0))), some (.inl x1)] [] u ([.inl r.1], r.2) := by
  unfold jF2 at h
  refine ev_aload_n (pc := 0) (fe_2 rfl) rfl ?_
  refine ev_callVZk (pc := 1) (fe_2 rfl) (z := 1) (na := 1) (ow := 0) cg_2_5 rfl rt_1 rfl rfl h0.1 (m := 0) rfl (jK1 h0 rfl) (st1 := [.inl (jF1 a0 u)]) rfl (fun z1 => ?_)
  refine ev_if_eq (pc := 4) (fe_2 rfl) (t := 17) rfl h (fun h => ?_) (fun h => ?_)
  refine ev_iconst (pc := 17) (fe_2 rfl) li_0 ?_
  exact ev_R (ev_zrt (pc := 18) (fe_2 rfl) rt_2 (Or.inl rfl)) (by rw [← Option.some.inj h])
  refine ev_aload_n (pc := 7) (fe_2 rfl) rfl ?_
  refine ev_getR (a1 := a0 + 1) (pc := 8) (fe_2 rfl) fr_0 h0.1 rfl ?_
  refine ev_getI (pc := 11) (fe_2 rfl) fr_9 h0.2.1 ?_
  refine ev_if_ne (pc := 14) (fe_2 rfl) (t := 19) rfl h (fun h => ?_) (fun h => ?_)
  refine ev_aload_n (pc := 19) (fe_2 rfl) rfl ?_
  refine ev_dup (pc := 20) (fe_2 rfl) rfl ?_
  refine ev_getI (pc := 21) (fe_2 rfl) fr_10 h0.1 ?_
  refine ev_iconst (pc := 24) (fe_2 rfl) li_1 ?_
  refine ev_iadd (pc := 25) (fe_2 rfl) ?_
  refine fm_lt_h h (fun u2 eu2 h => ?_)
  refine ev_putI (pc := 26) (fe_2 rfl) fr_10 h0.1 eu2 ?_
  refine ev_aload_n (pc := 29) (fe_2 rfl) rfl ?_
  refine ev_dup (pc := 30) (fe_2 rfl) rfl ?_
  refine ev_getI (pc := 31) (fe_2 rfl) fr_11 h0.1 ?_
  refine ev_iconst (pc := 34) (fe_2 rfl) li_1 ?_
  refine ev_iadd (pc := 35) (fe_2 rfl) ?_
  refine fm_lt_h h (fun u3 eu3 h => ?_)
  refine ev_putI (pc := 36) (fe_2 rfl) fr_11 h0.1 eu3 ?_
  refine ev_aload_n (pc := 39) (fe_2 rfl) rfl ?_
  refine ev_dup (pc := 40) (fe_2 rfl) rfl ?_
  refine ev_getI (pc := 41) (fe_2 rfl) fr_12 h0.1 ?_
  refine ev_iconst (pc := 44) (fe_2 rfl) li_1 ?_
  refine ev_iadd (pc := 45) (fe_2 rfl) ?_
  refine fm_lt_h h (fun u4 eu4 h => ?_)
  refine ev_putI (pc := 46) (fe_2 rfl) fr_12 h0.1 eu4 ?_
  refine ev_aload_n (pc := 49) (fe_2 rfl) rfl ?_
  refine ev_dup (pc := 50) (fe_2 rfl) rfl ?_
  refine ev_getI (pc := 51) (fe_2 rfl) fr_13 h0.1 ?_
  refine ev_iconst (pc := 54) (fe_2 rfl) li_1 ?_
  refine ev_iadd (pc := 55) (fe_2 rfl) ?_
  refine fm_lt_h h (fun u5 eu5 h => ?_)
  refine ev_putI (pc := 56) (fe_2 rfl) fr_13 h0.1 eu5 ?_
  refine ev_aload_n (pc := 59) (fe_2 rfl) rfl ?_
  refine ev_iconst (pc := 60) (fe_2 rfl) li_0 ?_
  refine ev_iconst (pc := 61) (fe_2 rfl) li_2 ?_
  refine ev_aload_n (pc := 62) (fe_2 rfl) rfl ?_
  refine ev_getI (pc := 63) (fe_2 rfl) fr_13 h0.1 ?_
  refine ev_imul (pc := 66) (fe_2 rfl) ?_
  refine ev_aload_n (pc := 67) (fe_2 rfl) rfl ?_
  refine ev_getI (pc := 68) (fe_2 rfl) fr_5 h0.1 ?_
  refine ev_iadd (pc := 71) (fe_2 rfl) ?_
  refine ev_aload_n (pc := 72) (fe_2 rfl) rfl ?_
  refine ev_getI (pc := 73) (fe_2 rfl) fr_12 h0.1 ?_
  refine fm_lt_h h (fun p6 ep6 h => ?_)
  refine ev_callVk (pc := 76) (fe_2 rfl) (z := 19) (na := 4) (ow := 0) cg_2_6 rfl rfl rfl h0.1 (m := 0) rfl (jK19 h0 ep6) (st1 := []) rfl ?_
  refine ev_aload_n (pc := 79) (fe_2 rfl) rfl ?_
  refine ev_getR (a1 := a0 + 12) (pc := 80) (fe_2 rfl) fr_4 h0.1 rfl ?_
  refine ev_iconst (pc := 83) (fe_2 rfl) li_0 ?_
  refine fm_lt_h h (fun u7 eu7 h => ?_)
  refine ev_putZ (pc := 84) (fe_2 rfl) fr_14 h0.2.2.2.2.2.2.2.2.2.2.2.2.1 (Or.inl rfl) eu7 ?_
  refine ev_aload_n (pc := 87) (fe_2 rfl) rfl ?_
  refine ev_getR (a1 := a0 + 12) (pc := 88) (fe_2 rfl) fr_4 h0.1 rfl ?_
  refine ev_iconst (pc := 91) (fe_2 rfl) li_0 ?_
  refine fm_lt_h h (fun u8 eu8 h => ?_)
  refine ev_putI (pc := 92) (fe_2 rfl) fr_15 h0.2.2.2.2.2.2.2.2.2.2.2.2.1 eu8 ?_
  refine ev_aload_n (pc := 95) (fe_2 rfl) rfl ?_
  refine ev_getR (a1 := a0 + 12) (pc := 96) (fe_2 rfl) fr_4 h0.1 rfl ?_
  refine ev_getR (a1 := a0 + 13) (pc := 99) (fe_2 rfl) fr_16 h0.2.2.2.2.2.2.2.2.2.2.2.2.1 rfl ?_
  refine ev_aload_n (pc := 102) (fe_2 rfl) rfl ?_
  refine ev_getR (a1 := a0 + 1) (pc := 103) (fe_2 rfl) fr_0 h0.1 rfl ?_
  refine fm_bd h (fun p9 ep9 h => ?_)
  refine ev_callVk (pc := 106) (fe_2 rfl) (z := 39) (na := 2) (ow := 3) cg_2_7 rfl rfl rfl h0.2.2.2.2.2.2.2.2.2.2.2.2.2.1 (m := 1) rfl (jK39 ⟨h0.2.2.2.2.2.2.2.2.2.2.2.2.2.1, h0.2.2.2.2.2.2.2.2.2.2.2.2.2.2⟩ ⟨h0.2.1, h0.2.2.1⟩ ep9) (st1 := []) rfl ?_
  refine ev_aload_n (pc := 109) (fe_2 rfl) rfl ?_
  refine ev_getR (a1 := a0 + 3) (pc := 110) (fe_2 rfl) fr_1 h0.1 rfl ?_
  refine ev_aload_n (pc := 113) (fe_2 rfl) rfl ?_
  refine ev_getR (a1 := a0 + 12) (pc := 114) (fe_2 rfl) fr_4 h0.1 rfl ?_
  refine ev_aload_n (pc := 117) (fe_2 rfl) rfl ?_
  refine ev_getI (pc := 118) (fe_2 rfl) fr_12 h0.1 ?_
  refine ev_iconst (pc := 121) (fe_2 rfl) li_0 ?_
  refine fm_bd h (fun p10 ep10 h => ?_)
  refine ev_callVk (pc := 122) (fe_2 rfl) (z := 25) (na := 4) (ow := 1) cg_2_8 rfl rfl rfl h0.2.2.2.1 (m := 0) rfl (jK25 ⟨h0.2.2.2.1, h0.2.2.2.2.1, h0.2.2.2.2.2.1, h0.2.2.2.2.2.2.1, h0.2.2.2.2.2.2.2.1⟩ ⟨h0.2.2.2.2.2.2.2.2.2.2.2.2.1, h0.2.2.2.2.2.2.2.2.2.2.2.2.2.1, h0.2.2.2.2.2.2.2.2.2.2.2.2.2.2⟩ ep10) (st1 := []) rfl ?_
  refine ev_aload_n (pc := 125) (fe_2 rfl) rfl ?_
  refine ev_iconst (pc := 126) (fe_2 rfl) li_0 ?_
  refine fm_lt_h h (fun u11 eu11 h => ?_)
  refine ev_putZ (pc := 127) (fe_2 rfl) fr_17 h0.1 (Or.inl rfl) eu11 ?_
  refine ev_aload_n (pc := 130) (fe_2 rfl) rfl ?_
  refine fm_bd h (fun p12 ep12 h => ?_)
  refine ev_callVk (pc := 131) (fe_2 rfl) (z := 20) (na := 1) (ow := 0) cg_2_9 rfl rfl rfl h0.1 (m := 0) rfl (jK20 h0 ep12) (st1 := []) rfl ?_
  refine ev_aload_n (pc := 134) (fe_2 rfl) rfl ?_
  refine ev_aload_n (pc := 135) (fe_2 rfl) rfl ?_
  refine ev_getR (a1 := a0 + 9) (pc := 136) (fe_2 rfl) fr_3 h0.1 rfl ?_
  refine fm_bd h (fun p13 ep13 h => ?_)
  refine ev_callVk (pc := 139) (fe_2 rfl) (z := 21) (na := 2) (ow := 0) cg_2_10 rfl rfl rfl h0.1 (m := 0) rfl (jK21 h0 ⟨h0.2.2.2.2.2.2.2.2.2.1, h0.2.2.2.2.2.2.2.2.2.2.1, h0.2.2.2.2.2.2.2.2.2.2.2.1⟩ ep13) (st1 := []) rfl ?_
  refine ev_aload_n (pc := 142) (fe_2 rfl) rfl ?_
  refine ev_iconst (pc := 143) (fe_2 rfl) li_1 ?_
  refine ev_iload_n (pc := 144) (fe_2 rfl) rfl ?_
  refine ev_sipush (pc := 145) (fe_2 rfl) ls_32000 ?_
  refine fm_lt_h h (fun p14 ep14 h => ?_)
  refine ev_callVk (pc := 148) (fe_2 rfl) (z := 23) (na := 4) (ow := 0) cg_2_11 rfl rfl rfl h0.1 (m := 0) rfl (jK23 h0 ep14) (st1 := []) rfl ?_
  refine ev_iconst (pc := 151) (fe_2 rfl) li_1 ?_
  exact ev_R (ev_zrt (pc := 152) (fe_2 rfl) rt_2 (Or.inr rfl)) (by rw [← Option.some.inj h])
  refine ev_iconst (pc := 17) (fe_2 rfl) li_0 ?_
  exact ev_R (ev_zrt (pc := 18) (fe_2 rfl) rt_2 (Or.inl rfl)) (by rw [← Option.some.inj h])
/-- CallAgents$Media cell -/
def jF34 (a0 : Nat) (x1 : Int32) (x2 : Int32) (u : fm) : Option (Int32) :=
  if x1 < 0 then
  (some (-1))
  else
  (if x1 < (fI u a0 1) then
  (if x1 < 3 then
  (if x2 < 0 then
  (some (-1))
  else
  (if x2 < 10 then
  (if fm_in ((x1 * 10) + 1) 30 then if x2 < (2 + (fA u (a0 + 1) (Int32.toNatClampNeg ((x1 * 10) + 1)))) then
  (if fm_in ((x1 * 10) + x2) 30 then some (fA u (a0 + 1) (Int32.toNatClampNeg ((x1 * 10) + x2))) else none)
  else
  (some (-1)) else none)
  else
  (some (-1))))
  else
  (some (-1)))
  else
  (some (-1)))
theorem jK34 {X : Nat × (Nat → Int32)} {a0 : Nat} {x1 : Int32} {x2 : Int32} {u : fm} {r : Int32} (h0 : fm_isD a0) (h : jF34 a0 x1 x2 u = some r) : ev X 34 0 [some (.inr (.inl (some a0))), some (.inl x1), some (.inl x2), none] [] u ([.inl r], u) := by
  unfold jF34 at h
  refine ev_iload_n (pc := 0) (fe_34 rfl) rfl ?_
  refine ev_if_lt (pc := 1) (fe_34 rfl) (t := 27) rfl h (fun h => ?_) (fun h => ?_)
  refine ev_iconst (pc := 27) (fe_34 rfl) li_m1 ?_
  exact ev_R (ev_irt (pc := 28) (fe_34 rfl) rt_34) (by rw [← Option.some.inj h])
  refine ev_iload_n (pc := 4) (fe_34 rfl) rfl ?_
  refine ev_aload_n (pc := 5) (fe_34 rfl) rfl ?_
  refine ev_getI (pc := 6) (fe_34 rfl) fr_54 h0.1 ?_
  refine ev_ic_ge (pc := 9) (fe_34 rfl) (t := 27) rfl h (fun h => ?_) (fun h => ?_)
  refine ev_iconst (pc := 27) (fe_34 rfl) li_m1 ?_
  exact ev_R (ev_irt (pc := 28) (fe_34 rfl) rt_34) (by rw [← Option.some.inj h])
  refine ev_iload_n (pc := 12) (fe_34 rfl) rfl ?_
  refine ev_iconst (pc := 13) (fe_34 rfl) li_3 ?_
  refine ev_ic_ge (pc := 14) (fe_34 rfl) (t := 27) rfl h (fun h => ?_) (fun h => ?_)
  refine ev_iconst (pc := 27) (fe_34 rfl) li_m1 ?_
  exact ev_R (ev_irt (pc := 28) (fe_34 rfl) rt_34) (by rw [← Option.some.inj h])
  refine ev_iload_n (pc := 17) (fe_34 rfl) rfl ?_
  refine ev_if_lt (pc := 18) (fe_34 rfl) (t := 27) rfl h (fun h => ?_) (fun h => ?_)
  refine ev_iconst (pc := 27) (fe_34 rfl) li_m1 ?_
  exact ev_R (ev_irt (pc := 28) (fe_34 rfl) rt_34) (by rw [← Option.some.inj h])
  refine ev_iload_n (pc := 21) (fe_34 rfl) rfl ?_
  refine ev_bipush (pc := 22) (fe_34 rfl) lb_10 ?_
  refine ev_ic_lt (pc := 24) (fe_34 rfl) (t := 29) rfl h (fun h => ?_) (fun h => ?_)
  refine ev_iload_n (pc := 29) (fe_34 rfl) rfl ?_
  refine ev_bipush (pc := 30) (fe_34 rfl) lb_10 ?_
  refine ev_imul (pc := 32) (fe_34 rfl) ?_
  refine ev_istore_n (pc := 33) (fe_34 rfl) mx_34 rfl ?_
  refine ev_iload_n (pc := 34) (fe_34 rfl) rfl ?_
  refine ev_iconst (pc := 35) (fe_34 rfl) li_2 ?_
  refine ev_aload_n (pc := 36) (fe_34 rfl) rfl ?_
  refine ev_getR (a1 := a0 + 1) (pc := 37) (fe_34 rfl) fr_53 h0.1 rfl ?_
  refine ev_iload_n (pc := 40) (fe_34 rfl) rfl ?_
  refine ev_iconst (pc := 41) (fe_34 rfl) li_1 ?_
  refine ev_iadd (pc := 42) (fe_34 rfl) ?_
  refine fm_ob h (fun g1 h => ?_)
  refine ev_iaload (pc := 43) (fe_34 rfl) h0.2 g1 ?_
  refine ev_iadd (pc := 44) (fe_34 rfl) ?_
  refine ev_ic_ge (pc := 45) (fe_34 rfl) (t := 59) rfl h (fun h => ?_) (fun h => ?_)
  refine ev_iconst (pc := 59) (fe_34 rfl) li_m1 ?_
  exact ev_R (ev_irt (pc := 60) (fe_34 rfl) rt_34) (by rw [← Option.some.inj h])
  refine ev_aload_n (pc := 48) (fe_34 rfl) rfl ?_
  refine ev_getR (a1 := a0 + 1) (pc := 49) (fe_34 rfl) fr_53 h0.1 rfl ?_
  refine ev_iload_n (pc := 52) (fe_34 rfl) rfl ?_
  refine ev_iload_n (pc := 53) (fe_34 rfl) rfl ?_
  refine ev_iadd (pc := 54) (fe_34 rfl) ?_
  refine fm_ob h (fun g2 h => ?_)
  refine ev_iaload (pc := 55) (fe_34 rfl) h0.2 g2 ?_
  refine ev_goto (pc := 56) (fe_34 rfl) (t := 60) rfl ?_
  exact ev_R (ev_irt (pc := 60) (fe_34 rfl) rt_34) (by rw [← Option.some.inj h])
  refine ev_iconst (pc := 27) (fe_34 rfl) li_m1 ?_
  exact ev_R (ev_irt (pc := 28) (fe_34 rfl) rt_34) (by rw [← Option.some.inj h])
/-- CallAgents$Media add -/
def jF35 (a0 : Nat) (x1 : Int32) (u : fm) : Option (Int32 × fm) :=
  if (fI u a0 1) < 0 then
  (some (0, u))
  else
  (if (fI u a0 1) < 3 then
  (if fm_in (((fI u a0 1) * 10) + 0) 30 then fm_let (sA u (a0 + 1) (Int32.toNatClampNeg (((fI u a0 1) * 10) + 0)) x1) (fun u2 => if fm_in (((fI u2 a0 1) * 10) + 1) 30 then fm_let (sA u2 (a0 + 1) (Int32.toNatClampNeg (((fI u2 a0 1) * 10) + 1)) 0) (fun u4 => fm_let (sI u4 a0 1 ((fI u4 a0 1) + 1)) (fun u5 => some (1, u5))) else none) else none)
  else
  (some (0, u)))
theorem jK35 {X : Nat × (Nat → Int32)} {a0 : Nat} {x1 : Int32} {u : fm} {r : Int32 × fm} (h0 : fm_isD a0) (h : jF35 a0 x1 u = some r) : ev X 35 0 [some (.inr (.inl (some a0))), some (.inl x1)] [] u ([.inl r.1], r.2) := by
  unfold jF35 at h
  refine ev_aload_n (pc := 0) (fe_35 rfl) rfl ?_
  refine ev_getI (pc := 1) (fe_35 rfl) fr_54 h0.1 ?_
  refine ev_if_lt (pc := 4) (fe_35 rfl) (t := 15) rfl h (fun h => ?_) (fun h => ?_)
  refine ev_iconst (pc := 15) (fe_35 rfl) li_0 ?_
  exact ev_R (ev_zrt (pc := 16) (fe_35 rfl) rt_35 (Or.inl rfl)) (by rw [← Option.some.inj h])
  refine ev_aload_n (pc := 7) (fe_35 rfl) rfl ?_
  refine ev_getI (pc := 8) (fe_35 rfl) fr_54 h0.1 ?_
  refine ev_iconst (pc := 11) (fe_35 rfl) li_3 ?_
  refine ev_ic_lt (pc := 12) (fe_35 rfl) (t := 17) rfl h (fun h => ?_) (fun h => ?_)
  refine ev_aload_n (pc := 17) (fe_35 rfl) rfl ?_
  refine ev_getR (a1 := a0 + 1) (pc := 18) (fe_35 rfl) fr_53 h0.1 rfl ?_
  refine ev_aload_n (pc := 21) (fe_35 rfl) rfl ?_
  refine ev_getI (pc := 22) (fe_35 rfl) fr_54 h0.1 ?_
  refine ev_bipush (pc := 25) (fe_35 rfl) lb_10 ?_
  refine ev_imul (pc := 27) (fe_35 rfl) ?_
  refine ev_iconst (pc := 28) (fe_35 rfl) li_0 ?_
  refine ev_iadd (pc := 29) (fe_35 rfl) ?_
  refine ev_iload_n (pc := 30) (fe_35 rfl) rfl ?_
  refine fm_ob h (fun g1 h => ?_)
  refine fm_lt_h h (fun u2 eu2 h => ?_)
  refine ev_iastore (pc := 31) (fe_35 rfl) h0.2 g1 eu2 ?_
  refine ev_aload_n (pc := 32) (fe_35 rfl) rfl ?_
  refine ev_getR (a1 := a0 + 1) (pc := 33) (fe_35 rfl) fr_53 h0.1 rfl ?_
  refine ev_aload_n (pc := 36) (fe_35 rfl) rfl ?_
  refine ev_getI (pc := 37) (fe_35 rfl) fr_54 h0.1 ?_
  refine ev_bipush (pc := 40) (fe_35 rfl) lb_10 ?_
  refine ev_imul (pc := 42) (fe_35 rfl) ?_
  refine ev_iconst (pc := 43) (fe_35 rfl) li_1 ?_
  refine ev_iadd (pc := 44) (fe_35 rfl) ?_
  refine ev_iconst (pc := 45) (fe_35 rfl) li_0 ?_
  refine fm_ob h (fun g3 h => ?_)
  refine fm_lt_h h (fun u4 eu4 h => ?_)
  refine ev_iastore (pc := 46) (fe_35 rfl) h0.2 g3 eu4 ?_
  refine ev_aload_n (pc := 47) (fe_35 rfl) rfl ?_
  refine ev_dup (pc := 48) (fe_35 rfl) rfl ?_
  refine ev_getI (pc := 49) (fe_35 rfl) fr_54 h0.1 ?_
  refine ev_iconst (pc := 52) (fe_35 rfl) li_1 ?_
  refine ev_iadd (pc := 53) (fe_35 rfl) ?_
  refine fm_lt_h h (fun u5 eu5 h => ?_)
  refine ev_putI (pc := 54) (fe_35 rfl) fr_54 h0.1 eu5 ?_
  refine ev_iconst (pc := 57) (fe_35 rfl) li_1 ?_
  exact ev_R (ev_zrt (pc := 58) (fe_35 rfl) rt_35 (Or.inr rfl)) (by rw [← Option.some.inj h])
  refine ev_iconst (pc := 15) (fe_35 rfl) li_0 ?_
  exact ev_R (ev_zrt (pc := 16) (fe_35 rfl) rt_35 (Or.inl rfl)) (by rw [← Option.some.inj h])
/-- CallAgents$Media addFormat -/
def jF36 (a0 : Nat) (x1 : Int32) (u : fm) : Option (fm) :=
  if (fI u a0 1) < 1 then
  (some u)
  else
  (if 3 < (fI u a0 1) then
  (some u)
  else
  (if fm_in ((((fI u a0 1) - 1) * 10) + 1) 30 then if (fA u (a0 + 1) (Int32.toNatClampNeg ((((fI u a0 1) - 1) * 10) + 1))) < 0 then
  (some u)
  else
  (if (fA u (a0 + 1) (Int32.toNatClampNeg ((((fI u a0 1) - 1) * 10) + 1))) < 8 then
  (if fm_in (((((fI u a0 1) - 1) * 10) + 2) + (fA u (a0 + 1) (Int32.toNatClampNeg ((((fI u a0 1) - 1) * 10) + 1)))) 30 then fm_let (sA u (a0 + 1) (Int32.toNatClampNeg (((((fI u a0 1) - 1) * 10) + 2) + (fA u (a0 + 1) (Int32.toNatClampNeg ((((fI u a0 1) - 1) * 10) + 1))))) x1) (fun u3 => fm_let (sA u3 (a0 + 1) (Int32.toNatClampNeg ((((fI u a0 1) - 1) * 10) + 1)) ((fA u (a0 + 1) (Int32.toNatClampNeg ((((fI u a0 1) - 1) * 10) + 1))) + 1)) (fun u4 => some u4)) else none)
  else
  (some u)) else none))
theorem jK36 {X : Nat × (Nat → Int32)} {a0 : Nat} {x1 : Int32} {u : fm} {r : fm} (h0 : fm_isD a0) (h : jF36 a0 x1 u = some r) : ev X 36 0 [some (.inr (.inl (some a0))), some (.inl x1), none, none] [] u ([], r) := by
  unfold jF36 at h
  refine ev_aload_n (pc := 0) (fe_36 rfl) rfl ?_
  refine ev_getI (pc := 1) (fe_36 rfl) fr_54 h0.1 ?_
  refine ev_iconst (pc := 4) (fe_36 rfl) li_1 ?_
  refine ev_ic_lt (pc := 5) (fe_36 rfl) (t := 16) rfl h (fun h => ?_) (fun h => ?_)
  exact ev_R (ev_vrt (pc := 16) (fe_36 rfl) rt_36) (by rw [← Option.some.inj h])
  refine ev_aload_n (pc := 8) (fe_36 rfl) rfl ?_
  refine ev_getI (pc := 9) (fe_36 rfl) fr_54 h0.1 ?_
  refine ev_iconst (pc := 12) (fe_36 rfl) li_3 ?_
  refine ev_ic_le (pc := 13) (fe_36 rfl) (t := 17) rfl h (fun h => ?_) (fun h => ?_)
  refine ev_aload_n (pc := 17) (fe_36 rfl) rfl ?_
  refine ev_getI (pc := 18) (fe_36 rfl) fr_54 h0.1 ?_
  refine ev_iconst (pc := 21) (fe_36 rfl) li_1 ?_
  refine ev_isub (pc := 22) (fe_36 rfl) ?_
  refine ev_bipush (pc := 23) (fe_36 rfl) lb_10 ?_
  refine ev_imul (pc := 25) (fe_36 rfl) ?_
  refine ev_istore_n (pc := 26) (fe_36 rfl) mx_36 rfl ?_
  refine ev_aload_n (pc := 27) (fe_36 rfl) rfl ?_
  refine ev_getR (a1 := a0 + 1) (pc := 28) (fe_36 rfl) fr_53 h0.1 rfl ?_
  refine ev_iload_n (pc := 31) (fe_36 rfl) rfl ?_
  refine ev_iconst (pc := 32) (fe_36 rfl) li_1 ?_
  refine ev_iadd (pc := 33) (fe_36 rfl) ?_
  refine fm_ob h (fun g1 h => ?_)
  refine ev_iaload (pc := 34) (fe_36 rfl) h0.2 g1 ?_
  refine ev_istore_n (pc := 35) (fe_36 rfl) mx_36 rfl ?_
  refine ev_iload_n (pc := 36) (fe_36 rfl) rfl ?_
  refine ev_if_lt (pc := 37) (fe_36 rfl) (t := 68) rfl h (fun h => ?_) (fun h => ?_)
  exact ev_R (ev_vrt (pc := 68) (fe_36 rfl) rt_36) (by rw [← Option.some.inj h])
  refine ev_iload_n (pc := 40) (fe_36 rfl) rfl ?_
  refine ev_bipush (pc := 41) (fe_36 rfl) lb_8 ?_
  refine ev_ic_ge (pc := 43) (fe_36 rfl) (t := 68) rfl h (fun h => ?_) (fun h => ?_)
  exact ev_R (ev_vrt (pc := 68) (fe_36 rfl) rt_36) (by rw [← Option.some.inj h])
  refine ev_aload_n (pc := 46) (fe_36 rfl) rfl ?_
  refine ev_getR (a1 := a0 + 1) (pc := 47) (fe_36 rfl) fr_53 h0.1 rfl ?_
  refine ev_iload_n (pc := 50) (fe_36 rfl) rfl ?_
  refine ev_iconst (pc := 51) (fe_36 rfl) li_2 ?_
  refine ev_iadd (pc := 52) (fe_36 rfl) ?_
  refine ev_iload_n (pc := 53) (fe_36 rfl) rfl ?_
  refine ev_iadd (pc := 54) (fe_36 rfl) ?_
  refine ev_iload_n (pc := 55) (fe_36 rfl) rfl ?_
  refine fm_ob h (fun g2 h => ?_)
  refine fm_lt_h h (fun u3 eu3 h => ?_)
  refine ev_iastore (pc := 56) (fe_36 rfl) h0.2 g2 eu3 ?_
  refine ev_aload_n (pc := 57) (fe_36 rfl) rfl ?_
  refine ev_getR (a1 := a0 + 1) (pc := 58) (fe_36 rfl) fr_53 h0.1 rfl ?_
  refine ev_iload_n (pc := 61) (fe_36 rfl) rfl ?_
  refine ev_iconst (pc := 62) (fe_36 rfl) li_1 ?_
  refine ev_iadd (pc := 63) (fe_36 rfl) ?_
  refine ev_iload_n (pc := 64) (fe_36 rfl) rfl ?_
  refine ev_iconst (pc := 65) (fe_36 rfl) li_1 ?_
  refine ev_iadd (pc := 66) (fe_36 rfl) ?_
  refine fm_lt_h h (fun u4 eu4 h => ?_)
  refine ev_iastore (pc := 67) (fe_36 rfl) h0.2 g1 eu4 ?_
  exact ev_R (ev_vrt (pc := 68) (fe_36 rfl) rt_36) (by rw [← Option.some.inj h])
  exact ev_R (ev_vrt (pc := 16) (fe_36 rfl) rt_36) (by rw [← Option.some.inj h])
/-- CallAgents$Media has -/
def jF42_2 : Nat → Nat → Int32 → Int32 → Int32 → fm → Option (Int32)
  | 0, _, _, _, _, _ => none
  | n + 1, a0, x1, x2, x3, u =>
  Option.bind (jF34 a0 x1 1 u) (fun p1 => if x3 < p1 then
  (Option.bind (jF34 a0 x1 (2 + x3) u) (fun p2 => if p2 = x2 then
  (some 1)
  else
  (jF42_2 n a0 x1 x2 (x3 + 1) u)))
  else
  (some 0))
def jF42 (a0 : Nat) (x1 : Int32) (x2 : Int32) (u : fm) : Option (Int32) :=
  jF42_2 fm_N a0 x1 x2 0 u
theorem jK42_2 {X : Nat × (Nat → Int32)} {u : fm} {r : Int32} : ∀ (n : Nat) (a0 : Nat) (x1 : Int32) (x2 : Int32) (x3 : Int32) (h0 : fm_isD a0), jF42_2 n a0 x1 x2 x3 u = some r → ev X 42 2 [some (.inr (.inl (some a0))), some (.inl x1), some (.inl x2), some (.inl x3)] [] u ([.inl r], u) := by
  intro n
  induction n with
  | zero =>
    intro _ _ _ _ _ h
    unfold jF42_2 at h
    cases h
  | succ n ih =>
  intro a0 x1 x2 x3 h0 h
  unfold jF42_2 at h
  refine ev_iload_n (pc := 2) (fe_42 rfl) rfl ?_
  refine ev_aload_n (pc := 3) (fe_42 rfl) rfl ?_
  refine ev_iload_n (pc := 4) (fe_42 rfl) rfl ?_
  refine ev_iconst (pc := 5) (fe_42 rfl) li_1 ?_
  refine fm_bd h (fun p1 ep1 h => ?_)
  refine ev_callVk (pc := 6) (fe_42 rfl) (z := 34) (na := 3) (ow := 3) cg_42_49 rfl rfl rfl h0.1 (m := 1) rfl (jK34 h0 ep1) (st1 := [.inl p1, .inl x3]) rfl ?_
  refine ev_ic_ge (pc := 9) (fe_42 rfl) (t := 32) rfl h (fun h => ?_) (fun h => ?_)
  refine ev_iconst (pc := 32) (fe_42 rfl) li_0 ?_
  exact ev_R (ev_zrt (pc := 33) (fe_42 rfl) rt_42 (Or.inl rfl)) (by rw [← Option.some.inj h])
  refine ev_aload_n (pc := 12) (fe_42 rfl) rfl ?_
  refine ev_iload_n (pc := 13) (fe_42 rfl) rfl ?_
  refine ev_iconst (pc := 14) (fe_42 rfl) li_2 ?_
  refine ev_iload_n (pc := 15) (fe_42 rfl) rfl ?_
  refine ev_iadd (pc := 16) (fe_42 rfl) ?_
  refine fm_bd h (fun p2 ep2 h => ?_)
  refine ev_callVk (pc := 17) (fe_42 rfl) (z := 34) (na := 3) (ow := 3) cg_42_49 rfl rfl rfl h0.1 (m := 1) rfl (jK34 h0 ep2) (st1 := [.inl p2]) rfl ?_
  refine ev_iload_n (pc := 20) (fe_42 rfl) rfl ?_
  refine ev_ic_ne (pc := 21) (fe_42 rfl) (t := 26) rfl h (fun h => ?_) (fun h => ?_)
  refine ev_iinc (pc := 26) (fe_42 rfl) mx_42 rfl rfl li_1 ?_
  refine ev_goto (pc := 29) (fe_42 rfl) (t := 2) rfl ?_
  exact ih a0 x1 x2 (x3 + 1) h0 h
  refine ev_iconst (pc := 24) (fe_42 rfl) li_1 ?_
  exact ev_R (ev_zrt (pc := 25) (fe_42 rfl) rt_42 (Or.inr rfl)) (by rw [← Option.some.inj h])
theorem jK42 {X : Nat × (Nat → Int32)} {a0 : Nat} {x1 : Int32} {x2 : Int32} {u : fm} {r : Int32} (h0 : fm_isD a0) (h : jF42 a0 x1 x2 u = some r) : ev X 42 0 [some (.inr (.inl (some a0))), some (.inl x1), some (.inl x2), none] [] u ([.inl r], u) := by
  unfold jF42 at h
  refine ev_iconst (pc := 0) (fe_42 rfl) li_0 ?_
  refine ev_istore_n (pc := 1) (fe_42 rfl) mx_42 rfl ?_
  exact jK42_2 fm_N a0 x1 x2 0 h0 h
/-- CallAgents$Media shares -/
def jF41_2 : Nat → Nat → Int32 → Nat → Int32 → fm → Option (Int32)
  | 0, _, _, _, _, _ => none
  | n + 1, a0, x1, a2, x3, u =>
  Option.bind (jF34 a2 x1 1 u) (fun p1 => if x3 < p1 then
  (Option.bind (jF34 a2 x1 (2 + x3) u) (fun p2 => Option.bind (jF42 a0 x1 p2 u) (fun p3 => if p3 = 0 then
  (jF41_2 n a0 x1 a2 (x3 + 1) u)
  else
  (some 1))))
  else
  (some 0))
def jF41 (a0 : Nat) (x1 : Int32) (a2 : Nat) (u : fm) : Option (Int32) :=
  jF41_2 fm_N a0 x1 a2 0 u
theorem jK41_2 {X : Nat × (Nat → Int32)} {u : fm} {r : Int32} : ∀ (n : Nat) (a0 : Nat) (x1 : Int32) (a2 : Nat) (x3 : Int32) (h0 : fm_isD a0) (h2 : fm_isD a2), jF41_2 n a0 x1 a2 x3 u = some r → ev X 41 2 [some (.inr (.inl (some a0))), some (.inl x1), some (.inr (.inl (some a2))), some (.inl x3)] [] u ([.inl r], u) := by
  intro n
  induction n with
  | zero =>
    intro _ _ _ _ _ _ h
    unfold jF41_2 at h
    cases h
  | succ n ih =>
  intro a0 x1 a2 x3 h0 h2 h
  unfold jF41_2 at h
  refine ev_iload_n (pc := 2) (fe_41 rfl) rfl ?_
  refine ev_aload_n (pc := 3) (fe_41 rfl) rfl ?_
  refine ev_iload_n (pc := 4) (fe_41 rfl) rfl ?_
  refine ev_iconst (pc := 5) (fe_41 rfl) li_1 ?_
  refine fm_bd h (fun p1 ep1 h => ?_)
  refine ev_callVk (pc := 6) (fe_41 rfl) (z := 34) (na := 3) (ow := 3) cg_41_49 rfl rfl rfl h2.1 (m := 1) rfl (jK34 h2 ep1) (st1 := [.inl p1, .inl x3]) rfl ?_
  refine ev_ic_ge (pc := 9) (fe_41 rfl) (t := 36) rfl h (fun h => ?_) (fun h => ?_)
  refine ev_iconst (pc := 36) (fe_41 rfl) li_0 ?_
  exact ev_R (ev_zrt (pc := 37) (fe_41 rfl) rt_41 (Or.inl rfl)) (by rw [← Option.some.inj h])
  refine ev_aload_n (pc := 12) (fe_41 rfl) rfl ?_
  refine ev_iload_n (pc := 13) (fe_41 rfl) rfl ?_
  refine ev_aload_n (pc := 14) (fe_41 rfl) rfl ?_
  refine ev_iload_n (pc := 15) (fe_41 rfl) rfl ?_
  refine ev_iconst (pc := 16) (fe_41 rfl) li_2 ?_
  refine ev_iload_n (pc := 17) (fe_41 rfl) rfl ?_
  refine ev_iadd (pc := 18) (fe_41 rfl) ?_
  refine fm_bd h (fun p2 ep2 h => ?_)
  refine ev_callVk (pc := 19) (fe_41 rfl) (z := 34) (na := 3) (ow := 3) cg_41_49 rfl rfl rfl h2.1 (m := 1) rfl (jK34 h2 ep2) (st1 := [.inl p2, .inl x1, .inr (.inl (some a0))]) rfl ?_
  refine fm_bd h (fun p3 ep3 h => ?_)
  refine ev_callVZk (pc := 22) (fe_41 rfl) (z := 42) (na := 3) (ow := 3) cg_41_51 rfl rt_42 rfl rfl h0.1 (m := 1) rfl (jK42 h0 ep3) (st1 := [.inl p3]) rfl (fun z4 => ?_)
  refine ev_if_eq (pc := 25) (fe_41 rfl) (t := 30) rfl h (fun h => ?_) (fun h => ?_)
  refine ev_iinc (pc := 30) (fe_41 rfl) mx_41 rfl rfl li_1 ?_
  refine ev_goto (pc := 33) (fe_41 rfl) (t := 2) rfl ?_
  exact ih a0 x1 a2 (x3 + 1) h0 h2 h
  refine ev_iconst (pc := 28) (fe_41 rfl) li_1 ?_
  exact ev_R (ev_zrt (pc := 29) (fe_41 rfl) rt_41 (Or.inr rfl)) (by rw [← Option.some.inj h])
theorem jK41 {X : Nat × (Nat → Int32)} {a0 : Nat} {x1 : Int32} {a2 : Nat} {u : fm} {r : Int32} (h0 : fm_isD a0) (h2 : fm_isD a2) (h : jF41 a0 x1 a2 u = some r) : ev X 41 0 [some (.inr (.inl (some a0))), some (.inl x1), some (.inr (.inl (some a2))), none] [] u ([.inl r], u) := by
  unfold jF41 at h
  refine ev_iconst (pc := 0) (fe_41 rfl) li_0 ?_
  refine ev_istore_n (pc := 1) (fe_41 rfl) mx_41 rfl ?_
  exact jK41_2 fm_N a0 x1 a2 0 h0 h2 h
/-- CallAgents$Media answer -/
def jF40_62 : Nat → (Nat → Nat → Nat → Int32 → fm → Option (fm)) → Nat → Nat → Nat → Int32 → Int32 → Int32 → fm → Option (fm)
  | 0, _, _, _, _, _, _, _, _ => none
  | n + 1, k6, a0, a1, a2, x3, x4, x5, u =>
  Option.bind (jF34 a1 x3 1 u) (fun p5 => if x5 < p5 then
  (Option.bind (jF34 a1 x3 (2 + x5) u) (fun p6 => if x4 = 0 then
  (Option.bind (jF36 a0 p6 u) (fun p7 => jF40_62 n k6 a0 a1 a2 x3 x4 (x5 + 1) p7))
  else
  (Option.bind (jF42 a2 x3 p6 u) (fun p8 => if p8 = 0 then
  (jF40_62 n k6 a0 a1 a2 x3 x4 (x5 + 1) u)
  else
  (Option.bind (jF36 a0 p6 u) (fun p10 => jF40_62 n k6 a0 a1 a2 x3 x4 (x5 + 1) p10))))))
  else
  (k6 a0 a1 a2 (x3 + 1) u))
def jF40_36 (k6 : Nat → Nat → Nat → Int32 → fm → Option (fm)) (a0 : Nat) (a1 : Nat) (a2 : Nat) (x3 : Int32) (u : fm) : Option (fm) :=
  Option.bind (jF35 a0 0 u) (fun p3 => jF40_62 fm_N k6 a0 a1 a2 x3 0 0 p3.2)
def jF40_6 : Nat → Nat → Nat → Nat → Int32 → fm → Option (fm)
  | 0, _, _, _, _, _ => none
  | n + 1, a0, a1, a2, x3, u =>
  if x3 < (fI u a1 1) then
  (Option.bind (jF34 a1 x3 0 u) (fun p2 => if p2 = 0 then
  (jF40_36 (fun a0' a1' a2' x3' u' => jF40_6 n a0' a1' a2' x3' u') a0 a1 a2 x3 u)
  else
  (Option.bind (jF41 a2 x3 a1 u) (fun p11 => if p11 = 0 then
  (jF40_36 (fun a0' a1' a2' x3' u' => jF40_6 n a0' a1' a2' x3' u') a0 a1 a2 x3 u)
  else
  (Option.bind (jF34 a2 x3 0 u) (fun p13 => Option.bind (jF35 a0 p13 u) (fun p14 => jF40_62 fm_N (fun a0' a1' a2' x3' u' => jF40_6 n a0' a1' a2' x3' u') a0 a1 a2 x3 1 0 p14.2)))))))
  else
  (some u)
def jF40 (a0 : Nat) (a1 : Nat) (a2 : Nat) (u : fm) : Option (fm) :=
  fm_let (jF38 a0 u) (fun p1 => jF40_6 fm_N a0 a1 a2 0 p1)
theorem jK40_62 {X : Nat × (Nat → Int32)} {r : fm} {k6 : Nat → Nat → Nat → Int32 → fm → Option (fm)} : ∀ (n : Nat) (a0 : Nat) (a1 : Nat) (a2 : Nat) (x3 : Int32) (x4 : Int32) (x5 : Int32) (u : fm) (h0 : fm_isD a0) (h1 : fm_isD a1) (h2 : fm_isD a2) (b_x4 : x4 = 0 ∨ x4 = 1) (hk6 : ∀ (a0 : Nat) (a1 : Nat) (a2 : Nat) (x3 : Int32) (u : fm), fm_isD a0 → fm_isD a1 → fm_isD a2 → k6 a0 a1 a2 x3 u = some r → ev X 40 6 [some (.inr (.inl (some a0))), some (.inr (.inl (some a1))), some (.inr (.inl (some a2))), some (.inl x3), none, none, none] [] u ([], r)), jF40_62 n k6 a0 a1 a2 x3 x4 x5 u = some r → ev X 40 62 [some (.inr (.inl (some a0))), some (.inr (.inl (some a1))), some (.inr (.inl (some a2))), some (.inl x3), some (.inl x4), some (.inl x5), none] [] u ([], r) := by
  intro n
  induction n with
  | zero =>
    intro _ _ _ _ _ _ _ _ _ _ _ _ h
    unfold jF40_62 at h
    cases h
  | succ n ih =>
  intro a0 a1 a2 x3 x4 x5 u h0 h1 h2 b_x4 hk6 h
  unfold jF40_62 at h
  refine ev_iload (pc := 62) (fe_40 rfl) rfl ?_
  refine ev_aload_n (pc := 64) (fe_40 rfl) rfl ?_
  refine ev_iload_n (pc := 65) (fe_40 rfl) rfl ?_
  refine ev_iconst (pc := 66) (fe_40 rfl) li_1 ?_
  refine fm_bd h (fun p5 ep5 h => ?_)
  refine ev_callVk (pc := 67) (fe_40 rfl) (z := 34) (na := 3) (ow := 3) cg_40_49 rfl rfl rfl h1.1 (m := 1) rfl (jK34 h1 ep5) (st1 := [.inl p5, .inl x5]) rfl ?_
  refine ev_ic_ge (pc := 70) (fe_40 rfl) (t := 111) rfl h (fun h => ?_) (fun h => ?_)
  refine ev_iinc (pc := 111) (fe_40 rfl) mx_40 rfl rfl li_1 ?_
  refine ev_goto (pc := 114) (fe_40 rfl) (t := 6) rfl ?_
  refine ev_w [true, true, true, true, false, false, true] ?_
  exact hk6 a0 a1 a2 (x3 + 1) u h0 h1 h2 h
  refine ev_aload_n (pc := 73) (fe_40 rfl) rfl ?_
  refine ev_iload_n (pc := 74) (fe_40 rfl) rfl ?_
  refine ev_iconst (pc := 75) (fe_40 rfl) li_2 ?_
  refine ev_iload (pc := 76) (fe_40 rfl) rfl ?_
  refine ev_iadd (pc := 78) (fe_40 rfl) ?_
  refine fm_bd h (fun p6 ep6 h => ?_)
  refine ev_callVk (pc := 79) (fe_40 rfl) (z := 34) (na := 3) (ow := 3) cg_40_49 rfl rfl rfl h1.1 (m := 1) rfl (jK34 h1 ep6) (st1 := [.inl p6]) rfl ?_
  refine ev_istore (pc := 82) (fe_40 rfl) mx_40 rfl ?_
  refine ev_iload (pc := 84) (fe_40 rfl) rfl ?_
  refine ev_if_eq (pc := 86) (fe_40 rfl) (t := 99) rfl h (fun h => ?_) (fun h => ?_)
  refine ev_aload_n (pc := 99) (fe_40 rfl) rfl ?_
  refine ev_iload (pc := 100) (fe_40 rfl) rfl ?_
  refine fm_bd h (fun p7 ep7 h => ?_)
  refine ev_callVk (pc := 102) (fe_40 rfl) (z := 36) (na := 2) (ow := 3) cg_40_47 rfl rfl rfl h0.1 (m := 2) rfl (jK36 h0 ep7) (st1 := []) rfl ?_
  refine ev_iinc (pc := 105) (fe_40 rfl) mx_40 rfl rfl li_1 ?_
  refine ev_goto (pc := 108) (fe_40 rfl) (t := 62) rfl ?_
  refine ev_w [true, true, true, true, true, true, false] ?_
  exact ih a0 a1 a2 x3 x4 (x5 + 1) p7 h0 h1 h2 (b_x4) hk6 h
  refine ev_aload_n (pc := 89) (fe_40 rfl) rfl ?_
  refine ev_iload_n (pc := 90) (fe_40 rfl) rfl ?_
  refine ev_iload (pc := 91) (fe_40 rfl) rfl ?_
  refine fm_bd h (fun p8 ep8 h => ?_)
  refine ev_callVZk (pc := 93) (fe_40 rfl) (z := 42) (na := 3) (ow := 3) cg_40_51 rfl rt_42 rfl rfl h2.1 (m := 1) rfl (jK42 h2 ep8) (st1 := [.inl p8]) rfl (fun z9 => ?_)
  refine ev_if_eq (pc := 96) (fe_40 rfl) (t := 105) rfl h (fun h => ?_) (fun h => ?_)
  refine ev_iinc (pc := 105) (fe_40 rfl) mx_40 rfl rfl li_1 ?_
  refine ev_goto (pc := 108) (fe_40 rfl) (t := 62) rfl ?_
  refine ev_w [true, true, true, true, true, true, false] ?_
  exact ih a0 a1 a2 x3 x4 (x5 + 1) u h0 h1 h2 (b_x4) hk6 h
  refine ev_aload_n (pc := 99) (fe_40 rfl) rfl ?_
  refine ev_iload (pc := 100) (fe_40 rfl) rfl ?_
  refine fm_bd h (fun p10 ep10 h => ?_)
  refine ev_callVk (pc := 102) (fe_40 rfl) (z := 36) (na := 2) (ow := 3) cg_40_47 rfl rfl rfl h0.1 (m := 2) rfl (jK36 h0 ep10) (st1 := []) rfl ?_
  refine ev_iinc (pc := 105) (fe_40 rfl) mx_40 rfl rfl li_1 ?_
  refine ev_goto (pc := 108) (fe_40 rfl) (t := 62) rfl ?_
  refine ev_w [true, true, true, true, true, true, false] ?_
  exact ih a0 a1 a2 x3 x4 (x5 + 1) p10 h0 h1 h2 (b_x4) hk6 h
theorem jK40_36 {X : Nat × (Nat → Int32)} {r : fm} {k6 : Nat → Nat → Nat → Int32 → fm → Option (fm)} (a0 : Nat) (a1 : Nat) (a2 : Nat) (x3 : Int32) (u : fm) (h0 : fm_isD a0) (h1 : fm_isD a1) (h2 : fm_isD a2) (hk6 : ∀ (a0 : Nat) (a1 : Nat) (a2 : Nat) (x3 : Int32) (u : fm), fm_isD a0 → fm_isD a1 → fm_isD a2 → k6 a0 a1 a2 x3 u = some r → ev X 40 6 [some (.inr (.inl (some a0))), some (.inr (.inl (some a1))), some (.inr (.inl (some a2))), some (.inl x3), none, none, none] [] u ([], r)) (h : jF40_36 k6 a0 a1 a2 x3 u = some r) : ev X 40 36 [some (.inr (.inl (some a0))), some (.inr (.inl (some a1))), some (.inr (.inl (some a2))), some (.inl x3), none, none, none] [] u ([], r) := by
  unfold jF40_36 at h
  refine ev_iconst (pc := 36) (fe_40 rfl) li_0 ?_
  refine ev_istore (pc := 37) (fe_40 rfl) mx_40 rfl ?_
  refine ev_aload_n (pc := 39) (fe_40 rfl) rfl ?_
  refine ev_iload (pc := 40) (fe_40 rfl) rfl ?_
  refine ev_ifc (pc := 42) (fe_40 rfl) (t := 54) (t1 := 54) (b := true) rfl (by decide) rfl ?_
  refine ev_iconst (pc := 54) (fe_40 rfl) li_0 ?_
  refine fm_bd h (fun p3 ep3 h => ?_)
  refine ev_callVZk (pc := 55) (fe_40 rfl) (z := 35) (na := 2) (ow := 3) cg_40_46 rfl rt_35 rfl rfl h0.1 (m := 0) rfl (jK35 h0 ep3) (st1 := [.inl p3.1]) rfl (fun z4 => ?_)
  refine ev_pop (pc := 58) (fe_40 rfl) rfl ?_
  refine ev_iconst (pc := 59) (fe_40 rfl) li_0 ?_
  refine ev_istore (pc := 60) (fe_40 rfl) mx_40 rfl ?_
  exact jK40_62 fm_N a0 a1 a2 x3 0 0 p3.2 h0 h1 h2 (Or.inl rfl) hk6 h
theorem jK40_6 {X : Nat × (Nat → Int32)} {r : fm} : ∀ (n : Nat) (a0 : Nat) (a1 : Nat) (a2 : Nat) (x3 : Int32) (u : fm) (h0 : fm_isD a0) (h1 : fm_isD a1) (h2 : fm_isD a2), jF40_6 n a0 a1 a2 x3 u = some r → ev X 40 6 [some (.inr (.inl (some a0))), some (.inr (.inl (some a1))), some (.inr (.inl (some a2))), some (.inl x3), none, none, none] [] u ([], r) := by
  intro n
  induction n with
  | zero =>
    intro _ _ _ _ _ _ _ _ h
    unfold jF40_6 at h
    cases h
  | succ n ih =>
  intro a0 a1 a2 x3 u h0 h1 h2 h
  unfold jF40_6 at h
  refine ev_iload_n (pc := 6) (fe_40 rfl) rfl ?_
  refine ev_aload_n (pc := 7) (fe_40 rfl) rfl ?_
  refine ev_getI (pc := 8) (fe_40 rfl) fr_54 h1.1 ?_
  refine ev_ic_ge (pc := 11) (fe_40 rfl) (t := 117) rfl h (fun h => ?_) (fun h => ?_)
  exact ev_R (ev_vrt (pc := 117) (fe_40 rfl) rt_40) (by rw [← Option.some.inj h])
  refine ev_aload_n (pc := 14) (fe_40 rfl) rfl ?_
  refine ev_iload_n (pc := 15) (fe_40 rfl) rfl ?_
  refine ev_iconst (pc := 16) (fe_40 rfl) li_0 ?_
  refine fm_bd h (fun p2 ep2 h => ?_)
  refine ev_callVk (pc := 17) (fe_40 rfl) (z := 34) (na := 3) (ow := 3) cg_40_49 rfl rfl rfl h1.1 (m := 1) rfl (jK34 h1 ep2) (st1 := [.inl p2]) rfl ?_
  refine ev_if_eq (pc := 20) (fe_40 rfl) (t := 36) rfl h (fun h => ?_) (fun h => ?_)
  exact jK40_36 a0 a1 a2 x3 u h0 h1 h2 (fun a0' a1' a2' x3' u' c0 c1 c2 h => ih a0' a1' a2' x3' u' c0 c1 c2 h) h
  refine ev_aload_n (pc := 23) (fe_40 rfl) rfl ?_
  refine ev_iload_n (pc := 24) (fe_40 rfl) rfl ?_
  refine ev_aload_n (pc := 25) (fe_40 rfl) rfl ?_
  refine fm_bd h (fun p11 ep11 h => ?_)
  refine ev_callVZk (pc := 26) (fe_40 rfl) (z := 41) (na := 3) (ow := 3) cg_40_50 rfl rt_41 rfl rfl h2.1 (m := 1) rfl (jK41 h2 h1 ep11) (st1 := [.inl p11]) rfl (fun z12 => ?_)
  refine ev_if_eq (pc := 29) (fe_40 rfl) (t := 36) rfl h (fun h => ?_) (fun h => ?_)
  exact jK40_36 a0 a1 a2 x3 u h0 h1 h2 (fun a0' a1' a2' x3' u' c0 c1 c2 h => ih a0' a1' a2' x3' u' c0 c1 c2 h) h
  refine ev_iconst (pc := 32) (fe_40 rfl) li_1 ?_
  refine ev_goto (pc := 33) (fe_40 rfl) (t := 37) rfl ?_
  refine ev_istore (pc := 37) (fe_40 rfl) mx_40 rfl ?_
  refine ev_aload_n (pc := 39) (fe_40 rfl) rfl ?_
  refine ev_iload (pc := 40) (fe_40 rfl) rfl ?_
  refine ev_ifc (pc := 42) (fe_40 rfl) (t := 54) (t1 := 45) (b := false) rfl (by decide) rfl ?_
  refine ev_aload_n (pc := 45) (fe_40 rfl) rfl ?_
  refine ev_iload_n (pc := 46) (fe_40 rfl) rfl ?_
  refine ev_iconst (pc := 47) (fe_40 rfl) li_0 ?_
  refine fm_bd h (fun p13 ep13 h => ?_)
  refine ev_callVk (pc := 48) (fe_40 rfl) (z := 34) (na := 3) (ow := 3) cg_40_49 rfl rfl rfl h2.1 (m := 1) rfl (jK34 h2 ep13) (st1 := [.inl p13, .inr (.inl (some a0))]) rfl ?_
  refine ev_goto (pc := 51) (fe_40 rfl) (t := 55) rfl ?_
  refine fm_bd h (fun p14 ep14 h => ?_)
  refine ev_callVZk (pc := 55) (fe_40 rfl) (z := 35) (na := 2) (ow := 3) cg_40_46 rfl rt_35 rfl rfl h0.1 (m := 0) rfl (jK35 h0 ep14) (st1 := [.inl p14.1]) rfl (fun z15 => ?_)
  refine ev_pop (pc := 58) (fe_40 rfl) rfl ?_
  refine ev_iconst (pc := 59) (fe_40 rfl) li_0 ?_
  refine ev_istore (pc := 60) (fe_40 rfl) mx_40 rfl ?_
  exact jK40_62 fm_N a0 a1 a2 x3 1 0 p14.2 h0 h1 h2 (Or.inr rfl) (fun a0' a1' a2' x3' u' c0 c1 c2 h => ih a0' a1' a2' x3' u' c0 c1 c2 h) h
theorem jK40 {X : Nat × (Nat → Int32)} {a0 : Nat} {a1 : Nat} {a2 : Nat} {u : fm} {r : fm} (h0 : fm_isD a0) (h1 : fm_isD a1) (h2 : fm_isD a2) (h : jF40 a0 a1 a2 u = some r) : ev X 40 0 [some (.inr (.inl (some a0))), some (.inr (.inl (some a1))), some (.inr (.inl (some a2))), none, none, none, none] [] u ([], r) := by
  unfold jF40 at h
  refine ev_aload_n (pc := 0) (fe_40 rfl) rfl ?_
  refine fm_lt_h h (fun p1 ep1 h => ?_)
  refine ev_callVk (pc := 1) (fe_40 rfl) (z := 38) (na := 1) (ow := 3) cg_40_48 rfl rfl rfl h0.1 (m := 0) rfl (jK38 h0 ep1) (st1 := []) rfl ?_
  refine ev_iconst (pc := 4) (fe_40 rfl) li_0 ?_
  refine ev_istore_n (pc := 5) (fe_40 rfl) mx_40 rfl ?_
  exact jK40_6 fm_N a0 a1 a2 0 p1 h0 h1 h2 h
/-- CallAgents$Agent takeCall -/
def jF3 (a0 : Nat) (x1 : Int32) (u : fm) : Option (Int32 × fm) :=
  if (fI u a0 8) = 5 then
  (Option.bind (jF40 (a0 + 6) (a0 + 4) (a0 + 1) u) (fun p1 => Option.bind (jF47 (a0 + 12) (a0 + 9) p1) (fun p2 => fm_let (sI p2 (a0 + 12) 1 4) (fun u3 => Option.bind (jF39 (a0 + 13) (a0 + 6) u3) (fun p4 => Option.bind (jF20 a0 p4) (fun p5 => Option.bind (jF21 a0 (a0 + 9) p5) (fun p6 => fm_let (jF23 a0 6 x1 4000 p6) (fun p7 => some (1, p7)))))))))
  else
  (some (0, u))
theorem jK3 {X : Nat × (Nat → Int32)} {a0 : Nat} {x1 : Int32} {u : fm} {r : Int32 × fm} (h0 : fm_isA a0) (h : jF3 a0 x1 u = some r) : ev X 3 0 [some (.inr (.inl (some a0))), some (.inl x1)] [] u ([.inl r.1], r.2) := by
  unfold jF3 at h
  refine ev_aload_n (pc := 0) (fe_3 rfl) rfl ?_
  refine ev_getI (pc := 1) (fe_3 rfl) fr_8 h0.1 ?_
  refine ev_iconst (pc := 4) (fe_3 rfl) li_5 ?_
  refine ev_ic_eq (pc := 5) (fe_3 rfl) (t := 10) rfl h (fun h => ?_) (fun h => ?_)
  refine ev_aload_n (pc := 10) (fe_3 rfl) rfl ?_
  refine ev_getR (a1 := a0 + 3) (pc := 11) (fe_3 rfl) fr_1 h0.1 rfl ?_
  refine ev_getR (a1 := a0 + 6) (pc := 14) (fe_3 rfl) fr_18 h0.2.2.2.1 rfl ?_
  refine ev_aload_n (pc := 17) (fe_3 rfl) rfl ?_
  refine ev_getR (a1 := a0 + 3) (pc := 18) (fe_3 rfl) fr_1 h0.1 rfl ?_
  refine ev_getR (a1 := a0 + 4) (pc := 21) (fe_3 rfl) fr_19 h0.2.2.2.1 rfl ?_
  refine ev_aload_n (pc := 24) (fe_3 rfl) rfl ?_
  refine ev_getR (a1 := a0 + 1) (pc := 25) (fe_3 rfl) fr_0 h0.1 rfl ?_
  refine fm_bd h (fun p1 ep1 h => ?_)
  refine ev_callVk (pc := 28) (fe_3 rfl) (z := 40) (na := 3) (ow := 3) cg_3_12 rfl rfl rfl h0.2.2.2.2.2.2.1 (m := 4) rfl (jK40 ⟨h0.2.2.2.2.2.2.1, h0.2.2.2.2.2.2.2.1⟩ ⟨h0.2.2.2.2.1, h0.2.2.2.2.2.1⟩ ⟨h0.2.1, h0.2.2.1⟩ ep1) (st1 := []) rfl ?_
  refine ev_aload_n (pc := 31) (fe_3 rfl) rfl ?_
  refine ev_getR (a1 := a0 + 12) (pc := 32) (fe_3 rfl) fr_4 h0.1 rfl ?_
  refine ev_aload_n (pc := 35) (fe_3 rfl) rfl ?_
  refine ev_getR (a1 := a0 + 9) (pc := 36) (fe_3 rfl) fr_3 h0.1 rfl ?_
  refine fm_bd h (fun p2 ep2 h => ?_)
  refine ev_callVk (pc := 39) (fe_3 rfl) (z := 47) (na := 2) (ow := 4) cg_3_13 rfl rfl rfl h0.2.2.2.2.2.2.2.2.2.2.2.2.1 (m := 0) rfl (jK47 ⟨h0.2.2.2.2.2.2.2.2.2.2.2.2.1, h0.2.2.2.2.2.2.2.2.2.2.2.2.2.1, h0.2.2.2.2.2.2.2.2.2.2.2.2.2.2⟩ ⟨h0.2.2.2.2.2.2.2.2.2.1, h0.2.2.2.2.2.2.2.2.2.2.1, h0.2.2.2.2.2.2.2.2.2.2.2.1⟩ ep2) (st1 := []) rfl ?_
  refine ev_aload_n (pc := 42) (fe_3 rfl) rfl ?_
  refine ev_getR (a1 := a0 + 12) (pc := 43) (fe_3 rfl) fr_4 h0.1 rfl ?_
  refine ev_iconst (pc := 46) (fe_3 rfl) li_4 ?_
  refine fm_lt_h h (fun u3 eu3 h => ?_)
  refine ev_putI (pc := 47) (fe_3 rfl) fr_20 h0.2.2.2.2.2.2.2.2.2.2.2.2.1 eu3 ?_
  refine ev_aload_n (pc := 50) (fe_3 rfl) rfl ?_
  refine ev_getR (a1 := a0 + 12) (pc := 51) (fe_3 rfl) fr_4 h0.1 rfl ?_
  refine ev_getR (a1 := a0 + 13) (pc := 54) (fe_3 rfl) fr_16 h0.2.2.2.2.2.2.2.2.2.2.2.2.1 rfl ?_
  refine ev_aload_n (pc := 57) (fe_3 rfl) rfl ?_
  refine ev_getR (a1 := a0 + 3) (pc := 58) (fe_3 rfl) fr_1 h0.1 rfl ?_
  refine ev_getR (a1 := a0 + 6) (pc := 61) (fe_3 rfl) fr_18 h0.2.2.2.1 rfl ?_
  refine fm_bd h (fun p4 ep4 h => ?_)
  refine ev_callVk (pc := 64) (fe_3 rfl) (z := 39) (na := 2) (ow := 3) cg_3_7 rfl rfl rfl h0.2.2.2.2.2.2.2.2.2.2.2.2.2.1 (m := 1) rfl (jK39 ⟨h0.2.2.2.2.2.2.2.2.2.2.2.2.2.1, h0.2.2.2.2.2.2.2.2.2.2.2.2.2.2⟩ ⟨h0.2.2.2.2.2.2.1, h0.2.2.2.2.2.2.2.1⟩ ep4) (st1 := []) rfl ?_
  refine ev_aload_n (pc := 67) (fe_3 rfl) rfl ?_
  refine fm_bd h (fun p5 ep5 h => ?_)
  refine ev_callVk (pc := 68) (fe_3 rfl) (z := 20) (na := 1) (ow := 0) cg_3_9 rfl rfl rfl h0.1 (m := 0) rfl (jK20 h0 ep5) (st1 := []) rfl ?_
  refine ev_aload_n (pc := 71) (fe_3 rfl) rfl ?_
  refine ev_aload_n (pc := 72) (fe_3 rfl) rfl ?_
  refine ev_getR (a1 := a0 + 9) (pc := 73) (fe_3 rfl) fr_3 h0.1 rfl ?_
  refine fm_bd h (fun p6 ep6 h => ?_)
  refine ev_callVk (pc := 76) (fe_3 rfl) (z := 21) (na := 2) (ow := 0) cg_3_10 rfl rfl rfl h0.1 (m := 0) rfl (jK21 h0 ⟨h0.2.2.2.2.2.2.2.2.2.1, h0.2.2.2.2.2.2.2.2.2.2.1, h0.2.2.2.2.2.2.2.2.2.2.2.1⟩ ep6) (st1 := []) rfl ?_
  refine ev_aload_n (pc := 79) (fe_3 rfl) rfl ?_
  refine ev_bipush (pc := 80) (fe_3 rfl) lb_6 ?_
  refine ev_iload_n (pc := 82) (fe_3 rfl) rfl ?_
  refine ev_sipush (pc := 83) (fe_3 rfl) ls_4000 ?_
  refine fm_lt_h h (fun p7 ep7 h => ?_)
  refine ev_callVk (pc := 86) (fe_3 rfl) (z := 23) (na := 4) (ow := 0) cg_3_11 rfl rfl rfl h0.1 (m := 0) rfl (jK23 h0 ep7) (st1 := []) rfl ?_
  refine ev_iconst (pc := 89) (fe_3 rfl) li_1 ?_
  exact ev_R (ev_zrt (pc := 90) (fe_3 rfl) rt_3 (Or.inr rfl)) (by rw [← Option.some.inj h])
  refine ev_iconst (pc := 8) (fe_3 rfl) li_0 ?_
  exact ev_R (ev_zrt (pc := 9) (fe_3 rfl) rt_3 (Or.inl rfl)) (by rw [← Option.some.inj h])
/-- CallAgents$Agent turnDown -/
def jF4 (a0 : Nat) (x1 : Int32) (u : fm) : Option (Int32 × fm) :=
  if (fI u a0 8) = 5 then
  (Option.bind (jF47 (a0 + 12) (a0 + 9) u) (fun p1 => fm_let (sI p1 (a0 + 12) 1 5) (fun u2 => Option.bind (jF20 a0 u2) (fun p3 => Option.bind (jF21 a0 (a0 + 9) p3) (fun p4 => fm_let (jF23 a0 7 x1 4000 p4) (fun p5 => some (1, p5)))))))
  else
  (some (0, u))
theorem jK4 {X : Nat × (Nat → Int32)} {a0 : Nat} {x1 : Int32} {u : fm} {r : Int32 × fm} (h0 : fm_isA a0) (h : jF4 a0 x1 u = some r) : ev X 4 0 [some (.inr (.inl (some a0))), some (.inl x1)] [] u ([.inl r.1], r.2) := by
  unfold jF4 at h
  refine ev_aload_n (pc := 0) (fe_4 rfl) rfl ?_
  refine ev_getI (pc := 1) (fe_4 rfl) fr_8 h0.1 ?_
  refine ev_iconst (pc := 4) (fe_4 rfl) li_5 ?_
  refine ev_ic_eq (pc := 5) (fe_4 rfl) (t := 10) rfl h (fun h => ?_) (fun h => ?_)
  refine ev_aload_n (pc := 10) (fe_4 rfl) rfl ?_
  refine ev_getR (a1 := a0 + 12) (pc := 11) (fe_4 rfl) fr_4 h0.1 rfl ?_
  refine ev_aload_n (pc := 14) (fe_4 rfl) rfl ?_
  refine ev_getR (a1 := a0 + 9) (pc := 15) (fe_4 rfl) fr_3 h0.1 rfl ?_
  refine fm_bd h (fun p1 ep1 h => ?_)
  refine ev_callVk (pc := 18) (fe_4 rfl) (z := 47) (na := 2) (ow := 4) cg_4_13 rfl rfl rfl h0.2.2.2.2.2.2.2.2.2.2.2.2.1 (m := 0) rfl (jK47 ⟨h0.2.2.2.2.2.2.2.2.2.2.2.2.1, h0.2.2.2.2.2.2.2.2.2.2.2.2.2.1, h0.2.2.2.2.2.2.2.2.2.2.2.2.2.2⟩ ⟨h0.2.2.2.2.2.2.2.2.2.1, h0.2.2.2.2.2.2.2.2.2.2.1, h0.2.2.2.2.2.2.2.2.2.2.2.1⟩ ep1) (st1 := []) rfl ?_
  refine ev_aload_n (pc := 21) (fe_4 rfl) rfl ?_
  refine ev_getR (a1 := a0 + 12) (pc := 22) (fe_4 rfl) fr_4 h0.1 rfl ?_
  refine ev_iconst (pc := 25) (fe_4 rfl) li_5 ?_
  refine fm_lt_h h (fun u2 eu2 h => ?_)
  refine ev_putI (pc := 26) (fe_4 rfl) fr_20 h0.2.2.2.2.2.2.2.2.2.2.2.2.1 eu2 ?_
  refine ev_aload_n (pc := 29) (fe_4 rfl) rfl ?_
  refine fm_bd h (fun p3 ep3 h => ?_)
  refine ev_callVk (pc := 30) (fe_4 rfl) (z := 20) (na := 1) (ow := 0) cg_4_9 rfl rfl rfl h0.1 (m := 0) rfl (jK20 h0 ep3) (st1 := []) rfl ?_
  refine ev_aload_n (pc := 33) (fe_4 rfl) rfl ?_
  refine ev_aload_n (pc := 34) (fe_4 rfl) rfl ?_
  refine ev_getR (a1 := a0 + 9) (pc := 35) (fe_4 rfl) fr_3 h0.1 rfl ?_
  refine fm_bd h (fun p4 ep4 h => ?_)
  refine ev_callVk (pc := 38) (fe_4 rfl) (z := 21) (na := 2) (ow := 0) cg_4_10 rfl rfl rfl h0.1 (m := 0) rfl (jK21 h0 ⟨h0.2.2.2.2.2.2.2.2.2.1, h0.2.2.2.2.2.2.2.2.2.2.1, h0.2.2.2.2.2.2.2.2.2.2.2.1⟩ ep4) (st1 := []) rfl ?_
  refine ev_aload_n (pc := 41) (fe_4 rfl) rfl ?_
  refine ev_bipush (pc := 42) (fe_4 rfl) lb_7 ?_
  refine ev_iload_n (pc := 44) (fe_4 rfl) rfl ?_
  refine ev_sipush (pc := 45) (fe_4 rfl) ls_4000 ?_
  refine fm_lt_h h (fun p5 ep5 h => ?_)
  refine ev_callVk (pc := 48) (fe_4 rfl) (z := 23) (na := 4) (ow := 0) cg_4_11 rfl rfl rfl h0.1 (m := 0) rfl (jK23 h0 ep5) (st1 := []) rfl ?_
  refine ev_iconst (pc := 51) (fe_4 rfl) li_1 ?_
  exact ev_R (ev_zrt (pc := 52) (fe_4 rfl) rt_4 (Or.inr rfl)) (by rw [← Option.some.inj h])
  refine ev_iconst (pc := 8) (fe_4 rfl) li_0 ?_
  exact ev_R (ev_zrt (pc := 9) (fe_4 rfl) rt_4 (Or.inl rfl)) (by rw [← Option.some.inj h])
/-- CallAgents$Message tagTo -/
def jF49 (a0 : Nat) (x1 : Int32) (u : fm) : fm :=
  fm_let (sI u a0 8 1) (fun u1 => fm_let (sI u1 a0 9 x1) (fun u2 => u2))
theorem jK49 {X : Nat × (Nat → Int32)} {a0 : Nat} {x1 : Int32} {u : fm} {r : fm} (h0 : fm_isM a0) (h : jF49 a0 x1 u = r) : ev X 49 0 [some (.inr (.inl (some a0))), some (.inl x1)] [] u ([], r) := by
  unfold jF49 at h
  refine ev_aload_n (pc := 0) (fe_49 rfl) rfl ?_
  refine ev_iconst (pc := 1) (fe_49 rfl) li_1 ?_
  refine fm_lt_h h (fun u1 eu1 h => ?_)
  refine ev_putZ (pc := 2) (fe_49 rfl) fr_63 h0.1 (Or.inr rfl) eu1 ?_
  refine ev_aload_n (pc := 5) (fe_49 rfl) rfl ?_
  refine ev_iload_n (pc := 6) (fe_49 rfl) rfl ?_
  refine fm_lt_h h (fun u2 eu2 h => ?_)
  refine ev_putI (pc := 7) (fe_49 rfl) fr_64 h0.1 eu2 ?_
  exact ev_R (ev_vrt (pc := 10) (fe_49 rfl) rt_49) (by rw [← h])
/-- CallAgents$Agent endCall -/
def jF5 (a0 : Nat) (x1 : Int32) (u : fm) : Option (Int32 × fm) :=
  if (fI u a0 8) = 3 then
  (fm_let (sI u a0 9 ((fI u a0 9) + 1)) (fun u1 => fm_let (sI u1 a0 10 ((fI u1 a0 10) + 1)) (fun u2 => fm_let (jF19 a0 2 (fI u2 (a0 + 3) 2) (fI u2 (a0 + 3) 5) u2) (fun p3 => fm_let (jF49 (a0 + 12) (fI p3 (a0 + 3) 6) p3) (fun p4 => fm_let (sI p4 a0 13 0) (fun u5 => Option.bind (jF20 a0 u5) (fun p6 => Option.bind (jF21 a0 (a0 + 9) p6) (fun p7 => fm_let (jF23 a0 8 x1 4000 p7) (fun p8 => some (1, p8))))))))))
  else
  (some (0, u))
theorem jK5 {X : Nat × (Nat → Int32)} {a0 : Nat} {x1 : Int32} {u : fm} {r : Int32 × fm} (h0 : fm_isA a0) (h : jF5 a0 x1 u = some r) : ev X 5 0 [some (.inr (.inl (some a0))), some (.inl x1)] [] u ([.inl r.1], r.2) := by
  unfold jF5 at h
  refine ev_aload_n (pc := 0) (fe_5 rfl) rfl ?_
  refine ev_getI (pc := 1) (fe_5 rfl) fr_8 h0.1 ?_
  refine ev_iconst (pc := 4) (fe_5 rfl) li_3 ?_
  refine ev_ic_eq (pc := 5) (fe_5 rfl) (t := 10) rfl h (fun h => ?_) (fun h => ?_)
  refine ev_aload_n (pc := 10) (fe_5 rfl) rfl ?_
  refine ev_dup (pc := 11) (fe_5 rfl) rfl ?_
  refine ev_getI (pc := 12) (fe_5 rfl) fr_10 h0.1 ?_
  refine ev_iconst (pc := 15) (fe_5 rfl) li_1 ?_
  refine ev_iadd (pc := 16) (fe_5 rfl) ?_
  refine fm_lt_h h (fun u1 eu1 h => ?_)
  refine ev_putI (pc := 17) (fe_5 rfl) fr_10 h0.1 eu1 ?_
  refine ev_aload_n (pc := 20) (fe_5 rfl) rfl ?_
  refine ev_dup (pc := 21) (fe_5 rfl) rfl ?_
  refine ev_getI (pc := 22) (fe_5 rfl) fr_11 h0.1 ?_
  refine ev_iconst (pc := 25) (fe_5 rfl) li_1 ?_
  refine ev_iadd (pc := 26) (fe_5 rfl) ?_
  refine fm_lt_h h (fun u2 eu2 h => ?_)
  refine ev_putI (pc := 27) (fe_5 rfl) fr_11 h0.1 eu2 ?_
  refine ev_aload_n (pc := 30) (fe_5 rfl) rfl ?_
  refine ev_iconst (pc := 31) (fe_5 rfl) li_2 ?_
  refine ev_aload_n (pc := 32) (fe_5 rfl) rfl ?_
  refine ev_getR (a1 := a0 + 3) (pc := 33) (fe_5 rfl) fr_1 h0.1 rfl ?_
  refine ev_getI (pc := 36) (fe_5 rfl) fr_21 h0.2.2.2.1 ?_
  refine ev_aload_n (pc := 39) (fe_5 rfl) rfl ?_
  refine ev_getR (a1 := a0 + 3) (pc := 40) (fe_5 rfl) fr_1 h0.1 rfl ?_
  refine ev_getI (pc := 43) (fe_5 rfl) fr_22 h0.2.2.2.1 ?_
  refine fm_lt_h h (fun p3 ep3 h => ?_)
  refine ev_callVk (pc := 46) (fe_5 rfl) (z := 19) (na := 4) (ow := 0) cg_5_6 rfl rfl rfl h0.1 (m := 0) rfl (jK19 h0 ep3) (st1 := []) rfl ?_
  refine ev_aload_n (pc := 49) (fe_5 rfl) rfl ?_
  refine ev_getR (a1 := a0 + 12) (pc := 50) (fe_5 rfl) fr_4 h0.1 rfl ?_
  refine ev_aload_n (pc := 53) (fe_5 rfl) rfl ?_
  refine ev_getR (a1 := a0 + 3) (pc := 54) (fe_5 rfl) fr_1 h0.1 rfl ?_
  refine ev_getI (pc := 57) (fe_5 rfl) fr_23 h0.2.2.2.1 ?_
  refine fm_lt_h h (fun p4 ep4 h => ?_)
  refine ev_callVk (pc := 60) (fe_5 rfl) (z := 49) (na := 2) (ow := 4) cg_5_14 rfl rfl rfl h0.2.2.2.2.2.2.2.2.2.2.2.2.1 (m := 0) rfl (jK49 ⟨h0.2.2.2.2.2.2.2.2.2.2.2.2.1, h0.2.2.2.2.2.2.2.2.2.2.2.2.2.1, h0.2.2.2.2.2.2.2.2.2.2.2.2.2.2⟩ ep4) (st1 := []) rfl ?_
  refine ev_aload_n (pc := 63) (fe_5 rfl) rfl ?_
  refine ev_iconst (pc := 64) (fe_5 rfl) li_0 ?_
  refine fm_lt_h h (fun u5 eu5 h => ?_)
  refine ev_putZ (pc := 65) (fe_5 rfl) fr_17 h0.1 (Or.inl rfl) eu5 ?_
  refine ev_aload_n (pc := 68) (fe_5 rfl) rfl ?_
  refine fm_bd h (fun p6 ep6 h => ?_)
  refine ev_callVk (pc := 69) (fe_5 rfl) (z := 20) (na := 1) (ow := 0) cg_5_9 rfl rfl rfl h0.1 (m := 0) rfl (jK20 h0 ep6) (st1 := []) rfl ?_
  refine ev_aload_n (pc := 72) (fe_5 rfl) rfl ?_
  refine ev_aload_n (pc := 73) (fe_5 rfl) rfl ?_
  refine ev_getR (a1 := a0 + 9) (pc := 74) (fe_5 rfl) fr_3 h0.1 rfl ?_
  refine fm_bd h (fun p7 ep7 h => ?_)
  refine ev_callVk (pc := 77) (fe_5 rfl) (z := 21) (na := 2) (ow := 0) cg_5_10 rfl rfl rfl h0.1 (m := 0) rfl (jK21 h0 ⟨h0.2.2.2.2.2.2.2.2.2.1, h0.2.2.2.2.2.2.2.2.2.2.1, h0.2.2.2.2.2.2.2.2.2.2.2.1⟩ ep7) (st1 := []) rfl ?_
  refine ev_aload_n (pc := 80) (fe_5 rfl) rfl ?_
  refine ev_bipush (pc := 81) (fe_5 rfl) lb_8 ?_
  refine ev_iload_n (pc := 83) (fe_5 rfl) rfl ?_
  refine ev_sipush (pc := 84) (fe_5 rfl) ls_4000 ?_
  refine fm_lt_h h (fun p8 ep8 h => ?_)
  refine ev_callVk (pc := 87) (fe_5 rfl) (z := 23) (na := 4) (ow := 0) cg_5_11 rfl rfl rfl h0.1 (m := 0) rfl (jK23 h0 ep8) (st1 := []) rfl ?_
  refine ev_iconst (pc := 90) (fe_5 rfl) li_1 ?_
  exact ev_R (ev_zrt (pc := 91) (fe_5 rfl) rt_5 (Or.inr rfl)) (by rw [← Option.some.inj h])
  refine ev_iconst (pc := 8) (fe_5 rfl) li_0 ?_
  exact ev_R (ev_zrt (pc := 9) (fe_5 rfl) rt_5 (Or.inl rfl)) (by rw [← Option.some.inj h])
/-- CallAgents$Timer stop -/
def jF79 (a0 : Nat) (u : fm) : fm :=
  fm_let (sI u a0 0 0) (fun u1 => u1)
theorem jK79 {X : Nat × (Nat → Int32)} {a0 : Nat} {u : fm} {r : fm} (h0 : fm_isR a0) (h : jF79 a0 u = r) : ev X 79 0 [some (.inr (.inl (some a0)))] [] u ([], r) := by
  unfold jF79 at h
  refine ev_aload_n (pc := 0) (fe_79 rfl) rfl ?_
  refine ev_iconst (pc := 1) (fe_79 rfl) li_0 ?_
  refine fm_lt_h h (fun u1 eu1 h => ?_)
  refine ev_putZ (pc := 2) (fe_79 rfl) fr_90 h0 (Or.inl rfl) eu1 ?_
  exact ev_R (ev_vrt (pc := 5) (fe_79 rfl) rt_79) (by rw [← h])
/-- CallAgents$Agent enter -/
def jF22 (a0 : Nat) (x1 : Int32) (u : fm) : fm :=
  fm_let (sI u a0 8 x1) (fun u1 => fm_let (jF79 (a0 + 8) u1) (fun p2 => p2))
theorem jK22 {X : Nat × (Nat → Int32)} {a0 : Nat} {x1 : Int32} {u : fm} {r : fm} (h0 : fm_isA a0) (h : jF22 a0 x1 u = r) : ev X 22 0 [some (.inr (.inl (some a0))), some (.inl x1)] [] u ([], r) := by
  unfold jF22 at h
  refine ev_aload_n (pc := 0) (fe_22 rfl) rfl ?_
  refine ev_iload_n (pc := 1) (fe_22 rfl) rfl ?_
  refine fm_lt_h h (fun u1 eu1 h => ?_)
  refine ev_putI (pc := 2) (fe_22 rfl) fr_8 h0.1 eu1 ?_
  refine ev_aload_n (pc := 5) (fe_22 rfl) rfl ?_
  refine ev_getR (a1 := a0 + 8) (pc := 6) (fe_22 rfl) fr_2 h0.1 rfl ?_
  refine fm_lt_h h (fun p2 ep2 h => ?_)
  refine ev_callVk (pc := 9) (fe_22 rfl) (z := 79) (na := 1) (ow := 7) cg_22_34 rfl rfl rfl h0.2.2.2.2.2.2.2.2.1 (m := 0) rfl (jK79 h0.2.2.2.2.2.2.2.2.1 ep2) (st1 := []) rfl ?_
  exact ev_R (ev_vrt (pc := 12) (fe_22 rfl) rt_22) (by rw [← h])
/-- CallAgents$Timer resendsNext -/
def jF80 (a0 : Nat) (u : fm) : Int32 :=
  if (fI u a0 2) < (fI u a0 1) then
  (0)
  else
  (1)
theorem jK80 {X : Nat × (Nat → Int32)} {a0 : Nat} {u : fm} {r : Int32} (h0 : fm_isR a0) (h : jF80 a0 u = r) : ev X 80 0 [some (.inr (.inl (some a0)))] [] u ([.inl r], u) := by
  unfold jF80 at h
  refine ev_aload_n (pc := 0) (fe_80 rfl) rfl ?_
  refine ev_getI (pc := 1) (fe_80 rfl) fr_93 h0 ?_
  refine ev_aload_n (pc := 4) (fe_80 rfl) rfl ?_
  refine ev_getI (pc := 5) (fe_80 rfl) fr_94 h0 ?_
  refine ev_ic_gt (pc := 8) (fe_80 rfl) (t := 15) rfl h (fun h => ?_) (fun h => ?_)
  refine ev_iconst (pc := 15) (fe_80 rfl) li_0 ?_
  exact ev_R (ev_zrt (pc := 16) (fe_80 rfl) rt_80 (Or.inl rfl)) (by rw [← h])
  refine ev_iconst (pc := 11) (fe_80 rfl) li_1 ?_
  refine ev_goto (pc := 12) (fe_80 rfl) (t := 16) rfl ?_
  exact ev_R (ev_zrt (pc := 16) (fe_80 rfl) rt_80 (Or.inr rfl)) (by rw [← h])
/-- CallAgents$Timer setNextResend -/
def jF83 (a0 : Nat) (u : fm) : fm :=
  fm_let (sI u a0 3 (fm_min (2 * (fI u a0 3)) (fI u a0 4))) (fun u1 => fm_let (sI u1 a0 1 ((fI u1 a0 1) + (fI u1 a0 3))) (fun u2 => u2))
theorem jK83 {X : Nat × (Nat → Int32)} {a0 : Nat} {u : fm} {r : fm} (h0 : fm_isR a0) (h : jF83 a0 u = r) : ev X 83 0 [some (.inr (.inl (some a0)))] [] u ([], r) := by
  unfold jF83 at h
  refine ev_aload_n (pc := 0) (fe_83 rfl) rfl ?_
  refine ev_iconst (pc := 1) (fe_83 rfl) li_2 ?_
  refine ev_aload_n (pc := 2) (fe_83 rfl) rfl ?_
  refine ev_getI (pc := 3) (fe_83 rfl) fr_91 h0 ?_
  refine ev_imul (pc := 6) (fe_83 rfl) ?_
  refine ev_aload_n (pc := 7) (fe_83 rfl) rfl ?_
  refine ev_getI (pc := 8) (fe_83 rfl) fr_92 h0 ?_
  refine ev_min (pc := 11) (fe_83 rfl) rfl (by decide +kernel) rfl ?_
  refine fm_lt_h h (fun u1 eu1 h => ?_)
  refine ev_putI (pc := 14) (fe_83 rfl) fr_91 h0 eu1 ?_
  refine ev_aload_n (pc := 17) (fe_83 rfl) rfl ?_
  refine ev_dup (pc := 18) (fe_83 rfl) rfl ?_
  refine ev_getI (pc := 19) (fe_83 rfl) fr_93 h0 ?_
  refine ev_aload_n (pc := 22) (fe_83 rfl) rfl ?_
  refine ev_getI (pc := 23) (fe_83 rfl) fr_91 h0 ?_
  refine ev_iadd (pc := 26) (fe_83 rfl) ?_
  refine fm_lt_h h (fun u2 eu2 h => ?_)
  refine ev_putI (pc := 27) (fe_83 rfl) fr_93 h0 eu2 ?_
  exact ev_R (ev_vrt (pc := 30) (fe_83 rfl) rt_83) (by rw [← h])
/-- CallAgents$Agent runTimer -/
def jF6 (a0 : Nat) (u : fm) : Option (fm) :=
  if (jF80 (a0 + 8) u) = 0 then
  (if (fI u a0 8) = 1 then
  (fm_let (jF22 a0 4 u) (fun p3 => some p3))
  else
  (fm_let (jF22 a0 9 u) (fun p2 => some p2)))
  else
  (fm_let (jF83 (a0 + 8) u) (fun p4 => Option.bind (jF21 a0 (a0 + 9) p4) (fun p5 => some p5)))
theorem jK6 {X : Nat × (Nat → Int32)} {a0 : Nat} {u : fm} {r : fm} (h0 : fm_isA a0) (h : jF6 a0 u = some r) : ev X 6 0 [some (.inr (.inl (some a0)))] [] u ([], r) := by
  unfold jF6 at h
  refine ev_aload_n (pc := 0) (fe_6 rfl) rfl ?_
  refine ev_getR (a1 := a0 + 8) (pc := 1) (fe_6 rfl) fr_2 h0.1 rfl ?_
  refine ev_callVZk (pc := 4) (fe_6 rfl) (z := 80) (na := 1) (ow := 7) cg_6_15 rfl rt_80 rfl rfl h0.2.2.2.2.2.2.2.2.1 (m := 0) rfl (jK80 h0.2.2.2.2.2.2.2.2.1 rfl) (st1 := [.inl (jF80 (a0 + 8) u)]) rfl (fun z1 => ?_)
  refine ev_if_eq (pc := 7) (fe_6 rfl) (t := 28) rfl h (fun h => ?_) (fun h => ?_)
  refine ev_aload_n (pc := 28) (fe_6 rfl) rfl ?_
  refine ev_aload_n (pc := 29) (fe_6 rfl) rfl ?_
  refine ev_getI (pc := 30) (fe_6 rfl) fr_8 h0.1 ?_
  refine ev_iconst (pc := 33) (fe_6 rfl) li_1 ?_
  refine ev_ic_ne (pc := 34) (fe_6 rfl) (t := 41) rfl h (fun h => ?_) (fun h => ?_)
  refine ev_bipush (pc := 41) (fe_6 rfl) lb_9 ?_
  refine fm_lt_h h (fun p2 ep2 h => ?_)
  refine ev_callVk (pc := 43) (fe_6 rfl) (z := 22) (na := 2) (ow := 0) cg_6_17 rfl rfl rfl h0.1 (m := 0) rfl (jK22 h0 ep2) (st1 := []) rfl ?_
  exact ev_R (ev_vrt (pc := 46) (fe_6 rfl) rt_6) (by rw [← Option.some.inj h])
  refine ev_iconst (pc := 37) (fe_6 rfl) li_4 ?_
  refine ev_goto (pc := 38) (fe_6 rfl) (t := 43) rfl ?_
  refine fm_lt_h h (fun p3 ep3 h => ?_)
  refine ev_callVk (pc := 43) (fe_6 rfl) (z := 22) (na := 2) (ow := 0) cg_6_17 rfl rfl rfl h0.1 (m := 0) rfl (jK22 h0 ep3) (st1 := []) rfl ?_
  exact ev_R (ev_vrt (pc := 46) (fe_6 rfl) rt_6) (by rw [← Option.some.inj h])
  refine ev_aload_n (pc := 10) (fe_6 rfl) rfl ?_
  refine ev_getR (a1 := a0 + 8) (pc := 11) (fe_6 rfl) fr_2 h0.1 rfl ?_
  refine fm_lt_h h (fun p4 ep4 h => ?_)
  refine ev_callVk (pc := 14) (fe_6 rfl) (z := 83) (na := 1) (ow := 7) cg_6_16 rfl rfl rfl h0.2.2.2.2.2.2.2.2.1 (m := 0) rfl (jK83 h0.2.2.2.2.2.2.2.2.1 ep4) (st1 := []) rfl ?_
  refine ev_aload_n (pc := 17) (fe_6 rfl) rfl ?_
  refine ev_aload_n (pc := 18) (fe_6 rfl) rfl ?_
  refine ev_getR (a1 := a0 + 9) (pc := 19) (fe_6 rfl) fr_3 h0.1 rfl ?_
  refine fm_bd h (fun p5 ep5 h => ?_)
  refine ev_callVk (pc := 22) (fe_6 rfl) (z := 21) (na := 2) (ow := 0) cg_6_10 rfl rfl rfl h0.1 (m := 0) rfl (jK21 h0 ⟨h0.2.2.2.2.2.2.2.2.2.1, h0.2.2.2.2.2.2.2.2.2.2.1, h0.2.2.2.2.2.2.2.2.2.2.2.1⟩ ep5) (st1 := []) rfl ?_
  refine ev_goto (pc := 25) (fe_6 rfl) (t := 46) rfl ?_
  exact ev_R (ev_vrt (pc := 46) (fe_6 rfl) rt_6) (by rw [← Option.some.inj h])
/-- CallAgents$Agent isRequestHere -/
def jF9 (a0 : Nat) (a1 : Nat) (u : fm) : Int32 :=
  if (fI u a1 2) = (fI u a0 0) then
  (if (fI u a1 7) = (fI u a0 0) then
  (if (fI u a1 3) = (fI u a0 1) then
  (if (fI u a1 5) = (fI u a0 1) then
  (1)
  else
  (0))
  else
  (0))
  else
  (0))
  else
  (0)
theorem jK9 {X : Nat × (Nat → Int32)} {a0 : Nat} {a1 : Nat} {u : fm} {r : Int32} (h0 : fm_isA a0) (h1 : fm_isM a1) (h : jF9 a0 a1 u = r) : ev X 9 0 [some (.inr (.inl (some a0))), some (.inr (.inl (some a1)))] [] u ([.inl r], u) := by
  unfold jF9 at h
  refine ev_aload_n (pc := 0) (fe_9 rfl) rfl ?_
  refine ev_getI (pc := 1) (fe_9 rfl) fr_26 h1.1 ?_
  refine ev_aload_n (pc := 4) (fe_9 rfl) rfl ?_
  refine ev_getI (pc := 5) (fe_9 rfl) fr_5 h0.1 ?_
  refine ev_ic_ne (pc := 8) (fe_9 rfl) (t := 48) rfl h (fun h => ?_) (fun h => ?_)
  refine ev_iconst (pc := 48) (fe_9 rfl) li_0 ?_
  exact ev_R (ev_zrt (pc := 49) (fe_9 rfl) rt_9 (Or.inl rfl)) (by rw [← h])
  refine ev_aload_n (pc := 11) (fe_9 rfl) rfl ?_
  refine ev_getI (pc := 12) (fe_9 rfl) fr_27 h1.1 ?_
  refine ev_aload_n (pc := 15) (fe_9 rfl) rfl ?_
  refine ev_getI (pc := 16) (fe_9 rfl) fr_5 h0.1 ?_
  refine ev_ic_ne (pc := 19) (fe_9 rfl) (t := 48) rfl h (fun h => ?_) (fun h => ?_)
  refine ev_iconst (pc := 48) (fe_9 rfl) li_0 ?_
  exact ev_R (ev_zrt (pc := 49) (fe_9 rfl) rt_9 (Or.inl rfl)) (by rw [← h])
  refine ev_aload_n (pc := 22) (fe_9 rfl) rfl ?_
  refine ev_getI (pc := 23) (fe_9 rfl) fr_28 h1.1 ?_
  refine ev_aload_n (pc := 26) (fe_9 rfl) rfl ?_
  refine ev_getI (pc := 27) (fe_9 rfl) fr_6 h0.1 ?_
  refine ev_ic_ne (pc := 30) (fe_9 rfl) (t := 48) rfl h (fun h => ?_) (fun h => ?_)
  refine ev_iconst (pc := 48) (fe_9 rfl) li_0 ?_
  exact ev_R (ev_zrt (pc := 49) (fe_9 rfl) rt_9 (Or.inl rfl)) (by rw [← h])
  refine ev_aload_n (pc := 33) (fe_9 rfl) rfl ?_
  refine ev_getI (pc := 34) (fe_9 rfl) fr_29 h1.1 ?_
  refine ev_aload_n (pc := 37) (fe_9 rfl) rfl ?_
  refine ev_getI (pc := 38) (fe_9 rfl) fr_6 h0.1 ?_
  refine ev_ic_ne (pc := 41) (fe_9 rfl) (t := 48) rfl h (fun h => ?_) (fun h => ?_)
  refine ev_iconst (pc := 48) (fe_9 rfl) li_0 ?_
  exact ev_R (ev_zrt (pc := 49) (fe_9 rfl) rt_9 (Or.inl rfl)) (by rw [← h])
  refine ev_iconst (pc := 44) (fe_9 rfl) li_1 ?_
  refine ev_goto (pc := 45) (fe_9 rfl) (t := 49) rfl ?_
  exact ev_R (ev_zrt (pc := 49) (fe_9 rfl) rt_9 (Or.inr rfl)) (by rw [← h])
/-- CallAgents$Agent isResponseHere -/
def jF10 (a0 : Nat) (a1 : Nat) (u : fm) : Int32 :=
  if (fI u a1 3) = (fI u a0 0) then
  (if (fI u a1 5) = (fI u a0 0) then
  (if (fI u a1 7) = (fI u a0 1) then
  (1)
  else
  (0))
  else
  (0))
  else
  (0)
theorem jK10 {X : Nat × (Nat → Int32)} {a0 : Nat} {a1 : Nat} {u : fm} {r : Int32} (h0 : fm_isA a0) (h1 : fm_isM a1) (h : jF10 a0 a1 u = r) : ev X 10 0 [some (.inr (.inl (some a0))), some (.inr (.inl (some a1)))] [] u ([.inl r], u) := by
  unfold jF10 at h
  refine ev_aload_n (pc := 0) (fe_10 rfl) rfl ?_
  refine ev_getI (pc := 1) (fe_10 rfl) fr_28 h1.1 ?_
  refine ev_aload_n (pc := 4) (fe_10 rfl) rfl ?_
  refine ev_getI (pc := 5) (fe_10 rfl) fr_5 h0.1 ?_
  refine ev_ic_ne (pc := 8) (fe_10 rfl) (t := 37) rfl h (fun h => ?_) (fun h => ?_)
  refine ev_iconst (pc := 37) (fe_10 rfl) li_0 ?_
  exact ev_R (ev_zrt (pc := 38) (fe_10 rfl) rt_10 (Or.inl rfl)) (by rw [← h])
  refine ev_aload_n (pc := 11) (fe_10 rfl) rfl ?_
  refine ev_getI (pc := 12) (fe_10 rfl) fr_29 h1.1 ?_
  refine ev_aload_n (pc := 15) (fe_10 rfl) rfl ?_
  refine ev_getI (pc := 16) (fe_10 rfl) fr_5 h0.1 ?_
  refine ev_ic_ne (pc := 19) (fe_10 rfl) (t := 37) rfl h (fun h => ?_) (fun h => ?_)
  refine ev_iconst (pc := 37) (fe_10 rfl) li_0 ?_
  exact ev_R (ev_zrt (pc := 38) (fe_10 rfl) rt_10 (Or.inl rfl)) (by rw [← h])
  refine ev_aload_n (pc := 22) (fe_10 rfl) rfl ?_
  refine ev_getI (pc := 23) (fe_10 rfl) fr_27 h1.1 ?_
  refine ev_aload_n (pc := 26) (fe_10 rfl) rfl ?_
  refine ev_getI (pc := 27) (fe_10 rfl) fr_6 h0.1 ?_
  refine ev_ic_ne (pc := 30) (fe_10 rfl) (t := 37) rfl h (fun h => ?_) (fun h => ?_)
  refine ev_iconst (pc := 37) (fe_10 rfl) li_0 ?_
  exact ev_R (ev_zrt (pc := 38) (fe_10 rfl) rt_10 (Or.inl rfl)) (by rw [← h])
  refine ev_iconst (pc := 33) (fe_10 rfl) li_1 ?_
  refine ev_goto (pc := 34) (fe_10 rfl) (t := 38) rfl ?_
  exact ev_R (ev_zrt (pc := 38) (fe_10 rfl) rt_10 (Or.inr rfl)) (by rw [← h])
/-- CallAgents$Dialog startedWith -/
def jF26 (a0 : Nat) (a1 : Nat) (u : fm) : Int32 :=
  if (fI u a1 4) = (fI u a0 3) then
  (if (fI u a1 10) = (fI u a0 2) then
  (1)
  else
  (0))
  else
  (0)
theorem jK26 {X : Nat × (Nat → Int32)} {a0 : Nat} {a1 : Nat} {u : fm} {r : Int32} (h0 : fm_isG a0) (h1 : fm_isM a1) (h : jF26 a0 a1 u = r) : ev X 26 0 [some (.inr (.inl (some a0))), some (.inr (.inl (some a1)))] [] u ([.inl r], u) := by
  unfold jF26 at h
  refine ev_aload_n (pc := 0) (fe_26 rfl) rfl ?_
  refine ev_getI (pc := 1) (fe_26 rfl) fr_41 h1.1 ?_
  refine ev_aload_n (pc := 4) (fe_26 rfl) rfl ?_
  refine ev_getI (pc := 5) (fe_26 rfl) fr_42 h0.1 ?_
  refine ev_ic_ne (pc := 8) (fe_26 rfl) (t := 26) rfl h (fun h => ?_) (fun h => ?_)
  refine ev_iconst (pc := 26) (fe_26 rfl) li_0 ?_
  exact ev_R (ev_zrt (pc := 27) (fe_26 rfl) rt_26 (Or.inl rfl)) (by rw [← h])
  refine ev_aload_n (pc := 11) (fe_26 rfl) rfl ?_
  refine ev_getI (pc := 12) (fe_26 rfl) fr_39 h1.1 ?_
  refine ev_aload_n (pc := 15) (fe_26 rfl) rfl ?_
  refine ev_getI (pc := 16) (fe_26 rfl) fr_40 h0.1 ?_
  refine ev_ic_ne (pc := 19) (fe_26 rfl) (t := 26) rfl h (fun h => ?_) (fun h => ?_)
  refine ev_iconst (pc := 26) (fe_26 rfl) li_0 ?_
  exact ev_R (ev_zrt (pc := 27) (fe_26 rfl) rt_26 (Or.inl rfl)) (by rw [← h])
  refine ev_iconst (pc := 22) (fe_26 rfl) li_1 ?_
  refine ev_goto (pc := 23) (fe_26 rfl) (t := 27) rfl ?_
  exact ev_R (ev_zrt (pc := 27) (fe_26 rfl) rt_26 (Or.inr rfl)) (by rw [← h])
/-- CallAgents$Message answer -/
def jF48 (a0 : Nat) (a1 : Nat) (x2 : Int32) (u : fm) : Option (fm) :=
  Option.bind (jF47 a0 a1 u) (fun p1 => fm_let (sI p1 a0 1 x2) (fun u2 => fm_let (jF38 (a0 + 1) u2) (fun p3 => some p3)))
theorem jK48 {X : Nat × (Nat → Int32)} {a0 : Nat} {a1 : Nat} {x2 : Int32} {u : fm} {r : fm} (h0 : fm_isM a0) (h1 : fm_isM a1) (h : jF48 a0 a1 x2 u = some r) : ev X 48 0 [some (.inr (.inl (some a0))), some (.inr (.inl (some a1))), some (.inl x2)] [] u ([], r) := by
  unfold jF48 at h
  refine ev_aload_n (pc := 0) (fe_48 rfl) rfl ?_
  refine ev_aload_n (pc := 1) (fe_48 rfl) rfl ?_
  refine fm_bd h (fun p1 ep1 h => ?_)
  refine ev_callVk (pc := 2) (fe_48 rfl) (z := 47) (na := 2) (ow := 4) cg_48_59 rfl rfl rfl h0.1 (m := 0) rfl (jK47 h0 h1 ep1) (st1 := []) rfl ?_
  refine ev_aload_n (pc := 5) (fe_48 rfl) rfl ?_
  refine ev_iload_n (pc := 6) (fe_48 rfl) rfl ?_
  refine fm_lt_h h (fun u2 eu2 h => ?_)
  refine ev_putI (pc := 7) (fe_48 rfl) fr_56 h0.1 eu2 ?_
  refine ev_aload_n (pc := 10) (fe_48 rfl) rfl ?_
  refine ev_getR (a1 := a0 + 1) (pc := 11) (fe_48 rfl) fr_55 h0.1 rfl ?_
  refine fm_lt_h h (fun p3 ep3 h => ?_)
  refine ev_callVk (pc := 14) (fe_48 rfl) (z := 38) (na := 1) (ow := 3) cg_48_60 rfl rfl rfl h0.2.1 (m := 0) rfl (jK38 ⟨h0.2.1, h0.2.2⟩ ep3) (st1 := []) rfl ?_
  exact ev_R (ev_vrt (pc := 17) (fe_48 rfl) rt_48) (by rw [← Option.some.inj h])
/-- CallAgents$Agent takeInvite -/
def jF11_76 (a0 : Nat) (a1 : Nat) (x2 : Int32) (s2 : Int32) (u : fm) : Option (Int32 × fm) :=
  Option.bind (jF48 (a0 + 12) a1 s2 u) (fun p3 => fm_let (jF49 (a0 + 12) (fI p3 a0 11) p3) (fun p4 => if x2 = 0 then
  (Option.bind (jF21 a0 (a0 + 12) p4) (fun p5 => some (1, p5)))
  else
  (Option.bind (jF25 (a0 + 3) a1 (fI p4 a0 11) (fI p4 a1 6) p4) (fun p6 => fm_let (sI p6 a0 13 0) (fun u7 => Option.bind (jF20 a0 u7) (fun p8 => fm_let (jF22 a0 5 p8) (fun p9 => Option.bind (jF21 a0 (a0 + 12) p9) (fun p10 => some (1, p10)))))))))
def jF11_47 (a0 : Nat) (a1 : Nat) (u : fm) : Option (Int32 × fm) :=
  fm_let (sI u a0 11 ((fI u a0 11) + 1)) (fun u2 => if (jF1 a0 u) = 0 then
  (jF11_76 a0 a1 (jF1 a0 u) 5 u2)
  else
  (jF11_76 a0 a1 (jF1 a0 u) 3 u2))
def jF11 (a0 : Nat) (a1 : Nat) (u : fm) : Option (Int32 × fm) :=
  if (fm_b01 (fI u a1 8)) = 0 then
  (if (fI u a0 8) < 5 then
  (jF11_47 a0 a1 u)
  else
  (if 7 < (fI u a0 8) then
  (jF11_47 a0 a1 u)
  else
  (if (jF26 (a0 + 3) a1 u) = 0 then
  (jF11_47 a0 a1 u)
  else
  (Option.bind (jF21 a0 (a0 + 9) u) (fun p12 => some (1, p12))))))
  else
  (some (0, u))
theorem jK11_76 {X : Nat × (Nat → Int32)} {r : Int32 × fm} (a0 : Nat) (a1 : Nat) (x2 : Int32) (s2 : Int32) (u : fm) (h0 : fm_isA a0) (h1 : fm_isM a1) (b_x2 : x2 = 0 ∨ x2 = 1) (h : jF11_76 a0 a1 x2 s2 u = some r) : ev X 11 76 [some (.inr (.inl (some a0))), some (.inr (.inl (some a1))), some (.inl x2)] [.inl s2, .inr (.inl (some a1)), .inr (.inl (some (a0 + 12)))] u ([.inl r.1], r.2) := by
  unfold jF11_76 at h
  refine fm_bd h (fun p3 ep3 h => ?_)
  refine ev_callVk (pc := 76) (fe_11 rfl) (z := 48) (na := 3) (ow := 4) cg_11_28 rfl rfl rfl h0.2.2.2.2.2.2.2.2.2.2.2.2.1 (m := 0) rfl (jK48 ⟨h0.2.2.2.2.2.2.2.2.2.2.2.2.1, h0.2.2.2.2.2.2.2.2.2.2.2.2.2.1, h0.2.2.2.2.2.2.2.2.2.2.2.2.2.2⟩ h1 ep3) (st1 := []) rfl ?_
  refine ev_aload_n (pc := 79) (fe_11 rfl) rfl ?_
  refine ev_getR (a1 := a0 + 12) (pc := 80) (fe_11 rfl) fr_4 h0.1 rfl ?_
  refine ev_aload_n (pc := 83) (fe_11 rfl) rfl ?_
  refine ev_getI (pc := 84) (fe_11 rfl) fr_12 h0.1 ?_
  refine fm_lt_h h (fun p4 ep4 h => ?_)
  refine ev_callVk (pc := 87) (fe_11 rfl) (z := 49) (na := 2) (ow := 4) cg_11_14 rfl rfl rfl h0.2.2.2.2.2.2.2.2.2.2.2.2.1 (m := 0) rfl (jK49 ⟨h0.2.2.2.2.2.2.2.2.2.2.2.2.1, h0.2.2.2.2.2.2.2.2.2.2.2.2.2.1, h0.2.2.2.2.2.2.2.2.2.2.2.2.2.2⟩ ep4) (st1 := []) rfl ?_
  refine ev_iload_n (pc := 90) (fe_11 rfl) rfl ?_
  refine ev_if_eq (pc := 91) (fe_11 rfl) (t := 124) rfl h (fun h => ?_) (fun h => ?_)
  refine ev_aload_n (pc := 124) (fe_11 rfl) rfl ?_
  refine ev_aload_n (pc := 125) (fe_11 rfl) rfl ?_
  refine ev_getR (a1 := a0 + 12) (pc := 126) (fe_11 rfl) fr_4 h0.1 rfl ?_
  refine fm_bd h (fun p5 ep5 h => ?_)
  refine ev_callVk (pc := 129) (fe_11 rfl) (z := 21) (na := 2) (ow := 0) cg_11_10 rfl rfl rfl h0.1 (m := 0) rfl (jK21 h0 ⟨h0.2.2.2.2.2.2.2.2.2.2.2.2.1, h0.2.2.2.2.2.2.2.2.2.2.2.2.2.1, h0.2.2.2.2.2.2.2.2.2.2.2.2.2.2⟩ ep5) (st1 := []) rfl ?_
  refine ev_iconst (pc := 132) (fe_11 rfl) li_1 ?_
  exact ev_R (ev_zrt (pc := 133) (fe_11 rfl) rt_11 (Or.inr rfl)) (by rw [← Option.some.inj h])
  refine ev_aload_n (pc := 94) (fe_11 rfl) rfl ?_
  refine ev_getR (a1 := a0 + 3) (pc := 95) (fe_11 rfl) fr_1 h0.1 rfl ?_
  refine ev_aload_n (pc := 98) (fe_11 rfl) rfl ?_
  refine ev_aload_n (pc := 99) (fe_11 rfl) rfl ?_
  refine ev_getI (pc := 100) (fe_11 rfl) fr_12 h0.1 ?_
  refine ev_aload_n (pc := 103) (fe_11 rfl) rfl ?_
  refine ev_getI (pc := 104) (fe_11 rfl) fr_30 h1.1 ?_
  refine fm_bd h (fun p6 ep6 h => ?_)
  refine ev_callVk (pc := 107) (fe_11 rfl) (z := 25) (na := 4) (ow := 1) cg_11_8 rfl rfl rfl h0.2.2.2.1 (m := 0) rfl (jK25 ⟨h0.2.2.2.1, h0.2.2.2.2.1, h0.2.2.2.2.2.1, h0.2.2.2.2.2.2.1, h0.2.2.2.2.2.2.2.1⟩ h1 ep6) (st1 := []) rfl ?_
  refine ev_aload_n (pc := 110) (fe_11 rfl) rfl ?_
  refine ev_iconst (pc := 111) (fe_11 rfl) li_0 ?_
  refine fm_lt_h h (fun u7 eu7 h => ?_)
  refine ev_putZ (pc := 112) (fe_11 rfl) fr_17 h0.1 (Or.inl rfl) eu7 ?_
  refine ev_aload_n (pc := 115) (fe_11 rfl) rfl ?_
  refine fm_bd h (fun p8 ep8 h => ?_)
  refine ev_callVk (pc := 116) (fe_11 rfl) (z := 20) (na := 1) (ow := 0) cg_11_9 rfl rfl rfl h0.1 (m := 0) rfl (jK20 h0 ep8) (st1 := []) rfl ?_
  refine ev_aload_n (pc := 119) (fe_11 rfl) rfl ?_
  refine ev_iconst (pc := 120) (fe_11 rfl) li_5 ?_
  refine fm_lt_h h (fun p9 ep9 h => ?_)
  refine ev_callVk (pc := 121) (fe_11 rfl) (z := 22) (na := 2) (ow := 0) cg_11_17 rfl rfl rfl h0.1 (m := 0) rfl (jK22 h0 ep9) (st1 := []) rfl ?_
  refine ev_aload_n (pc := 124) (fe_11 rfl) rfl ?_
  refine ev_aload_n (pc := 125) (fe_11 rfl) rfl ?_
  refine ev_getR (a1 := a0 + 12) (pc := 126) (fe_11 rfl) fr_4 h0.1 rfl ?_
  refine fm_bd h (fun p10 ep10 h => ?_)
  refine ev_callVk (pc := 129) (fe_11 rfl) (z := 21) (na := 2) (ow := 0) cg_11_10 rfl rfl rfl h0.1 (m := 0) rfl (jK21 h0 ⟨h0.2.2.2.2.2.2.2.2.2.2.2.2.1, h0.2.2.2.2.2.2.2.2.2.2.2.2.2.1, h0.2.2.2.2.2.2.2.2.2.2.2.2.2.2⟩ ep10) (st1 := []) rfl ?_
  refine ev_iconst (pc := 132) (fe_11 rfl) li_1 ?_
  exact ev_R (ev_zrt (pc := 133) (fe_11 rfl) rt_11 (Or.inr rfl)) (by rw [← Option.some.inj h])
theorem jK11_47 {X : Nat × (Nat → Int32)} {r : Int32 × fm} (a0 : Nat) (a1 : Nat) (u : fm) (h0 : fm_isA a0) (h1 : fm_isM a1) (h : jF11_47 a0 a1 u = some r) : ev X 11 47 [some (.inr (.inl (some a0))), some (.inr (.inl (some a1))), none] [] u ([.inl r.1], r.2) := by
  unfold jF11_47 at h
  refine ev_aload_n (pc := 47) (fe_11 rfl) rfl ?_
  refine ev_callVZk (pc := 48) (fe_11 rfl) (z := 1) (na := 1) (ow := 0) cg_11_5 rfl rt_1 rfl rfl h0.1 (m := 0) rfl (jK1 h0 rfl) (st1 := [.inl (jF1 a0 u)]) rfl (fun z1 => ?_)
  refine ev_istore_n (pc := 51) (fe_11 rfl) mx_11 rfl ?_
  refine ev_aload_n (pc := 52) (fe_11 rfl) rfl ?_
  refine ev_dup (pc := 53) (fe_11 rfl) rfl ?_
  refine ev_getI (pc := 54) (fe_11 rfl) fr_12 h0.1 ?_
  refine ev_iconst (pc := 57) (fe_11 rfl) li_1 ?_
  refine ev_iadd (pc := 58) (fe_11 rfl) ?_
  refine fm_lt_h h (fun u2 eu2 h => ?_)
  refine ev_putI (pc := 59) (fe_11 rfl) fr_12 h0.1 eu2 ?_
  refine ev_aload_n (pc := 62) (fe_11 rfl) rfl ?_
  refine ev_getR (a1 := a0 + 12) (pc := 63) (fe_11 rfl) fr_4 h0.1 rfl ?_
  refine ev_aload_n (pc := 66) (fe_11 rfl) rfl ?_
  refine ev_iload_n (pc := 67) (fe_11 rfl) rfl ?_
  refine ev_if_eq (pc := 68) (fe_11 rfl) (t := 75) rfl h (fun h => ?_) (fun h => ?_)
  refine ev_iconst (pc := 75) (fe_11 rfl) li_5 ?_
  exact jK11_76 a0 a1 (jF1 a0 u) 5 u2 h0 h1 (z1) h
  refine ev_iconst (pc := 71) (fe_11 rfl) li_3 ?_
  refine ev_goto (pc := 72) (fe_11 rfl) (t := 76) rfl ?_
  exact jK11_76 a0 a1 (jF1 a0 u) 3 u2 h0 h1 (z1) h
theorem jK11 {X : Nat × (Nat → Int32)} {a0 : Nat} {a1 : Nat} {u : fm} {r : Int32 × fm} (h0 : fm_isA a0) (h1 : fm_isM a1) (h : jF11 a0 a1 u = some r) : ev X 11 0 [some (.inr (.inl (some a0))), some (.inr (.inl (some a1))), none] [] u ([.inl r.1], r.2) := by
  unfold jF11 at h
  refine ev_aload_n (pc := 0) (fe_11 rfl) rfl ?_
  refine ev_getZ (pc := 1) (fe_11 rfl) fr_14 h1.1 ?_
  refine ev_if_eq (pc := 4) (fe_11 rfl) (t := 9) rfl h (fun h => ?_) (fun h => ?_)
  refine ev_aload_n (pc := 9) (fe_11 rfl) rfl ?_
  refine ev_getI (pc := 10) (fe_11 rfl) fr_8 h0.1 ?_
  refine ev_iconst (pc := 13) (fe_11 rfl) li_5 ?_
  refine ev_ic_lt (pc := 14) (fe_11 rfl) (t := 47) rfl h (fun h => ?_) (fun h => ?_)
  exact jK11_47 a0 a1 u h0 h1 h
  refine ev_aload_n (pc := 17) (fe_11 rfl) rfl ?_
  refine ev_getI (pc := 18) (fe_11 rfl) fr_8 h0.1 ?_
  refine ev_bipush (pc := 21) (fe_11 rfl) lb_7 ?_
  refine ev_ic_gt (pc := 23) (fe_11 rfl) (t := 47) rfl h (fun h => ?_) (fun h => ?_)
  exact jK11_47 a0 a1 u h0 h1 h
  refine ev_aload_n (pc := 26) (fe_11 rfl) rfl ?_
  refine ev_getR (a1 := a0 + 3) (pc := 27) (fe_11 rfl) fr_1 h0.1 rfl ?_
  refine ev_aload_n (pc := 30) (fe_11 rfl) rfl ?_
  refine ev_callVZk (pc := 31) (fe_11 rfl) (z := 26) (na := 2) (ow := 1) cg_11_27 rfl rt_26 rfl rfl h0.2.2.2.1 (m := 0) rfl (jK26 ⟨h0.2.2.2.1, h0.2.2.2.2.1, h0.2.2.2.2.2.1, h0.2.2.2.2.2.2.1, h0.2.2.2.2.2.2.2.1⟩ h1 rfl) (st1 := [.inl (jF26 (a0 + 3) a1 u)]) rfl (fun z11 => ?_)
  refine ev_if_eq (pc := 34) (fe_11 rfl) (t := 47) rfl h (fun h => ?_) (fun h => ?_)
  exact jK11_47 a0 a1 u h0 h1 h
  refine ev_aload_n (pc := 37) (fe_11 rfl) rfl ?_
  refine ev_aload_n (pc := 38) (fe_11 rfl) rfl ?_
  refine ev_getR (a1 := a0 + 9) (pc := 39) (fe_11 rfl) fr_3 h0.1 rfl ?_
  refine fm_bd h (fun p12 ep12 h => ?_)
  refine ev_callVk (pc := 42) (fe_11 rfl) (z := 21) (na := 2) (ow := 0) cg_11_10 rfl rfl rfl h0.1 (m := 0) rfl (jK21 h0 ⟨h0.2.2.2.2.2.2.2.2.2.1, h0.2.2.2.2.2.2.2.2.2.2.1, h0.2.2.2.2.2.2.2.2.2.2.2.1⟩ ep12) (st1 := []) rfl ?_
  refine ev_iconst (pc := 45) (fe_11 rfl) li_1 ?_
  exact ev_R (ev_zrt (pc := 46) (fe_11 rfl) rt_11 (Or.inr rfl)) (by rw [← Option.some.inj h])
  refine ev_iconst (pc := 7) (fe_11 rfl) li_0 ?_
  exact ev_R (ev_zrt (pc := 8) (fe_11 rfl) rt_11 (Or.inl rfl)) (by rw [← Option.some.inj h])
