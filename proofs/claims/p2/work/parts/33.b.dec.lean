set_option maxRecDepth 8000
/-- CallAgents$Agent takeAck -/
def jF12_23 (a0 : Nat) (a1 : Nat) (s0 : Int32) (u : fm) : Int32 × fm :=
  if s0 = 0 then
  ((0, u))
  else
  (if (fI u a1 10) = (fI u (a0 + 3) 2) then
  (if (fI u a1 11) = (fI u (a0 + 3) 4) then
  (if (fI u a0 8) = 6 then
  (fm_let (jF22 a0 3 u) (fun p2 => (1, p2)))
  else
  (fm_let (jF22 a0 9 u) (fun p1 => (1, p1))))
  else
  ((0, u)))
  else
  ((0, u)))
def jF12_18 (a0 : Nat) (a1 : Nat) (u : fm) : Int32 × fm :=
  jF12_23 a0 a1 1 u
def jF12 (a0 : Nat) (a1 : Nat) (u : fm) : Int32 × fm :=
  if (fI u a0 8) = 6 then
  (jF12_18 a0 a1 u)
  else
  (if (fI u a0 8) = 7 then
  (jF12_18 a0 a1 u)
  else
  (jF12_23 a0 a1 0 u))
theorem jK12_23 {X : Nat × (Nat → Int32)} {r : Int32 × fm} (a0 : Nat) (a1 : Nat) (s0 : Int32) (u : fm) (h0 : fm_isA a0) (h1 : fm_isM a1) (b_s0 : s0 = 0 ∨ s0 = 1) (h : jF12_23 a0 a1 s0 u = r) : ev X 12 23 [some (.inr (.inl (some a0))), some (.inr (.inl (some a1))), none] [.inl s0] u ([.inl r.1], r.2) := by
  unfold jF12_23 at h
  refine ev_istore_n (pc := 23) (fe_12 rfl) mx_12 rfl ?_
  refine ev_iload_n (pc := 24) (fe_12 rfl) rfl ?_
  refine ev_if_eq (pc := 25) (fe_12 rfl) (t := 56) rfl h (fun h => ?_) (fun h => ?_)
  refine ev_iconst (pc := 56) (fe_12 rfl) li_0 ?_
  exact ev_R (ev_zrt (pc := 57) (fe_12 rfl) rt_12 (Or.inl rfl)) (by rw [← h])
  refine ev_aload_n (pc := 28) (fe_12 rfl) rfl ?_
  refine ev_getI (pc := 29) (fe_12 rfl) fr_31 h1.1 ?_
  refine ev_aload_n (pc := 32) (fe_12 rfl) rfl ?_
  refine ev_getR (a1 := a0 + 3) (pc := 33) (fe_12 rfl) fr_1 h0.1 rfl ?_
  refine ev_getI (pc := 36) (fe_12 rfl) fr_21 h0.2.2.2.1 ?_
  refine ev_ic_ne (pc := 39) (fe_12 rfl) (t := 56) rfl h (fun h => ?_) (fun h => ?_)
  refine ev_iconst (pc := 56) (fe_12 rfl) li_0 ?_
  exact ev_R (ev_zrt (pc := 57) (fe_12 rfl) rt_12 (Or.inl rfl)) (by rw [← h])
  refine ev_aload_n (pc := 42) (fe_12 rfl) rfl ?_
  refine ev_getI (pc := 43) (fe_12 rfl) fr_32 h1.1 ?_
  refine ev_aload_n (pc := 46) (fe_12 rfl) rfl ?_
  refine ev_getR (a1 := a0 + 3) (pc := 47) (fe_12 rfl) fr_1 h0.1 rfl ?_
  refine ev_getI (pc := 50) (fe_12 rfl) fr_33 h0.2.2.2.1 ?_
  refine ev_ic_eq (pc := 53) (fe_12 rfl) (t := 58) rfl h (fun h => ?_) (fun h => ?_)
  refine ev_aload_n (pc := 58) (fe_12 rfl) rfl ?_
  refine ev_aload_n (pc := 59) (fe_12 rfl) rfl ?_
  refine ev_getI (pc := 60) (fe_12 rfl) fr_8 h0.1 ?_
  refine ev_bipush (pc := 63) (fe_12 rfl) lb_6 ?_
  refine ev_ic_ne (pc := 65) (fe_12 rfl) (t := 72) rfl h (fun h => ?_) (fun h => ?_)
  refine ev_bipush (pc := 72) (fe_12 rfl) lb_9 ?_
  refine fm_lt_h h (fun p1 ep1 h => ?_)
  refine ev_callVk (pc := 74) (fe_12 rfl) (z := 22) (na := 2) (ow := 0) cg_12_17 rfl rfl rfl h0.1 (m := 0) rfl (jK22 h0 ep1) (st1 := []) rfl ?_
  refine ev_iconst (pc := 77) (fe_12 rfl) li_1 ?_
  exact ev_R (ev_zrt (pc := 78) (fe_12 rfl) rt_12 (Or.inr rfl)) (by rw [← h])
  refine ev_iconst (pc := 68) (fe_12 rfl) li_3 ?_
  refine ev_goto (pc := 69) (fe_12 rfl) (t := 74) rfl ?_
  refine fm_lt_h h (fun p2 ep2 h => ?_)
  refine ev_callVk (pc := 74) (fe_12 rfl) (z := 22) (na := 2) (ow := 0) cg_12_17 rfl rfl rfl h0.1 (m := 0) rfl (jK22 h0 ep2) (st1 := []) rfl ?_
  refine ev_iconst (pc := 77) (fe_12 rfl) li_1 ?_
  exact ev_R (ev_zrt (pc := 78) (fe_12 rfl) rt_12 (Or.inr rfl)) (by rw [← h])
  refine ev_iconst (pc := 56) (fe_12 rfl) li_0 ?_
  exact ev_R (ev_zrt (pc := 57) (fe_12 rfl) rt_12 (Or.inl rfl)) (by rw [← h])
theorem jK12_18 {X : Nat × (Nat → Int32)} {r : Int32 × fm} (a0 : Nat) (a1 : Nat) (u : fm) (h0 : fm_isA a0) (h1 : fm_isM a1) (h : jF12_18 a0 a1 u = r) : ev X 12 18 [some (.inr (.inl (some a0))), some (.inr (.inl (some a1))), none] [] u ([.inl r.1], r.2) := by
  unfold jF12_18 at h
  refine ev_iconst (pc := 18) (fe_12 rfl) li_1 ?_
  refine ev_goto (pc := 19) (fe_12 rfl) (t := 23) rfl ?_
  exact jK12_23 a0 a1 1 u h0 h1 (Or.inr rfl) h
theorem jK12 {X : Nat × (Nat → Int32)} {a0 : Nat} {a1 : Nat} {u : fm} {r : Int32 × fm} (h0 : fm_isA a0) (h1 : fm_isM a1) (h : jF12 a0 a1 u = r) : ev X 12 0 [some (.inr (.inl (some a0))), some (.inr (.inl (some a1))), none] [] u ([.inl r.1], r.2) := by
  unfold jF12 at h
  refine ev_aload_n (pc := 0) (fe_12 rfl) rfl ?_
  refine ev_getI (pc := 1) (fe_12 rfl) fr_8 h0.1 ?_
  refine ev_bipush (pc := 4) (fe_12 rfl) lb_6 ?_
  refine ev_ic_eq (pc := 6) (fe_12 rfl) (t := 18) rfl h (fun h => ?_) (fun h => ?_)
  exact jK12_18 a0 a1 u h0 h1 h
  refine ev_aload_n (pc := 9) (fe_12 rfl) rfl ?_
  refine ev_getI (pc := 10) (fe_12 rfl) fr_8 h0.1 ?_
  refine ev_bipush (pc := 13) (fe_12 rfl) lb_7 ?_
  refine ev_ic_ne (pc := 15) (fe_12 rfl) (t := 22) rfl h (fun h => ?_) (fun h => ?_)
  refine ev_iconst (pc := 22) (fe_12 rfl) li_0 ?_
  exact jK12_23 a0 a1 0 u h0 h1 (Or.inl rfl) h
  exact jK12_18 a0 a1 u h0 h1 h
/-- CallAgents$Dialog hasBoth -/
def jF28 (a0 : Nat) (a1 : Nat) (u : fm) : Int32 :=
  if (fI u a1 10) = (fI u a0 2) then
  (if (fI u a1 6) = (fI u a0 6) then
  (if (fm_b01 (fI u a1 8)) = 0 then
  (0)
  else
  (if (fI u a1 9) = (fI u a0 5) then
  (1)
  else
  (0)))
  else
  (0))
  else
  (0)
theorem jK28 {X : Nat × (Nat → Int32)} {a0 : Nat} {a1 : Nat} {u : fm} {r : Int32} (h0 : fm_isG a0) (h1 : fm_isM a1) (h : jF28 a0 a1 u = r) : ev X 28 0 [some (.inr (.inl (some a0))), some (.inr (.inl (some a1)))] [] u ([.inl r], u) := by
  unfold jF28 at h
  refine ev_aload_n (pc := 0) (fe_28 rfl) rfl ?_
  refine ev_getI (pc := 1) (fe_28 rfl) fr_39 h1.1 ?_
  refine ev_aload_n (pc := 4) (fe_28 rfl) rfl ?_
  refine ev_getI (pc := 5) (fe_28 rfl) fr_40 h0.1 ?_
  refine ev_ic_ne (pc := 8) (fe_28 rfl) (t := 44) rfl h (fun h => ?_) (fun h => ?_)
  refine ev_iconst (pc := 44) (fe_28 rfl) li_0 ?_
  exact ev_R (ev_zrt (pc := 45) (fe_28 rfl) rt_28 (Or.inl rfl)) (by rw [← h])
  refine ev_aload_n (pc := 11) (fe_28 rfl) rfl ?_
  refine ev_getI (pc := 12) (fe_28 rfl) fr_48 h1.1 ?_
  refine ev_aload_n (pc := 15) (fe_28 rfl) rfl ?_
  refine ev_getI (pc := 16) (fe_28 rfl) fr_46 h0.1 ?_
  refine ev_ic_ne (pc := 19) (fe_28 rfl) (t := 44) rfl h (fun h => ?_) (fun h => ?_)
  refine ev_iconst (pc := 44) (fe_28 rfl) li_0 ?_
  exact ev_R (ev_zrt (pc := 45) (fe_28 rfl) rt_28 (Or.inl rfl)) (by rw [← h])
  refine ev_aload_n (pc := 22) (fe_28 rfl) rfl ?_
  refine ev_getZ (pc := 23) (fe_28 rfl) fr_49 h1.1 ?_
  refine ev_if_eq (pc := 26) (fe_28 rfl) (t := 44) rfl h (fun h => ?_) (fun h => ?_)
  refine ev_iconst (pc := 44) (fe_28 rfl) li_0 ?_
  exact ev_R (ev_zrt (pc := 45) (fe_28 rfl) rt_28 (Or.inl rfl)) (by rw [← h])
  refine ev_aload_n (pc := 29) (fe_28 rfl) rfl ?_
  refine ev_getI (pc := 30) (fe_28 rfl) fr_50 h1.1 ?_
  refine ev_aload_n (pc := 33) (fe_28 rfl) rfl ?_
  refine ev_getI (pc := 34) (fe_28 rfl) fr_45 h0.1 ?_
  refine ev_ic_ne (pc := 37) (fe_28 rfl) (t := 44) rfl h (fun h => ?_) (fun h => ?_)
  refine ev_iconst (pc := 44) (fe_28 rfl) li_0 ?_
  exact ev_R (ev_zrt (pc := 45) (fe_28 rfl) rt_28 (Or.inl rfl)) (by rw [← h])
  refine ev_iconst (pc := 40) (fe_28 rfl) li_1 ?_
  refine ev_goto (pc := 41) (fe_28 rfl) (t := 45) rfl ?_
  exact ev_R (ev_zrt (pc := 45) (fe_28 rfl) rt_28 (Or.inr rfl)) (by rw [← h])
/-- CallAgents$Agent takeBye -/
def jF13_31 (a0 : Nat) (a1 : Nat) (s0 : Int32) (u : fm) : Option (Int32 × fm) :=
  if s0 = 0 then
  (Option.bind (jF48 (a0 + 12) a1 6 u) (fun p1 => Option.bind (jF21 a0 (a0 + 12) p1) (fun p2 => some (1, p2))))
  else
  (if (jF28 (a0 + 3) a1 u) = 0 then
  (Option.bind (jF48 (a0 + 12) a1 6 u) (fun p4 => Option.bind (jF21 a0 (a0 + 12) p4) (fun p5 => some (1, p5))))
  else
  (Option.bind (jF48 (a0 + 12) a1 4 u) (fun p6 => fm_let (jF22 a0 9 p6) (fun p7 => Option.bind (jF21 a0 (a0 + 12) p7) (fun p8 => some (1, p8))))))
def jF13_26 (a0 : Nat) (a1 : Nat) (u : fm) : Option (Int32 × fm) :=
  jF13_31 a0 a1 1 u
def jF13 (a0 : Nat) (a1 : Nat) (u : fm) : Option (Int32 × fm) :=
  if (fI u a0 8) = 3 then
  (jF13_26 a0 a1 u)
  else
  (if (fI u a0 8) = 6 then
  (jF13_26 a0 a1 u)
  else
  (if (fI u a0 8) = 8 then
  (jF13_26 a0 a1 u)
  else
  (jF13_31 a0 a1 0 u)))
theorem jK13_31 {X : Nat × (Nat → Int32)} {r : Int32 × fm} (a0 : Nat) (a1 : Nat) (s0 : Int32) (u : fm) (h0 : fm_isA a0) (h1 : fm_isM a1) (b_s0 : s0 = 0 ∨ s0 = 1) (h : jF13_31 a0 a1 s0 u = some r) : ev X 13 31 [some (.inr (.inl (some a0))), some (.inr (.inl (some a1))), none] [.inl s0] u ([.inl r.1], r.2) := by
  unfold jF13_31 at h
  refine ev_istore_n (pc := 31) (fe_13 rfl) mx_13 rfl ?_
  refine ev_iload_n (pc := 32) (fe_13 rfl) rfl ?_
  refine ev_if_eq (pc := 33) (fe_13 rfl) (t := 65) rfl h (fun h => ?_) (fun h => ?_)
  refine ev_aload_n (pc := 65) (fe_13 rfl) rfl ?_
  refine ev_getR (a1 := a0 + 12) (pc := 66) (fe_13 rfl) fr_4 h0.1 rfl ?_
  refine ev_aload_n (pc := 69) (fe_13 rfl) rfl ?_
  refine ev_bipush (pc := 70) (fe_13 rfl) lb_6 ?_
  refine fm_bd h (fun p1 ep1 h => ?_)
  refine ev_callVk (pc := 72) (fe_13 rfl) (z := 48) (na := 3) (ow := 4) cg_13_28 rfl rfl rfl h0.2.2.2.2.2.2.2.2.2.2.2.2.1 (m := 0) rfl (jK48 ⟨h0.2.2.2.2.2.2.2.2.2.2.2.2.1, h0.2.2.2.2.2.2.2.2.2.2.2.2.2.1, h0.2.2.2.2.2.2.2.2.2.2.2.2.2.2⟩ h1 ep1) (st1 := []) rfl ?_
  refine ev_aload_n (pc := 75) (fe_13 rfl) rfl ?_
  refine ev_aload_n (pc := 76) (fe_13 rfl) rfl ?_
  refine ev_getR (a1 := a0 + 12) (pc := 77) (fe_13 rfl) fr_4 h0.1 rfl ?_
  refine fm_bd h (fun p2 ep2 h => ?_)
  refine ev_callVk (pc := 80) (fe_13 rfl) (z := 21) (na := 2) (ow := 0) cg_13_10 rfl rfl rfl h0.1 (m := 0) rfl (jK21 h0 ⟨h0.2.2.2.2.2.2.2.2.2.2.2.2.1, h0.2.2.2.2.2.2.2.2.2.2.2.2.2.1, h0.2.2.2.2.2.2.2.2.2.2.2.2.2.2⟩ ep2) (st1 := []) rfl ?_
  refine ev_iconst (pc := 83) (fe_13 rfl) li_1 ?_
  exact ev_R (ev_zrt (pc := 84) (fe_13 rfl) rt_13 (Or.inr rfl)) (by rw [← Option.some.inj h])
  refine ev_aload_n (pc := 36) (fe_13 rfl) rfl ?_
  refine ev_getR (a1 := a0 + 3) (pc := 37) (fe_13 rfl) fr_1 h0.1 rfl ?_
  refine ev_aload_n (pc := 40) (fe_13 rfl) rfl ?_
  refine ev_callVZk (pc := 41) (fe_13 rfl) (z := 28) (na := 2) (ow := 1) cg_13_29 rfl rt_28 rfl rfl h0.2.2.2.1 (m := 0) rfl (jK28 ⟨h0.2.2.2.1, h0.2.2.2.2.1, h0.2.2.2.2.2.1, h0.2.2.2.2.2.2.1, h0.2.2.2.2.2.2.2.1⟩ h1 rfl) (st1 := [.inl (jF28 (a0 + 3) a1 u)]) rfl (fun z3 => ?_)
  refine ev_if_eq (pc := 44) (fe_13 rfl) (t := 65) rfl h (fun h => ?_) (fun h => ?_)
  refine ev_aload_n (pc := 65) (fe_13 rfl) rfl ?_
  refine ev_getR (a1 := a0 + 12) (pc := 66) (fe_13 rfl) fr_4 h0.1 rfl ?_
  refine ev_aload_n (pc := 69) (fe_13 rfl) rfl ?_
  refine ev_bipush (pc := 70) (fe_13 rfl) lb_6 ?_
  refine fm_bd h (fun p4 ep4 h => ?_)
  refine ev_callVk (pc := 72) (fe_13 rfl) (z := 48) (na := 3) (ow := 4) cg_13_28 rfl rfl rfl h0.2.2.2.2.2.2.2.2.2.2.2.2.1 (m := 0) rfl (jK48 ⟨h0.2.2.2.2.2.2.2.2.2.2.2.2.1, h0.2.2.2.2.2.2.2.2.2.2.2.2.2.1, h0.2.2.2.2.2.2.2.2.2.2.2.2.2.2⟩ h1 ep4) (st1 := []) rfl ?_
  refine ev_aload_n (pc := 75) (fe_13 rfl) rfl ?_
  refine ev_aload_n (pc := 76) (fe_13 rfl) rfl ?_
  refine ev_getR (a1 := a0 + 12) (pc := 77) (fe_13 rfl) fr_4 h0.1 rfl ?_
  refine fm_bd h (fun p5 ep5 h => ?_)
  refine ev_callVk (pc := 80) (fe_13 rfl) (z := 21) (na := 2) (ow := 0) cg_13_10 rfl rfl rfl h0.1 (m := 0) rfl (jK21 h0 ⟨h0.2.2.2.2.2.2.2.2.2.2.2.2.1, h0.2.2.2.2.2.2.2.2.2.2.2.2.2.1, h0.2.2.2.2.2.2.2.2.2.2.2.2.2.2⟩ ep5) (st1 := []) rfl ?_
  refine ev_iconst (pc := 83) (fe_13 rfl) li_1 ?_
  exact ev_R (ev_zrt (pc := 84) (fe_13 rfl) rt_13 (Or.inr rfl)) (by rw [← Option.some.inj h])
  refine ev_aload_n (pc := 47) (fe_13 rfl) rfl ?_
  refine ev_getR (a1 := a0 + 12) (pc := 48) (fe_13 rfl) fr_4 h0.1 rfl ?_
  refine ev_aload_n (pc := 51) (fe_13 rfl) rfl ?_
  refine ev_iconst (pc := 52) (fe_13 rfl) li_4 ?_
  refine fm_bd h (fun p6 ep6 h => ?_)
  refine ev_callVk (pc := 53) (fe_13 rfl) (z := 48) (na := 3) (ow := 4) cg_13_28 rfl rfl rfl h0.2.2.2.2.2.2.2.2.2.2.2.2.1 (m := 0) rfl (jK48 ⟨h0.2.2.2.2.2.2.2.2.2.2.2.2.1, h0.2.2.2.2.2.2.2.2.2.2.2.2.2.1, h0.2.2.2.2.2.2.2.2.2.2.2.2.2.2⟩ h1 ep6) (st1 := []) rfl ?_
  refine ev_aload_n (pc := 56) (fe_13 rfl) rfl ?_
  refine ev_bipush (pc := 57) (fe_13 rfl) lb_9 ?_
  refine fm_lt_h h (fun p7 ep7 h => ?_)
  refine ev_callVk (pc := 59) (fe_13 rfl) (z := 22) (na := 2) (ow := 0) cg_13_17 rfl rfl rfl h0.1 (m := 0) rfl (jK22 h0 ep7) (st1 := []) rfl ?_
  refine ev_goto (pc := 62) (fe_13 rfl) (t := 75) rfl ?_
  refine ev_aload_n (pc := 75) (fe_13 rfl) rfl ?_
  refine ev_aload_n (pc := 76) (fe_13 rfl) rfl ?_
  refine ev_getR (a1 := a0 + 12) (pc := 77) (fe_13 rfl) fr_4 h0.1 rfl ?_
  refine fm_bd h (fun p8 ep8 h => ?_)
  refine ev_callVk (pc := 80) (fe_13 rfl) (z := 21) (na := 2) (ow := 0) cg_13_10 rfl rfl rfl h0.1 (m := 0) rfl (jK21 h0 ⟨h0.2.2.2.2.2.2.2.2.2.2.2.2.1, h0.2.2.2.2.2.2.2.2.2.2.2.2.2.1, h0.2.2.2.2.2.2.2.2.2.2.2.2.2.2⟩ ep8) (st1 := []) rfl ?_
  refine ev_iconst (pc := 83) (fe_13 rfl) li_1 ?_
  exact ev_R (ev_zrt (pc := 84) (fe_13 rfl) rt_13 (Or.inr rfl)) (by rw [← Option.some.inj h])
theorem jK13_26 {X : Nat × (Nat → Int32)} {r : Int32 × fm} (a0 : Nat) (a1 : Nat) (u : fm) (h0 : fm_isA a0) (h1 : fm_isM a1) (h : jF13_26 a0 a1 u = some r) : ev X 13 26 [some (.inr (.inl (some a0))), some (.inr (.inl (some a1))), none] [] u ([.inl r.1], r.2) := by
  unfold jF13_26 at h
  refine ev_iconst (pc := 26) (fe_13 rfl) li_1 ?_
  refine ev_goto (pc := 27) (fe_13 rfl) (t := 31) rfl ?_
  exact jK13_31 a0 a1 1 u h0 h1 (Or.inr rfl) h
theorem jK13 {X : Nat × (Nat → Int32)} {a0 : Nat} {a1 : Nat} {u : fm} {r : Int32 × fm} (h0 : fm_isA a0) (h1 : fm_isM a1) (h : jF13 a0 a1 u = some r) : ev X 13 0 [some (.inr (.inl (some a0))), some (.inr (.inl (some a1))), none] [] u ([.inl r.1], r.2) := by
  unfold jF13 at h
  refine ev_aload_n (pc := 0) (fe_13 rfl) rfl ?_
  refine ev_getI (pc := 1) (fe_13 rfl) fr_8 h0.1 ?_
  refine ev_iconst (pc := 4) (fe_13 rfl) li_3 ?_
  refine ev_ic_eq (pc := 5) (fe_13 rfl) (t := 26) rfl h (fun h => ?_) (fun h => ?_)
  exact jK13_26 a0 a1 u h0 h1 h
  refine ev_aload_n (pc := 8) (fe_13 rfl) rfl ?_
  refine ev_getI (pc := 9) (fe_13 rfl) fr_8 h0.1 ?_
  refine ev_bipush (pc := 12) (fe_13 rfl) lb_6 ?_
  refine ev_ic_eq (pc := 14) (fe_13 rfl) (t := 26) rfl h (fun h => ?_) (fun h => ?_)
  exact jK13_26 a0 a1 u h0 h1 h
  refine ev_aload_n (pc := 17) (fe_13 rfl) rfl ?_
  refine ev_getI (pc := 18) (fe_13 rfl) fr_8 h0.1 ?_
  refine ev_bipush (pc := 21) (fe_13 rfl) lb_8 ?_
  refine ev_ic_ne (pc := 23) (fe_13 rfl) (t := 30) rfl h (fun h => ?_) (fun h => ?_)
  refine ev_iconst (pc := 30) (fe_13 rfl) li_0 ?_
  exact jK13_31 a0 a1 0 u h0 h1 (Or.inl rfl) h
  exact jK13_26 a0 a1 u h0 h1 h
/-- CallAgents$Dialog isAnsweredBy -/
def jF27 (a0 : Nat) (a1 : Nat) (u : fm) : Int32 :=
  if (fI u a1 10) = (fI u a0 2) then
  (if (fI u a1 11) = (fI u a0 4) then
  (if (fI u a1 6) = (fI u a0 5) then
  (1)
  else
  (0))
  else
  (0))
  else
  (0)
theorem jK27 {X : Nat × (Nat → Int32)} {a0 : Nat} {a1 : Nat} {u : fm} {r : Int32} (h0 : fm_isG a0) (h1 : fm_isM a1) (h : jF27 a0 a1 u = r) : ev X 27 0 [some (.inr (.inl (some a0))), some (.inr (.inl (some a1)))] [] u ([.inl r], u) := by
  unfold jF27 at h
  refine ev_aload_n (pc := 0) (fe_27 rfl) rfl ?_
  refine ev_getI (pc := 1) (fe_27 rfl) fr_39 h1.1 ?_
  refine ev_aload_n (pc := 4) (fe_27 rfl) rfl ?_
  refine ev_getI (pc := 5) (fe_27 rfl) fr_40 h0.1 ?_
  refine ev_ic_ne (pc := 8) (fe_27 rfl) (t := 37) rfl h (fun h => ?_) (fun h => ?_)
  refine ev_iconst (pc := 37) (fe_27 rfl) li_0 ?_
  exact ev_R (ev_zrt (pc := 38) (fe_27 rfl) rt_27 (Or.inl rfl)) (by rw [← h])
  refine ev_aload_n (pc := 11) (fe_27 rfl) rfl ?_
  refine ev_getI (pc := 12) (fe_27 rfl) fr_43 h1.1 ?_
  refine ev_aload_n (pc := 15) (fe_27 rfl) rfl ?_
  refine ev_getI (pc := 16) (fe_27 rfl) fr_44 h0.1 ?_
  refine ev_ic_ne (pc := 19) (fe_27 rfl) (t := 37) rfl h (fun h => ?_) (fun h => ?_)
  refine ev_iconst (pc := 37) (fe_27 rfl) li_0 ?_
  exact ev_R (ev_zrt (pc := 38) (fe_27 rfl) rt_27 (Or.inl rfl)) (by rw [← h])
  refine ev_aload_n (pc := 22) (fe_27 rfl) rfl ?_
  refine ev_getI (pc := 23) (fe_27 rfl) fr_48 h1.1 ?_
  refine ev_aload_n (pc := 26) (fe_27 rfl) rfl ?_
  refine ev_getI (pc := 27) (fe_27 rfl) fr_45 h0.1 ?_
  refine ev_ic_ne (pc := 30) (fe_27 rfl) (t := 37) rfl h (fun h => ?_) (fun h => ?_)
  refine ev_iconst (pc := 37) (fe_27 rfl) li_0 ?_
  exact ev_R (ev_zrt (pc := 38) (fe_27 rfl) rt_27 (Or.inl rfl)) (by rw [← h])
  refine ev_iconst (pc := 33) (fe_27 rfl) li_1 ?_
  refine ev_goto (pc := 34) (fe_27 rfl) (t := 38) rfl ?_
  exact ev_R (ev_zrt (pc := 38) (fe_27 rfl) rt_27 (Or.inr rfl)) (by rw [← h])
/-- CallAgents$Agent takeRinging -/
def jF14 (a0 : Nat) (a1 : Nat) (u : fm) : Int32 × fm :=
  if (fI u a0 8) = 1 then
  (if (fI u a1 4) = (fI u (a0 + 3) 3) then
  (if (jF27 (a0 + 3) a1 u) = 0 then
  ((0, u))
  else
  (fm_let (jF22 a0 2 u) (fun p2 => (1, p2))))
  else
  ((0, u)))
  else
  ((0, u))
theorem jK14 {X : Nat × (Nat → Int32)} {a0 : Nat} {a1 : Nat} {u : fm} {r : Int32 × fm} (h0 : fm_isA a0) (h1 : fm_isM a1) (h : jF14 a0 a1 u = r) : ev X 14 0 [some (.inr (.inl (some a0))), some (.inr (.inl (some a1)))] [] u ([.inl r.1], r.2) := by
  unfold jF14 at h
  refine ev_aload_n (pc := 0) (fe_14 rfl) rfl ?_
  refine ev_getI (pc := 1) (fe_14 rfl) fr_8 h0.1 ?_
  refine ev_iconst (pc := 4) (fe_14 rfl) li_1 ?_
  refine ev_ic_ne (pc := 5) (fe_14 rfl) (t := 33) rfl h (fun h => ?_) (fun h => ?_)
  refine ev_iconst (pc := 33) (fe_14 rfl) li_0 ?_
  exact ev_R (ev_zrt (pc := 34) (fe_14 rfl) rt_14 (Or.inl rfl)) (by rw [← h])
  refine ev_aload_n (pc := 8) (fe_14 rfl) rfl ?_
  refine ev_getI (pc := 9) (fe_14 rfl) fr_34 h1.1 ?_
  refine ev_aload_n (pc := 12) (fe_14 rfl) rfl ?_
  refine ev_getR (a1 := a0 + 3) (pc := 13) (fe_14 rfl) fr_1 h0.1 rfl ?_
  refine ev_getI (pc := 16) (fe_14 rfl) fr_35 h0.2.2.2.1 ?_
  refine ev_ic_ne (pc := 19) (fe_14 rfl) (t := 33) rfl h (fun h => ?_) (fun h => ?_)
  refine ev_iconst (pc := 33) (fe_14 rfl) li_0 ?_
  exact ev_R (ev_zrt (pc := 34) (fe_14 rfl) rt_14 (Or.inl rfl)) (by rw [← h])
  refine ev_aload_n (pc := 22) (fe_14 rfl) rfl ?_
  refine ev_getR (a1 := a0 + 3) (pc := 23) (fe_14 rfl) fr_1 h0.1 rfl ?_
  refine ev_aload_n (pc := 26) (fe_14 rfl) rfl ?_
  refine ev_callVZk (pc := 27) (fe_14 rfl) (z := 27) (na := 2) (ow := 1) cg_14_30 rfl rt_27 rfl rfl h0.2.2.2.1 (m := 0) rfl (jK27 ⟨h0.2.2.2.1, h0.2.2.2.2.1, h0.2.2.2.2.2.1, h0.2.2.2.2.2.2.1, h0.2.2.2.2.2.2.2.1⟩ h1 rfl) (st1 := [.inl (jF27 (a0 + 3) a1 u)]) rfl (fun z1 => ?_)
  refine ev_if_ne (pc := 30) (fe_14 rfl) (t := 35) rfl h (fun h => ?_) (fun h => ?_)
  refine ev_aload_n (pc := 35) (fe_14 rfl) rfl ?_
  refine ev_iconst (pc := 36) (fe_14 rfl) li_2 ?_
  refine fm_lt_h h (fun p2 ep2 h => ?_)
  refine ev_callVk (pc := 37) (fe_14 rfl) (z := 22) (na := 2) (ow := 0) cg_14_17 rfl rfl rfl h0.1 (m := 0) rfl (jK22 h0 ep2) (st1 := []) rfl ?_
  refine ev_iconst (pc := 40) (fe_14 rfl) li_1 ?_
  exact ev_R (ev_zrt (pc := 41) (fe_14 rfl) rt_14 (Or.inr rfl)) (by rw [← h])
  refine ev_iconst (pc := 33) (fe_14 rfl) li_0 ?_
  exact ev_R (ev_zrt (pc := 34) (fe_14 rfl) rt_14 (Or.inl rfl)) (by rw [← h])
/-- CallAgents$Agent keepAck -/
def jF18 (a0 : Nat) (a1 : Nat) (u : fm) : Option (fm) :=
  fm_let (jF19 a0 1 (fI u (a0 + 3) 2) (fI u (a0 + 3) 5) u) (fun p1 => fm_let (sI p1 (a0 + 12) 8 (fm_b01 (fI p1 a1 8))) (fun u2 => fm_let (sI u2 (a0 + 12) 9 (fI u2 a1 9)) (fun u3 => fm_let (sI u3 a0 13 1) (fun u4 => Option.bind (jF20 a0 u4) (fun p5 => some p5)))))
theorem jK18 {X : Nat × (Nat → Int32)} {a0 : Nat} {a1 : Nat} {u : fm} {r : fm} (h0 : fm_isA a0) (h1 : fm_isM a1) (h : jF18 a0 a1 u = some r) : ev X 18 0 [some (.inr (.inl (some a0))), some (.inr (.inl (some a1)))] [] u ([], r) := by
  unfold jF18 at h
  refine ev_aload_n (pc := 0) (fe_18 rfl) rfl ?_
  refine ev_iconst (pc := 1) (fe_18 rfl) li_1 ?_
  refine ev_aload_n (pc := 2) (fe_18 rfl) rfl ?_
  refine ev_getR (a1 := a0 + 3) (pc := 3) (fe_18 rfl) fr_1 h0.1 rfl ?_
  refine ev_getI (pc := 6) (fe_18 rfl) fr_21 h0.2.2.2.1 ?_
  refine ev_aload_n (pc := 9) (fe_18 rfl) rfl ?_
  refine ev_getR (a1 := a0 + 3) (pc := 10) (fe_18 rfl) fr_1 h0.1 rfl ?_
  refine ev_getI (pc := 13) (fe_18 rfl) fr_22 h0.2.2.2.1 ?_
  refine fm_lt_h h (fun p1 ep1 h => ?_)
  refine ev_callVk (pc := 16) (fe_18 rfl) (z := 19) (na := 4) (ow := 0) cg_18_6 rfl rfl rfl h0.1 (m := 0) rfl (jK19 h0 ep1) (st1 := []) rfl ?_
  refine ev_aload_n (pc := 19) (fe_18 rfl) rfl ?_
  refine ev_getR (a1 := a0 + 12) (pc := 20) (fe_18 rfl) fr_4 h0.1 rfl ?_
  refine ev_aload_n (pc := 23) (fe_18 rfl) rfl ?_
  refine ev_getZ (pc := 24) (fe_18 rfl) fr_14 h1.1 ?_
  refine fm_lt_h h (fun u2 eu2 h => ?_)
  refine ev_putZ (pc := 27) (fe_18 rfl) fr_14 h0.2.2.2.2.2.2.2.2.2.2.2.2.1 (fm_b01_01 _) eu2 ?_
  refine ev_aload_n (pc := 30) (fe_18 rfl) rfl ?_
  refine ev_getR (a1 := a0 + 12) (pc := 31) (fe_18 rfl) fr_4 h0.1 rfl ?_
  refine ev_aload_n (pc := 34) (fe_18 rfl) rfl ?_
  refine ev_getI (pc := 35) (fe_18 rfl) fr_15 h1.1 ?_
  refine fm_lt_h h (fun u3 eu3 h => ?_)
  refine ev_putI (pc := 38) (fe_18 rfl) fr_15 h0.2.2.2.2.2.2.2.2.2.2.2.2.1 eu3 ?_
  refine ev_aload_n (pc := 41) (fe_18 rfl) rfl ?_
  refine ev_iconst (pc := 42) (fe_18 rfl) li_1 ?_
  refine fm_lt_h h (fun u4 eu4 h => ?_)
  refine ev_putZ (pc := 43) (fe_18 rfl) fr_17 h0.1 (Or.inr rfl) eu4 ?_
  refine ev_aload_n (pc := 46) (fe_18 rfl) rfl ?_
  refine fm_bd h (fun p5 ep5 h => ?_)
  refine ev_callVk (pc := 47) (fe_18 rfl) (z := 20) (na := 1) (ow := 0) cg_18_9 rfl rfl rfl h0.1 (m := 0) rfl (jK20 h0 ep5) (st1 := []) rfl ?_
  exact ev_R (ev_vrt (pc := 50) (fe_18 rfl) rt_18) (by rw [← Option.some.inj h])
/-- CallAgents$Agent takeOk -/
def jF15_43 (a0 : Nat) (a1 : Nat) (u : fm) : Option (Int32 × fm) :=
  fm_let (sI u (a0 + 3) 6 (fI u a1 9)) (fun u2 => Option.bind (jF39 (a0 + 6) (a1 + 1) u2) (fun p3 => fm_let (sI p3 a0 10 ((fI p3 a0 10) + 1)) (fun u4 => Option.bind (jF18 a0 a1 u4) (fun p5 => Option.bind (jF21 a0 (a0 + 9) p5) (fun p6 => fm_let (jF22 a0 3 p6) (fun p7 => some (1, p7)))))))
def jF15 (a0 : Nat) (a1 : Nat) (u : fm) : Option (Int32 × fm) :=
  if (fI u a1 12) = 0 then
  (if (jF27 (a0 + 3) a1 u) = 0 then
  (some (0, u))
  else
  (if (fm_b01 (fI u a1 8)) = 0 then
  (some (0, u))
  else
  (if (fI u a0 8) = 1 then
  (jF15_43 a0 a1 u)
  else
  (if (fI u a0 8) = 2 then
  (jF15_43 a0 a1 u)
  else
  (if (fI u a0 8) = 3 then
  (if (fm_b01 (fI u a0 13)) = 0 then
  (some (0, u))
  else
  (if (fI u a1 9) = (fI u (a0 + 3) 6) then
  (Option.bind (jF21 a0 (a0 + 9) u) (fun p8 => some (1, p8)))
  else
  (some (0, u))))
  else
  (some (0, u)))))))
  else
  (some (0, u))
theorem jK15_43 {X : Nat × (Nat → Int32)} {r : Int32 × fm} (a0 : Nat) (a1 : Nat) (u : fm) (h0 : fm_isA a0) (h1 : fm_isM a1) (h : jF15_43 a0 a1 u = some r) : ev X 15 43 [some (.inr (.inl (some a0))), some (.inr (.inl (some a1)))] [] u ([.inl r.1], r.2) := by
  unfold jF15_43 at h
  refine ev_aload_n (pc := 43) (fe_15 rfl) rfl ?_
  refine ev_getR (a1 := a0 + 3) (pc := 44) (fe_15 rfl) fr_1 h0.1 rfl ?_
  refine ev_aload_n (pc := 47) (fe_15 rfl) rfl ?_
  refine ev_getI (pc := 48) (fe_15 rfl) fr_15 h1.1 ?_
  refine fm_lt_h h (fun u2 eu2 h => ?_)
  refine ev_putI (pc := 51) (fe_15 rfl) fr_23 h0.2.2.2.1 eu2 ?_
  refine ev_aload_n (pc := 54) (fe_15 rfl) rfl ?_
  refine ev_getR (a1 := a0 + 3) (pc := 55) (fe_15 rfl) fr_1 h0.1 rfl ?_
  refine ev_getR (a1 := a0 + 6) (pc := 58) (fe_15 rfl) fr_18 h0.2.2.2.1 rfl ?_
  refine ev_aload_n (pc := 61) (fe_15 rfl) rfl ?_
  refine ev_getR (a1 := a1 + 1) (pc := 62) (fe_15 rfl) fr_16 h1.1 rfl ?_
  refine fm_bd h (fun p3 ep3 h => ?_)
  refine ev_callVk (pc := 65) (fe_15 rfl) (z := 39) (na := 2) (ow := 3) cg_15_7 rfl rfl rfl h0.2.2.2.2.2.2.1 (m := 1) rfl (jK39 ⟨h0.2.2.2.2.2.2.1, h0.2.2.2.2.2.2.2.1⟩ ⟨h1.2.1, h1.2.2⟩ ep3) (st1 := []) rfl ?_
  refine ev_aload_n (pc := 68) (fe_15 rfl) rfl ?_
  refine ev_dup (pc := 69) (fe_15 rfl) rfl ?_
  refine ev_getI (pc := 70) (fe_15 rfl) fr_11 h0.1 ?_
  refine ev_iconst (pc := 73) (fe_15 rfl) li_1 ?_
  refine ev_iadd (pc := 74) (fe_15 rfl) ?_
  refine fm_lt_h h (fun u4 eu4 h => ?_)
  refine ev_putI (pc := 75) (fe_15 rfl) fr_11 h0.1 eu4 ?_
  refine ev_aload_n (pc := 78) (fe_15 rfl) rfl ?_
  refine ev_aload_n (pc := 79) (fe_15 rfl) rfl ?_
  refine fm_bd h (fun p5 ep5 h => ?_)
  refine ev_callVk (pc := 80) (fe_15 rfl) (z := 18) (na := 2) (ow := 0) cg_15_31 rfl rfl rfl h0.1 (m := 0) rfl (jK18 h0 h1 ep5) (st1 := []) rfl ?_
  refine ev_aload_n (pc := 83) (fe_15 rfl) rfl ?_
  refine ev_aload_n (pc := 84) (fe_15 rfl) rfl ?_
  refine ev_getR (a1 := a0 + 9) (pc := 85) (fe_15 rfl) fr_3 h0.1 rfl ?_
  refine fm_bd h (fun p6 ep6 h => ?_)
  refine ev_callVk (pc := 88) (fe_15 rfl) (z := 21) (na := 2) (ow := 0) cg_15_10 rfl rfl rfl h0.1 (m := 0) rfl (jK21 h0 ⟨h0.2.2.2.2.2.2.2.2.2.1, h0.2.2.2.2.2.2.2.2.2.2.1, h0.2.2.2.2.2.2.2.2.2.2.2.1⟩ ep6) (st1 := []) rfl ?_
  refine ev_aload_n (pc := 91) (fe_15 rfl) rfl ?_
  refine ev_iconst (pc := 92) (fe_15 rfl) li_3 ?_
  refine fm_lt_h h (fun p7 ep7 h => ?_)
  refine ev_callVk (pc := 93) (fe_15 rfl) (z := 22) (na := 2) (ow := 0) cg_15_17 rfl rfl rfl h0.1 (m := 0) rfl (jK22 h0 ep7) (st1 := []) rfl ?_
  refine ev_iconst (pc := 96) (fe_15 rfl) li_1 ?_
  exact ev_R (ev_zrt (pc := 97) (fe_15 rfl) rt_15 (Or.inr rfl)) (by rw [← Option.some.inj h])
theorem jK15 {X : Nat × (Nat → Int32)} {a0 : Nat} {a1 : Nat} {u : fm} {r : Int32 × fm} (h0 : fm_isA a0) (h1 : fm_isM a1) (h : jF15 a0 a1 u = some r) : ev X 15 0 [some (.inr (.inl (some a0))), some (.inr (.inl (some a1)))] [] u ([.inl r.1], r.2) := by
  unfold jF15 at h
  refine ev_aload_n (pc := 0) (fe_15 rfl) rfl ?_
  refine ev_getI (pc := 1) (fe_15 rfl) fr_36 h1.1 ?_
  refine ev_if_ne (pc := 4) (fe_15 rfl) (t := 25) rfl h (fun h => ?_) (fun h => ?_)
  refine ev_iconst (pc := 25) (fe_15 rfl) li_0 ?_
  exact ev_R (ev_zrt (pc := 26) (fe_15 rfl) rt_15 (Or.inl rfl)) (by rw [← Option.some.inj h])
  refine ev_aload_n (pc := 7) (fe_15 rfl) rfl ?_
  refine ev_getR (a1 := a0 + 3) (pc := 8) (fe_15 rfl) fr_1 h0.1 rfl ?_
  refine ev_aload_n (pc := 11) (fe_15 rfl) rfl ?_
  refine ev_callVZk (pc := 12) (fe_15 rfl) (z := 27) (na := 2) (ow := 1) cg_15_30 rfl rt_27 rfl rfl h0.2.2.2.1 (m := 0) rfl (jK27 ⟨h0.2.2.2.1, h0.2.2.2.2.1, h0.2.2.2.2.2.1, h0.2.2.2.2.2.2.1, h0.2.2.2.2.2.2.2.1⟩ h1 rfl) (st1 := [.inl (jF27 (a0 + 3) a1 u)]) rfl (fun z1 => ?_)
  refine ev_if_eq (pc := 15) (fe_15 rfl) (t := 25) rfl h (fun h => ?_) (fun h => ?_)
  refine ev_iconst (pc := 25) (fe_15 rfl) li_0 ?_
  exact ev_R (ev_zrt (pc := 26) (fe_15 rfl) rt_15 (Or.inl rfl)) (by rw [← Option.some.inj h])
  refine ev_aload_n (pc := 18) (fe_15 rfl) rfl ?_
  refine ev_getZ (pc := 19) (fe_15 rfl) fr_14 h1.1 ?_
  refine ev_if_ne (pc := 22) (fe_15 rfl) (t := 27) rfl h (fun h => ?_) (fun h => ?_)
  refine ev_aload_n (pc := 27) (fe_15 rfl) rfl ?_
  refine ev_getI (pc := 28) (fe_15 rfl) fr_8 h0.1 ?_
  refine ev_iconst (pc := 31) (fe_15 rfl) li_1 ?_
  refine ev_ic_eq (pc := 32) (fe_15 rfl) (t := 43) rfl h (fun h => ?_) (fun h => ?_)
  exact jK15_43 a0 a1 u h0 h1 h
  refine ev_aload_n (pc := 35) (fe_15 rfl) rfl ?_
  refine ev_getI (pc := 36) (fe_15 rfl) fr_8 h0.1 ?_
  refine ev_iconst (pc := 39) (fe_15 rfl) li_2 ?_
  refine ev_ic_ne (pc := 40) (fe_15 rfl) (t := 98) rfl h (fun h => ?_) (fun h => ?_)
  refine ev_aload_n (pc := 98) (fe_15 rfl) rfl ?_
  refine ev_getI (pc := 99) (fe_15 rfl) fr_8 h0.1 ?_
  refine ev_iconst (pc := 102) (fe_15 rfl) li_3 ?_
  refine ev_ic_ne (pc := 103) (fe_15 rfl) (t := 127) rfl h (fun h => ?_) (fun h => ?_)
  refine ev_iconst (pc := 127) (fe_15 rfl) li_0 ?_
  exact ev_R (ev_zrt (pc := 128) (fe_15 rfl) rt_15 (Or.inl rfl)) (by rw [← Option.some.inj h])
  refine ev_aload_n (pc := 106) (fe_15 rfl) rfl ?_
  refine ev_getZ (pc := 107) (fe_15 rfl) fr_17 h0.1 ?_
  refine ev_if_eq (pc := 110) (fe_15 rfl) (t := 127) rfl h (fun h => ?_) (fun h => ?_)
  refine ev_iconst (pc := 127) (fe_15 rfl) li_0 ?_
  exact ev_R (ev_zrt (pc := 128) (fe_15 rfl) rt_15 (Or.inl rfl)) (by rw [← Option.some.inj h])
  refine ev_aload_n (pc := 113) (fe_15 rfl) rfl ?_
  refine ev_getI (pc := 114) (fe_15 rfl) fr_15 h1.1 ?_
  refine ev_aload_n (pc := 117) (fe_15 rfl) rfl ?_
  refine ev_getR (a1 := a0 + 3) (pc := 118) (fe_15 rfl) fr_1 h0.1 rfl ?_
  refine ev_getI (pc := 121) (fe_15 rfl) fr_23 h0.2.2.2.1 ?_
  refine ev_ic_eq (pc := 124) (fe_15 rfl) (t := 129) rfl h (fun h => ?_) (fun h => ?_)
  refine ev_aload_n (pc := 129) (fe_15 rfl) rfl ?_
  refine ev_aload_n (pc := 130) (fe_15 rfl) rfl ?_
  refine ev_getR (a1 := a0 + 9) (pc := 131) (fe_15 rfl) fr_3 h0.1 rfl ?_
  refine fm_bd h (fun p8 ep8 h => ?_)
  refine ev_callVk (pc := 134) (fe_15 rfl) (z := 21) (na := 2) (ow := 0) cg_15_10 rfl rfl rfl h0.1 (m := 0) rfl (jK21 h0 ⟨h0.2.2.2.2.2.2.2.2.2.1, h0.2.2.2.2.2.2.2.2.2.2.1, h0.2.2.2.2.2.2.2.2.2.2.2.1⟩ ep8) (st1 := []) rfl ?_
  refine ev_iconst (pc := 137) (fe_15 rfl) li_1 ?_
  exact ev_R (ev_zrt (pc := 138) (fe_15 rfl) rt_15 (Or.inr rfl)) (by rw [← Option.some.inj h])
  refine ev_iconst (pc := 127) (fe_15 rfl) li_0 ?_
  exact ev_R (ev_zrt (pc := 128) (fe_15 rfl) rt_15 (Or.inl rfl)) (by rw [← Option.some.inj h])
  exact jK15_43 a0 a1 u h0 h1 h
  refine ev_iconst (pc := 25) (fe_15 rfl) li_0 ?_
  exact ev_R (ev_zrt (pc := 26) (fe_15 rfl) rt_15 (Or.inl rfl)) (by rw [← Option.some.inj h])
/-- CallAgents$Agent takeBusy -/
def jF16 (a0 : Nat) (a1 : Nat) (u : fm) : Option (Int32 × fm) :=
  if (fI u a1 12) = 0 then
  (if (fI u a1 4) = (fI u (a0 + 3) 3) then
  (if (jF27 (a0 + 3) a1 u) = 0 then
  (some (0, u))
  else
  (if (fI u a0 8) = 1 then
  (Option.bind (jF18 a0 a1 u) (fun p2 => Option.bind (jF21 a0 (a0 + 9) p2) (fun p3 => fm_let (jF22 a0 4 p3) (fun p4 => some (1, p4)))))
  else
  (if (fI u a0 8) = 2 then
  (Option.bind (jF18 a0 a1 u) (fun p6 => Option.bind (jF21 a0 (a0 + 9) p6) (fun p7 => fm_let (jF22 a0 4 p7) (fun p8 => some (1, p8)))))
  else
  (if (fI u a0 8) = 4 then
  (if (fm_b01 (fI u a0 13)) = 0 then
  (some (0, u))
  else
  (Option.bind (jF21 a0 (a0 + 9) u) (fun p5 => some (1, p5))))
  else
  (some (0, u))))))
  else
  (some (0, u)))
  else
  (some (0, u))
theorem jK16 {X : Nat × (Nat → Int32)} {a0 : Nat} {a1 : Nat} {u : fm} {r : Int32 × fm} (h0 : fm_isA a0) (h1 : fm_isM a1) (h : jF16 a0 a1 u = some r) : ev X 16 0 [some (.inr (.inl (some a0))), some (.inr (.inl (some a1)))] [] u ([.inl r.1], r.2) := by
  unfold jF16 at h
  refine ev_aload_n (pc := 0) (fe_16 rfl) rfl ?_
  refine ev_getI (pc := 1) (fe_16 rfl) fr_36 h1.1 ?_
  refine ev_if_ne (pc := 4) (fe_16 rfl) (t := 32) rfl h (fun h => ?_) (fun h => ?_)
  refine ev_iconst (pc := 32) (fe_16 rfl) li_0 ?_
  exact ev_R (ev_zrt (pc := 33) (fe_16 rfl) rt_16 (Or.inl rfl)) (by rw [← Option.some.inj h])
  refine ev_aload_n (pc := 7) (fe_16 rfl) rfl ?_
  refine ev_getI (pc := 8) (fe_16 rfl) fr_34 h1.1 ?_
  refine ev_aload_n (pc := 11) (fe_16 rfl) rfl ?_
  refine ev_getR (a1 := a0 + 3) (pc := 12) (fe_16 rfl) fr_1 h0.1 rfl ?_
  refine ev_getI (pc := 15) (fe_16 rfl) fr_35 h0.2.2.2.1 ?_
  refine ev_ic_ne (pc := 18) (fe_16 rfl) (t := 32) rfl h (fun h => ?_) (fun h => ?_)
  refine ev_iconst (pc := 32) (fe_16 rfl) li_0 ?_
  exact ev_R (ev_zrt (pc := 33) (fe_16 rfl) rt_16 (Or.inl rfl)) (by rw [← Option.some.inj h])
  refine ev_aload_n (pc := 21) (fe_16 rfl) rfl ?_
  refine ev_getR (a1 := a0 + 3) (pc := 22) (fe_16 rfl) fr_1 h0.1 rfl ?_
  refine ev_aload_n (pc := 25) (fe_16 rfl) rfl ?_
  refine ev_callVZk (pc := 26) (fe_16 rfl) (z := 27) (na := 2) (ow := 1) cg_16_30 rfl rt_27 rfl rfl h0.2.2.2.1 (m := 0) rfl (jK27 ⟨h0.2.2.2.1, h0.2.2.2.2.1, h0.2.2.2.2.2.1, h0.2.2.2.2.2.2.1, h0.2.2.2.2.2.2.2.1⟩ h1 rfl) (st1 := [.inl (jF27 (a0 + 3) a1 u)]) rfl (fun z1 => ?_)
  refine ev_if_ne (pc := 29) (fe_16 rfl) (t := 34) rfl h (fun h => ?_) (fun h => ?_)
  refine ev_aload_n (pc := 34) (fe_16 rfl) rfl ?_
  refine ev_getI (pc := 35) (fe_16 rfl) fr_8 h0.1 ?_
  refine ev_iconst (pc := 38) (fe_16 rfl) li_1 ?_
  refine ev_ic_eq (pc := 39) (fe_16 rfl) (t := 50) rfl h (fun h => ?_) (fun h => ?_)
  refine ev_aload_n (pc := 50) (fe_16 rfl) rfl ?_
  refine ev_aload_n (pc := 51) (fe_16 rfl) rfl ?_
  refine fm_bd h (fun p2 ep2 h => ?_)
  refine ev_callVk (pc := 52) (fe_16 rfl) (z := 18) (na := 2) (ow := 0) cg_16_31 rfl rfl rfl h0.1 (m := 0) rfl (jK18 h0 h1 ep2) (st1 := []) rfl ?_
  refine ev_aload_n (pc := 55) (fe_16 rfl) rfl ?_
  refine ev_aload_n (pc := 56) (fe_16 rfl) rfl ?_
  refine ev_getR (a1 := a0 + 9) (pc := 57) (fe_16 rfl) fr_3 h0.1 rfl ?_
  refine fm_bd h (fun p3 ep3 h => ?_)
  refine ev_callVk (pc := 60) (fe_16 rfl) (z := 21) (na := 2) (ow := 0) cg_16_10 rfl rfl rfl h0.1 (m := 0) rfl (jK21 h0 ⟨h0.2.2.2.2.2.2.2.2.2.1, h0.2.2.2.2.2.2.2.2.2.2.1, h0.2.2.2.2.2.2.2.2.2.2.2.1⟩ ep3) (st1 := []) rfl ?_
  refine ev_aload_n (pc := 63) (fe_16 rfl) rfl ?_
  refine ev_iconst (pc := 64) (fe_16 rfl) li_4 ?_
  refine fm_lt_h h (fun p4 ep4 h => ?_)
  refine ev_callVk (pc := 65) (fe_16 rfl) (z := 22) (na := 2) (ow := 0) cg_16_17 rfl rfl rfl h0.1 (m := 0) rfl (jK22 h0 ep4) (st1 := []) rfl ?_
  refine ev_iconst (pc := 68) (fe_16 rfl) li_1 ?_
  exact ev_R (ev_zrt (pc := 69) (fe_16 rfl) rt_16 (Or.inr rfl)) (by rw [← Option.some.inj h])
  refine ev_aload_n (pc := 42) (fe_16 rfl) rfl ?_
  refine ev_getI (pc := 43) (fe_16 rfl) fr_8 h0.1 ?_
  refine ev_iconst (pc := 46) (fe_16 rfl) li_2 ?_
  refine ev_ic_ne (pc := 47) (fe_16 rfl) (t := 70) rfl h (fun h => ?_) (fun h => ?_)
  refine ev_aload_n (pc := 70) (fe_16 rfl) rfl ?_
  refine ev_getI (pc := 71) (fe_16 rfl) fr_8 h0.1 ?_
  refine ev_iconst (pc := 74) (fe_16 rfl) li_4 ?_
  refine ev_ic_ne (pc := 75) (fe_16 rfl) (t := 85) rfl h (fun h => ?_) (fun h => ?_)
  refine ev_iconst (pc := 85) (fe_16 rfl) li_0 ?_
  exact ev_R (ev_zrt (pc := 86) (fe_16 rfl) rt_16 (Or.inl rfl)) (by rw [← Option.some.inj h])
  refine ev_aload_n (pc := 78) (fe_16 rfl) rfl ?_
  refine ev_getZ (pc := 79) (fe_16 rfl) fr_17 h0.1 ?_
  refine ev_if_ne (pc := 82) (fe_16 rfl) (t := 87) rfl h (fun h => ?_) (fun h => ?_)
  refine ev_aload_n (pc := 87) (fe_16 rfl) rfl ?_
  refine ev_aload_n (pc := 88) (fe_16 rfl) rfl ?_
  refine ev_getR (a1 := a0 + 9) (pc := 89) (fe_16 rfl) fr_3 h0.1 rfl ?_
  refine fm_bd h (fun p5 ep5 h => ?_)
  refine ev_callVk (pc := 92) (fe_16 rfl) (z := 21) (na := 2) (ow := 0) cg_16_10 rfl rfl rfl h0.1 (m := 0) rfl (jK21 h0 ⟨h0.2.2.2.2.2.2.2.2.2.1, h0.2.2.2.2.2.2.2.2.2.2.1, h0.2.2.2.2.2.2.2.2.2.2.2.1⟩ ep5) (st1 := []) rfl ?_
  refine ev_iconst (pc := 95) (fe_16 rfl) li_1 ?_
  exact ev_R (ev_zrt (pc := 96) (fe_16 rfl) rt_16 (Or.inr rfl)) (by rw [← Option.some.inj h])
  refine ev_iconst (pc := 85) (fe_16 rfl) li_0 ?_
  exact ev_R (ev_zrt (pc := 86) (fe_16 rfl) rt_16 (Or.inl rfl)) (by rw [← Option.some.inj h])
  refine ev_aload_n (pc := 50) (fe_16 rfl) rfl ?_
  refine ev_aload_n (pc := 51) (fe_16 rfl) rfl ?_
  refine fm_bd h (fun p6 ep6 h => ?_)
  refine ev_callVk (pc := 52) (fe_16 rfl) (z := 18) (na := 2) (ow := 0) cg_16_31 rfl rfl rfl h0.1 (m := 0) rfl (jK18 h0 h1 ep6) (st1 := []) rfl ?_
  refine ev_aload_n (pc := 55) (fe_16 rfl) rfl ?_
  refine ev_aload_n (pc := 56) (fe_16 rfl) rfl ?_
  refine ev_getR (a1 := a0 + 9) (pc := 57) (fe_16 rfl) fr_3 h0.1 rfl ?_
  refine fm_bd h (fun p7 ep7 h => ?_)
  refine ev_callVk (pc := 60) (fe_16 rfl) (z := 21) (na := 2) (ow := 0) cg_16_10 rfl rfl rfl h0.1 (m := 0) rfl (jK21 h0 ⟨h0.2.2.2.2.2.2.2.2.2.1, h0.2.2.2.2.2.2.2.2.2.2.1, h0.2.2.2.2.2.2.2.2.2.2.2.1⟩ ep7) (st1 := []) rfl ?_
  refine ev_aload_n (pc := 63) (fe_16 rfl) rfl ?_
  refine ev_iconst (pc := 64) (fe_16 rfl) li_4 ?_
  refine fm_lt_h h (fun p8 ep8 h => ?_)
  refine ev_callVk (pc := 65) (fe_16 rfl) (z := 22) (na := 2) (ow := 0) cg_16_17 rfl rfl rfl h0.1 (m := 0) rfl (jK22 h0 ep8) (st1 := []) rfl ?_
  refine ev_iconst (pc := 68) (fe_16 rfl) li_1 ?_
  exact ev_R (ev_zrt (pc := 69) (fe_16 rfl) rt_16 (Or.inr rfl)) (by rw [← Option.some.inj h])
  refine ev_iconst (pc := 32) (fe_16 rfl) li_0 ?_
  exact ev_R (ev_zrt (pc := 33) (fe_16 rfl) rt_16 (Or.inl rfl)) (by rw [← Option.some.inj h])
/-- CallAgents$Agent takeByeResponse -/
def jF17 (a0 : Nat) (a1 : Nat) (u : fm) : Int32 × fm :=
  if (fI u a0 8) = 8 then
  (if (fI u a1 12) = 2 then
  (if (fI u a1 4) = (fI u a0 10) then
  (if (fI u a1 10) = (fI u (a0 + 3) 2) then
  (if (fI u a1 11) = (fI u a0 9) then
  (fm_let (jF22 a0 9 u) (fun p1 => (1, p1)))
  else
  ((0, u)))
  else
  ((0, u)))
  else
  ((0, u)))
  else
  ((0, u)))
  else
  ((0, u))
theorem jK17 {X : Nat × (Nat → Int32)} {a0 : Nat} {a1 : Nat} {u : fm} {r : Int32 × fm} (h0 : fm_isA a0) (h1 : fm_isM a1) (h : jF17 a0 a1 u = r) : ev X 17 0 [some (.inr (.inl (some a0))), some (.inr (.inl (some a1)))] [] u ([.inl r.1], r.2) := by
  unfold jF17 at h
  refine ev_aload_n (pc := 0) (fe_17 rfl) rfl ?_
  refine ev_getI (pc := 1) (fe_17 rfl) fr_8 h0.1 ?_
  refine ev_bipush (pc := 4) (fe_17 rfl) lb_8 ?_
  refine ev_ic_ne (pc := 6) (fe_17 rfl) (t := 53) rfl h (fun h => ?_) (fun h => ?_)
  refine ev_iconst (pc := 53) (fe_17 rfl) li_0 ?_
  exact ev_R (ev_zrt (pc := 54) (fe_17 rfl) rt_17 (Or.inl rfl)) (by rw [← h])
  refine ev_aload_n (pc := 9) (fe_17 rfl) rfl ?_
  refine ev_getI (pc := 10) (fe_17 rfl) fr_36 h1.1 ?_
  refine ev_iconst (pc := 13) (fe_17 rfl) li_2 ?_
  refine ev_ic_ne (pc := 14) (fe_17 rfl) (t := 53) rfl h (fun h => ?_) (fun h => ?_)
  refine ev_iconst (pc := 53) (fe_17 rfl) li_0 ?_
  exact ev_R (ev_zrt (pc := 54) (fe_17 rfl) rt_17 (Or.inl rfl)) (by rw [← h])
  refine ev_aload_n (pc := 17) (fe_17 rfl) rfl ?_
  refine ev_getI (pc := 18) (fe_17 rfl) fr_34 h1.1 ?_
  refine ev_aload_n (pc := 21) (fe_17 rfl) rfl ?_
  refine ev_getI (pc := 22) (fe_17 rfl) fr_11 h0.1 ?_
  refine ev_ic_ne (pc := 25) (fe_17 rfl) (t := 53) rfl h (fun h => ?_) (fun h => ?_)
  refine ev_iconst (pc := 53) (fe_17 rfl) li_0 ?_
  exact ev_R (ev_zrt (pc := 54) (fe_17 rfl) rt_17 (Or.inl rfl)) (by rw [← h])
  refine ev_aload_n (pc := 28) (fe_17 rfl) rfl ?_
  refine ev_getI (pc := 29) (fe_17 rfl) fr_31 h1.1 ?_
  refine ev_aload_n (pc := 32) (fe_17 rfl) rfl ?_
  refine ev_getR (a1 := a0 + 3) (pc := 33) (fe_17 rfl) fr_1 h0.1 rfl ?_
  refine ev_getI (pc := 36) (fe_17 rfl) fr_21 h0.2.2.2.1 ?_
  refine ev_ic_ne (pc := 39) (fe_17 rfl) (t := 53) rfl h (fun h => ?_) (fun h => ?_)
  refine ev_iconst (pc := 53) (fe_17 rfl) li_0 ?_
  exact ev_R (ev_zrt (pc := 54) (fe_17 rfl) rt_17 (Or.inl rfl)) (by rw [← h])
  refine ev_aload_n (pc := 42) (fe_17 rfl) rfl ?_
  refine ev_getI (pc := 43) (fe_17 rfl) fr_32 h1.1 ?_
  refine ev_aload_n (pc := 46) (fe_17 rfl) rfl ?_
  refine ev_getI (pc := 47) (fe_17 rfl) fr_10 h0.1 ?_
  refine ev_ic_eq (pc := 50) (fe_17 rfl) (t := 55) rfl h (fun h => ?_) (fun h => ?_)
  refine ev_aload_n (pc := 55) (fe_17 rfl) rfl ?_
  refine ev_bipush (pc := 56) (fe_17 rfl) lb_9 ?_
  refine fm_lt_h h (fun p1 ep1 h => ?_)
  refine ev_callVk (pc := 58) (fe_17 rfl) (z := 22) (na := 2) (ow := 0) cg_17_17 rfl rfl rfl h0.1 (m := 0) rfl (jK22 h0 ep1) (st1 := []) rfl ?_
  refine ev_iconst (pc := 61) (fe_17 rfl) li_1 ?_
  exact ev_R (ev_zrt (pc := 62) (fe_17 rfl) rt_17 (Or.inr rfl)) (by rw [← h])
  refine ev_iconst (pc := 53) (fe_17 rfl) li_0 ?_
  exact ev_R (ev_zrt (pc := 54) (fe_17 rfl) rt_17 (Or.inl rfl)) (by rw [← h])
/-- CallAgents$Agent receive -/
def jF7 (a0 : Nat) (a1 : Nat) (u : fm) : Option (fm) :=
  if (fI u a1 1) = 0 then
  (if (jF9 a0 a1 u) = 0 then
  (fm_let (sI u a0 15 ((fI u a0 15) + 1)) (fun u2 => some u2))
  else
  (Option.bind (jF11 a0 a1 u) (fun p3 => if p3.1 = 0 then
  (fm_let (sI p3.2 a0 15 ((fI p3.2 a0 15) + 1)) (fun u5 => some u5))
  else
  (some p3.2))))
  else if (fI u a1 1) = 1 then
  (if (jF9 a0 a1 u) = 0 then
  (fm_let (sI u a0 15 ((fI u a0 15) + 1)) (fun u7 => some u7))
  else
  (fm_let (jF12 a0 a1 u) (fun p8 => if p8.1 = 0 then
  (fm_let (sI p8.2 a0 15 ((fI p8.2 a0 15) + 1)) (fun u10 => some u10))
  else
  (some p8.2))))
  else if (fI u a1 1) = 2 then
  (if (jF9 a0 a1 u) = 0 then
  (fm_let (sI u a0 15 ((fI u a0 15) + 1)) (fun u12 => some u12))
  else
  (Option.bind (jF13 a0 a1 u) (fun p13 => if p13.1 = 0 then
  (fm_let (sI p13.2 a0 15 ((fI p13.2 a0 15) + 1)) (fun u15 => some u15))
  else
  (some p13.2))))
  else if (fI u a1 1) = 3 then
  (if (jF10 a0 a1 u) = 0 then
  (fm_let (sI u a0 15 ((fI u a0 15) + 1)) (fun u17 => some u17))
  else
  (fm_let (jF14 a0 a1 u) (fun p18 => if p18.1 = 0 then
  (fm_let (sI p18.2 a0 15 ((fI p18.2 a0 15) + 1)) (fun u20 => some u20))
  else
  (some p18.2))))
  else if (fI u a1 1) = 4 then
  (if (jF10 a0 a1 u) = 0 then
  (fm_let (sI u a0 15 ((fI u a0 15) + 1)) (fun u22 => some u22))
  else
  (Option.bind (jF15 a0 a1 u) (fun p23 => if p23.1 = 0 then
  (fm_let (jF17 a0 a1 p23.2) (fun p25 => if p25.1 = 0 then
  (fm_let (sI p25.2 a0 15 ((fI p25.2 a0 15) + 1)) (fun u27 => some u27))
  else
  (some p25.2)))
  else
  (some p23.2))))
  else if (fI u a1 1) = 5 then
  (if (jF10 a0 a1 u) = 0 then
  (fm_let (sI u a0 15 ((fI u a0 15) + 1)) (fun u29 => some u29))
  else
  (Option.bind (jF16 a0 a1 u) (fun p30 => if p30.1 = 0 then
  (fm_let (sI p30.2 a0 15 ((fI p30.2 a0 15) + 1)) (fun u32 => some u32))
  else
  (some p30.2))))
  else (if (jF10 a0 a1 u) = 0 then
  (fm_let (sI u a0 15 ((fI u a0 15) + 1)) (fun u34 => some u34))
  else
  (fm_let (jF17 a0 a1 u) (fun p35 => if p35.1 = 0 then
  (fm_let (sI p35.2 a0 15 ((fI p35.2 a0 15) + 1)) (fun u37 => some u37))
  else
  (some p35.2))))
theorem jK7 {X : Nat × (Nat → Int32)} {a0 : Nat} {a1 : Nat} {u : fm} {r : fm} (h0 : fm_isA a0) (h1 : fm_isM a1) (h : jF7 a0 a1 u = some r) : ev X 7 0 [some (.inr (.inl (some a0))), some (.inr (.inl (some a1))), none] [] u ([], r) := by
  unfold jF7 at h
  refine ev_aload_n (pc := 0) (fe_7 rfl) rfl ?_
  refine ev_getI (pc := 1) (fe_7 rfl) fr_20 h1.1 ?_
  refine fm_sp h (fun w4_0 h => ?_) (fun w4_0 h => ?_)
  refine ev_swk (pc := 4) (fe_7 rfl) (c := 0) (by rw [w4_0]; decide) (by decide) rfl (t := 44) rfl ?_
  refine ev_aload_n (pc := 44) (fe_7 rfl) rfl ?_
  refine ev_aload_n (pc := 45) (fe_7 rfl) rfl ?_
  refine ev_callVZk (pc := 46) (fe_7 rfl) (z := 9) (na := 2) (ow := 0) cg_7_18 rfl rt_9 rfl rfl h0.1 (m := 0) rfl (jK9 h0 h1 rfl) (st1 := [.inl (jF9 a0 a1 u)]) rfl (fun z1 => ?_)
  refine ev_if_eq (pc := 49) (fe_7 rfl) (t := 64) rfl h (fun h => ?_) (fun h => ?_)
  refine ev_iconst (pc := 64) (fe_7 rfl) li_0 ?_
  refine ev_istore_n (pc := 65) (fe_7 rfl) mx_7 rfl ?_
  refine ev_goto (pc := 66) (fe_7 rfl) (t := 224) rfl ?_
  refine ev_iload_n (pc := 224) (fe_7 rfl) rfl ?_
  refine ev_ifc (pc := 225) (fe_7 rfl) (t := 238) (t1 := 228) (b := false) rfl (by decide) rfl ?_
  refine ev_aload_n (pc := 228) (fe_7 rfl) rfl ?_
  refine ev_dup (pc := 229) (fe_7 rfl) rfl ?_
  refine ev_getI (pc := 230) (fe_7 rfl) fr_24 h0.1 ?_
  refine ev_iconst (pc := 233) (fe_7 rfl) li_1 ?_
  refine ev_iadd (pc := 234) (fe_7 rfl) ?_
  refine fm_lt_h h (fun u2 eu2 h => ?_)
  refine ev_putI (pc := 235) (fe_7 rfl) fr_24 h0.1 eu2 ?_
  exact ev_R (ev_vrt (pc := 238) (fe_7 rfl) rt_7) (by rw [← Option.some.inj h])
  refine ev_aload_n (pc := 52) (fe_7 rfl) rfl ?_
  refine ev_aload_n (pc := 53) (fe_7 rfl) rfl ?_
  refine fm_bd h (fun p3 ep3 h => ?_)
  refine ev_callVZk (pc := 54) (fe_7 rfl) (z := 11) (na := 2) (ow := 0) cg_7_19 rfl rt_11 rfl rfl h0.1 (m := 1) rfl (jK11 h0 h1 ep3) (st1 := [.inl p3.1]) rfl (fun z4 => ?_)
  refine ev_if_eq (pc := 57) (fe_7 rfl) (t := 64) rfl h (fun h => ?_) (fun h => ?_)
  refine ev_iconst (pc := 64) (fe_7 rfl) li_0 ?_
  refine ev_istore_n (pc := 65) (fe_7 rfl) mx_7 rfl ?_
  refine ev_goto (pc := 66) (fe_7 rfl) (t := 224) rfl ?_
  refine ev_iload_n (pc := 224) (fe_7 rfl) rfl ?_
  refine ev_ifc (pc := 225) (fe_7 rfl) (t := 238) (t1 := 228) (b := false) rfl (by decide) rfl ?_
  refine ev_aload_n (pc := 228) (fe_7 rfl) rfl ?_
  refine ev_dup (pc := 229) (fe_7 rfl) rfl ?_
  refine ev_getI (pc := 230) (fe_7 rfl) fr_24 h0.1 ?_
  refine ev_iconst (pc := 233) (fe_7 rfl) li_1 ?_
  refine ev_iadd (pc := 234) (fe_7 rfl) ?_
  refine fm_lt_h h (fun u5 eu5 h => ?_)
  refine ev_putI (pc := 235) (fe_7 rfl) fr_24 h0.1 eu5 ?_
  exact ev_R (ev_vrt (pc := 238) (fe_7 rfl) rt_7) (by rw [← Option.some.inj h])
  refine ev_iconst (pc := 60) (fe_7 rfl) li_1 ?_
  refine ev_goto (pc := 61) (fe_7 rfl) (t := 65) rfl ?_
  refine ev_istore_n (pc := 65) (fe_7 rfl) mx_7 rfl ?_
  refine ev_goto (pc := 66) (fe_7 rfl) (t := 224) rfl ?_
  refine ev_iload_n (pc := 224) (fe_7 rfl) rfl ?_
  refine ev_ifc (pc := 225) (fe_7 rfl) (t := 238) (t1 := 238) (b := true) rfl (by decide) rfl ?_
  exact ev_R (ev_vrt (pc := 238) (fe_7 rfl) rt_7) (by rw [← Option.some.inj h])
  refine fm_sp h (fun w4_1 h => ?_) (fun w4_1 h => ?_)
  refine ev_swk (pc := 4) (fe_7 rfl) (c := 1) (by rw [w4_1]; decide) (by decide) rfl (t := 69) rfl ?_
  refine ev_aload_n (pc := 69) (fe_7 rfl) rfl ?_
  refine ev_aload_n (pc := 70) (fe_7 rfl) rfl ?_
  refine ev_callVZk (pc := 71) (fe_7 rfl) (z := 9) (na := 2) (ow := 0) cg_7_18 rfl rt_9 rfl rfl h0.1 (m := 0) rfl (jK9 h0 h1 rfl) (st1 := [.inl (jF9 a0 a1 u)]) rfl (fun z6 => ?_)
  refine ev_if_eq (pc := 74) (fe_7 rfl) (t := 89) rfl h (fun h => ?_) (fun h => ?_)
  refine ev_iconst (pc := 89) (fe_7 rfl) li_0 ?_
  refine ev_istore_n (pc := 90) (fe_7 rfl) mx_7 rfl ?_
  refine ev_goto (pc := 91) (fe_7 rfl) (t := 224) rfl ?_
  refine ev_iload_n (pc := 224) (fe_7 rfl) rfl ?_
  refine ev_ifc (pc := 225) (fe_7 rfl) (t := 238) (t1 := 228) (b := false) rfl (by decide) rfl ?_
  refine ev_aload_n (pc := 228) (fe_7 rfl) rfl ?_
  refine ev_dup (pc := 229) (fe_7 rfl) rfl ?_
  refine ev_getI (pc := 230) (fe_7 rfl) fr_24 h0.1 ?_
  refine ev_iconst (pc := 233) (fe_7 rfl) li_1 ?_
  refine ev_iadd (pc := 234) (fe_7 rfl) ?_
  refine fm_lt_h h (fun u7 eu7 h => ?_)
  refine ev_putI (pc := 235) (fe_7 rfl) fr_24 h0.1 eu7 ?_
  exact ev_R (ev_vrt (pc := 238) (fe_7 rfl) rt_7) (by rw [← Option.some.inj h])
  refine ev_aload_n (pc := 77) (fe_7 rfl) rfl ?_
  refine ev_aload_n (pc := 78) (fe_7 rfl) rfl ?_
  refine fm_lt_h h (fun p8 ep8 h => ?_)
  refine ev_callVZk (pc := 79) (fe_7 rfl) (z := 12) (na := 2) (ow := 0) cg_7_20 rfl rt_12 rfl rfl h0.1 (m := 1) rfl (jK12 h0 h1 ep8) (st1 := [.inl p8.1]) rfl (fun z9 => ?_)
  refine ev_if_eq (pc := 82) (fe_7 rfl) (t := 89) rfl h (fun h => ?_) (fun h => ?_)
  refine ev_iconst (pc := 89) (fe_7 rfl) li_0 ?_
  refine ev_istore_n (pc := 90) (fe_7 rfl) mx_7 rfl ?_
  refine ev_goto (pc := 91) (fe_7 rfl) (t := 224) rfl ?_
  refine ev_iload_n (pc := 224) (fe_7 rfl) rfl ?_
  refine ev_ifc (pc := 225) (fe_7 rfl) (t := 238) (t1 := 228) (b := false) rfl (by decide) rfl ?_
  refine ev_aload_n (pc := 228) (fe_7 rfl) rfl ?_
  refine ev_dup (pc := 229) (fe_7 rfl) rfl ?_
  refine ev_getI (pc := 230) (fe_7 rfl) fr_24 h0.1 ?_
  refine ev_iconst (pc := 233) (fe_7 rfl) li_1 ?_
  refine ev_iadd (pc := 234) (fe_7 rfl) ?_
  refine fm_lt_h h (fun u10 eu10 h => ?_)
  refine ev_putI (pc := 235) (fe_7 rfl) fr_24 h0.1 eu10 ?_
  exact ev_R (ev_vrt (pc := 238) (fe_7 rfl) rt_7) (by rw [← Option.some.inj h])
  refine ev_iconst (pc := 85) (fe_7 rfl) li_1 ?_
  refine ev_goto (pc := 86) (fe_7 rfl) (t := 90) rfl ?_
  refine ev_istore_n (pc := 90) (fe_7 rfl) mx_7 rfl ?_
  refine ev_goto (pc := 91) (fe_7 rfl) (t := 224) rfl ?_
  refine ev_iload_n (pc := 224) (fe_7 rfl) rfl ?_
  refine ev_ifc (pc := 225) (fe_7 rfl) (t := 238) (t1 := 238) (b := true) rfl (by decide) rfl ?_
  exact ev_R (ev_vrt (pc := 238) (fe_7 rfl) rt_7) (by rw [← Option.some.inj h])
  refine fm_sp h (fun w4_2 h => ?_) (fun w4_2 h => ?_)
  refine ev_swk (pc := 4) (fe_7 rfl) (c := 2) (by rw [w4_2]; decide) (by decide) rfl (t := 94) rfl ?_
  refine ev_aload_n (pc := 94) (fe_7 rfl) rfl ?_
  refine ev_aload_n (pc := 95) (fe_7 rfl) rfl ?_
  refine ev_callVZk (pc := 96) (fe_7 rfl) (z := 9) (na := 2) (ow := 0) cg_7_18 rfl rt_9 rfl rfl h0.1 (m := 0) rfl (jK9 h0 h1 rfl) (st1 := [.inl (jF9 a0 a1 u)]) rfl (fun z11 => ?_)
  refine ev_if_eq (pc := 99) (fe_7 rfl) (t := 114) rfl h (fun h => ?_) (fun h => ?_)
  refine ev_iconst (pc := 114) (fe_7 rfl) li_0 ?_
  refine ev_istore_n (pc := 115) (fe_7 rfl) mx_7 rfl ?_
  refine ev_goto (pc := 116) (fe_7 rfl) (t := 224) rfl ?_
  refine ev_iload_n (pc := 224) (fe_7 rfl) rfl ?_
  refine ev_ifc (pc := 225) (fe_7 rfl) (t := 238) (t1 := 228) (b := false) rfl (by decide) rfl ?_
  refine ev_aload_n (pc := 228) (fe_7 rfl) rfl ?_
  refine ev_dup (pc := 229) (fe_7 rfl) rfl ?_
  refine ev_getI (pc := 230) (fe_7 rfl) fr_24 h0.1 ?_
  refine ev_iconst (pc := 233) (fe_7 rfl) li_1 ?_
  refine ev_iadd (pc := 234) (fe_7 rfl) ?_
  refine fm_lt_h h (fun u12 eu12 h => ?_)
  refine ev_putI (pc := 235) (fe_7 rfl) fr_24 h0.1 eu12 ?_
  exact ev_R (ev_vrt (pc := 238) (fe_7 rfl) rt_7) (by rw [← Option.some.inj h])
  refine ev_aload_n (pc := 102) (fe_7 rfl) rfl ?_
  refine ev_aload_n (pc := 103) (fe_7 rfl) rfl ?_
  refine fm_bd h (fun p13 ep13 h => ?_)
  refine ev_callVZk (pc := 104) (fe_7 rfl) (z := 13) (na := 2) (ow := 0) cg_7_21 rfl rt_13 rfl rfl h0.1 (m := 1) rfl (jK13 h0 h1 ep13) (st1 := [.inl p13.1]) rfl (fun z14 => ?_)
  refine ev_if_eq (pc := 107) (fe_7 rfl) (t := 114) rfl h (fun h => ?_) (fun h => ?_)
  refine ev_iconst (pc := 114) (fe_7 rfl) li_0 ?_
  refine ev_istore_n (pc := 115) (fe_7 rfl) mx_7 rfl ?_
  refine ev_goto (pc := 116) (fe_7 rfl) (t := 224) rfl ?_
  refine ev_iload_n (pc := 224) (fe_7 rfl) rfl ?_
  refine ev_ifc (pc := 225) (fe_7 rfl) (t := 238) (t1 := 228) (b := false) rfl (by decide) rfl ?_
  refine ev_aload_n (pc := 228) (fe_7 rfl) rfl ?_
  refine ev_dup (pc := 229) (fe_7 rfl) rfl ?_
  refine ev_getI (pc := 230) (fe_7 rfl) fr_24 h0.1 ?_
  refine ev_iconst (pc := 233) (fe_7 rfl) li_1 ?_
  refine ev_iadd (pc := 234) (fe_7 rfl) ?_
  refine fm_lt_h h (fun u15 eu15 h => ?_)
  refine ev_putI (pc := 235) (fe_7 rfl) fr_24 h0.1 eu15 ?_
  exact ev_R (ev_vrt (pc := 238) (fe_7 rfl) rt_7) (by rw [← Option.some.inj h])
  refine ev_iconst (pc := 110) (fe_7 rfl) li_1 ?_
  refine ev_goto (pc := 111) (fe_7 rfl) (t := 115) rfl ?_
  refine ev_istore_n (pc := 115) (fe_7 rfl) mx_7 rfl ?_
  refine ev_goto (pc := 116) (fe_7 rfl) (t := 224) rfl ?_
  refine ev_iload_n (pc := 224) (fe_7 rfl) rfl ?_
  refine ev_ifc (pc := 225) (fe_7 rfl) (t := 238) (t1 := 238) (b := true) rfl (by decide) rfl ?_
  exact ev_R (ev_vrt (pc := 238) (fe_7 rfl) rt_7) (by rw [← Option.some.inj h])
  refine fm_sp h (fun w4_3 h => ?_) (fun w4_3 h => ?_)
  refine ev_swk (pc := 4) (fe_7 rfl) (c := 3) (by rw [w4_3]; decide) (by decide) rfl (t := 119) rfl ?_
  refine ev_aload_n (pc := 119) (fe_7 rfl) rfl ?_
  refine ev_aload_n (pc := 120) (fe_7 rfl) rfl ?_
  refine ev_callVZk (pc := 121) (fe_7 rfl) (z := 10) (na := 2) (ow := 0) cg_7_22 rfl rt_10 rfl rfl h0.1 (m := 0) rfl (jK10 h0 h1 rfl) (st1 := [.inl (jF10 a0 a1 u)]) rfl (fun z16 => ?_)
  refine ev_if_eq (pc := 124) (fe_7 rfl) (t := 139) rfl h (fun h => ?_) (fun h => ?_)
  refine ev_iconst (pc := 139) (fe_7 rfl) li_0 ?_
  refine ev_istore_n (pc := 140) (fe_7 rfl) mx_7 rfl ?_
  refine ev_goto (pc := 141) (fe_7 rfl) (t := 224) rfl ?_
  refine ev_iload_n (pc := 224) (fe_7 rfl) rfl ?_
  refine ev_ifc (pc := 225) (fe_7 rfl) (t := 238) (t1 := 228) (b := false) rfl (by decide) rfl ?_
  refine ev_aload_n (pc := 228) (fe_7 rfl) rfl ?_
  refine ev_dup (pc := 229) (fe_7 rfl) rfl ?_
  refine ev_getI (pc := 230) (fe_7 rfl) fr_24 h0.1 ?_
  refine ev_iconst (pc := 233) (fe_7 rfl) li_1 ?_
  refine ev_iadd (pc := 234) (fe_7 rfl) ?_
  refine fm_lt_h h (fun u17 eu17 h => ?_)
  refine ev_putI (pc := 235) (fe_7 rfl) fr_24 h0.1 eu17 ?_
  exact ev_R (ev_vrt (pc := 238) (fe_7 rfl) rt_7) (by rw [← Option.some.inj h])
  refine ev_aload_n (pc := 127) (fe_7 rfl) rfl ?_
  refine ev_aload_n (pc := 128) (fe_7 rfl) rfl ?_
  refine fm_lt_h h (fun p18 ep18 h => ?_)
  refine ev_callVZk (pc := 129) (fe_7 rfl) (z := 14) (na := 2) (ow := 0) cg_7_23 rfl rt_14 rfl rfl h0.1 (m := 0) rfl (jK14 h0 h1 ep18) (st1 := [.inl p18.1]) rfl (fun z19 => ?_)
  refine ev_if_eq (pc := 132) (fe_7 rfl) (t := 139) rfl h (fun h => ?_) (fun h => ?_)
  refine ev_iconst (pc := 139) (fe_7 rfl) li_0 ?_
  refine ev_istore_n (pc := 140) (fe_7 rfl) mx_7 rfl ?_
  refine ev_goto (pc := 141) (fe_7 rfl) (t := 224) rfl ?_
  refine ev_iload_n (pc := 224) (fe_7 rfl) rfl ?_
  refine ev_ifc (pc := 225) (fe_7 rfl) (t := 238) (t1 := 228) (b := false) rfl (by decide) rfl ?_
  refine ev_aload_n (pc := 228) (fe_7 rfl) rfl ?_
  refine ev_dup (pc := 229) (fe_7 rfl) rfl ?_
  refine ev_getI (pc := 230) (fe_7 rfl) fr_24 h0.1 ?_
  refine ev_iconst (pc := 233) (fe_7 rfl) li_1 ?_
  refine ev_iadd (pc := 234) (fe_7 rfl) ?_
  refine fm_lt_h h (fun u20 eu20 h => ?_)
  refine ev_putI (pc := 235) (fe_7 rfl) fr_24 h0.1 eu20 ?_
  exact ev_R (ev_vrt (pc := 238) (fe_7 rfl) rt_7) (by rw [← Option.some.inj h])
  refine ev_iconst (pc := 135) (fe_7 rfl) li_1 ?_
  refine ev_goto (pc := 136) (fe_7 rfl) (t := 140) rfl ?_
  refine ev_istore_n (pc := 140) (fe_7 rfl) mx_7 rfl ?_
  refine ev_goto (pc := 141) (fe_7 rfl) (t := 224) rfl ?_
  refine ev_iload_n (pc := 224) (fe_7 rfl) rfl ?_
  refine ev_ifc (pc := 225) (fe_7 rfl) (t := 238) (t1 := 238) (b := true) rfl (by decide) rfl ?_
  exact ev_R (ev_vrt (pc := 238) (fe_7 rfl) rt_7) (by rw [← Option.some.inj h])
  refine fm_sp h (fun w4_4 h => ?_) (fun w4_4 h => ?_)
  refine ev_swk (pc := 4) (fe_7 rfl) (c := 4) (by rw [w4_4]; decide) (by decide) rfl (t := 169) rfl ?_
  refine ev_aload_n (pc := 169) (fe_7 rfl) rfl ?_
  refine ev_aload_n (pc := 170) (fe_7 rfl) rfl ?_
  refine ev_callVZk (pc := 171) (fe_7 rfl) (z := 10) (na := 2) (ow := 0) cg_7_22 rfl rt_10 rfl rfl h0.1 (m := 0) rfl (jK10 h0 h1 rfl) (st1 := [.inl (jF10 a0 a1 u)]) rfl (fun z21 => ?_)
  refine ev_if_eq (pc := 174) (fe_7 rfl) (t := 197) rfl h (fun h => ?_) (fun h => ?_)
  refine ev_iconst (pc := 197) (fe_7 rfl) li_0 ?_
  refine ev_istore_n (pc := 198) (fe_7 rfl) mx_7 rfl ?_
  refine ev_goto (pc := 199) (fe_7 rfl) (t := 224) rfl ?_
  refine ev_iload_n (pc := 224) (fe_7 rfl) rfl ?_
  refine ev_ifc (pc := 225) (fe_7 rfl) (t := 238) (t1 := 228) (b := false) rfl (by decide) rfl ?_
  refine ev_aload_n (pc := 228) (fe_7 rfl) rfl ?_
  refine ev_dup (pc := 229) (fe_7 rfl) rfl ?_
  refine ev_getI (pc := 230) (fe_7 rfl) fr_24 h0.1 ?_
  refine ev_iconst (pc := 233) (fe_7 rfl) li_1 ?_
  refine ev_iadd (pc := 234) (fe_7 rfl) ?_
  refine fm_lt_h h (fun u22 eu22 h => ?_)
  refine ev_putI (pc := 235) (fe_7 rfl) fr_24 h0.1 eu22 ?_
  exact ev_R (ev_vrt (pc := 238) (fe_7 rfl) rt_7) (by rw [← Option.some.inj h])
  refine ev_aload_n (pc := 177) (fe_7 rfl) rfl ?_
  refine ev_aload_n (pc := 178) (fe_7 rfl) rfl ?_
  refine fm_bd h (fun p23 ep23 h => ?_)
  refine ev_callVZk (pc := 179) (fe_7 rfl) (z := 15) (na := 2) (ow := 0) cg_7_25 rfl rt_15 rfl rfl h0.1 (m := 0) rfl (jK15 h0 h1 ep23) (st1 := [.inl p23.1]) rfl (fun z24 => ?_)
  refine ev_if_ne (pc := 182) (fe_7 rfl) (t := 193) rfl h (fun h => ?_) (fun h => ?_)
  refine ev_iconst (pc := 193) (fe_7 rfl) li_1 ?_
  refine ev_goto (pc := 194) (fe_7 rfl) (t := 198) rfl ?_
  refine ev_istore_n (pc := 198) (fe_7 rfl) mx_7 rfl ?_
  refine ev_goto (pc := 199) (fe_7 rfl) (t := 224) rfl ?_
  refine ev_iload_n (pc := 224) (fe_7 rfl) rfl ?_
  refine ev_ifc (pc := 225) (fe_7 rfl) (t := 238) (t1 := 238) (b := true) rfl (by decide) rfl ?_
  exact ev_R (ev_vrt (pc := 238) (fe_7 rfl) rt_7) (by rw [← Option.some.inj h])
  refine ev_aload_n (pc := 185) (fe_7 rfl) rfl ?_
  refine ev_aload_n (pc := 186) (fe_7 rfl) rfl ?_
  refine fm_lt_h h (fun p25 ep25 h => ?_)
  refine ev_callVZk (pc := 187) (fe_7 rfl) (z := 17) (na := 2) (ow := 0) cg_7_26 rfl rt_17 rfl rfl h0.1 (m := 0) rfl (jK17 h0 h1 ep25) (st1 := [.inl p25.1]) rfl (fun z26 => ?_)
  refine ev_if_eq (pc := 190) (fe_7 rfl) (t := 197) rfl h (fun h => ?_) (fun h => ?_)
  refine ev_iconst (pc := 197) (fe_7 rfl) li_0 ?_
  refine ev_istore_n (pc := 198) (fe_7 rfl) mx_7 rfl ?_
  refine ev_goto (pc := 199) (fe_7 rfl) (t := 224) rfl ?_
  refine ev_iload_n (pc := 224) (fe_7 rfl) rfl ?_
  refine ev_ifc (pc := 225) (fe_7 rfl) (t := 238) (t1 := 228) (b := false) rfl (by decide) rfl ?_
  refine ev_aload_n (pc := 228) (fe_7 rfl) rfl ?_
  refine ev_dup (pc := 229) (fe_7 rfl) rfl ?_
  refine ev_getI (pc := 230) (fe_7 rfl) fr_24 h0.1 ?_
  refine ev_iconst (pc := 233) (fe_7 rfl) li_1 ?_
  refine ev_iadd (pc := 234) (fe_7 rfl) ?_
  refine fm_lt_h h (fun u27 eu27 h => ?_)
  refine ev_putI (pc := 235) (fe_7 rfl) fr_24 h0.1 eu27 ?_
  exact ev_R (ev_vrt (pc := 238) (fe_7 rfl) rt_7) (by rw [← Option.some.inj h])
  refine ev_iconst (pc := 193) (fe_7 rfl) li_1 ?_
  refine ev_goto (pc := 194) (fe_7 rfl) (t := 198) rfl ?_
  refine ev_istore_n (pc := 198) (fe_7 rfl) mx_7 rfl ?_
  refine ev_goto (pc := 199) (fe_7 rfl) (t := 224) rfl ?_
  refine ev_iload_n (pc := 224) (fe_7 rfl) rfl ?_
  refine ev_ifc (pc := 225) (fe_7 rfl) (t := 238) (t1 := 238) (b := true) rfl (by decide) rfl ?_
  exact ev_R (ev_vrt (pc := 238) (fe_7 rfl) rt_7) (by rw [← Option.some.inj h])
  refine fm_sp h (fun w4_5 h => ?_) (fun w4_5 h => ?_)
  refine ev_swk (pc := 4) (fe_7 rfl) (c := 5) (by rw [w4_5]; decide) (by decide) rfl (t := 144) rfl ?_
  refine ev_aload_n (pc := 144) (fe_7 rfl) rfl ?_
  refine ev_aload_n (pc := 145) (fe_7 rfl) rfl ?_
  refine ev_callVZk (pc := 146) (fe_7 rfl) (z := 10) (na := 2) (ow := 0) cg_7_22 rfl rt_10 rfl rfl h0.1 (m := 0) rfl (jK10 h0 h1 rfl) (st1 := [.inl (jF10 a0 a1 u)]) rfl (fun z28 => ?_)
  refine ev_if_eq (pc := 149) (fe_7 rfl) (t := 164) rfl h (fun h => ?_) (fun h => ?_)
  refine ev_iconst (pc := 164) (fe_7 rfl) li_0 ?_
  refine ev_istore_n (pc := 165) (fe_7 rfl) mx_7 rfl ?_
  refine ev_goto (pc := 166) (fe_7 rfl) (t := 224) rfl ?_
  refine ev_iload_n (pc := 224) (fe_7 rfl) rfl ?_
  refine ev_ifc (pc := 225) (fe_7 rfl) (t := 238) (t1 := 228) (b := false) rfl (by decide) rfl ?_
  refine ev_aload_n (pc := 228) (fe_7 rfl) rfl ?_
  refine ev_dup (pc := 229) (fe_7 rfl) rfl ?_
  refine ev_getI (pc := 230) (fe_7 rfl) fr_24 h0.1 ?_
  refine ev_iconst (pc := 233) (fe_7 rfl) li_1 ?_
  refine ev_iadd (pc := 234) (fe_7 rfl) ?_
  refine fm_lt_h h (fun u29 eu29 h => ?_)
  refine ev_putI (pc := 235) (fe_7 rfl) fr_24 h0.1 eu29 ?_
  exact ev_R (ev_vrt (pc := 238) (fe_7 rfl) rt_7) (by rw [← Option.some.inj h])
  refine ev_aload_n (pc := 152) (fe_7 rfl) rfl ?_
  refine ev_aload_n (pc := 153) (fe_7 rfl) rfl ?_
  refine fm_bd h (fun p30 ep30 h => ?_)
  refine ev_callVZk (pc := 154) (fe_7 rfl) (z := 16) (na := 2) (ow := 0) cg_7_24 rfl rt_16 rfl rfl h0.1 (m := 0) rfl (jK16 h0 h1 ep30) (st1 := [.inl p30.1]) rfl (fun z31 => ?_)
  refine ev_if_eq (pc := 157) (fe_7 rfl) (t := 164) rfl h (fun h => ?_) (fun h => ?_)
  refine ev_iconst (pc := 164) (fe_7 rfl) li_0 ?_
  refine ev_istore_n (pc := 165) (fe_7 rfl) mx_7 rfl ?_
  refine ev_goto (pc := 166) (fe_7 rfl) (t := 224) rfl ?_
  refine ev_iload_n (pc := 224) (fe_7 rfl) rfl ?_
  refine ev_ifc (pc := 225) (fe_7 rfl) (t := 238) (t1 := 228) (b := false) rfl (by decide) rfl ?_
  refine ev_aload_n (pc := 228) (fe_7 rfl) rfl ?_
  refine ev_dup (pc := 229) (fe_7 rfl) rfl ?_
  refine ev_getI (pc := 230) (fe_7 rfl) fr_24 h0.1 ?_
  refine ev_iconst (pc := 233) (fe_7 rfl) li_1 ?_
  refine ev_iadd (pc := 234) (fe_7 rfl) ?_
  refine fm_lt_h h (fun u32 eu32 h => ?_)
  refine ev_putI (pc := 235) (fe_7 rfl) fr_24 h0.1 eu32 ?_
  exact ev_R (ev_vrt (pc := 238) (fe_7 rfl) rt_7) (by rw [← Option.some.inj h])
  refine ev_iconst (pc := 160) (fe_7 rfl) li_1 ?_
  refine ev_goto (pc := 161) (fe_7 rfl) (t := 165) rfl ?_
  refine ev_istore_n (pc := 165) (fe_7 rfl) mx_7 rfl ?_
  refine ev_goto (pc := 166) (fe_7 rfl) (t := 224) rfl ?_
  refine ev_iload_n (pc := 224) (fe_7 rfl) rfl ?_
  refine ev_ifc (pc := 225) (fe_7 rfl) (t := 238) (t1 := 238) (b := true) rfl (by decide) rfl ?_
  exact ev_R (ev_vrt (pc := 238) (fe_7 rfl) rt_7) (by rw [← Option.some.inj h])
  refine ev_swd (pc := 4) (fe_7 rfl) (t := 202) rfl (fm_swx (lo := 0) (n := 6) (List.forall_mem_cons.mpr ⟨w4_0, List.forall_mem_cons.mpr ⟨w4_1, List.forall_mem_cons.mpr ⟨w4_2, List.forall_mem_cons.mpr ⟨w4_3, List.forall_mem_cons.mpr ⟨w4_4, List.forall_mem_cons.mpr ⟨w4_5, fun _ q => nomatch q⟩⟩⟩⟩⟩⟩)) ?_
  refine ev_aload_n (pc := 202) (fe_7 rfl) rfl ?_
  refine ev_aload_n (pc := 203) (fe_7 rfl) rfl ?_
  refine ev_callVZk (pc := 204) (fe_7 rfl) (z := 10) (na := 2) (ow := 0) cg_7_22 rfl rt_10 rfl rfl h0.1 (m := 0) rfl (jK10 h0 h1 rfl) (st1 := [.inl (jF10 a0 a1 u)]) rfl (fun z33 => ?_)
  refine ev_if_eq (pc := 207) (fe_7 rfl) (t := 222) rfl h (fun h => ?_) (fun h => ?_)
  refine ev_iconst (pc := 222) (fe_7 rfl) li_0 ?_
  refine ev_istore_n (pc := 223) (fe_7 rfl) mx_7 rfl ?_
  refine ev_iload_n (pc := 224) (fe_7 rfl) rfl ?_
  refine ev_ifc (pc := 225) (fe_7 rfl) (t := 238) (t1 := 228) (b := false) rfl (by decide) rfl ?_
  refine ev_aload_n (pc := 228) (fe_7 rfl) rfl ?_
  refine ev_dup (pc := 229) (fe_7 rfl) rfl ?_
  refine ev_getI (pc := 230) (fe_7 rfl) fr_24 h0.1 ?_
  refine ev_iconst (pc := 233) (fe_7 rfl) li_1 ?_
  refine ev_iadd (pc := 234) (fe_7 rfl) ?_
  refine fm_lt_h h (fun u34 eu34 h => ?_)
  refine ev_putI (pc := 235) (fe_7 rfl) fr_24 h0.1 eu34 ?_
  exact ev_R (ev_vrt (pc := 238) (fe_7 rfl) rt_7) (by rw [← Option.some.inj h])
  refine ev_aload_n (pc := 210) (fe_7 rfl) rfl ?_
  refine ev_aload_n (pc := 211) (fe_7 rfl) rfl ?_
  refine fm_lt_h h (fun p35 ep35 h => ?_)
  refine ev_callVZk (pc := 212) (fe_7 rfl) (z := 17) (na := 2) (ow := 0) cg_7_26 rfl rt_17 rfl rfl h0.1 (m := 0) rfl (jK17 h0 h1 ep35) (st1 := [.inl p35.1]) rfl (fun z36 => ?_)
  refine ev_if_eq (pc := 215) (fe_7 rfl) (t := 222) rfl h (fun h => ?_) (fun h => ?_)
  refine ev_iconst (pc := 222) (fe_7 rfl) li_0 ?_
  refine ev_istore_n (pc := 223) (fe_7 rfl) mx_7 rfl ?_
  refine ev_iload_n (pc := 224) (fe_7 rfl) rfl ?_
  refine ev_ifc (pc := 225) (fe_7 rfl) (t := 238) (t1 := 228) (b := false) rfl (by decide) rfl ?_
  refine ev_aload_n (pc := 228) (fe_7 rfl) rfl ?_
  refine ev_dup (pc := 229) (fe_7 rfl) rfl ?_
  refine ev_getI (pc := 230) (fe_7 rfl) fr_24 h0.1 ?_
  refine ev_iconst (pc := 233) (fe_7 rfl) li_1 ?_
  refine ev_iadd (pc := 234) (fe_7 rfl) ?_
  refine fm_lt_h h (fun u37 eu37 h => ?_)
  refine ev_putI (pc := 235) (fe_7 rfl) fr_24 h0.1 eu37 ?_
  exact ev_R (ev_vrt (pc := 238) (fe_7 rfl) rt_7) (by rw [← Option.some.inj h])
  refine ev_iconst (pc := 218) (fe_7 rfl) li_1 ?_
  refine ev_goto (pc := 219) (fe_7 rfl) (t := 223) rfl ?_
  refine ev_istore_n (pc := 223) (fe_7 rfl) mx_7 rfl ?_
  refine ev_iload_n (pc := 224) (fe_7 rfl) rfl ?_
  refine ev_ifc (pc := 225) (fe_7 rfl) (t := 238) (t1 := 238) (b := true) rfl (by decide) rfl ?_
  exact ev_R (ev_vrt (pc := 238) (fe_7 rfl) rt_7) (by rw [← Option.some.inj h])
/-- CallAgents$Agent tell -/
def jF8 (a0 : Nat) (x1 : Int32) (u : fm) : Int32 :=
  if x1 = 0 then
  (fI u a0 8)
  else if x1 = 1 then
  (fI u (a0 + 3) 5)
  else if x1 = 2 then
  (fI u (a0 + 3) 6)
  else if x1 = 3 then
  (fI u (a0 + 3) 2)
  else if x1 = 4 then
  (fI u a0 9)
  else if x1 = 5 then
  (fI u a0 10)
  else if x1 = 6 then
  (fI u (a0 + 6) 1)
  else if x1 = 7 then
  (fI u a0 14)
  else if x1 = 8 then
  (fI u a0 15)
  else ((-1))
theorem jK8 {X : Nat × (Nat → Int32)} {a0 : Nat} {x1 : Int32} {u : fm} {r : Int32} (h0 : fm_isA a0) (h : jF8 a0 x1 u = r) : ev X 8 0 [some (.inr (.inl (some a0))), some (.inl x1)] [] u ([.inl r], u) := by
  unfold jF8 at h
  refine ev_iload_n (pc := 0) (fe_8 rfl) rfl ?_
  refine fm_sp h (fun w1_0 h => ?_) (fun w1_0 h => ?_)
  refine ev_swk (pc := 1) (fe_8 rfl) (c := 0) (by rw [w1_0]; decide) (by decide) rfl (t := 52) rfl ?_
  refine ev_aload_n (pc := 52) (fe_8 rfl) rfl ?_
  refine ev_getI (pc := 53) (fe_8 rfl) fr_8 h0.1 ?_
  exact ev_R (ev_irt (pc := 56) (fe_8 rfl) rt_8) (by rw [← h])
  refine fm_sp h (fun w1_1 h => ?_) (fun w1_1 h => ?_)
  refine ev_swk (pc := 1) (fe_8 rfl) (c := 1) (by rw [w1_1]; decide) (by decide) rfl (t := 57) rfl ?_
  refine ev_aload_n (pc := 57) (fe_8 rfl) rfl ?_
  refine ev_getR (a1 := a0 + 3) (pc := 58) (fe_8 rfl) fr_1 h0.1 rfl ?_
  refine ev_getI (pc := 61) (fe_8 rfl) fr_22 h0.2.2.2.1 ?_
  exact ev_R (ev_irt (pc := 64) (fe_8 rfl) rt_8) (by rw [← h])
  refine fm_sp h (fun w1_2 h => ?_) (fun w1_2 h => ?_)
  refine ev_swk (pc := 1) (fe_8 rfl) (c := 2) (by rw [w1_2]; decide) (by decide) rfl (t := 65) rfl ?_
  refine ev_aload_n (pc := 65) (fe_8 rfl) rfl ?_
  refine ev_getR (a1 := a0 + 3) (pc := 66) (fe_8 rfl) fr_1 h0.1 rfl ?_
  refine ev_getI (pc := 69) (fe_8 rfl) fr_23 h0.2.2.2.1 ?_
  exact ev_R (ev_irt (pc := 72) (fe_8 rfl) rt_8) (by rw [← h])
  refine fm_sp h (fun w1_3 h => ?_) (fun w1_3 h => ?_)
  refine ev_swk (pc := 1) (fe_8 rfl) (c := 3) (by rw [w1_3]; decide) (by decide) rfl (t := 73) rfl ?_
  refine ev_aload_n (pc := 73) (fe_8 rfl) rfl ?_
  refine ev_getR (a1 := a0 + 3) (pc := 74) (fe_8 rfl) fr_1 h0.1 rfl ?_
  refine ev_getI (pc := 77) (fe_8 rfl) fr_21 h0.2.2.2.1 ?_
  exact ev_R (ev_irt (pc := 80) (fe_8 rfl) rt_8) (by rw [← h])
  refine fm_sp h (fun w1_4 h => ?_) (fun w1_4 h => ?_)
  refine ev_swk (pc := 1) (fe_8 rfl) (c := 4) (by rw [w1_4]; decide) (by decide) rfl (t := 81) rfl ?_
  refine ev_aload_n (pc := 81) (fe_8 rfl) rfl ?_
  refine ev_getI (pc := 82) (fe_8 rfl) fr_10 h0.1 ?_
  exact ev_R (ev_irt (pc := 85) (fe_8 rfl) rt_8) (by rw [← h])
  refine fm_sp h (fun w1_5 h => ?_) (fun w1_5 h => ?_)
  refine ev_swk (pc := 1) (fe_8 rfl) (c := 5) (by rw [w1_5]; decide) (by decide) rfl (t := 86) rfl ?_
  refine ev_aload_n (pc := 86) (fe_8 rfl) rfl ?_
  refine ev_getI (pc := 87) (fe_8 rfl) fr_11 h0.1 ?_
  exact ev_R (ev_irt (pc := 90) (fe_8 rfl) rt_8) (by rw [← h])
  refine fm_sp h (fun w1_6 h => ?_) (fun w1_6 h => ?_)
  refine ev_swk (pc := 1) (fe_8 rfl) (c := 6) (by rw [w1_6]; decide) (by decide) rfl (t := 91) rfl ?_
  refine ev_aload_n (pc := 91) (fe_8 rfl) rfl ?_
  refine ev_getR (a1 := a0 + 3) (pc := 92) (fe_8 rfl) fr_1 h0.1 rfl ?_
  refine ev_getR (a1 := a0 + 6) (pc := 95) (fe_8 rfl) fr_18 h0.2.2.2.1 rfl ?_
  refine ev_getI (pc := 98) (fe_8 rfl) fr_9 h0.2.2.2.2.2.2.1 ?_
  exact ev_R (ev_irt (pc := 101) (fe_8 rfl) rt_8) (by rw [← h])
  refine fm_sp h (fun w1_7 h => ?_) (fun w1_7 h => ?_)
  refine ev_swk (pc := 1) (fe_8 rfl) (c := 7) (by rw [w1_7]; decide) (by decide) rfl (t := 102) rfl ?_
  refine ev_aload_n (pc := 102) (fe_8 rfl) rfl ?_
  refine ev_getI (pc := 103) (fe_8 rfl) fr_25 h0.1 ?_
  exact ev_R (ev_irt (pc := 106) (fe_8 rfl) rt_8) (by rw [← h])
  refine fm_sp h (fun w1_8 h => ?_) (fun w1_8 h => ?_)
  refine ev_swk (pc := 1) (fe_8 rfl) (c := 8) (by rw [w1_8]; decide) (by decide) rfl (t := 107) rfl ?_
  refine ev_aload_n (pc := 107) (fe_8 rfl) rfl ?_
  refine ev_getI (pc := 108) (fe_8 rfl) fr_24 h0.1 ?_
  exact ev_R (ev_irt (pc := 111) (fe_8 rfl) rt_8) (by rw [← h])
  refine ev_swd (pc := 1) (fe_8 rfl) (t := 112) rfl (fm_swx (lo := 0) (n := 9) (List.forall_mem_cons.mpr ⟨w1_0, List.forall_mem_cons.mpr ⟨w1_1, List.forall_mem_cons.mpr ⟨w1_2, List.forall_mem_cons.mpr ⟨w1_3, List.forall_mem_cons.mpr ⟨w1_4, List.forall_mem_cons.mpr ⟨w1_5, List.forall_mem_cons.mpr ⟨w1_6, List.forall_mem_cons.mpr ⟨w1_7, List.forall_mem_cons.mpr ⟨w1_8, fun _ q => nomatch q⟩⟩⟩⟩⟩⟩⟩⟩⟩)) ?_
  refine ev_iconst (pc := 112) (fe_8 rfl) li_m1 ?_
  exact ev_R (ev_irt (pc := 113) (fe_8 rfl) rt_8) (by rw [← h])
/-- CallAgents$Media addOwn -/
def jF37_12 : Nat → Nat → Int32 → Int32 → fm → Option (Int32 × fm)
  | 0, _, _, _, _ => none
  | n + 1, a0, x2, x3, u =>
  if x3 < 8 then
  (if ((fm_shr x2 x3) &&& 1) = 1 then
  (Option.bind (jF36 a0 x3 u) (fun p3 => jF37_12 n a0 x2 (x3 + 1) p3))
  else
  (jF37_12 n a0 x2 (x3 + 1) u))
  else
  (some (1, u))
def jF37 (a0 : Nat) (x1 : Int32) (x2 : Int32) (u : fm) : Option (Int32 × fm) :=
  Option.bind (jF35 a0 x1 u) (fun p1 => if p1.1 = 0 then
  (some (0, p1.2))
  else
  (jF37_12 fm_N a0 x2 0 p1.2))
theorem jK37_12 {X : Nat × (Nat → Int32)} {r : Int32 × fm} : ∀ (n : Nat) (a0 : Nat) (x2 : Int32) (x3 : Int32) (u : fm) (h0 : fm_isD a0), jF37_12 n a0 x2 x3 u = some r → ev X 37 12 [some (.inr (.inl (some a0))), none, some (.inl x2), some (.inl x3)] [] u ([.inl r.1], r.2) := by
  intro n
  induction n with
  | zero =>
    intro _ _ _ _ _ h
    unfold jF37_12 at h
    cases h
  | succ n ih =>
  intro a0 x2 x3 u h0 h
  unfold jF37_12 at h
  refine ev_iload_n (pc := 12) (fe_37 rfl) rfl ?_
  refine ev_bipush (pc := 13) (fe_37 rfl) lb_8 ?_
  refine ev_ic_ge (pc := 15) (fe_37 rfl) (t := 38) rfl h (fun h => ?_) (fun h => ?_)
  refine ev_iconst (pc := 38) (fe_37 rfl) li_1 ?_
  exact ev_R (ev_zrt (pc := 39) (fe_37 rfl) rt_37 (Or.inr rfl)) (by rw [← Option.some.inj h])
  refine ev_iload_n (pc := 18) (fe_37 rfl) rfl ?_
  refine ev_iload_n (pc := 19) (fe_37 rfl) rfl ?_
  refine ev_ishr (pc := 20) (fe_37 rfl) ?_
  refine ev_iconst (pc := 21) (fe_37 rfl) li_1 ?_
  refine ev_iand (pc := 22) (fe_37 rfl) ?_
  refine ev_iconst (pc := 23) (fe_37 rfl) li_1 ?_
  refine ev_ic_ne (pc := 24) (fe_37 rfl) (t := 32) rfl h (fun h => ?_) (fun h => ?_)
  refine ev_iinc (pc := 32) (fe_37 rfl) mx_37 rfl rfl li_1 ?_
  refine ev_goto (pc := 35) (fe_37 rfl) (t := 12) rfl ?_
  exact ih a0 x2 (x3 + 1) u h0 h
  refine ev_aload_n (pc := 27) (fe_37 rfl) rfl ?_
  refine ev_iload_n (pc := 28) (fe_37 rfl) rfl ?_
  refine fm_bd h (fun p3 ep3 h => ?_)
  refine ev_callVk (pc := 29) (fe_37 rfl) (z := 36) (na := 2) (ow := 3) cg_37_47 rfl rfl rfl h0.1 (m := 2) rfl (jK36 h0 ep3) (st1 := []) rfl ?_
  refine ev_iinc (pc := 32) (fe_37 rfl) mx_37 rfl rfl li_1 ?_
  refine ev_goto (pc := 35) (fe_37 rfl) (t := 12) rfl ?_
  exact ih a0 x2 (x3 + 1) p3 h0 h
theorem jK37 {X : Nat × (Nat → Int32)} {a0 : Nat} {x1 : Int32} {x2 : Int32} {u : fm} {r : Int32 × fm} (h0 : fm_isD a0) (h : jF37 a0 x1 x2 u = some r) : ev X 37 0 [some (.inr (.inl (some a0))), some (.inl x1), some (.inl x2), none] [] u ([.inl r.1], r.2) := by
  unfold jF37 at h
  refine ev_aload_n (pc := 0) (fe_37 rfl) rfl ?_
  refine ev_iload_n (pc := 1) (fe_37 rfl) rfl ?_
  refine fm_bd h (fun p1 ep1 h => ?_)
  refine ev_callVZk (pc := 2) (fe_37 rfl) (z := 35) (na := 2) (ow := 3) cg_37_46 rfl rt_35 rfl rfl h0.1 (m := 0) rfl (jK35 h0 ep1) (st1 := [.inl p1.1]) rfl (fun z2 => ?_)
  refine ev_if_ne (pc := 5) (fe_37 rfl) (t := 10) rfl h (fun h => ?_) (fun h => ?_)
  refine ev_iconst (pc := 10) (fe_37 rfl) li_0 ?_
  refine ev_istore_n (pc := 11) (fe_37 rfl) mx_37 rfl ?_
  refine ev_w [true, false, true, true] ?_
  exact jK37_12 fm_N a0 x2 0 p1.2 h0 h
  refine ev_iconst (pc := 8) (fe_37 rfl) li_0 ?_
  exact ev_R (ev_zrt (pc := 9) (fe_37 rfl) rt_37 (Or.inl rfl)) (by rw [← Option.some.inj h])
/-- CallAgents$Text add -/
def jF73 (a0 : Nat) (x1 : Int32) (u : fm) : Option (Int32 × fm) :=
  if (fI u a0 1) < 0 then
  (some (0, u))
  else
  (if (fI u a0 1) < (Int32.ofNat (fm_ln (a0 + 1))) then
  (if fm_in (fI u a0 1) (fm_ln (a0 + 1)) then fm_let (sA u (a0 + 1) (Int32.toNatClampNeg (fI u a0 1)) (vp_nar .char (fm_i2c x1))) (fun u2 => fm_let (sI u2 a0 1 ((fI u2 a0 1) + 1)) (fun u3 => some (1, u3))) else none)
  else
  (some (0, u)))
theorem jK73 {X : Nat × (Nat → Int32)} {a0 : Nat} {x1 : Int32} {u : fm} {r : Int32 × fm} (h0 : fm_isT a0) (h : jF73 a0 x1 u = some r) : ev X 73 0 [some (.inr (.inl (some a0))), some (.inl x1)] [] u ([.inl r.1], r.2) := by
  unfold jF73 at h
  refine ev_aload_n (pc := 0) (fe_73 rfl) rfl ?_
  refine ev_getI (pc := 1) (fe_73 rfl) fr_89 h0.1 ?_
  refine ev_if_lt (pc := 4) (fe_73 rfl) (t := 19) rfl h (fun h => ?_) (fun h => ?_)
  refine ev_iconst (pc := 19) (fe_73 rfl) li_0 ?_
  exact ev_R (ev_zrt (pc := 20) (fe_73 rfl) rt_73 (Or.inl rfl)) (by rw [← Option.some.inj h])
  refine ev_aload_n (pc := 7) (fe_73 rfl) rfl ?_
  refine ev_getI (pc := 8) (fe_73 rfl) fr_89 h0.1 ?_
  refine ev_aload_n (pc := 11) (fe_73 rfl) rfl ?_
  refine ev_getR (a1 := a0 + 1) (pc := 12) (fe_73 rfl) fr_88 h0.1 rfl ?_
  refine ev_len (pc := 15) (fe_73 rfl) h0.2 rfl ?_
  refine ev_ic_lt (pc := 16) (fe_73 rfl) (t := 21) rfl h (fun h => ?_) (fun h => ?_)
  refine ev_aload_n (pc := 21) (fe_73 rfl) rfl ?_
  refine ev_getR (a1 := a0 + 1) (pc := 22) (fe_73 rfl) fr_88 h0.1 rfl ?_
  refine ev_aload_n (pc := 25) (fe_73 rfl) rfl ?_
  refine ev_getI (pc := 26) (fe_73 rfl) fr_89 h0.1 ?_
  refine ev_iload_n (pc := 29) (fe_73 rfl) rfl ?_
  refine ev_i2c (pc := 30) (fe_73 rfl) ?_
  refine fm_ob h (fun g1 h => ?_)
  refine fm_lt_h h (fun u2 eu2 h => ?_)
  refine ev_castore (pc := 31) (fe_73 rfl) h0.2 g1 eu2 ?_
  refine ev_aload_n (pc := 32) (fe_73 rfl) rfl ?_
  refine ev_dup (pc := 33) (fe_73 rfl) rfl ?_
  refine ev_getI (pc := 34) (fe_73 rfl) fr_89 h0.1 ?_
  refine ev_iconst (pc := 37) (fe_73 rfl) li_1 ?_
  refine ev_iadd (pc := 38) (fe_73 rfl) ?_
  refine fm_lt_h h (fun u3 eu3 h => ?_)
  refine ev_putI (pc := 39) (fe_73 rfl) fr_89 h0.1 eu3 ?_
  refine ev_iconst (pc := 42) (fe_73 rfl) li_1 ?_
  exact ev_R (ev_zrt (pc := 43) (fe_73 rfl) rt_73 (Or.inr rfl)) (by rw [← Option.some.inj h])
  refine ev_iconst (pc := 19) (fe_73 rfl) li_0 ?_
  exact ev_R (ev_zrt (pc := 20) (fe_73 rfl) rt_73 (Or.inl rfl)) (by rw [← Option.some.inj h])
/-- CallAgents$Text addWord -/
def jF74_2 : Nat → Nat → Nat → Int32 → fm → Option (fm)
  | 0, _, _, _, _ => none
  | n + 1, a0, w1, x2, u =>
  if x2 < (nI (fm_sl w1)) then
  (if fm_in x2 (fm_sl w1) then Option.bind (jF73 a0 (mm_sch (w1 - 1000001) (Int32.toNatClampNeg x2)) u) (fun p2 => jF74_2 n a0 w1 (x2 + 1) p2.2) else none)
  else
  (some u)
def jF74 (a0 : Nat) (w1 : Nat) (u : fm) : Option (fm) :=
  jF74_2 fm_N a0 w1 0 u
theorem jK74_2 {X : Nat × (Nat → Int32)} {r : fm} : ∀ (n : Nat) (a0 : Nat) (w1 : Nat) (x2 : Int32) (u : fm) (h0 : fm_isT a0) (h1 : fm_isS w1), jF74_2 n a0 w1 x2 u = some r → ev X 74 2 [some (.inr (.inl (some a0))), some (.inr (.inl (some w1))), some (.inl x2)] [] u ([], r) := by
  intro n
  induction n with
  | zero =>
    intro _ _ _ _ _ _ h
    unfold jF74_2 at h
    cases h
  | succ n ih =>
  intro a0 w1 x2 u h0 h1 h
  unfold jF74_2 at h
  refine ev_iload_n (pc := 2) (fe_74 rfl) rfl ?_
  refine ev_aload_n (pc := 3) (fe_74 rfl) rfl ?_
  refine ev_strlen (pc := 4) (fe_74 rfl) rfl (by decide +kernel) rfl h1 ?_
  refine ev_ic_ge (pc := 7) (fe_74 rfl) (t := 26) rfl h (fun h => ?_) (fun h => ?_)
  exact ev_R (ev_vrt (pc := 26) (fe_74 rfl) rt_74) (by rw [← Option.some.inj h])
  refine ev_aload_n (pc := 10) (fe_74 rfl) rfl ?_
  refine ev_aload_n (pc := 11) (fe_74 rfl) rfl ?_
  refine ev_iload_n (pc := 12) (fe_74 rfl) rfl ?_
  refine fm_ob h (fun g1 h => ?_)
  refine ev_charAt (pc := 13) (fe_74 rfl) rfl (by decide +kernel) rfl h1 g1 ?_
  refine fm_bd h (fun p2 ep2 h => ?_)
  refine ev_callVZk (pc := 16) (fe_74 rfl) (z := 73) (na := 2) (ow := 6) cg_74_100 rfl rt_73 rfl rfl h0.1 (m := 0) rfl (jK73 h0 ep2) (st1 := [.inl p2.1]) rfl (fun z3 => ?_)
  refine ev_pop (pc := 19) (fe_74 rfl) rfl ?_
  refine ev_iinc (pc := 20) (fe_74 rfl) mx_74 rfl rfl li_1 ?_
  refine ev_goto (pc := 23) (fe_74 rfl) (t := 2) rfl ?_
  exact ih a0 w1 (x2 + 1) p2.2 h0 h1 h
theorem jK74 {X : Nat × (Nat → Int32)} {a0 : Nat} {w1 : Nat} {u : fm} {r : fm} (h0 : fm_isT a0) (h1 : fm_isS w1) (h : jF74 a0 w1 u = some r) : ev X 74 0 [some (.inr (.inl (some a0))), some (.inr (.inl (some w1))), none] [] u ([], r) := by
  unfold jF74 at h
  refine ev_iconst (pc := 0) (fe_74 rfl) li_0 ?_
  refine ev_istore_n (pc := 1) (fe_74 rfl) mx_74 rfl ?_
  exact jK74_2 fm_N a0 w1 0 u h0 h1 h
/-- CallAgents$Text addNumber -/
def jF75_31 (k5 : Nat → Int32 → Int32 → Int32 → fm → Option (fm)) (a0 : Nat) (x1 : Int32) (x3 : Int32) (x4 : Int32) (u : fm) : Option (fm) :=
  Option.bind (jF73 a0 (48 + x4) u) (fun p2 => k5 a0 x1 1 (x3 / 10) p2.2)
def jF75_5 : Nat → Nat → Int32 → Int32 → Int32 → fm → Option (fm)
  | 0, _, _, _, _, _ => none
  | n + 1, a0, x1, x2, x3, u =>
  if 0 < x3 then
  (if x3 = 0 then none else if x2 = 0 then
  (if (fm_rem (x1 / x3) 10) = 0 then
  (if x3 = 1 then
  (jF75_31 (fun a0' x1' x2' x3' u' => jF75_5 n a0' x1' x2' x3' u') a0 x1 x3 (fm_rem (x1 / x3) 10) u)
  else
  (jF75_5 n a0 x1 0 (x3 / 10) u))
  else
  (jF75_31 (fun a0' x1' x2' x3' u' => jF75_5 n a0' x1' x2' x3' u') a0 x1 x3 (fm_rem (x1 / x3) 10) u))
  else
  (jF75_31 (fun a0' x1' x2' x3' u' => jF75_5 n a0' x1' x2' x3' u') a0 x1 x3 (fm_rem (x1 / x3) 10) u))
  else
  (some u)
def jF75 (a0 : Nat) (x1 : Int32) (u : fm) : Option (fm) :=
  jF75_5 fm_N a0 x1 0 1000000000 u
theorem jK75_31 {X : Nat × (Nat → Int32)} {r : fm} {k5 : Nat → Int32 → Int32 → Int32 → fm → Option (fm)} (a0 : Nat) (x1 : Int32) (x3 : Int32) (x4 : Int32) (u : fm) (h0 : fm_isT a0) (hk5 : ∀ (a0 : Nat) (x1 : Int32) (x2 : Int32) (x3 : Int32) (u : fm), fm_isT a0 → (x2 = 0 ∨ x2 = 1) → k5 a0 x1 x2 x3 u = some r → ev X 75 5 [some (.inr (.inl (some a0))), some (.inl x1), some (.inl x2), some (.inl x3), none] [] u ([], r)) (h : jF75_31 k5 a0 x1 x3 x4 u = some r) : ev X 75 31 [some (.inr (.inl (some a0))), some (.inl x1), none, some (.inl x3), some (.inl x4)] [] u ([], r) := by
  unfold jF75_31 at h
  refine ev_iconst (pc := 31) (fe_75 rfl) li_1 ?_
  refine ev_goto (pc := 32) (fe_75 rfl) (t := 36) rfl ?_
  refine ev_istore_n (pc := 36) (fe_75 rfl) mx_75 rfl ?_
  refine ev_iload_n (pc := 37) (fe_75 rfl) rfl ?_
  refine ev_ifc (pc := 38) (fe_75 rfl) (t := 51) (t1 := 41) (b := false) rfl (by decide) rfl ?_
  refine ev_aload_n (pc := 41) (fe_75 rfl) rfl ?_
  refine ev_bipush (pc := 42) (fe_75 rfl) lb_48 ?_
  refine ev_iload (pc := 44) (fe_75 rfl) rfl ?_
  refine ev_iadd (pc := 46) (fe_75 rfl) ?_
  refine fm_bd h (fun p2 ep2 h => ?_)
  refine ev_callVZk (pc := 47) (fe_75 rfl) (z := 73) (na := 2) (ow := 6) cg_75_100 rfl rt_73 rfl rfl h0.1 (m := 0) rfl (jK73 h0 ep2) (st1 := [.inl p2.1]) rfl (fun z3 => ?_)
  refine ev_pop (pc := 50) (fe_75 rfl) rfl ?_
  refine ev_iload_n (pc := 51) (fe_75 rfl) rfl ?_
  refine ev_bipush (pc := 52) (fe_75 rfl) lb_10 ?_
  refine ev_idiv (pc := 54) (fe_75 rfl) (by decide) ?_
  refine ev_istore_n (pc := 55) (fe_75 rfl) mx_75 rfl ?_
  refine ev_goto (pc := 56) (fe_75 rfl) (t := 5) rfl ?_
  refine ev_w [true, true, true, true, false] ?_
  exact hk5 a0 x1 1 (x3 / 10) p2.2 h0 (Or.inr rfl) h
theorem jK75_5 {X : Nat × (Nat → Int32)} {r : fm} : ∀ (n : Nat) (a0 : Nat) (x1 : Int32) (x2 : Int32) (x3 : Int32) (u : fm) (h0 : fm_isT a0) (b_x2 : x2 = 0 ∨ x2 = 1), jF75_5 n a0 x1 x2 x3 u = some r → ev X 75 5 [some (.inr (.inl (some a0))), some (.inl x1), some (.inl x2), some (.inl x3), none] [] u ([], r) := by
  intro n
  induction n with
  | zero =>
    intro _ _ _ _ _ _ _ h
    unfold jF75_5 at h
    cases h
  | succ n ih =>
  intro a0 x1 x2 x3 u h0 b_x2 h
  unfold jF75_5 at h
  refine ev_iload_n (pc := 5) (fe_75 rfl) rfl ?_
  refine ev_if_le (pc := 6) (fe_75 rfl) (t := 59) rfl h (fun h => ?_) (fun h => ?_)
  exact ev_R (ev_vrt (pc := 59) (fe_75 rfl) rt_75) (by rw [← Option.some.inj h])
  refine ev_iload_n (pc := 9) (fe_75 rfl) rfl ?_
  refine ev_iload_n (pc := 10) (fe_75 rfl) rfl ?_
  refine fm_nb h (fun g1 h => ?_)
  refine ev_idiv (pc := 11) (fe_75 rfl) g1 ?_
  refine ev_bipush (pc := 12) (fe_75 rfl) lb_10 ?_
  refine ev_irem (pc := 14) (fe_75 rfl) (by decide) ?_
  refine ev_istore (pc := 15) (fe_75 rfl) mx_75 rfl ?_
  refine ev_iload_n (pc := 17) (fe_75 rfl) rfl ?_
  refine ev_if_ne (pc := 18) (fe_75 rfl) (t := 31) rfl h (fun h => ?_) (fun h => ?_)
  refine ev_w [true, true, false, true, true] ?_
  exact jK75_31 a0 x1 x3 (fm_rem (x1 / x3) 10) u h0 (fun a0' x1' x2' x3' u' c0 b0 h => ih a0' x1' x2' x3' u' c0 b0 h) h
  refine ev_iload (pc := 21) (fe_75 rfl) rfl ?_
  refine ev_if_ne (pc := 23) (fe_75 rfl) (t := 31) rfl h (fun h => ?_) (fun h => ?_)
  refine ev_w [true, true, false, true, true] ?_
  exact jK75_31 a0 x1 x3 (fm_rem (x1 / x3) 10) u h0 (fun a0' x1' x2' x3' u' c0 b0 h => ih a0' x1' x2' x3' u' c0 b0 h) h
  refine ev_iload_n (pc := 26) (fe_75 rfl) rfl ?_
  refine ev_iconst (pc := 27) (fe_75 rfl) li_1 ?_
  refine ev_ic_ne (pc := 28) (fe_75 rfl) (t := 35) rfl h (fun h => ?_) (fun h => ?_)
  refine ev_iconst (pc := 35) (fe_75 rfl) li_0 ?_
  refine ev_istore_n (pc := 36) (fe_75 rfl) mx_75 rfl ?_
  refine ev_iload_n (pc := 37) (fe_75 rfl) rfl ?_
  refine ev_ifc (pc := 38) (fe_75 rfl) (t := 51) (t1 := 51) (b := true) rfl (by decide) rfl ?_
  refine ev_iload_n (pc := 51) (fe_75 rfl) rfl ?_
  refine ev_bipush (pc := 52) (fe_75 rfl) lb_10 ?_
  refine ev_idiv (pc := 54) (fe_75 rfl) (by decide) ?_
  refine ev_istore_n (pc := 55) (fe_75 rfl) mx_75 rfl ?_
  refine ev_goto (pc := 56) (fe_75 rfl) (t := 5) rfl ?_
  refine ev_w [true, true, true, true, false] ?_
  exact ih a0 x1 0 (x3 / 10) u h0 (Or.inl rfl) h
  refine ev_w [true, true, false, true, true] ?_
  exact jK75_31 a0 x1 x3 (fm_rem (x1 / x3) 10) u h0 (fun a0' x1' x2' x3' u' c0 b0 h => ih a0' x1' x2' x3' u' c0 b0 h) h
theorem jK75 {X : Nat × (Nat → Int32)} {a0 : Nat} {x1 : Int32} {u : fm} {r : fm} (h0 : fm_isT a0) (h : jF75 a0 x1 u = some r) : ev X 75 0 [some (.inr (.inl (some a0))), some (.inl x1), none, none, none] [] u ([], r) := by
  unfold jF75 at h
  refine ev_iconst (pc := 0) (fe_75 rfl) li_0 ?_
  refine ev_istore_n (pc := 1) (fe_75 rfl) mx_75 rfl ?_
  refine ev_ldc (pc := 2) (fe_75 rfl) (c := 1000000000) rfl ?_
  refine ev_istore_n (pc := 4) (fe_75 rfl) mx_75 rfl ?_
  exact jK75_5 fm_N a0 x1 0 1000000000 u h0 (Or.inl rfl) h
/-- CallAgents$Media write -/
def jF43_28 : Nat → (Nat → Nat → Int32 → fm → Option (fm)) → Nat → Nat → Int32 → Int32 → fm → Option (fm)
  | 0, _, _, _, _, _, _ => none
  | n + 1, k2, a0, a1, x2, x3, u =>
  Option.bind (jF34 a0 x2 1 u) (fun p4 => if x3 < p4 then
  (Option.bind (jF73 a1 32 u) (fun p7 => Option.bind (jF34 a0 x2 (2 + x3) p7.2) (fun p9 => Option.bind (jF75 a1 p9 p7.2) (fun p10 => jF43_28 n k2 a0 a1 x2 (x3 + 1) p10))))
  else
  (Option.bind (jF73 a1 10 u) (fun p5 => k2 a0 a1 (x2 + 1) p5.2)))
def jF43_2 : Nat → Nat → Nat → Int32 → fm → Option (fm)
  | 0, _, _, _, _ => none
  | n + 1, a0, a1, x2, u =>
  if x2 < (fI u a0 1) then
  (Option.bind (jF74 a1 1000001 u) (fun p1 => Option.bind (jF34 a0 x2 0 p1) (fun p2 => Option.bind (jF75 a1 p2 p1) (fun p3 => jF43_28 fm_N (fun a0' a1' x2' u' => jF43_2 n a0' a1' x2' u') a0 a1 x2 0 p3))))
  else
  (some u)
def jF43 (a0 : Nat) (a1 : Nat) (u : fm) : Option (fm) :=
  jF43_2 fm_N a0 a1 0 u
theorem jK43_28 {X : Nat × (Nat → Int32)} {r : fm} {k2 : Nat → Nat → Int32 → fm → Option (fm)} : ∀ (n : Nat) (a0 : Nat) (a1 : Nat) (x2 : Int32) (x3 : Int32) (u : fm) (h0 : fm_isD a0) (h1 : fm_isT a1) (hk2 : ∀ (a0 : Nat) (a1 : Nat) (x2 : Int32) (u : fm), fm_isD a0 → fm_isT a1 → k2 a0 a1 x2 u = some r → ev X 43 2 [some (.inr (.inl (some a0))), some (.inr (.inl (some a1))), some (.inl x2), none] [] u ([], r)), jF43_28 n k2 a0 a1 x2 x3 u = some r → ev X 43 28 [some (.inr (.inl (some a0))), some (.inr (.inl (some a1))), some (.inl x2), some (.inl x3)] [] u ([], r) := by
  intro n
  induction n with
  | zero =>
    intro _ _ _ _ _ _ _ _ h
    unfold jF43_28 at h
    cases h
  | succ n ih =>
  intro a0 a1 x2 x3 u h0 h1 hk2 h
  unfold jF43_28 at h
  refine ev_iload_n (pc := 28) (fe_43 rfl) rfl ?_
  refine ev_aload_n (pc := 29) (fe_43 rfl) rfl ?_
  refine ev_iload_n (pc := 30) (fe_43 rfl) rfl ?_
  refine ev_iconst (pc := 31) (fe_43 rfl) li_1 ?_
  refine fm_bd h (fun p4 ep4 h => ?_)
  refine ev_callVk (pc := 32) (fe_43 rfl) (z := 34) (na := 3) (ow := 3) cg_43_49 rfl rfl rfl h0.1 (m := 1) rfl (jK34 h0 ep4) (st1 := [.inl p4, .inl x3]) rfl ?_
  refine ev_ic_ge (pc := 35) (fe_43 rfl) (t := 63) rfl h (fun h => ?_) (fun h => ?_)
  refine ev_aload_n (pc := 63) (fe_43 rfl) rfl ?_
  refine ev_bipush (pc := 64) (fe_43 rfl) lb_10 ?_
  refine fm_bd h (fun p5 ep5 h => ?_)
  refine ev_callVZk (pc := 66) (fe_43 rfl) (z := 73) (na := 2) (ow := 6) cg_43_54 rfl rt_73 rfl rfl h1.1 (m := 0) rfl (jK73 h1 ep5) (st1 := [.inl p5.1]) rfl (fun z6 => ?_)
  refine ev_pop (pc := 69) (fe_43 rfl) rfl ?_
  refine ev_iinc (pc := 70) (fe_43 rfl) mx_43 rfl rfl li_1 ?_
  refine ev_goto (pc := 73) (fe_43 rfl) (t := 2) rfl ?_
  refine ev_w [true, true, true, false] ?_
  exact hk2 a0 a1 (x2 + 1) p5.2 h0 h1 h
  refine ev_aload_n (pc := 38) (fe_43 rfl) rfl ?_
  refine ev_bipush (pc := 39) (fe_43 rfl) lb_32 ?_
  refine fm_bd h (fun p7 ep7 h => ?_)
  refine ev_callVZk (pc := 41) (fe_43 rfl) (z := 73) (na := 2) (ow := 6) cg_43_54 rfl rt_73 rfl rfl h1.1 (m := 0) rfl (jK73 h1 ep7) (st1 := [.inl p7.1]) rfl (fun z8 => ?_)
  refine ev_pop (pc := 44) (fe_43 rfl) rfl ?_
  refine ev_aload_n (pc := 45) (fe_43 rfl) rfl ?_
  refine ev_aload_n (pc := 46) (fe_43 rfl) rfl ?_
  refine ev_iload_n (pc := 47) (fe_43 rfl) rfl ?_
  refine ev_iconst (pc := 48) (fe_43 rfl) li_2 ?_
  refine ev_iload_n (pc := 49) (fe_43 rfl) rfl ?_
  refine ev_iadd (pc := 50) (fe_43 rfl) ?_
  refine fm_bd h (fun p9 ep9 h => ?_)
  refine ev_callVk (pc := 51) (fe_43 rfl) (z := 34) (na := 3) (ow := 3) cg_43_49 rfl rfl rfl h0.1 (m := 1) rfl (jK34 h0 ep9) (st1 := [.inl p9, .inr (.inl (some a1))]) rfl ?_
  refine fm_bd h (fun p10 ep10 h => ?_)
  refine ev_callVk (pc := 54) (fe_43 rfl) (z := 75) (na := 2) (ow := 6) cg_43_53 rfl rfl rfl h1.1 (m := 3) rfl (jK75 h1 ep10) (st1 := []) rfl ?_
  refine ev_iinc (pc := 57) (fe_43 rfl) mx_43 rfl rfl li_1 ?_
  refine ev_goto (pc := 60) (fe_43 rfl) (t := 28) rfl ?_
  exact ih a0 a1 x2 (x3 + 1) p10 h0 h1 hk2 h
theorem jK43_2 {X : Nat × (Nat → Int32)} {r : fm} : ∀ (n : Nat) (a0 : Nat) (a1 : Nat) (x2 : Int32) (u : fm) (h0 : fm_isD a0) (h1 : fm_isT a1), jF43_2 n a0 a1 x2 u = some r → ev X 43 2 [some (.inr (.inl (some a0))), some (.inr (.inl (some a1))), some (.inl x2), none] [] u ([], r) := by
  intro n
  induction n with
  | zero =>
    intro _ _ _ _ _ _ h
    unfold jF43_2 at h
    cases h
  | succ n ih =>
  intro a0 a1 x2 u h0 h1 h
  unfold jF43_2 at h
  refine ev_iload_n (pc := 2) (fe_43 rfl) rfl ?_
  refine ev_aload_n (pc := 3) (fe_43 rfl) rfl ?_
  refine ev_getI (pc := 4) (fe_43 rfl) fr_54 h0.1 ?_
  refine ev_ic_ge (pc := 7) (fe_43 rfl) (t := 76) rfl h (fun h => ?_) (fun h => ?_)
  exact ev_R (ev_vrt (pc := 76) (fe_43 rfl) rt_43) (by rw [← Option.some.inj h])
  refine ev_aload_n (pc := 10) (fe_43 rfl) rfl ?_
  refine ev_ldcs (pc := 11) (fe_43 rfl) (j := 0) rfl rfl ?_
  refine fm_bd h (fun p1 ep1 h => ?_)
  refine ev_callVk (pc := 13) (fe_43 rfl) (z := 74) (na := 2) (ow := 6) cg_43_52 rfl rfl rfl h1.1 (m := 1) rfl (jK74 h1 ⟨by decide, by decide⟩ ep1) (st1 := []) rfl ?_
  refine ev_aload_n (pc := 16) (fe_43 rfl) rfl ?_
  refine ev_aload_n (pc := 17) (fe_43 rfl) rfl ?_
  refine ev_iload_n (pc := 18) (fe_43 rfl) rfl ?_
  refine ev_iconst (pc := 19) (fe_43 rfl) li_0 ?_
  refine fm_bd h (fun p2 ep2 h => ?_)
  refine ev_callVk (pc := 20) (fe_43 rfl) (z := 34) (na := 3) (ow := 3) cg_43_49 rfl rfl rfl h0.1 (m := 1) rfl (jK34 h0 ep2) (st1 := [.inl p2, .inr (.inl (some a1))]) rfl ?_
  refine fm_bd h (fun p3 ep3 h => ?_)
  refine ev_callVk (pc := 23) (fe_43 rfl) (z := 75) (na := 2) (ow := 6) cg_43_53 rfl rfl rfl h1.1 (m := 3) rfl (jK75 h1 ep3) (st1 := []) rfl ?_
  refine ev_iconst (pc := 26) (fe_43 rfl) li_0 ?_
  refine ev_istore_n (pc := 27) (fe_43 rfl) mx_43 rfl ?_
  exact jK43_28 fm_N a0 a1 x2 0 p3 h0 h1 (fun a0' a1' x2' u' c0 c1 h => ih a0' a1' x2' u' c0 c1 h) h
theorem jK43 {X : Nat × (Nat → Int32)} {a0 : Nat} {a1 : Nat} {u : fm} {r : fm} (h0 : fm_isD a0) (h1 : fm_isT a1) (h : jF43 a0 a1 u = some r) : ev X 43 0 [some (.inr (.inl (some a0))), some (.inr (.inl (some a1))), none, none] [] u ([], r) := by
  unfold jF43 at h
  refine ev_iconst (pc := 0) (fe_43 rfl) li_0 ?_
  refine ev_istore_n (pc := 1) (fe_43 rfl) mx_43 rfl ?_
  exact jK43_2 fm_N a0 a1 0 u h0 h1 h
/-- CallAgents$Message isRequest -/
def jF45 (a0 : Nat) (u : fm) : Int32 :=
  if 2 < (fI u a0 1) then
  (0)
  else
  (1)
theorem jK45 {X : Nat × (Nat → Int32)} {a0 : Nat} {u : fm} {r : Int32} (h0 : fm_isM a0) (h : jF45 a0 u = r) : ev X 45 0 [some (.inr (.inl (some a0)))] [] u ([.inl r], u) := by
  unfold jF45 at h
  refine ev_aload_n (pc := 0) (fe_45 rfl) rfl ?_
  refine ev_getI (pc := 1) (fe_45 rfl) fr_56 h0.1 ?_
  refine ev_iconst (pc := 4) (fe_45 rfl) li_2 ?_
  refine ev_ic_gt (pc := 5) (fe_45 rfl) (t := 12) rfl h (fun h => ?_) (fun h => ?_)
  refine ev_iconst (pc := 12) (fe_45 rfl) li_0 ?_
  exact ev_R (ev_zrt (pc := 13) (fe_45 rfl) rt_45 (Or.inl rfl)) (by rw [← h])
  refine ev_iconst (pc := 8) (fe_45 rfl) li_1 ?_
  refine ev_goto (pc := 9) (fe_45 rfl) (t := 13) rfl ?_
  exact ev_R (ev_zrt (pc := 13) (fe_45 rfl) rt_45 (Or.inr rfl)) (by rw [← h])
/-- CallAgents$Message receiver -/
def jF46 (a0 : Nat) (u : fm) : Int32 :=
  if (jF45 a0 u) = 0 then
  (fI u a0 3)
  else
  (fI u a0 2)
theorem jK46 {X : Nat × (Nat → Int32)} {a0 : Nat} {u : fm} {r : Int32} (h0 : fm_isM a0) (h : jF46 a0 u = r) : ev X 46 0 [some (.inr (.inl (some a0)))] [] u ([.inl r], u) := by
  unfold jF46 at h
  refine ev_aload_n (pc := 0) (fe_46 rfl) rfl ?_
  refine ev_callVZk (pc := 1) (fe_46 rfl) (z := 45) (na := 1) (ow := 4) cg_46_57 rfl rt_45 rfl rfl h0.1 (m := 0) rfl (jK45 h0 rfl) (st1 := [.inl (jF45 a0 u)]) rfl (fun z1 => ?_)
  refine ev_if_eq (pc := 4) (fe_46 rfl) (t := 14) rfl h (fun h => ?_) (fun h => ?_)
  refine ev_aload_n (pc := 14) (fe_46 rfl) rfl ?_
  refine ev_getI (pc := 15) (fe_46 rfl) fr_58 h0.1 ?_
  exact ev_R (ev_irt (pc := 18) (fe_46 rfl) rt_46) (by rw [← h])
  refine ev_aload_n (pc := 7) (fe_46 rfl) rfl ?_
  refine ev_getI (pc := 8) (fe_46 rfl) fr_57 h0.1 ?_
  refine ev_goto (pc := 11) (fe_46 rfl) (t := 18) rfl ?_
  exact ev_R (ev_irt (pc := 18) (fe_46 rfl) rt_46) (by rw [← h])
/-- CallAgents$Words get -/
def jF84 (x0 : Int32) : Nat :=
  if x0 = 0 then
  (1000009)
  else if x0 = 1 then
  (1000010)
  else if x0 = 2 then
  (1000011)
  else if x0 = 3 then
  (1000012)
  else if x0 = 4 then
  (1000013)
  else if x0 = 5 then
  (1000014)
  else if x0 = 6 then
  (1000015)
  else if x0 = 7 then
  (1000016)
  else if x0 = 8 then
  (1000017)
  else if x0 = 9 then
  (1000018)
  else if x0 = 10 then
  (1000019)
  else if x0 = 11 then
  (1000020)
  else if x0 = 12 then
  (1000021)
  else if x0 = 13 then
  (1000022)
  else if x0 = 14 then
  (1000023)
  else (1000024)
theorem jK84 {X : Nat × (Nat → Int32)} {x0 : Int32} {u : fm} {r : Nat} (h : jF84 x0 = r) : ev X 84 0 [some (.inl x0)] [] u ([.inr (.inl (some r))], u) := by
  unfold jF84 at h
  refine ev_iload_n (pc := 0) (fe_84 rfl) rfl ?_
  refine fm_sp h (fun w1_0 h => ?_) (fun w1_0 h => ?_)
  refine ev_swk (pc := 1) (fe_84 rfl) (c := 0) (by rw [w1_0]; decide) (by decide) rfl (t := 76) rfl ?_
  refine ev_ldcs (pc := 76) (fe_84 rfl) (j := 8) rfl rfl ?_
  exact ev_R (ev_art (pc := 78) (fe_84 rfl) rt_84) (by cases h; rfl)
  refine fm_sp h (fun w1_1 h => ?_) (fun w1_1 h => ?_)
  refine ev_swk (pc := 1) (fe_84 rfl) (c := 1) (by rw [w1_1]; decide) (by decide) rfl (t := 79) rfl ?_
  refine ev_ldcs (pc := 79) (fe_84 rfl) (j := 9) rfl rfl ?_
  exact ev_R (ev_art (pc := 81) (fe_84 rfl) rt_84) (by cases h; rfl)
  refine fm_sp h (fun w1_2 h => ?_) (fun w1_2 h => ?_)
  refine ev_swk (pc := 1) (fe_84 rfl) (c := 2) (by rw [w1_2]; decide) (by decide) rfl (t := 82) rfl ?_
  refine ev_ldcs (pc := 82) (fe_84 rfl) (j := 10) rfl rfl ?_
  exact ev_R (ev_art (pc := 84) (fe_84 rfl) rt_84) (by cases h; rfl)
  refine fm_sp h (fun w1_3 h => ?_) (fun w1_3 h => ?_)
  refine ev_swk (pc := 1) (fe_84 rfl) (c := 3) (by rw [w1_3]; decide) (by decide) rfl (t := 85) rfl ?_
  refine ev_ldcs (pc := 85) (fe_84 rfl) (j := 11) rfl rfl ?_
  exact ev_R (ev_art (pc := 87) (fe_84 rfl) rt_84) (by cases h; rfl)
  refine fm_sp h (fun w1_4 h => ?_) (fun w1_4 h => ?_)
  refine ev_swk (pc := 1) (fe_84 rfl) (c := 4) (by rw [w1_4]; decide) (by decide) rfl (t := 88) rfl ?_
  refine ev_ldcs (pc := 88) (fe_84 rfl) (j := 12) rfl rfl ?_
  exact ev_R (ev_art (pc := 90) (fe_84 rfl) rt_84) (by cases h; rfl)
  refine fm_sp h (fun w1_5 h => ?_) (fun w1_5 h => ?_)
  refine ev_swk (pc := 1) (fe_84 rfl) (c := 5) (by rw [w1_5]; decide) (by decide) rfl (t := 91) rfl ?_
  refine ev_ldcs (pc := 91) (fe_84 rfl) (j := 13) rfl rfl ?_
  exact ev_R (ev_art (pc := 93) (fe_84 rfl) rt_84) (by cases h; rfl)
  refine fm_sp h (fun w1_6 h => ?_) (fun w1_6 h => ?_)
  refine ev_swk (pc := 1) (fe_84 rfl) (c := 6) (by rw [w1_6]; decide) (by decide) rfl (t := 94) rfl ?_
  refine ev_ldcs (pc := 94) (fe_84 rfl) (j := 14) rfl rfl ?_
  exact ev_R (ev_art (pc := 96) (fe_84 rfl) rt_84) (by cases h; rfl)
  refine fm_sp h (fun w1_7 h => ?_) (fun w1_7 h => ?_)
  refine ev_swk (pc := 1) (fe_84 rfl) (c := 7) (by rw [w1_7]; decide) (by decide) rfl (t := 97) rfl ?_
  refine ev_ldcs (pc := 97) (fe_84 rfl) (j := 15) rfl rfl ?_
  exact ev_R (ev_art (pc := 99) (fe_84 rfl) rt_84) (by cases h; rfl)
  refine fm_sp h (fun w1_8 h => ?_) (fun w1_8 h => ?_)
  refine ev_swk (pc := 1) (fe_84 rfl) (c := 8) (by rw [w1_8]; decide) (by decide) rfl (t := 100) rfl ?_
  refine ev_ldcs (pc := 100) (fe_84 rfl) (j := 16) rfl rfl ?_
  exact ev_R (ev_art (pc := 102) (fe_84 rfl) rt_84) (by cases h; rfl)
  refine fm_sp h (fun w1_9 h => ?_) (fun w1_9 h => ?_)
  refine ev_swk (pc := 1) (fe_84 rfl) (c := 9) (by rw [w1_9]; decide) (by decide) rfl (t := 103) rfl ?_
  refine ev_ldcs (pc := 103) (fe_84 rfl) (j := 17) rfl rfl ?_
  exact ev_R (ev_art (pc := 105) (fe_84 rfl) rt_84) (by cases h; rfl)
  refine fm_sp h (fun w1_10 h => ?_) (fun w1_10 h => ?_)
  refine ev_swk (pc := 1) (fe_84 rfl) (c := 10) (by rw [w1_10]; decide) (by decide) rfl (t := 106) rfl ?_
  refine ev_ldcs (pc := 106) (fe_84 rfl) (j := 18) rfl rfl ?_
  exact ev_R (ev_art (pc := 108) (fe_84 rfl) rt_84) (by cases h; rfl)
  refine fm_sp h (fun w1_11 h => ?_) (fun w1_11 h => ?_)
  refine ev_swk (pc := 1) (fe_84 rfl) (c := 11) (by rw [w1_11]; decide) (by decide) rfl (t := 109) rfl ?_
  refine ev_ldcs (pc := 109) (fe_84 rfl) (j := 19) rfl rfl ?_
  exact ev_R (ev_art (pc := 111) (fe_84 rfl) rt_84) (by cases h; rfl)
  refine fm_sp h (fun w1_12 h => ?_) (fun w1_12 h => ?_)
  refine ev_swk (pc := 1) (fe_84 rfl) (c := 12) (by rw [w1_12]; decide) (by decide) rfl (t := 112) rfl ?_
  refine ev_ldcs (pc := 112) (fe_84 rfl) (j := 20) rfl rfl ?_
  exact ev_R (ev_art (pc := 114) (fe_84 rfl) rt_84) (by cases h; rfl)
  refine fm_sp h (fun w1_13 h => ?_) (fun w1_13 h => ?_)
  refine ev_swk (pc := 1) (fe_84 rfl) (c := 13) (by rw [w1_13]; decide) (by decide) rfl (t := 115) rfl ?_
  refine ev_ldcs (pc := 115) (fe_84 rfl) (j := 21) rfl rfl ?_
  exact ev_R (ev_art (pc := 117) (fe_84 rfl) rt_84) (by cases h; rfl)
  refine fm_sp h (fun w1_14 h => ?_) (fun w1_14 h => ?_)
  refine ev_swk (pc := 1) (fe_84 rfl) (c := 14) (by rw [w1_14]; decide) (by decide) rfl (t := 118) rfl ?_
  refine ev_ldcs (pc := 118) (fe_84 rfl) (j := 22) rfl rfl ?_
  exact ev_R (ev_art (pc := 120) (fe_84 rfl) rt_84) (by cases h; rfl)
  refine ev_swd (pc := 1) (fe_84 rfl) (t := 121) rfl (fm_swx (lo := 0) (n := 15) (List.forall_mem_cons.mpr ⟨w1_0, List.forall_mem_cons.mpr ⟨w1_1, List.forall_mem_cons.mpr ⟨w1_2, List.forall_mem_cons.mpr ⟨w1_3, List.forall_mem_cons.mpr ⟨w1_4, List.forall_mem_cons.mpr ⟨w1_5, List.forall_mem_cons.mpr ⟨w1_6, List.forall_mem_cons.mpr ⟨w1_7, List.forall_mem_cons.mpr ⟨w1_8, List.forall_mem_cons.mpr ⟨w1_9, List.forall_mem_cons.mpr ⟨w1_10, List.forall_mem_cons.mpr ⟨w1_11, List.forall_mem_cons.mpr ⟨w1_12, List.forall_mem_cons.mpr ⟨w1_13, List.forall_mem_cons.mpr ⟨w1_14, fun _ q => nomatch q⟩⟩⟩⟩⟩⟩⟩⟩⟩⟩⟩⟩⟩⟩⟩)) ?_
  refine ev_ldcs (pc := 121) (fe_84 rfl) (j := 23) rfl rfl ?_
  exact ev_R (ev_art (pc := 123) (fe_84 rfl) rt_84) (by cases h; rfl)
theorem jP84 {x : Int32} {w : Nat} (h : jF84 x = w) : fm_isS w := by
  subst h
  unfold jF84
  repeat refine fm_ite_S ⟨by decide, by decide⟩ ?_
  exact ⟨by decide, by decide⟩
/-- CallAgents$Message writeAddresses -/
def jF51 (a0 : Nat) (a1 : Nat) (u : fm) : Option (fm) :=
  fm_let (jF84 7) (fun w1 => Option.bind (jF74 a1 w1 u) (fun p2 => Option.bind (jF74 a1 1000003 p2) (fun p3 => Option.bind (jF75 a1 (fI p3 a0 3) p3) (fun p4 => Option.bind (jF74 a1 1000004 p4) (fun p5 => Option.bind (jF75 a1 (fI p5 a0 4) p5) (fun p6 => Option.bind (jF73 a1 10 p6) (fun p7 => fm_let (jF84 8) (fun w9 => Option.bind (jF74 a1 w9 p7.2) (fun p10 => Option.bind (jF74 a1 1000005 p10) (fun p11 => Option.bind (jF75 a1 (fI p11 a0 5) p11) (fun p12 => Option.bind (jF74 a1 1000006 p12) (fun p13 => Option.bind (jF75 a1 (fI p13 a0 6) p13) (fun p14 => Option.bind (jF73 a1 10 p14) (fun p15 => fm_let (jF84 9) (fun w17 => Option.bind (jF74 a1 w17 p15.2) (fun p18 => Option.bind (jF74 a1 1000005 p18) (fun p19 => Option.bind (jF75 a1 (fI p19 a0 7) p19) (fun p20 => if (fm_b01 (fI p20 a0 8)) = 0 then
  (Option.bind (jF74 a1 1000007 p20) (fun p21 => if (fm_b01 (fI p21 a0 8)) = 0 then
  (Option.bind (jF73 a1 10 p21) (fun p22 => some p22.2))
  else
  (Option.bind (jF75 a1 (fI p21 a0 9) p21) (fun p24 => Option.bind (jF73 a1 10 p24) (fun p25 => some p25.2)))))
  else
  (Option.bind (jF74 a1 1000006 p20) (fun p27 => if (fm_b01 (fI p27 a0 8)) = 0 then
  (Option.bind (jF73 a1 10 p27) (fun p28 => some p28.2))
  else
  (Option.bind (jF75 a1 (fI p27 a0 9) p27) (fun p30 => Option.bind (jF73 a1 10 p30) (fun p31 => some p31.2)))))))))))))))))))))))
theorem jK51 {X : Nat × (Nat → Int32)} {a0 : Nat} {a1 : Nat} {u : fm} {r : fm} (h0 : fm_isM a0) (h1 : fm_isT a1) (h : jF51 a0 a1 u = some r) : ev X 51 0 [some (.inr (.inl (some a0))), some (.inr (.inl (some a1)))] [] u ([], r) := by
  unfold jF51 at h
  refine ev_aload_n (pc := 0) (fe_51 rfl) rfl ?_
  refine ev_bipush (pc := 1) (fe_51 rfl) lb_7 ?_
  refine fm_lt_h h (fun w1 ew1 h => ?_)
  have hw1 : fm_isS w1 := jP84 ew1
  refine ev_callSk (pc := 3) (fe_51 rfl) (z := 84) (na := 1) (ow := 8) cg_51_63 rfl (m := 0) rfl (jK84 ew1) (st1 := [.inr (.inl (some w1)), .inr (.inl (some a1))]) rfl ?_
  refine fm_bd h (fun p2 ep2 h => ?_)
  refine ev_callVk (pc := 6) (fe_51 rfl) (z := 74) (na := 2) (ow := 6) cg_51_64 rfl rfl rfl h1.1 (m := 1) rfl (jK74 h1 hw1 ep2) (st1 := []) rfl ?_
  refine ev_aload_n (pc := 9) (fe_51 rfl) rfl ?_
  refine ev_ldcs (pc := 10) (fe_51 rfl) (j := 2) rfl rfl ?_
  refine fm_bd h (fun p3 ep3 h => ?_)
  refine ev_callVk (pc := 12) (fe_51 rfl) (z := 74) (na := 2) (ow := 6) cg_51_64 rfl rfl rfl h1.1 (m := 1) rfl (jK74 h1 ⟨by decide, by decide⟩ ep3) (st1 := []) rfl ?_
  refine ev_aload_n (pc := 15) (fe_51 rfl) rfl ?_
  refine ev_aload_n (pc := 16) (fe_51 rfl) rfl ?_
  refine ev_getI (pc := 17) (fe_51 rfl) fr_58 h0.1 ?_
  refine fm_bd h (fun p4 ep4 h => ?_)
  refine ev_callVk (pc := 20) (fe_51 rfl) (z := 75) (na := 2) (ow := 6) cg_51_65 rfl rfl rfl h1.1 (m := 3) rfl (jK75 h1 ep4) (st1 := []) rfl ?_
  refine ev_aload_n (pc := 23) (fe_51 rfl) rfl ?_
  refine ev_ldcs (pc := 24) (fe_51 rfl) (j := 3) rfl rfl ?_
  refine fm_bd h (fun p5 ep5 h => ?_)
  refine ev_callVk (pc := 26) (fe_51 rfl) (z := 74) (na := 2) (ow := 6) cg_51_64 rfl rfl rfl h1.1 (m := 1) rfl (jK74 h1 ⟨by decide, by decide⟩ ep5) (st1 := []) rfl ?_
  refine ev_aload_n (pc := 29) (fe_51 rfl) rfl ?_
  refine ev_aload_n (pc := 30) (fe_51 rfl) rfl ?_
  refine ev_getI (pc := 31) (fe_51 rfl) fr_59 h0.1 ?_
  refine fm_bd h (fun p6 ep6 h => ?_)
  refine ev_callVk (pc := 34) (fe_51 rfl) (z := 75) (na := 2) (ow := 6) cg_51_65 rfl rfl rfl h1.1 (m := 3) rfl (jK75 h1 ep6) (st1 := []) rfl ?_
  refine ev_aload_n (pc := 37) (fe_51 rfl) rfl ?_
  refine ev_bipush (pc := 38) (fe_51 rfl) lb_10 ?_
  refine fm_bd h (fun p7 ep7 h => ?_)
  refine ev_callVZk (pc := 40) (fe_51 rfl) (z := 73) (na := 2) (ow := 6) cg_51_66 rfl rt_73 rfl rfl h1.1 (m := 0) rfl (jK73 h1 ep7) (st1 := [.inl p7.1]) rfl (fun z8 => ?_)
  refine ev_pop (pc := 43) (fe_51 rfl) rfl ?_
  refine ev_aload_n (pc := 44) (fe_51 rfl) rfl ?_
  refine ev_bipush (pc := 45) (fe_51 rfl) lb_8 ?_
  refine fm_lt_h h (fun w9 ew9 h => ?_)
  have hw9 : fm_isS w9 := jP84 ew9
  refine ev_callSk (pc := 47) (fe_51 rfl) (z := 84) (na := 1) (ow := 8) cg_51_63 rfl (m := 0) rfl (jK84 ew9) (st1 := [.inr (.inl (some w9)), .inr (.inl (some a1))]) rfl ?_
  refine fm_bd h (fun p10 ep10 h => ?_)
  refine ev_callVk (pc := 50) (fe_51 rfl) (z := 74) (na := 2) (ow := 6) cg_51_64 rfl rfl rfl h1.1 (m := 1) rfl (jK74 h1 hw9 ep10) (st1 := []) rfl ?_
  refine ev_aload_n (pc := 53) (fe_51 rfl) rfl ?_
  refine ev_ldcs (pc := 54) (fe_51 rfl) (j := 4) rfl rfl ?_
  refine fm_bd h (fun p11 ep11 h => ?_)
  refine ev_callVk (pc := 56) (fe_51 rfl) (z := 74) (na := 2) (ow := 6) cg_51_64 rfl rfl rfl h1.1 (m := 1) rfl (jK74 h1 ⟨by decide, by decide⟩ ep11) (st1 := []) rfl ?_
  refine ev_aload_n (pc := 59) (fe_51 rfl) rfl ?_
  refine ev_aload_n (pc := 60) (fe_51 rfl) rfl ?_
  refine ev_getI (pc := 61) (fe_51 rfl) fr_60 h0.1 ?_
  refine fm_bd h (fun p12 ep12 h => ?_)
  refine ev_callVk (pc := 64) (fe_51 rfl) (z := 75) (na := 2) (ow := 6) cg_51_65 rfl rfl rfl h1.1 (m := 3) rfl (jK75 h1 ep12) (st1 := []) rfl ?_
  refine ev_aload_n (pc := 67) (fe_51 rfl) rfl ?_
  refine ev_ldcs (pc := 68) (fe_51 rfl) (j := 5) rfl rfl ?_
  refine fm_bd h (fun p13 ep13 h => ?_)
  refine ev_callVk (pc := 70) (fe_51 rfl) (z := 74) (na := 2) (ow := 6) cg_51_64 rfl rfl rfl h1.1 (m := 1) rfl (jK74 h1 ⟨by decide, by decide⟩ ep13) (st1 := []) rfl ?_
  refine ev_aload_n (pc := 73) (fe_51 rfl) rfl ?_
  refine ev_aload_n (pc := 74) (fe_51 rfl) rfl ?_
  refine ev_getI (pc := 75) (fe_51 rfl) fr_61 h0.1 ?_
  refine fm_bd h (fun p14 ep14 h => ?_)
  refine ev_callVk (pc := 78) (fe_51 rfl) (z := 75) (na := 2) (ow := 6) cg_51_65 rfl rfl rfl h1.1 (m := 3) rfl (jK75 h1 ep14) (st1 := []) rfl ?_
  refine ev_aload_n (pc := 81) (fe_51 rfl) rfl ?_
  refine ev_bipush (pc := 82) (fe_51 rfl) lb_10 ?_
  refine fm_bd h (fun p15 ep15 h => ?_)
  refine ev_callVZk (pc := 84) (fe_51 rfl) (z := 73) (na := 2) (ow := 6) cg_51_66 rfl rt_73 rfl rfl h1.1 (m := 0) rfl (jK73 h1 ep15) (st1 := [.inl p15.1]) rfl (fun z16 => ?_)
  refine ev_pop (pc := 87) (fe_51 rfl) rfl ?_
  refine ev_aload_n (pc := 88) (fe_51 rfl) rfl ?_
  refine ev_bipush (pc := 89) (fe_51 rfl) lb_9 ?_
  refine fm_lt_h h (fun w17 ew17 h => ?_)
  have hw17 : fm_isS w17 := jP84 ew17
  refine ev_callSk (pc := 91) (fe_51 rfl) (z := 84) (na := 1) (ow := 8) cg_51_63 rfl (m := 0) rfl (jK84 ew17) (st1 := [.inr (.inl (some w17)), .inr (.inl (some a1))]) rfl ?_
  refine fm_bd h (fun p18 ep18 h => ?_)
  refine ev_callVk (pc := 94) (fe_51 rfl) (z := 74) (na := 2) (ow := 6) cg_51_64 rfl rfl rfl h1.1 (m := 1) rfl (jK74 h1 hw17 ep18) (st1 := []) rfl ?_
  refine ev_aload_n (pc := 97) (fe_51 rfl) rfl ?_
  refine ev_ldcs (pc := 98) (fe_51 rfl) (j := 4) rfl rfl ?_
  refine fm_bd h (fun p19 ep19 h => ?_)
  refine ev_callVk (pc := 100) (fe_51 rfl) (z := 74) (na := 2) (ow := 6) cg_51_64 rfl rfl rfl h1.1 (m := 1) rfl (jK74 h1 ⟨by decide, by decide⟩ ep19) (st1 := []) rfl ?_
  refine ev_aload_n (pc := 103) (fe_51 rfl) rfl ?_
  refine ev_aload_n (pc := 104) (fe_51 rfl) rfl ?_
  refine ev_getI (pc := 105) (fe_51 rfl) fr_62 h0.1 ?_
  refine fm_bd h (fun p20 ep20 h => ?_)
  refine ev_callVk (pc := 108) (fe_51 rfl) (z := 75) (na := 2) (ow := 6) cg_51_65 rfl rfl rfl h1.1 (m := 3) rfl (jK75 h1 ep20) (st1 := []) rfl ?_
  refine ev_aload_n (pc := 111) (fe_51 rfl) rfl ?_
  refine ev_aload_n (pc := 112) (fe_51 rfl) rfl ?_
  refine ev_getZ (pc := 113) (fe_51 rfl) fr_63 h0.1 ?_
  refine ev_if_eq (pc := 116) (fe_51 rfl) (t := 124) rfl h (fun h => ?_) (fun h => ?_)
  refine ev_ldcs (pc := 124) (fe_51 rfl) (j := 6) rfl rfl ?_
  refine fm_bd h (fun p21 ep21 h => ?_)
  refine ev_callVk (pc := 126) (fe_51 rfl) (z := 74) (na := 2) (ow := 6) cg_51_64 rfl rfl rfl h1.1 (m := 1) rfl (jK74 h1 ⟨by decide, by decide⟩ ep21) (st1 := []) rfl ?_
  refine ev_aload_n (pc := 129) (fe_51 rfl) rfl ?_
  refine ev_getZ (pc := 130) (fe_51 rfl) fr_63 h0.1 ?_
  refine ev_if_eq (pc := 133) (fe_51 rfl) (t := 144) rfl h (fun h => ?_) (fun h => ?_)
  refine ev_aload_n (pc := 144) (fe_51 rfl) rfl ?_
  refine ev_bipush (pc := 145) (fe_51 rfl) lb_10 ?_
  refine fm_bd h (fun p22 ep22 h => ?_)
  refine ev_callVZk (pc := 147) (fe_51 rfl) (z := 73) (na := 2) (ow := 6) cg_51_66 rfl rt_73 rfl rfl h1.1 (m := 0) rfl (jK73 h1 ep22) (st1 := [.inl p22.1]) rfl (fun z23 => ?_)
  refine ev_pop (pc := 150) (fe_51 rfl) rfl ?_
  exact ev_R (ev_vrt (pc := 151) (fe_51 rfl) rt_51) (by rw [← Option.some.inj h])
  refine ev_aload_n (pc := 136) (fe_51 rfl) rfl ?_
  refine ev_aload_n (pc := 137) (fe_51 rfl) rfl ?_
  refine ev_getI (pc := 138) (fe_51 rfl) fr_64 h0.1 ?_
  refine fm_bd h (fun p24 ep24 h => ?_)
  refine ev_callVk (pc := 141) (fe_51 rfl) (z := 75) (na := 2) (ow := 6) cg_51_65 rfl rfl rfl h1.1 (m := 3) rfl (jK75 h1 ep24) (st1 := []) rfl ?_
  refine ev_aload_n (pc := 144) (fe_51 rfl) rfl ?_
  refine ev_bipush (pc := 145) (fe_51 rfl) lb_10 ?_
  refine fm_bd h (fun p25 ep25 h => ?_)
  refine ev_callVZk (pc := 147) (fe_51 rfl) (z := 73) (na := 2) (ow := 6) cg_51_66 rfl rt_73 rfl rfl h1.1 (m := 0) rfl (jK73 h1 ep25) (st1 := [.inl p25.1]) rfl (fun z26 => ?_)
  refine ev_pop (pc := 150) (fe_51 rfl) rfl ?_
  exact ev_R (ev_vrt (pc := 151) (fe_51 rfl) rt_51) (by rw [← Option.some.inj h])
  refine ev_ldcs (pc := 119) (fe_51 rfl) (j := 5) rfl rfl ?_
  refine ev_goto (pc := 121) (fe_51 rfl) (t := 126) rfl ?_
  refine fm_bd h (fun p27 ep27 h => ?_)
  refine ev_callVk (pc := 126) (fe_51 rfl) (z := 74) (na := 2) (ow := 6) cg_51_64 rfl rfl rfl h1.1 (m := 1) rfl (jK74 h1 ⟨by decide, by decide⟩ ep27) (st1 := []) rfl ?_
  refine ev_aload_n (pc := 129) (fe_51 rfl) rfl ?_
  refine ev_getZ (pc := 130) (fe_51 rfl) fr_63 h0.1 ?_
  refine ev_if_eq (pc := 133) (fe_51 rfl) (t := 144) rfl h (fun h => ?_) (fun h => ?_)
  refine ev_aload_n (pc := 144) (fe_51 rfl) rfl ?_
  refine ev_bipush (pc := 145) (fe_51 rfl) lb_10 ?_
  refine fm_bd h (fun p28 ep28 h => ?_)
  refine ev_callVZk (pc := 147) (fe_51 rfl) (z := 73) (na := 2) (ow := 6) cg_51_66 rfl rt_73 rfl rfl h1.1 (m := 0) rfl (jK73 h1 ep28) (st1 := [.inl p28.1]) rfl (fun z29 => ?_)
  refine ev_pop (pc := 150) (fe_51 rfl) rfl ?_
  exact ev_R (ev_vrt (pc := 151) (fe_51 rfl) rt_51) (by rw [← Option.some.inj h])
  refine ev_aload_n (pc := 136) (fe_51 rfl) rfl ?_
  refine ev_aload_n (pc := 137) (fe_51 rfl) rfl ?_
  refine ev_getI (pc := 138) (fe_51 rfl) fr_64 h0.1 ?_
  refine fm_bd h (fun p30 ep30 h => ?_)
  refine ev_callVk (pc := 141) (fe_51 rfl) (z := 75) (na := 2) (ow := 6) cg_51_65 rfl rfl rfl h1.1 (m := 3) rfl (jK75 h1 ep30) (st1 := []) rfl ?_
  refine ev_aload_n (pc := 144) (fe_51 rfl) rfl ?_
  refine ev_bipush (pc := 145) (fe_51 rfl) lb_10 ?_
  refine fm_bd h (fun p31 ep31 h => ?_)
  refine ev_callVZk (pc := 147) (fe_51 rfl) (z := 73) (na := 2) (ow := 6) cg_51_66 rfl rt_73 rfl rfl h1.1 (m := 0) rfl (jK73 h1 ep31) (st1 := [.inl p31.1]) rfl (fun z32 => ?_)
  refine ev_pop (pc := 150) (fe_51 rfl) rfl ?_
  exact ev_R (ev_vrt (pc := 151) (fe_51 rfl) rt_51) (by rw [← Option.some.inj h])
