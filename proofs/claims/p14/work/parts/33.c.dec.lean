set_option maxRecDepth 8000
/-- CallAgents$Message writeCounts -/
def jF52 (a0 : Nat) (a1 : Nat) (x2 : Int32) (u : fm) : Option (fm) :=
  fm_let (jF84 10) (fun w1 => Option.bind (jF74 a1 w1 u) (fun p2 => Option.bind (jF75 a1 (fI p2 a0 10) p2) (fun p3 => Option.bind (jF73 a1 10 p3) (fun p4 => fm_let (jF84 11) (fun w6 => Option.bind (jF74 a1 w6 p4.2) (fun p7 => Option.bind (jF75 a1 (fI p7 a0 11) p7) (fun p8 => Option.bind (jF73 a1 32 p8) (fun p9 => fm_let (jF84 (13 + (fI p9.2 a0 12))) (fun w11 => Option.bind (jF74 a1 w11 p9.2) (fun p12 => Option.bind (jF73 a1 10 p12) (fun p13 => fm_let (jF84 12) (fun w15 => Option.bind (jF74 a1 w15 p13.2) (fun p16 => Option.bind (jF75 a1 x2 p16) (fun p17 => Option.bind (jF73 a1 10 p17) (fun p18 => some p18.2)))))))))))))))
theorem jK52 {X : Nat × (Nat → Int32)} {a0 : Nat} {a1 : Nat} {x2 : Int32} {u : fm} {r : fm} (h0 : fm_isM a0) (h1 : fm_isT a1) (h : jF52 a0 a1 x2 u = some r) : ev X 52 0 [some (.inr (.inl (some a0))), some (.inr (.inl (some a1))), some (.inl x2)] [] u ([], r) := by
  unfold jF52 at h
  refine ev_aload_n (pc := 0) (fe_52 rfl) rfl ?_
  refine ev_bipush (pc := 1) (fe_52 rfl) lb_10 ?_
  refine fm_lt_h h (fun w1 ew1 h => ?_)
  have hw1 : fm_isS w1 := jP84 ew1
  refine ev_callSk (pc := 3) (fe_52 rfl) (z := 84) (na := 1) (ow := 8) cg_52_63 rfl (m := 0) rfl (jK84 ew1) (st1 := [.inr (.inl (some w1)), .inr (.inl (some a1))]) rfl ?_
  refine fm_bd h (fun p2 ep2 h => ?_)
  refine ev_callVk (pc := 6) (fe_52 rfl) (z := 74) (na := 2) (ow := 6) cg_52_64 rfl rfl rfl h1.1 (m := 1) rfl (jK74 h1 hw1 ep2) (st1 := []) rfl ?_
  refine ev_aload_n (pc := 9) (fe_52 rfl) rfl ?_
  refine ev_aload_n (pc := 10) (fe_52 rfl) rfl ?_
  refine ev_getI (pc := 11) (fe_52 rfl) fr_65 h0.1 ?_
  refine fm_bd h (fun p3 ep3 h => ?_)
  refine ev_callVk (pc := 14) (fe_52 rfl) (z := 75) (na := 2) (ow := 6) cg_52_65 rfl rfl rfl h1.1 (m := 3) rfl (jK75 h1 ep3) (st1 := []) rfl ?_
  refine ev_aload_n (pc := 17) (fe_52 rfl) rfl ?_
  refine ev_bipush (pc := 18) (fe_52 rfl) lb_10 ?_
  refine fm_bd h (fun p4 ep4 h => ?_)
  refine ev_callVZk (pc := 20) (fe_52 rfl) (z := 73) (na := 2) (ow := 6) cg_52_66 rfl rt_73 rfl rfl h1.1 (m := 0) rfl (jK73 h1 ep4) (st1 := [.inl p4.1]) rfl (fun z5 => ?_)
  refine ev_pop (pc := 23) (fe_52 rfl) rfl ?_
  refine ev_aload_n (pc := 24) (fe_52 rfl) rfl ?_
  refine ev_bipush (pc := 25) (fe_52 rfl) lb_11 ?_
  refine fm_lt_h h (fun w6 ew6 h => ?_)
  have hw6 : fm_isS w6 := jP84 ew6
  refine ev_callSk (pc := 27) (fe_52 rfl) (z := 84) (na := 1) (ow := 8) cg_52_63 rfl (m := 0) rfl (jK84 ew6) (st1 := [.inr (.inl (some w6)), .inr (.inl (some a1))]) rfl ?_
  refine fm_bd h (fun p7 ep7 h => ?_)
  refine ev_callVk (pc := 30) (fe_52 rfl) (z := 74) (na := 2) (ow := 6) cg_52_64 rfl rfl rfl h1.1 (m := 1) rfl (jK74 h1 hw6 ep7) (st1 := []) rfl ?_
  refine ev_aload_n (pc := 33) (fe_52 rfl) rfl ?_
  refine ev_aload_n (pc := 34) (fe_52 rfl) rfl ?_
  refine ev_getI (pc := 35) (fe_52 rfl) fr_66 h0.1 ?_
  refine fm_bd h (fun p8 ep8 h => ?_)
  refine ev_callVk (pc := 38) (fe_52 rfl) (z := 75) (na := 2) (ow := 6) cg_52_65 rfl rfl rfl h1.1 (m := 3) rfl (jK75 h1 ep8) (st1 := []) rfl ?_
  refine ev_aload_n (pc := 41) (fe_52 rfl) rfl ?_
  refine ev_bipush (pc := 42) (fe_52 rfl) lb_32 ?_
  refine fm_bd h (fun p9 ep9 h => ?_)
  refine ev_callVZk (pc := 44) (fe_52 rfl) (z := 73) (na := 2) (ow := 6) cg_52_66 rfl rt_73 rfl rfl h1.1 (m := 0) rfl (jK73 h1 ep9) (st1 := [.inl p9.1]) rfl (fun z10 => ?_)
  refine ev_pop (pc := 47) (fe_52 rfl) rfl ?_
  refine ev_aload_n (pc := 48) (fe_52 rfl) rfl ?_
  refine ev_bipush (pc := 49) (fe_52 rfl) lb_13 ?_
  refine ev_aload_n (pc := 51) (fe_52 rfl) rfl ?_
  refine ev_getI (pc := 52) (fe_52 rfl) fr_67 h0.1 ?_
  refine ev_iadd (pc := 55) (fe_52 rfl) ?_
  refine fm_lt_h h (fun w11 ew11 h => ?_)
  have hw11 : fm_isS w11 := jP84 ew11
  refine ev_callSk (pc := 56) (fe_52 rfl) (z := 84) (na := 1) (ow := 8) cg_52_63 rfl (m := 0) rfl (jK84 ew11) (st1 := [.inr (.inl (some w11)), .inr (.inl (some a1))]) rfl ?_
  refine fm_bd h (fun p12 ep12 h => ?_)
  refine ev_callVk (pc := 59) (fe_52 rfl) (z := 74) (na := 2) (ow := 6) cg_52_64 rfl rfl rfl h1.1 (m := 1) rfl (jK74 h1 hw11 ep12) (st1 := []) rfl ?_
  refine ev_aload_n (pc := 62) (fe_52 rfl) rfl ?_
  refine ev_bipush (pc := 63) (fe_52 rfl) lb_10 ?_
  refine fm_bd h (fun p13 ep13 h => ?_)
  refine ev_callVZk (pc := 65) (fe_52 rfl) (z := 73) (na := 2) (ow := 6) cg_52_66 rfl rt_73 rfl rfl h1.1 (m := 0) rfl (jK73 h1 ep13) (st1 := [.inl p13.1]) rfl (fun z14 => ?_)
  refine ev_pop (pc := 68) (fe_52 rfl) rfl ?_
  refine ev_aload_n (pc := 69) (fe_52 rfl) rfl ?_
  refine ev_bipush (pc := 70) (fe_52 rfl) lb_12 ?_
  refine fm_lt_h h (fun w15 ew15 h => ?_)
  have hw15 : fm_isS w15 := jP84 ew15
  refine ev_callSk (pc := 72) (fe_52 rfl) (z := 84) (na := 1) (ow := 8) cg_52_63 rfl (m := 0) rfl (jK84 ew15) (st1 := [.inr (.inl (some w15)), .inr (.inl (some a1))]) rfl ?_
  refine fm_bd h (fun p16 ep16 h => ?_)
  refine ev_callVk (pc := 75) (fe_52 rfl) (z := 74) (na := 2) (ow := 6) cg_52_64 rfl rfl rfl h1.1 (m := 1) rfl (jK74 h1 hw15 ep16) (st1 := []) rfl ?_
  refine ev_aload_n (pc := 78) (fe_52 rfl) rfl ?_
  refine ev_iload_n (pc := 79) (fe_52 rfl) rfl ?_
  refine fm_bd h (fun p17 ep17 h => ?_)
  refine ev_callVk (pc := 80) (fe_52 rfl) (z := 75) (na := 2) (ow := 6) cg_52_65 rfl rfl rfl h1.1 (m := 3) rfl (jK75 h1 ep17) (st1 := []) rfl ?_
  refine ev_aload_n (pc := 83) (fe_52 rfl) rfl ?_
  refine ev_bipush (pc := 84) (fe_52 rfl) lb_10 ?_
  refine fm_bd h (fun p18 ep18 h => ?_)
  refine ev_callVZk (pc := 86) (fe_52 rfl) (z := 73) (na := 2) (ow := 6) cg_52_66 rfl rt_73 rfl rfl h1.1 (m := 0) rfl (jK73 h1 ep18) (st1 := [.inl p18.1]) rfl (fun z19 => ?_)
  refine ev_pop (pc := 89) (fe_52 rfl) rfl ?_
  exact ev_R (ev_vrt (pc := 90) (fe_52 rfl) rt_52) (by rw [← Option.some.inj h])
/-- CallAgents$Text clear -/
def jF71 (a0 : Nat) (u : fm) : fm :=
  fm_let (sI u a0 1 0) (fun u1 => u1)
theorem jK71 {X : Nat × (Nat → Int32)} {a0 : Nat} {u : fm} {r : fm} (h0 : fm_isT a0) (h : jF71 a0 u = r) : ev X 71 0 [some (.inr (.inl (some a0)))] [] u ([], r) := by
  unfold jF71 at h
  refine ev_aload_n (pc := 0) (fe_71 rfl) rfl ?_
  refine ev_iconst (pc := 1) (fe_71 rfl) li_0 ?_
  refine fm_lt_h h (fun u1 eu1 h => ?_)
  refine ev_putI (pc := 2) (fe_71 rfl) fr_89 h0.1 eu1 ?_
  exact ev_R (ev_vrt (pc := 5) (fe_71 rfl) rt_71) (by rw [← h])
/-- CallAgents$Text at -/
def jF72 (a0 : Nat) (x1 : Int32) (u : fm) : Option (Int32) :=
  if x1 < 0 then
  (some (-1))
  else
  (if x1 < (fI u a0 1) then
  (if x1 < (Int32.ofNat (fm_ln (a0 + 1))) then
  (if fm_in x1 (fm_ln (a0 + 1)) then some (fA u (a0 + 1) (Int32.toNatClampNeg x1)) else none)
  else
  (some (-1)))
  else
  (some (-1)))
theorem jK72 {X : Nat × (Nat → Int32)} {a0 : Nat} {x1 : Int32} {u : fm} {r : Int32} (h0 : fm_isT a0) (h : jF72 a0 x1 u = some r) : ev X 72 0 [some (.inr (.inl (some a0))), some (.inl x1)] [] u ([.inl r], u) := by
  unfold jF72 at h
  refine ev_iload_n (pc := 0) (fe_72 rfl) rfl ?_
  refine ev_if_lt (pc := 1) (fe_72 rfl) (t := 30) rfl h (fun h => ?_) (fun h => ?_)
  refine ev_iconst (pc := 30) (fe_72 rfl) li_m1 ?_
  exact ev_R (ev_irt (pc := 31) (fe_72 rfl) rt_72) (by rw [← Option.some.inj h])
  refine ev_iload_n (pc := 4) (fe_72 rfl) rfl ?_
  refine ev_aload_n (pc := 5) (fe_72 rfl) rfl ?_
  refine ev_getI (pc := 6) (fe_72 rfl) fr_89 h0.1 ?_
  refine ev_ic_ge (pc := 9) (fe_72 rfl) (t := 30) rfl h (fun h => ?_) (fun h => ?_)
  refine ev_iconst (pc := 30) (fe_72 rfl) li_m1 ?_
  exact ev_R (ev_irt (pc := 31) (fe_72 rfl) rt_72) (by rw [← Option.some.inj h])
  refine ev_iload_n (pc := 12) (fe_72 rfl) rfl ?_
  refine ev_aload_n (pc := 13) (fe_72 rfl) rfl ?_
  refine ev_getR (a1 := a0 + 1) (pc := 14) (fe_72 rfl) fr_88 h0.1 rfl ?_
  refine ev_len (pc := 17) (fe_72 rfl) h0.2 rfl ?_
  refine ev_ic_ge (pc := 18) (fe_72 rfl) (t := 30) rfl h (fun h => ?_) (fun h => ?_)
  refine ev_iconst (pc := 30) (fe_72 rfl) li_m1 ?_
  exact ev_R (ev_irt (pc := 31) (fe_72 rfl) rt_72) (by rw [← Option.some.inj h])
  refine ev_aload_n (pc := 21) (fe_72 rfl) rfl ?_
  refine ev_getR (a1 := a0 + 1) (pc := 22) (fe_72 rfl) fr_88 h0.1 rfl ?_
  refine ev_iload_n (pc := 25) (fe_72 rfl) rfl ?_
  refine fm_ob h (fun g1 h => ?_)
  refine ev_caload (pc := 26) (fe_72 rfl) h0.2 g1 ?_
  refine ev_goto (pc := 27) (fe_72 rfl) (t := 31) rfl ?_
  exact ev_R (ev_irt (pc := 31) (fe_72 rfl) rt_72) (by rw [← Option.some.inj h])
/-- CallAgents$Text addText -/
def jF76_2 : Nat → Nat → Nat → Int32 → fm → Option (fm)
  | 0, _, _, _, _ => none
  | n + 1, a0, a1, x2, u =>
  if x2 < (fI u a1 1) then
  (Option.bind (jF72 a1 x2 u) (fun p1 => Option.bind (jF73 a0 p1 u) (fun p2 => jF76_2 n a0 a1 (x2 + 1) p2.2)))
  else
  (some u)
def jF76 (a0 : Nat) (a1 : Nat) (u : fm) : Option (fm) :=
  jF76_2 fm_N a0 a1 0 u
theorem jK76_2 {X : Nat × (Nat → Int32)} {r : fm} : ∀ (n : Nat) (a0 : Nat) (a1 : Nat) (x2 : Int32) (u : fm) (h0 : fm_isT a0) (h1 : fm_isT a1), jF76_2 n a0 a1 x2 u = some r → ev X 76 2 [some (.inr (.inl (some a0))), some (.inr (.inl (some a1))), some (.inl x2)] [] u ([], r) := by
  intro n
  induction n with
  | zero =>
    intro _ _ _ _ _ _ h
    unfold jF76_2 at h
    cases h
  | succ n ih =>
  intro a0 a1 x2 u h0 h1 h
  unfold jF76_2 at h
  refine ev_iload_n (pc := 2) (fe_76 rfl) rfl ?_
  refine ev_aload_n (pc := 3) (fe_76 rfl) rfl ?_
  refine ev_getI (pc := 4) (fe_76 rfl) fr_89 h1.1 ?_
  refine ev_ic_ge (pc := 7) (fe_76 rfl) (t := 26) rfl h (fun h => ?_) (fun h => ?_)
  exact ev_R (ev_vrt (pc := 26) (fe_76 rfl) rt_76) (by rw [← Option.some.inj h])
  refine ev_aload_n (pc := 10) (fe_76 rfl) rfl ?_
  refine ev_aload_n (pc := 11) (fe_76 rfl) rfl ?_
  refine ev_iload_n (pc := 12) (fe_76 rfl) rfl ?_
  refine fm_bd h (fun p1 ep1 h => ?_)
  refine ev_callVk (pc := 13) (fe_76 rfl) (z := 72) (na := 2) (ow := 6) cg_76_101 rfl rfl rfl h1.1 (m := 0) rfl (jK72 h1 ep1) (st1 := [.inl p1, .inr (.inl (some a0))]) rfl ?_
  refine fm_bd h (fun p2 ep2 h => ?_)
  refine ev_callVZk (pc := 16) (fe_76 rfl) (z := 73) (na := 2) (ow := 6) cg_76_100 rfl rt_73 rfl rfl h0.1 (m := 0) rfl (jK73 h0 ep2) (st1 := [.inl p2.1]) rfl (fun z3 => ?_)
  refine ev_pop (pc := 19) (fe_76 rfl) rfl ?_
  refine ev_iinc (pc := 20) (fe_76 rfl) mx_76 rfl rfl li_1 ?_
  refine ev_goto (pc := 23) (fe_76 rfl) (t := 2) rfl ?_
  exact ih a0 a1 (x2 + 1) p2.2 h0 h1 h
theorem jK76 {X : Nat × (Nat → Int32)} {a0 : Nat} {a1 : Nat} {u : fm} {r : fm} (h0 : fm_isT a0) (h1 : fm_isT a1) (h : jF76 a0 a1 u = some r) : ev X 76 0 [some (.inr (.inl (some a0))), some (.inr (.inl (some a1))), none] [] u ([], r) := by
  unfold jF76 at h
  refine ev_iconst (pc := 0) (fe_76 rfl) li_0 ?_
  refine ev_istore_n (pc := 1) (fe_76 rfl) mx_76 rfl ?_
  exact jK76_2 fm_N a0 a1 0 u h0 h1 h
/-- CallAgents$Message write -/
def jF50_50 (a0 : Nat) (a1 : Nat) (a2 : Nat) (u : fm) : Option (fm) :=
  Option.bind (jF73 a1 10 u) (fun p7 => Option.bind (jF51 a0 a1 p7.2) (fun p9 => Option.bind (jF52 a0 a1 (fI p9 a2 1) p9) (fun p10 => Option.bind (jF73 a1 10 p10) (fun p11 => Option.bind (jF76 a1 a2 p11.2) (fun p13 => some p13)))))
def jF50 (a0 : Nat) (a1 : Nat) (a2 : Nat) (u : fm) : Option (fm) :=
  fm_let (jF71 a2 u) (fun p1 => Option.bind (jF43 (a0 + 1) a2 p1) (fun p2 => fm_let (jF71 a1 p2) (fun p3 => fm_let (jF84 (0 + (fI p3 a0 1))) (fun w4 => Option.bind (jF74 a1 w4 p3) (fun p5 => if (jF45 a0 p5) = 0 then
  (jF50_50 a0 a1 a2 p5)
  else
  (Option.bind (jF75 a1 (fI p5 a0 2) p5) (fun p14 => Option.bind (jF74 a1 1000002 p14) (fun p15 => jF50_50 a0 a1 a2 p15))))))))
theorem jK50_50 {X : Nat × (Nat → Int32)} {r : fm} (a0 : Nat) (a1 : Nat) (a2 : Nat) (u : fm) (h0 : fm_isM a0) (h1 : fm_isT a1) (h2 : fm_isT a2) (h : jF50_50 a0 a1 a2 u = some r) : ev X 50 50 [some (.inr (.inl (some a0))), some (.inr (.inl (some a1))), some (.inr (.inl (some a2)))] [] u ([], r) := by
  unfold jF50_50 at h
  refine ev_aload_n (pc := 50) (fe_50 rfl) rfl ?_
  refine ev_bipush (pc := 51) (fe_50 rfl) lb_10 ?_
  refine fm_bd h (fun p7 ep7 h => ?_)
  refine ev_callVZk (pc := 53) (fe_50 rfl) (z := 73) (na := 2) (ow := 6) cg_50_66 rfl rt_73 rfl rfl h1.1 (m := 0) rfl (jK73 h1 ep7) (st1 := [.inl p7.1]) rfl (fun z8 => ?_)
  refine ev_pop (pc := 56) (fe_50 rfl) rfl ?_
  refine ev_aload_n (pc := 57) (fe_50 rfl) rfl ?_
  refine ev_aload_n (pc := 58) (fe_50 rfl) rfl ?_
  refine fm_bd h (fun p9 ep9 h => ?_)
  refine ev_callVk (pc := 59) (fe_50 rfl) (z := 51) (na := 2) (ow := 4) cg_50_67 rfl rfl rfl h0.1 (m := 0) rfl (jK51 h0 h1 ep9) (st1 := []) rfl ?_
  refine ev_aload_n (pc := 62) (fe_50 rfl) rfl ?_
  refine ev_aload_n (pc := 63) (fe_50 rfl) rfl ?_
  refine ev_aload_n (pc := 64) (fe_50 rfl) rfl ?_
  refine ev_getI (pc := 65) (fe_50 rfl) fr_68 h2.1 ?_
  refine fm_bd h (fun p10 ep10 h => ?_)
  refine ev_callVk (pc := 68) (fe_50 rfl) (z := 52) (na := 3) (ow := 4) cg_50_68 rfl rfl rfl h0.1 (m := 0) rfl (jK52 h0 h1 ep10) (st1 := []) rfl ?_
  refine ev_aload_n (pc := 71) (fe_50 rfl) rfl ?_
  refine ev_bipush (pc := 72) (fe_50 rfl) lb_10 ?_
  refine fm_bd h (fun p11 ep11 h => ?_)
  refine ev_callVZk (pc := 74) (fe_50 rfl) (z := 73) (na := 2) (ow := 6) cg_50_66 rfl rt_73 rfl rfl h1.1 (m := 0) rfl (jK73 h1 ep11) (st1 := [.inl p11.1]) rfl (fun z12 => ?_)
  refine ev_pop (pc := 77) (fe_50 rfl) rfl ?_
  refine ev_aload_n (pc := 78) (fe_50 rfl) rfl ?_
  refine ev_aload_n (pc := 79) (fe_50 rfl) rfl ?_
  refine fm_bd h (fun p13 ep13 h => ?_)
  refine ev_callVk (pc := 80) (fe_50 rfl) (z := 76) (na := 2) (ow := 6) cg_50_69 rfl rfl rfl h1.1 (m := 1) rfl (jK76 h1 h2 ep13) (st1 := []) rfl ?_
  exact ev_R (ev_vrt (pc := 83) (fe_50 rfl) rt_50) (by rw [← Option.some.inj h])
theorem jK50 {X : Nat × (Nat → Int32)} {a0 : Nat} {a1 : Nat} {a2 : Nat} {u : fm} {r : fm} (h0 : fm_isM a0) (h1 : fm_isT a1) (h2 : fm_isT a2) (h : jF50 a0 a1 a2 u = some r) : ev X 50 0 [some (.inr (.inl (some a0))), some (.inr (.inl (some a1))), some (.inr (.inl (some a2)))] [] u ([], r) := by
  unfold jF50 at h
  refine ev_aload_n (pc := 0) (fe_50 rfl) rfl ?_
  refine fm_lt_h h (fun p1 ep1 h => ?_)
  refine ev_callVk (pc := 1) (fe_50 rfl) (z := 71) (na := 1) (ow := 6) cg_50_61 rfl rfl rfl h2.1 (m := 0) rfl (jK71 h2 ep1) (st1 := []) rfl ?_
  refine ev_aload_n (pc := 4) (fe_50 rfl) rfl ?_
  refine ev_getR (a1 := a0 + 1) (pc := 5) (fe_50 rfl) fr_55 h0.1 rfl ?_
  refine ev_aload_n (pc := 8) (fe_50 rfl) rfl ?_
  refine fm_bd h (fun p2 ep2 h => ?_)
  refine ev_callVk (pc := 9) (fe_50 rfl) (z := 43) (na := 2) (ow := 3) cg_50_62 rfl rfl rfl h0.2.1 (m := 2) rfl (jK43 ⟨h0.2.1, h0.2.2⟩ h2 ep2) (st1 := []) rfl ?_
  refine ev_aload_n (pc := 12) (fe_50 rfl) rfl ?_
  refine fm_lt_h h (fun p3 ep3 h => ?_)
  refine ev_callVk (pc := 13) (fe_50 rfl) (z := 71) (na := 1) (ow := 6) cg_50_61 rfl rfl rfl h1.1 (m := 0) rfl (jK71 h1 ep3) (st1 := []) rfl ?_
  refine ev_aload_n (pc := 16) (fe_50 rfl) rfl ?_
  refine ev_iconst (pc := 17) (fe_50 rfl) li_0 ?_
  refine ev_aload_n (pc := 18) (fe_50 rfl) rfl ?_
  refine ev_getI (pc := 19) (fe_50 rfl) fr_56 h0.1 ?_
  refine ev_iadd (pc := 22) (fe_50 rfl) ?_
  refine fm_lt_h h (fun w4 ew4 h => ?_)
  have hw4 : fm_isS w4 := jP84 ew4
  refine ev_callSk (pc := 23) (fe_50 rfl) (z := 84) (na := 1) (ow := 8) cg_50_63 rfl (m := 0) rfl (jK84 ew4) (st1 := [.inr (.inl (some w4)), .inr (.inl (some a1))]) rfl ?_
  refine fm_bd h (fun p5 ep5 h => ?_)
  refine ev_callVk (pc := 26) (fe_50 rfl) (z := 74) (na := 2) (ow := 6) cg_50_64 rfl rfl rfl h1.1 (m := 1) rfl (jK74 h1 hw4 ep5) (st1 := []) rfl ?_
  refine ev_aload_n (pc := 29) (fe_50 rfl) rfl ?_
  refine ev_callVZk (pc := 30) (fe_50 rfl) (z := 45) (na := 1) (ow := 4) cg_50_57 rfl rt_45 rfl rfl h0.1 (m := 0) rfl (jK45 h0 rfl) (st1 := [.inl (jF45 a0 p5)]) rfl (fun z6 => ?_)
  refine ev_if_eq (pc := 33) (fe_50 rfl) (t := 50) rfl h (fun h => ?_) (fun h => ?_)
  exact jK50_50 a0 a1 a2 p5 h0 h1 h2 h
  refine ev_aload_n (pc := 36) (fe_50 rfl) rfl ?_
  refine ev_aload_n (pc := 37) (fe_50 rfl) rfl ?_
  refine ev_getI (pc := 38) (fe_50 rfl) fr_57 h0.1 ?_
  refine fm_bd h (fun p14 ep14 h => ?_)
  refine ev_callVk (pc := 41) (fe_50 rfl) (z := 75) (na := 2) (ow := 6) cg_50_65 rfl rfl rfl h1.1 (m := 3) rfl (jK75 h1 ep14) (st1 := []) rfl ?_
  refine ev_aload_n (pc := 44) (fe_50 rfl) rfl ?_
  refine ev_ldcs (pc := 45) (fe_50 rfl) (j := 1) rfl rfl ?_
  refine fm_bd h (fun p15 ep15 h => ?_)
  refine ev_callVk (pc := 47) (fe_50 rfl) (z := 74) (na := 2) (ow := 6) cg_50_64 rfl rfl rfl h1.1 (m := 1) rfl (jK74 h1 ⟨by decide, by decide⟩ ep15) (st1 := []) rfl ?_
  exact jK50_50 a0 a1 a2 p15 h0 h1 h2 h
/-- CallAgents$Reader here -/
def jF68 (u : fm) : Option (Int32) :=
  if (fI u 219 1) < (fI u 219 2) then
  (Option.bind (jF72 213 (fI u 219 1) u) (fun p1 => some p1))
  else
  (some (-1))
theorem jK68 {X : Nat × (Nat → Int32)} {u : fm} {r : Int32} (h : jF68 u = some r) : ev X 68 0 [some (.inr (.inl (some 219)))] [] u ([.inl r], u) := by
  unfold jF68 at h
  refine ev_aload_n (pc := 0) (fe_68 rfl) rfl ?_
  refine ev_getI (pc := 1) (fe_68 rfl) fr_70 t_219 ?_
  refine ev_aload_n (pc := 4) (fe_68 rfl) rfl ?_
  refine ev_getI (pc := 5) (fe_68 rfl) fr_72 t_219 ?_
  refine ev_ic_ge (pc := 8) (fe_68 rfl) (t := 25) rfl h (fun h => ?_) (fun h => ?_)
  refine ev_iconst (pc := 25) (fe_68 rfl) li_m1 ?_
  exact ev_R (ev_irt (pc := 26) (fe_68 rfl) rt_68) (by rw [← Option.some.inj h])
  refine ev_aload_n (pc := 11) (fe_68 rfl) rfl ?_
  refine ev_getR (a1 := 213) (pc := 12) (fe_68 rfl) fr_69 t_219 rfl ?_
  refine ev_aload_n (pc := 15) (fe_68 rfl) rfl ?_
  refine ev_getI (pc := 16) (fe_68 rfl) fr_70 t_219 ?_
  refine fm_bd h (fun p1 ep1 h => ?_)
  refine ev_callVk (pc := 19) (fe_68 rfl) (z := 72) (na := 2) (ow := 6) cg_68_90 rfl rfl rfl t_213 (m := 0) rfl (jK72 ⟨t_213, t_214⟩ ep1) (st1 := [.inl p1]) rfl ?_
  refine ev_goto (pc := 22) (fe_68 rfl) (t := 26) rfl ?_
  exact ev_R (ev_irt (pc := 26) (fe_68 rfl) rt_68) (by rw [← Option.some.inj h])
/-- CallAgents$Reader fail -/
def jF69 (x1 : Int32) (u : fm) : fm :=
  if (fI u 219 3) < 0 then
  (fm_let (sI u 219 3 x1) (fun u1 => u1))
  else
  (u)
theorem jK69 {X : Nat × (Nat → Int32)} {x1 : Int32} {u : fm} {r : fm} (h : jF69 x1 u = r) : ev X 69 0 [some (.inr (.inl (some 219))), some (.inl x1)] [] u ([], r) := by
  unfold jF69 at h
  refine ev_aload_n (pc := 0) (fe_69 rfl) rfl ?_
  refine ev_getI (pc := 1) (fe_69 rfl) fr_73 t_219 ?_
  refine ev_if_ge (pc := 4) (fe_69 rfl) (t := 12) rfl h (fun h => ?_) (fun h => ?_)
  exact ev_R (ev_vrt (pc := 12) (fe_69 rfl) rt_69) (by rw [← h])
  refine ev_aload_n (pc := 7) (fe_69 rfl) rfl ?_
  refine ev_iload_n (pc := 8) (fe_69 rfl) rfl ?_
  refine fm_lt_h h (fun u1 eu1 h => ?_)
  refine ev_putI (pc := 9) (fe_69 rfl) fr_73 t_219 eu1 ?_
  exact ev_R (ev_vrt (pc := 12) (fe_69 rfl) rt_69) (by rw [← h])
/-- CallAgents$Reader readDigit -/
def jF62 (x1 : Int32) (u : fm) : Option (Int32 × fm) :=
  Option.bind (jF68 u) (fun p1 => if p1 < 48 then
  (fm_let (jF69 (fI u 219 1) u) (fun p2 => some (0, p2)))
  else
  (if x1 < p1 then
  (fm_let (jF69 (fI u 219 1) u) (fun p4 => some (0, p4)))
  else
  (fm_let (sI u 219 1 ((fI u 219 1) + 1)) (fun u3 => some (p1 - 48, u3)))))
theorem jK62 {X : Nat × (Nat → Int32)} {x1 : Int32} {u : fm} {r : Int32 × fm} (h : jF62 x1 u = some r) : ev X 62 0 [some (.inr (.inl (some 219))), some (.inl x1), none] [] u ([.inl r.1], r.2) := by
  unfold jF62 at h
  refine ev_aload_n (pc := 0) (fe_62 rfl) rfl ?_
  refine fm_bd h (fun p1 ep1 h => ?_)
  refine ev_callVk (pc := 1) (fe_62 rfl) (z := 68) (na := 1) (ow := 5) cg_62_83 rfl rfl rfl t_219 (m := 0) rfl (jK68 ep1) (st1 := [.inl p1]) rfl ?_
  refine ev_istore_n (pc := 4) (fe_62 rfl) mx_62 rfl ?_
  refine ev_iload_n (pc := 5) (fe_62 rfl) rfl ?_
  refine ev_bipush (pc := 6) (fe_62 rfl) lb_48 ?_
  refine ev_ic_lt (pc := 8) (fe_62 rfl) (t := 16) rfl h (fun h => ?_) (fun h => ?_)
  refine ev_aload_n (pc := 16) (fe_62 rfl) rfl ?_
  refine ev_aload_n (pc := 17) (fe_62 rfl) rfl ?_
  refine ev_getI (pc := 18) (fe_62 rfl) fr_70 t_219 ?_
  refine fm_lt_h h (fun p2 ep2 h => ?_)
  refine ev_callVk (pc := 21) (fe_62 rfl) (z := 69) (na := 2) (ow := 5) cg_62_79 rfl rfl rfl t_219 (m := 0) rfl (jK69 ep2) (st1 := []) rfl ?_
  refine ev_iconst (pc := 24) (fe_62 rfl) li_0 ?_
  exact ev_R (ev_irt (pc := 25) (fe_62 rfl) rt_62) (by rw [← Option.some.inj h])
  refine ev_iload_n (pc := 11) (fe_62 rfl) rfl ?_
  refine ev_iload_n (pc := 12) (fe_62 rfl) rfl ?_
  refine ev_ic_le (pc := 13) (fe_62 rfl) (t := 26) rfl h (fun h => ?_) (fun h => ?_)
  refine ev_aload_n (pc := 26) (fe_62 rfl) rfl ?_
  refine ev_dup (pc := 27) (fe_62 rfl) rfl ?_
  refine ev_getI (pc := 28) (fe_62 rfl) fr_70 t_219 ?_
  refine ev_iconst (pc := 31) (fe_62 rfl) li_1 ?_
  refine ev_iadd (pc := 32) (fe_62 rfl) ?_
  refine fm_lt_h h (fun u3 eu3 h => ?_)
  refine ev_putI (pc := 33) (fe_62 rfl) fr_70 t_219 eu3 ?_
  refine ev_iload_n (pc := 36) (fe_62 rfl) rfl ?_
  refine ev_bipush (pc := 37) (fe_62 rfl) lb_48 ?_
  refine ev_isub (pc := 39) (fe_62 rfl) ?_
  exact ev_R (ev_irt (pc := 40) (fe_62 rfl) rt_62) (by rw [← Option.some.inj h])
  refine ev_aload_n (pc := 16) (fe_62 rfl) rfl ?_
  refine ev_aload_n (pc := 17) (fe_62 rfl) rfl ?_
  refine ev_getI (pc := 18) (fe_62 rfl) fr_70 t_219 ?_
  refine fm_lt_h h (fun p4 ep4 h => ?_)
  refine ev_callVk (pc := 21) (fe_62 rfl) (z := 69) (na := 2) (ow := 5) cg_62_79 rfl rfl rfl t_219 (m := 0) rfl (jK69 ep4) (st1 := []) rfl ?_
  refine ev_iconst (pc := 24) (fe_62 rfl) li_0 ?_
  exact ev_R (ev_irt (pc := 25) (fe_62 rfl) rt_62) (by rw [← Option.some.inj h])
/-- CallAgents$Reader readAgent -/
def jF61 (u : fm) : Option (Int32 × fm) :=
  Option.bind (jF62 49 u) (fun p1 => some (p1.1, p1.2))
theorem jK61 {X : Nat × (Nat → Int32)} {u : fm} {r : Int32 × fm} (h : jF61 u = some r) : ev X 61 0 [some (.inr (.inl (some 219)))] [] u ([.inl r.1], r.2) := by
  unfold jF61 at h
  refine ev_aload_n (pc := 0) (fe_61 rfl) rfl ?_
  refine ev_bipush (pc := 1) (fe_61 rfl) lb_49 ?_
  refine fm_bd h (fun p1 ep1 h => ?_)
  refine ev_callVk (pc := 3) (fe_61 rfl) (z := 62) (na := 2) (ow := 5) cg_61_88 rfl rfl rfl t_219 (m := 1) rfl (jK62 ep1) (st1 := [.inl p1.1]) rfl ?_
  exact ev_R (ev_irt (pc := 6) (fe_61 rfl) rt_61) (by rw [← Option.some.inj h])
/-- CallAgents$Reader fits -/
def jF67_2 : Nat → Nat → Int32 → fm → Option (Int32)
  | 0, _, _, _ => none
  | n + 1, w1, x2, u =>
  if x2 < (nI (fm_sl w1)) then
  (if ((fI u 219 1) + x2) < (fI u 219 2) then
  (Option.bind (jF72 213 ((fI u 219 1) + x2) u) (fun p1 => if fm_in x2 (fm_sl w1) then if p1 = (mm_sch (w1 - 1000001) (Int32.toNatClampNeg x2)) then
  (jF67_2 n w1 (x2 + 1) u)
  else
  (some x2) else none))
  else
  (some x2))
  else
  (some x2)
def jF67 (w1 : Nat) (u : fm) : Option (Int32) :=
  jF67_2 fm_N w1 0 u
theorem jK67_2 {X : Nat × (Nat → Int32)} {u : fm} {r : Int32} : ∀ (n : Nat) (w1 : Nat) (x2 : Int32) (h1 : fm_isS w1), jF67_2 n w1 x2 u = some r → ev X 67 2 [some (.inr (.inl (some 219))), some (.inr (.inl (some w1))), some (.inl x2)] [] u ([.inl r], u) := by
  intro n
  induction n with
  | zero =>
    intro _ _ _ h
    unfold jF67_2 at h
    cases h
  | succ n ih =>
  intro w1 x2 h1 h
  unfold jF67_2 at h
  refine ev_iload_n (pc := 2) (fe_67 rfl) rfl ?_
  refine ev_aload_n (pc := 3) (fe_67 rfl) rfl ?_
  refine ev_strlen (pc := 4) (fe_67 rfl) rfl (by decide +kernel) rfl h1 ?_
  refine ev_ic_ge (pc := 7) (fe_67 rfl) (t := 50) rfl h (fun h => ?_) (fun h => ?_)
  refine ev_iload_n (pc := 50) (fe_67 rfl) rfl ?_
  exact ev_R (ev_irt (pc := 51) (fe_67 rfl) rt_67) (by rw [← Option.some.inj h])
  refine ev_aload_n (pc := 10) (fe_67 rfl) rfl ?_
  refine ev_getI (pc := 11) (fe_67 rfl) fr_70 t_219 ?_
  refine ev_iload_n (pc := 14) (fe_67 rfl) rfl ?_
  refine ev_iadd (pc := 15) (fe_67 rfl) ?_
  refine ev_aload_n (pc := 16) (fe_67 rfl) rfl ?_
  refine ev_getI (pc := 17) (fe_67 rfl) fr_72 t_219 ?_
  refine ev_ic_ge (pc := 20) (fe_67 rfl) (t := 50) rfl h (fun h => ?_) (fun h => ?_)
  refine ev_iload_n (pc := 50) (fe_67 rfl) rfl ?_
  exact ev_R (ev_irt (pc := 51) (fe_67 rfl) rt_67) (by rw [← Option.some.inj h])
  refine ev_aload_n (pc := 23) (fe_67 rfl) rfl ?_
  refine ev_getR (a1 := 213) (pc := 24) (fe_67 rfl) fr_69 t_219 rfl ?_
  refine ev_aload_n (pc := 27) (fe_67 rfl) rfl ?_
  refine ev_getI (pc := 28) (fe_67 rfl) fr_70 t_219 ?_
  refine ev_iload_n (pc := 31) (fe_67 rfl) rfl ?_
  refine ev_iadd (pc := 32) (fe_67 rfl) ?_
  refine fm_bd h (fun p1 ep1 h => ?_)
  refine ev_callVk (pc := 33) (fe_67 rfl) (z := 72) (na := 2) (ow := 6) cg_67_90 rfl rfl rfl t_213 (m := 0) rfl (jK72 ⟨t_213, t_214⟩ ep1) (st1 := [.inl p1]) rfl ?_
  refine ev_aload_n (pc := 36) (fe_67 rfl) rfl ?_
  refine ev_iload_n (pc := 37) (fe_67 rfl) rfl ?_
  refine fm_ob h (fun g2 h => ?_)
  refine ev_charAt (pc := 38) (fe_67 rfl) rfl (by decide +kernel) rfl h1 g2 ?_
  refine ev_ic_ne (pc := 41) (fe_67 rfl) (t := 50) rfl h (fun h => ?_) (fun h => ?_)
  refine ev_iload_n (pc := 50) (fe_67 rfl) rfl ?_
  exact ev_R (ev_irt (pc := 51) (fe_67 rfl) rt_67) (by rw [← Option.some.inj h])
  refine ev_iinc (pc := 44) (fe_67 rfl) mx_67 rfl rfl li_1 ?_
  refine ev_goto (pc := 47) (fe_67 rfl) (t := 2) rfl ?_
  exact ih w1 (x2 + 1) h1 h
theorem jK67 {X : Nat × (Nat → Int32)} {w1 : Nat} {u : fm} {r : Int32} (h1 : fm_isS w1) (h : jF67 w1 u = some r) : ev X 67 0 [some (.inr (.inl (some 219))), some (.inr (.inl (some w1))), none] [] u ([.inl r], u) := by
  unfold jF67 at h
  refine ev_iconst (pc := 0) (fe_67 rfl) li_0 ?_
  refine ev_istore_n (pc := 1) (fe_67 rfl) mx_67 rfl ?_
  exact jK67_2 fm_N w1 0 h1 h
/-- CallAgents$Reader expect -/
def jF64 (w1 : Nat) (u : fm) : Option (fm) :=
  Option.bind (jF67 w1 u) (fun p1 => if p1 < (nI (fm_sl w1)) then
  (fm_let (jF69 ((fI u 219 1) + p1) u) (fun p3 => fm_let (sI p3 219 1 ((fI p3 219 1) + p1)) (fun u4 => some u4)))
  else
  (fm_let (sI u 219 1 ((fI u 219 1) + p1)) (fun u2 => some u2)))
theorem jK64 {X : Nat × (Nat → Int32)} {w1 : Nat} {u : fm} {r : fm} (h1 : fm_isS w1) (h : jF64 w1 u = some r) : ev X 64 0 [some (.inr (.inl (some 219))), some (.inr (.inl (some w1))), none] [] u ([], r) := by
  unfold jF64 at h
  refine ev_aload_n (pc := 0) (fe_64 rfl) rfl ?_
  refine ev_aload_n (pc := 1) (fe_64 rfl) rfl ?_
  refine fm_bd h (fun p1 ep1 h => ?_)
  refine ev_callVk (pc := 2) (fe_64 rfl) (z := 67) (na := 2) (ow := 5) cg_64_91 rfl rfl rfl t_219 (m := 1) rfl (jK67 h1 ep1) (st1 := [.inl p1]) rfl ?_
  refine ev_istore_n (pc := 5) (fe_64 rfl) mx_64 rfl ?_
  refine ev_iload_n (pc := 6) (fe_64 rfl) rfl ?_
  refine ev_aload_n (pc := 7) (fe_64 rfl) rfl ?_
  refine ev_strlen (pc := 8) (fe_64 rfl) rfl (by decide +kernel) rfl h1 ?_
  refine ev_ic_ge (pc := 11) (fe_64 rfl) (t := 24) rfl h (fun h => ?_) (fun h => ?_)
  refine ev_aload_n (pc := 24) (fe_64 rfl) rfl ?_
  refine ev_dup (pc := 25) (fe_64 rfl) rfl ?_
  refine ev_getI (pc := 26) (fe_64 rfl) fr_70 t_219 ?_
  refine ev_iload_n (pc := 29) (fe_64 rfl) rfl ?_
  refine ev_iadd (pc := 30) (fe_64 rfl) ?_
  refine fm_lt_h h (fun u2 eu2 h => ?_)
  refine ev_putI (pc := 31) (fe_64 rfl) fr_70 t_219 eu2 ?_
  exact ev_R (ev_vrt (pc := 34) (fe_64 rfl) rt_64) (by rw [← Option.some.inj h])
  refine ev_aload_n (pc := 14) (fe_64 rfl) rfl ?_
  refine ev_aload_n (pc := 15) (fe_64 rfl) rfl ?_
  refine ev_getI (pc := 16) (fe_64 rfl) fr_70 t_219 ?_
  refine ev_iload_n (pc := 19) (fe_64 rfl) rfl ?_
  refine ev_iadd (pc := 20) (fe_64 rfl) ?_
  refine fm_lt_h h (fun p3 ep3 h => ?_)
  refine ev_callVk (pc := 21) (fe_64 rfl) (z := 69) (na := 2) (ow := 5) cg_64_79 rfl rfl rfl t_219 (m := 0) rfl (jK69 ep3) (st1 := []) rfl ?_
  refine ev_aload_n (pc := 24) (fe_64 rfl) rfl ?_
  refine ev_dup (pc := 25) (fe_64 rfl) rfl ?_
  refine ev_getI (pc := 26) (fe_64 rfl) fr_70 t_219 ?_
  refine ev_iload_n (pc := 29) (fe_64 rfl) rfl ?_
  refine ev_iadd (pc := 30) (fe_64 rfl) ?_
  refine fm_lt_h h (fun u4 eu4 h => ?_)
  refine ev_putI (pc := 31) (fe_64 rfl) fr_70 t_219 eu4 ?_
  exact ev_R (ev_vrt (pc := 34) (fe_64 rfl) rt_64) (by rw [← Option.some.inj h])
/-- CallAgents$Reader expectSign -/
def jF65 (x1 : Int32) (u : fm) : Option (fm) :=
  Option.bind (jF68 u) (fun p1 => if p1 = x1 then
  (fm_let (sI u 219 1 ((fI u 219 1) + 1)) (fun u3 => some u3))
  else
  (fm_let (jF69 (fI u 219 1) u) (fun p2 => some p2)))
theorem jK65 {X : Nat × (Nat → Int32)} {x1 : Int32} {u : fm} {r : fm} (h : jF65 x1 u = some r) : ev X 65 0 [some (.inr (.inl (some 219))), some (.inl x1)] [] u ([], r) := by
  unfold jF65 at h
  refine ev_aload_n (pc := 0) (fe_65 rfl) rfl ?_
  refine fm_bd h (fun p1 ep1 h => ?_)
  refine ev_callVk (pc := 1) (fe_65 rfl) (z := 68) (na := 1) (ow := 5) cg_65_83 rfl rfl rfl t_219 (m := 0) rfl (jK68 ep1) (st1 := [.inl p1]) rfl ?_
  refine ev_iload_n (pc := 4) (fe_65 rfl) rfl ?_
  refine ev_ic_ne (pc := 5) (fe_65 rfl) (t := 21) rfl h (fun h => ?_) (fun h => ?_)
  refine ev_aload_n (pc := 21) (fe_65 rfl) rfl ?_
  refine ev_aload_n (pc := 22) (fe_65 rfl) rfl ?_
  refine ev_getI (pc := 23) (fe_65 rfl) fr_70 t_219 ?_
  refine fm_lt_h h (fun p2 ep2 h => ?_)
  refine ev_callVk (pc := 26) (fe_65 rfl) (z := 69) (na := 2) (ow := 5) cg_65_79 rfl rfl rfl t_219 (m := 0) rfl (jK69 ep2) (st1 := []) rfl ?_
  exact ev_R (ev_vrt (pc := 29) (fe_65 rfl) rt_65) (by rw [← Option.some.inj h])
  refine ev_aload_n (pc := 8) (fe_65 rfl) rfl ?_
  refine ev_dup (pc := 9) (fe_65 rfl) rfl ?_
  refine ev_getI (pc := 10) (fe_65 rfl) fr_70 t_219 ?_
  refine ev_iconst (pc := 13) (fe_65 rfl) li_1 ?_
  refine ev_iadd (pc := 14) (fe_65 rfl) ?_
  refine fm_lt_h h (fun u3 eu3 h => ?_)
  refine ev_putI (pc := 15) (fe_65 rfl) fr_70 t_219 eu3 ?_
  refine ev_goto (pc := 18) (fe_65 rfl) (t := 29) rfl ?_
  exact ev_R (ev_vrt (pc := 29) (fe_65 rfl) rt_65) (by rw [← Option.some.inj h])
/-- CallAgents$Reader choose -/
def jF66_5 : Nat → Int32 → Int32 → Int32 → Int32 → fm → Option (Int32 × fm)
  | 0, _, _, _, _, _ => none
  | n + 1, x1, x2, x3, x4, u =>
  if x2 < x4 then
  (fm_let (jF69 ((fI u 219 1) + x3) u) (fun p1 => some (0, p1)))
  else
  (fm_let (jF84 x4) (fun w2 => Option.bind (jF67 w2 u) (fun p3 => fm_let (jF84 x4) (fun w4 => if p3 = (nI (fm_sl w4)) then
  (fm_let (sI u 219 1 ((fI u 219 1) + p3)) (fun u5 => some (x4 - x1, u5)))
  else
  (jF66_5 n x1 x2 (fm_max x3 p3) (x4 + 1) u)))))
def jF66 (x1 : Int32) (x2 : Int32) (u : fm) : Option (Int32 × fm) :=
  jF66_5 fm_N x1 x2 0 x1 u
theorem jK66_5 {X : Nat × (Nat → Int32)} {r : Int32 × fm} : ∀ (n : Nat) (x1 : Int32) (x2 : Int32) (x3 : Int32) (x4 : Int32) (u : fm), jF66_5 n x1 x2 x3 x4 u = some r → ev X 66 5 [some (.inr (.inl (some 219))), some (.inl x1), some (.inl x2), some (.inl x3), some (.inl x4), none] [] u ([.inl r.1], r.2) := by
  intro n
  induction n with
  | zero =>
    intro _ _ _ _ _ h
    unfold jF66_5 at h
    cases h
  | succ n ih =>
  intro x1 x2 x3 x4 u h
  unfold jF66_5 at h
  refine ev_iload (pc := 5) (fe_66 rfl) rfl ?_
  refine ev_iload_n (pc := 7) (fe_66 rfl) rfl ?_
  refine ev_ic_gt (pc := 8) (fe_66 rfl) (t := 64) rfl h (fun h => ?_) (fun h => ?_)
  refine ev_aload_n (pc := 64) (fe_66 rfl) rfl ?_
  refine ev_aload_n (pc := 65) (fe_66 rfl) rfl ?_
  refine ev_getI (pc := 66) (fe_66 rfl) fr_70 t_219 ?_
  refine ev_iload_n (pc := 69) (fe_66 rfl) rfl ?_
  refine ev_iadd (pc := 70) (fe_66 rfl) ?_
  refine fm_lt_h h (fun p1 ep1 h => ?_)
  refine ev_callVk (pc := 71) (fe_66 rfl) (z := 69) (na := 2) (ow := 5) cg_66_79 rfl rfl rfl t_219 (m := 0) rfl (jK69 ep1) (st1 := []) rfl ?_
  refine ev_iconst (pc := 74) (fe_66 rfl) li_0 ?_
  exact ev_R (ev_irt (pc := 75) (fe_66 rfl) rt_66) (by rw [← Option.some.inj h])
  refine ev_aload_n (pc := 11) (fe_66 rfl) rfl ?_
  refine ev_iload (pc := 12) (fe_66 rfl) rfl ?_
  refine fm_lt_h h (fun w2 ew2 h => ?_)
  have hw2 : fm_isS w2 := jP84 ew2
  refine ev_callSk (pc := 14) (fe_66 rfl) (z := 84) (na := 1) (ow := 8) cg_66_93 rfl (m := 0) rfl (jK84 ew2) (st1 := [.inr (.inl (some w2)), .inr (.inl (some 219))]) rfl ?_
  refine fm_bd h (fun p3 ep3 h => ?_)
  refine ev_callVk (pc := 17) (fe_66 rfl) (z := 67) (na := 2) (ow := 5) cg_66_91 rfl rfl rfl t_219 (m := 1) rfl (jK67 hw2 ep3) (st1 := [.inl p3]) rfl ?_
  refine ev_istore (pc := 20) (fe_66 rfl) mx_66 rfl ?_
  refine ev_iload (pc := 22) (fe_66 rfl) rfl ?_
  refine ev_iload (pc := 24) (fe_66 rfl) rfl ?_
  refine fm_lt_h h (fun w4 ew4 h => ?_)
  have hw4 : fm_isS w4 := jP84 ew4
  refine ev_callSk (pc := 26) (fe_66 rfl) (z := 84) (na := 1) (ow := 8) cg_66_93 rfl (m := 0) rfl (jK84 ew4) (st1 := [.inr (.inl (some w4)), .inl p3]) rfl ?_
  refine ev_strlen (pc := 29) (fe_66 rfl) rfl (by decide +kernel) rfl hw4 ?_
  refine ev_ic_ne (pc := 32) (fe_66 rfl) (t := 51) rfl h (fun h => ?_) (fun h => ?_)
  refine ev_iload_n (pc := 51) (fe_66 rfl) rfl ?_
  refine ev_iload (pc := 52) (fe_66 rfl) rfl ?_
  refine ev_max (pc := 54) (fe_66 rfl) rfl (by decide +kernel) rfl ?_
  refine ev_istore_n (pc := 57) (fe_66 rfl) mx_66 rfl ?_
  refine ev_iinc (pc := 58) (fe_66 rfl) mx_66 rfl rfl li_1 ?_
  refine ev_goto (pc := 61) (fe_66 rfl) (t := 5) rfl ?_
  refine ev_w [true, true, true, true, true, false] ?_
  exact ih x1 x2 (fm_max x3 p3) (x4 + 1) u h
  refine ev_aload_n (pc := 35) (fe_66 rfl) rfl ?_
  refine ev_dup (pc := 36) (fe_66 rfl) rfl ?_
  refine ev_getI (pc := 37) (fe_66 rfl) fr_70 t_219 ?_
  refine ev_iload (pc := 40) (fe_66 rfl) rfl ?_
  refine ev_iadd (pc := 42) (fe_66 rfl) ?_
  refine fm_lt_h h (fun u5 eu5 h => ?_)
  refine ev_putI (pc := 43) (fe_66 rfl) fr_70 t_219 eu5 ?_
  refine ev_iload (pc := 46) (fe_66 rfl) rfl ?_
  refine ev_iload_n (pc := 48) (fe_66 rfl) rfl ?_
  refine ev_isub (pc := 49) (fe_66 rfl) ?_
  exact ev_R (ev_irt (pc := 50) (fe_66 rfl) rt_66) (by rw [← Option.some.inj h])
theorem jK66 {X : Nat × (Nat → Int32)} {x1 : Int32} {x2 : Int32} {u : fm} {r : Int32 × fm} (h : jF66 x1 x2 u = some r) : ev X 66 0 [some (.inr (.inl (some 219))), some (.inl x1), some (.inl x2), none, none, none] [] u ([.inl r.1], r.2) := by
  unfold jF66 at h
  refine ev_iconst (pc := 0) (fe_66 rfl) li_0 ?_
  refine ev_istore_n (pc := 1) (fe_66 rfl) mx_66 rfl ?_
  refine ev_iload_n (pc := 2) (fe_66 rfl) rfl ?_
  refine ev_istore (pc := 3) (fe_66 rfl) mx_66 rfl ?_
  exact jK66_5 fm_N x1 x2 0 x1 u h
/-- CallAgents$Reader readStart -/
def jF55 (a1 : Nat) (u : fm) : Option (fm) :=
  Option.bind (jF66 0 6 u) (fun p1 => fm_let (sI p1.2 a1 1 p1.1) (fun u2 => fm_let (sI u2 a1 2 0) (fun u3 => if (jF45 a1 u3) = 0 then
  (Option.bind (jF65 10 u3) (fun p5 => some p5))
  else
  (Option.bind (jF61 u3) (fun p6 => fm_let (sI p6.2 a1 2 p6.1) (fun u7 => Option.bind (jF64 1000002 u7) (fun p8 => Option.bind (jF65 10 p8) (fun p9 => some p9))))))))
theorem jK55 {X : Nat × (Nat → Int32)} {a1 : Nat} {u : fm} {r : fm} (h1 : fm_isM a1) (h : jF55 a1 u = some r) : ev X 55 0 [some (.inr (.inl (some 219))), some (.inr (.inl (some a1)))] [] u ([], r) := by
  unfold jF55 at h
  refine ev_aload_n (pc := 0) (fe_55 rfl) rfl ?_
  refine ev_aload_n (pc := 1) (fe_55 rfl) rfl ?_
  refine ev_iconst (pc := 2) (fe_55 rfl) li_0 ?_
  refine ev_bipush (pc := 3) (fe_55 rfl) lb_6 ?_
  refine fm_bd h (fun p1 ep1 h => ?_)
  refine ev_callVk (pc := 5) (fe_55 rfl) (z := 66) (na := 3) (ow := 5) cg_55_75 rfl rfl rfl t_219 (m := 3) rfl (jK66 ep1) (st1 := [.inl p1.1, .inr (.inl (some a1))]) rfl ?_
  refine fm_lt_h h (fun u2 eu2 h => ?_)
  refine ev_putI (pc := 8) (fe_55 rfl) fr_76 h1.1 eu2 ?_
  refine ev_aload_n (pc := 11) (fe_55 rfl) rfl ?_
  refine ev_iconst (pc := 12) (fe_55 rfl) li_0 ?_
  refine fm_lt_h h (fun u3 eu3 h => ?_)
  refine ev_putI (pc := 13) (fe_55 rfl) fr_77 h1.1 eu3 ?_
  refine ev_aload_n (pc := 16) (fe_55 rfl) rfl ?_
  refine ev_callVZk (pc := 17) (fe_55 rfl) (z := 45) (na := 1) (ow := 4) cg_55_76 rfl rt_45 rfl rfl h1.1 (m := 0) rfl (jK45 h1 rfl) (st1 := [.inl (jF45 a1 u3)]) rfl (fun z4 => ?_)
  refine ev_if_eq (pc := 20) (fe_55 rfl) (t := 37) rfl h (fun h => ?_) (fun h => ?_)
  refine ev_aload_n (pc := 37) (fe_55 rfl) rfl ?_
  refine ev_bipush (pc := 38) (fe_55 rfl) lb_10 ?_
  refine fm_bd h (fun p5 ep5 h => ?_)
  refine ev_callVk (pc := 40) (fe_55 rfl) (z := 65) (na := 2) (ow := 5) cg_55_73 rfl rfl rfl t_219 (m := 0) rfl (jK65 ep5) (st1 := []) rfl ?_
  exact ev_R (ev_vrt (pc := 43) (fe_55 rfl) rt_55) (by rw [← Option.some.inj h])
  refine ev_aload_n (pc := 23) (fe_55 rfl) rfl ?_
  refine ev_aload_n (pc := 24) (fe_55 rfl) rfl ?_
  refine fm_bd h (fun p6 ep6 h => ?_)
  refine ev_callVk (pc := 25) (fe_55 rfl) (z := 61) (na := 1) (ow := 5) cg_55_77 rfl rfl rfl t_219 (m := 0) rfl (jK61 ep6) (st1 := [.inl p6.1, .inr (.inl (some a1))]) rfl ?_
  refine fm_lt_h h (fun u7 eu7 h => ?_)
  refine ev_putI (pc := 28) (fe_55 rfl) fr_77 h1.1 eu7 ?_
  refine ev_aload_n (pc := 31) (fe_55 rfl) rfl ?_
  refine ev_ldcs (pc := 32) (fe_55 rfl) (j := 1) rfl rfl ?_
  refine fm_bd h (fun p8 ep8 h => ?_)
  refine ev_callVk (pc := 34) (fe_55 rfl) (z := 64) (na := 2) (ow := 5) cg_55_78 rfl rfl rfl t_219 (m := 1) rfl (jK64 ⟨by decide, by decide⟩ ep8) (st1 := []) rfl ?_
  refine ev_aload_n (pc := 37) (fe_55 rfl) rfl ?_
  refine ev_bipush (pc := 38) (fe_55 rfl) lb_10 ?_
  refine fm_bd h (fun p9 ep9 h => ?_)
  refine ev_callVk (pc := 40) (fe_55 rfl) (z := 65) (na := 2) (ow := 5) cg_55_73 rfl rfl rfl t_219 (m := 0) rfl (jK65 ep9) (st1 := []) rfl ?_
  exact ev_R (ev_vrt (pc := 43) (fe_55 rfl) rt_55) (by rw [← Option.some.inj h])
/-- CallAgents$Reader readNumber -/
def jF63_81 (x1 : Int32) (x2 : Int32) (x3 : Int32) (u : fm) : Option (Int32 × fm) :=
  if ((fI u 219 1) - x2) = 0 then
  (fm_let (jF69 x2 u) (fun p1 => some (x3, p1)))
  else
  (if 9 < ((fI u 219 1) - x2) then
  (fm_let (jF69 x2 u) (fun p2 => some (x3, p2)))
  else
  (if x1 < x3 then
  (fm_let (jF69 x2 u) (fun p3 => some (x3, p3)))
  else
  (if 1 < ((fI u 219 1) - x2) then
  (Option.bind (jF72 213 x2 u) (fun p4 => if p4 = 48 then
  (fm_let (jF69 x2 u) (fun p5 => some (x3, p5)))
  else
  (some (x3, u))))
  else
  (some (x3, u)))))
def jF63_10 : Nat → Int32 → Int32 → Int32 → Int32 → fm → Option (Int32 × fm)
  | 0, _, _, _, _, _ => none
  | n + 1, x1, x2, x3, x4, u =>
  if x4 < (fI u 219 2) then
  (Option.bind (jF68 u) (fun p6 => if p6 < 48 then
  (jF63_81 x1 x2 x3 u)
  else
  (Option.bind (jF68 u) (fun p7 => if 57 < p7 then
  (jF63_81 x1 x2 x3 u)
  else
  (if ((fI u 219 1) - x2) < 9 then
  (Option.bind (jF68 u) (fun p9 => fm_let (sI u 219 1 ((fI u 219 1) + 1)) (fun u10 => jF63_10 n x1 x2 (((10 * x3) + p9) - 48) (x4 + 1) u10)))
  else
  (fm_let (sI u 219 1 ((fI u 219 1) + 1)) (fun u8 => jF63_10 n x1 x2 x3 (x4 + 1) u8)))))))
  else
  (jF63_81 x1 x2 x3 u)
def jF63 (x1 : Int32) (u : fm) : Option (Int32 × fm) :=
  jF63_10 fm_N x1 (fI u 219 1) 0 0 u
theorem jK63_81 {X : Nat × (Nat → Int32)} {r : Int32 × fm} (x1 : Int32) (x2 : Int32) (x3 : Int32) (u : fm) (h : jF63_81 x1 x2 x3 u = some r) : ev X 63 81 [some (.inr (.inl (some 219))), some (.inl x1), some (.inl x2), some (.inl x3), none] [] u ([.inl r.1], r.2) := by
  unfold jF63_81 at h
  refine ev_aload_n (pc := 81) (fe_63 rfl) rfl ?_
  refine ev_getI (pc := 82) (fe_63 rfl) fr_70 t_219 ?_
  refine ev_iload_n (pc := 85) (fe_63 rfl) rfl ?_
  refine ev_isub (pc := 86) (fe_63 rfl) ?_
  refine ev_istore (pc := 87) (fe_63 rfl) mx_63 rfl ?_
  refine ev_iload (pc := 89) (fe_63 rfl) rfl ?_
  refine ev_if_eq (pc := 91) (fe_63 rfl) (t := 125) rfl h (fun h => ?_) (fun h => ?_)
  refine ev_aload_n (pc := 125) (fe_63 rfl) rfl ?_
  refine ev_iload_n (pc := 126) (fe_63 rfl) rfl ?_
  refine fm_lt_h h (fun p1 ep1 h => ?_)
  refine ev_callVk (pc := 127) (fe_63 rfl) (z := 69) (na := 2) (ow := 5) cg_63_79 rfl rfl rfl t_219 (m := 0) rfl (jK69 ep1) (st1 := []) rfl ?_
  refine ev_iload_n (pc := 130) (fe_63 rfl) rfl ?_
  exact ev_R (ev_irt (pc := 131) (fe_63 rfl) rt_63) (by rw [← Option.some.inj h])
  refine ev_iload (pc := 94) (fe_63 rfl) rfl ?_
  refine ev_bipush (pc := 96) (fe_63 rfl) lb_9 ?_
  refine ev_ic_gt (pc := 98) (fe_63 rfl) (t := 125) rfl h (fun h => ?_) (fun h => ?_)
  refine ev_aload_n (pc := 125) (fe_63 rfl) rfl ?_
  refine ev_iload_n (pc := 126) (fe_63 rfl) rfl ?_
  refine fm_lt_h h (fun p2 ep2 h => ?_)
  refine ev_callVk (pc := 127) (fe_63 rfl) (z := 69) (na := 2) (ow := 5) cg_63_79 rfl rfl rfl t_219 (m := 0) rfl (jK69 ep2) (st1 := []) rfl ?_
  refine ev_iload_n (pc := 130) (fe_63 rfl) rfl ?_
  exact ev_R (ev_irt (pc := 131) (fe_63 rfl) rt_63) (by rw [← Option.some.inj h])
  refine ev_iload_n (pc := 101) (fe_63 rfl) rfl ?_
  refine ev_iload_n (pc := 102) (fe_63 rfl) rfl ?_
  refine ev_ic_gt (pc := 103) (fe_63 rfl) (t := 125) rfl h (fun h => ?_) (fun h => ?_)
  refine ev_aload_n (pc := 125) (fe_63 rfl) rfl ?_
  refine ev_iload_n (pc := 126) (fe_63 rfl) rfl ?_
  refine fm_lt_h h (fun p3 ep3 h => ?_)
  refine ev_callVk (pc := 127) (fe_63 rfl) (z := 69) (na := 2) (ow := 5) cg_63_79 rfl rfl rfl t_219 (m := 0) rfl (jK69 ep3) (st1 := []) rfl ?_
  refine ev_iload_n (pc := 130) (fe_63 rfl) rfl ?_
  exact ev_R (ev_irt (pc := 131) (fe_63 rfl) rt_63) (by rw [← Option.some.inj h])
  refine ev_iload (pc := 106) (fe_63 rfl) rfl ?_
  refine ev_iconst (pc := 108) (fe_63 rfl) li_1 ?_
  refine ev_ic_le (pc := 109) (fe_63 rfl) (t := 130) rfl h (fun h => ?_) (fun h => ?_)
  refine ev_iload_n (pc := 130) (fe_63 rfl) rfl ?_
  exact ev_R (ev_irt (pc := 131) (fe_63 rfl) rt_63) (by rw [← Option.some.inj h])
  refine ev_aload_n (pc := 112) (fe_63 rfl) rfl ?_
  refine ev_getR (a1 := 213) (pc := 113) (fe_63 rfl) fr_69 t_219 rfl ?_
  refine ev_iload_n (pc := 116) (fe_63 rfl) rfl ?_
  refine fm_bd h (fun p4 ep4 h => ?_)
  refine ev_callVk (pc := 117) (fe_63 rfl) (z := 72) (na := 2) (ow := 6) cg_63_90 rfl rfl rfl t_213 (m := 0) rfl (jK72 ⟨t_213, t_214⟩ ep4) (st1 := [.inl p4]) rfl ?_
  refine ev_bipush (pc := 120) (fe_63 rfl) lb_48 ?_
  refine ev_ic_ne (pc := 122) (fe_63 rfl) (t := 130) rfl h (fun h => ?_) (fun h => ?_)
  refine ev_iload_n (pc := 130) (fe_63 rfl) rfl ?_
  exact ev_R (ev_irt (pc := 131) (fe_63 rfl) rt_63) (by rw [← Option.some.inj h])
  refine ev_aload_n (pc := 125) (fe_63 rfl) rfl ?_
  refine ev_iload_n (pc := 126) (fe_63 rfl) rfl ?_
  refine fm_lt_h h (fun p5 ep5 h => ?_)
  refine ev_callVk (pc := 127) (fe_63 rfl) (z := 69) (na := 2) (ow := 5) cg_63_79 rfl rfl rfl t_219 (m := 0) rfl (jK69 ep5) (st1 := []) rfl ?_
  refine ev_iload_n (pc := 130) (fe_63 rfl) rfl ?_
  exact ev_R (ev_irt (pc := 131) (fe_63 rfl) rt_63) (by rw [← Option.some.inj h])
theorem jK63_10 {X : Nat × (Nat → Int32)} {r : Int32 × fm} : ∀ (n : Nat) (x1 : Int32) (x2 : Int32) (x3 : Int32) (x4 : Int32) (u : fm), jF63_10 n x1 x2 x3 x4 u = some r → ev X 63 10 [some (.inr (.inl (some 219))), some (.inl x1), some (.inl x2), some (.inl x3), some (.inl x4)] [] u ([.inl r.1], r.2) := by
  intro n
  induction n with
  | zero =>
    intro _ _ _ _ _ h
    unfold jF63_10 at h
    cases h
  | succ n ih =>
  intro x1 x2 x3 x4 u h
  unfold jF63_10 at h
  refine ev_iload (pc := 10) (fe_63 rfl) rfl ?_
  refine ev_aload_n (pc := 12) (fe_63 rfl) rfl ?_
  refine ev_getI (pc := 13) (fe_63 rfl) fr_72 t_219 ?_
  refine ev_ic_ge (pc := 16) (fe_63 rfl) (t := 81) rfl h (fun h => ?_) (fun h => ?_)
  refine ev_w [true, true, true, true, false] ?_
  exact jK63_81 x1 x2 x3 u h
  refine ev_aload_n (pc := 19) (fe_63 rfl) rfl ?_
  refine fm_bd h (fun p6 ep6 h => ?_)
  refine ev_callVk (pc := 20) (fe_63 rfl) (z := 68) (na := 1) (ow := 5) cg_63_83 rfl rfl rfl t_219 (m := 0) rfl (jK68 ep6) (st1 := [.inl p6]) rfl ?_
  refine ev_bipush (pc := 23) (fe_63 rfl) lb_48 ?_
  refine ev_ic_lt (pc := 25) (fe_63 rfl) (t := 81) rfl h (fun h => ?_) (fun h => ?_)
  refine ev_w [true, true, true, true, false] ?_
  exact jK63_81 x1 x2 x3 u h
  refine ev_aload_n (pc := 28) (fe_63 rfl) rfl ?_
  refine fm_bd h (fun p7 ep7 h => ?_)
  refine ev_callVk (pc := 29) (fe_63 rfl) (z := 68) (na := 1) (ow := 5) cg_63_83 rfl rfl rfl t_219 (m := 0) rfl (jK68 ep7) (st1 := [.inl p7]) rfl ?_
  refine ev_bipush (pc := 32) (fe_63 rfl) lb_57 ?_
  refine ev_ic_gt (pc := 34) (fe_63 rfl) (t := 81) rfl h (fun h => ?_) (fun h => ?_)
  refine ev_w [true, true, true, true, false] ?_
  exact jK63_81 x1 x2 x3 u h
  refine ev_aload_n (pc := 37) (fe_63 rfl) rfl ?_
  refine ev_getI (pc := 38) (fe_63 rfl) fr_70 t_219 ?_
  refine ev_iload_n (pc := 41) (fe_63 rfl) rfl ?_
  refine ev_isub (pc := 42) (fe_63 rfl) ?_
  refine ev_bipush (pc := 43) (fe_63 rfl) lb_9 ?_
  refine ev_ic_ge (pc := 45) (fe_63 rfl) (t := 63) rfl h (fun h => ?_) (fun h => ?_)
  refine ev_iload_n (pc := 63) (fe_63 rfl) rfl ?_
  refine ev_istore_n (pc := 64) (fe_63 rfl) mx_63 rfl ?_
  refine ev_aload_n (pc := 65) (fe_63 rfl) rfl ?_
  refine ev_dup (pc := 66) (fe_63 rfl) rfl ?_
  refine ev_getI (pc := 67) (fe_63 rfl) fr_70 t_219 ?_
  refine ev_iconst (pc := 70) (fe_63 rfl) li_1 ?_
  refine ev_iadd (pc := 71) (fe_63 rfl) ?_
  refine fm_lt_h h (fun u8 eu8 h => ?_)
  refine ev_putI (pc := 72) (fe_63 rfl) fr_70 t_219 eu8 ?_
  refine ev_iinc (pc := 75) (fe_63 rfl) mx_63 rfl rfl li_1 ?_
  refine ev_goto (pc := 78) (fe_63 rfl) (t := 10) rfl ?_
  exact ih x1 x2 x3 (x4 + 1) u8 h
  refine ev_bipush (pc := 48) (fe_63 rfl) lb_10 ?_
  refine ev_iload_n (pc := 50) (fe_63 rfl) rfl ?_
  refine ev_imul (pc := 51) (fe_63 rfl) ?_
  refine ev_aload_n (pc := 52) (fe_63 rfl) rfl ?_
  refine fm_bd h (fun p9 ep9 h => ?_)
  refine ev_callVk (pc := 53) (fe_63 rfl) (z := 68) (na := 1) (ow := 5) cg_63_83 rfl rfl rfl t_219 (m := 0) rfl (jK68 ep9) (st1 := [.inl p9, .inl (10 * x3)]) rfl ?_
  refine ev_iadd (pc := 56) (fe_63 rfl) ?_
  refine ev_bipush (pc := 57) (fe_63 rfl) lb_48 ?_
  refine ev_isub (pc := 59) (fe_63 rfl) ?_
  refine ev_goto (pc := 60) (fe_63 rfl) (t := 64) rfl ?_
  refine ev_istore_n (pc := 64) (fe_63 rfl) mx_63 rfl ?_
  refine ev_aload_n (pc := 65) (fe_63 rfl) rfl ?_
  refine ev_dup (pc := 66) (fe_63 rfl) rfl ?_
  refine ev_getI (pc := 67) (fe_63 rfl) fr_70 t_219 ?_
  refine ev_iconst (pc := 70) (fe_63 rfl) li_1 ?_
  refine ev_iadd (pc := 71) (fe_63 rfl) ?_
  refine fm_lt_h h (fun u10 eu10 h => ?_)
  refine ev_putI (pc := 72) (fe_63 rfl) fr_70 t_219 eu10 ?_
  refine ev_iinc (pc := 75) (fe_63 rfl) mx_63 rfl rfl li_1 ?_
  refine ev_goto (pc := 78) (fe_63 rfl) (t := 10) rfl ?_
  exact ih x1 x2 (((10 * x3) + p9) - 48) (x4 + 1) u10 h
theorem jK63 {X : Nat × (Nat → Int32)} {x1 : Int32} {u : fm} {r : Int32 × fm} (h : jF63 x1 u = some r) : ev X 63 0 [some (.inr (.inl (some 219))), some (.inl x1), none, none, none] [] u ([.inl r.1], r.2) := by
  unfold jF63 at h
  refine ev_aload_n (pc := 0) (fe_63 rfl) rfl ?_
  refine ev_getI (pc := 1) (fe_63 rfl) fr_70 t_219 ?_
  refine ev_istore_n (pc := 4) (fe_63 rfl) mx_63 rfl ?_
  refine ev_iconst (pc := 5) (fe_63 rfl) li_0 ?_
  refine ev_istore_n (pc := 6) (fe_63 rfl) mx_63 rfl ?_
  refine ev_iconst (pc := 7) (fe_63 rfl) li_0 ?_
  refine ev_istore (pc := 8) (fe_63 rfl) mx_63 rfl ?_
  exact jK63_10 fm_N x1 (fI u 219 1) 0 0 u h
/-- CallAgents$Reader readToTag -/
def jF57_15 (a1 : Nat) (s1 : Int32) (u : fm) : Option (fm) :=
  fm_let (sI u a1 8 s1) (fun u2 => fm_let (sI u2 a1 9 0) (fun u3 => if (fm_b01 (fI u3 a1 8)) = 0 then
  (some u3)
  else
  (Option.bind (jF64 1000008 u3) (fun p4 => Option.bind (jF63 999999999 p4) (fun p5 => fm_let (sI p5.2 a1 9 p5.1) (fun u6 => some u6))))))
def jF57 (a1 : Nat) (u : fm) : Option (fm) :=
  Option.bind (jF68 u) (fun p1 => if p1 = 10 then
  (jF57_15 a1 0 u)
  else
  (jF57_15 a1 1 u))
theorem jK57_15 {X : Nat × (Nat → Int32)} {r : fm} (a1 : Nat) (s1 : Int32) (u : fm) (h1 : fm_isM a1) (b_s1 : s1 = 0 ∨ s1 = 1) (h : jF57_15 a1 s1 u = some r) : ev X 57 15 [some (.inr (.inl (some 219))), some (.inr (.inl (some a1)))] [.inl s1, .inr (.inl (some a1))] u ([], r) := by
  unfold jF57_15 at h
  refine fm_lt_h h (fun u2 eu2 h => ?_)
  refine ev_putZ (pc := 15) (fe_57 rfl) fr_84 h1.1 (b_s1) eu2 ?_
  refine ev_aload_n (pc := 18) (fe_57 rfl) rfl ?_
  refine ev_iconst (pc := 19) (fe_57 rfl) li_0 ?_
  refine fm_lt_h h (fun u3 eu3 h => ?_)
  refine ev_putI (pc := 20) (fe_57 rfl) fr_85 h1.1 eu3 ?_
  refine ev_aload_n (pc := 23) (fe_57 rfl) rfl ?_
  refine ev_getZ (pc := 24) (fe_57 rfl) fr_84 h1.1 ?_
  refine ev_if_eq (pc := 27) (fe_57 rfl) (t := 46) rfl h (fun h => ?_) (fun h => ?_)
  exact ev_R (ev_vrt (pc := 46) (fe_57 rfl) rt_57) (by rw [← Option.some.inj h])
  refine ev_aload_n (pc := 30) (fe_57 rfl) rfl ?_
  refine ev_ldcs (pc := 31) (fe_57 rfl) (j := 7) rfl rfl ?_
  refine fm_bd h (fun p4 ep4 h => ?_)
  refine ev_callVk (pc := 33) (fe_57 rfl) (z := 64) (na := 2) (ow := 5) cg_57_78 rfl rfl rfl t_219 (m := 1) rfl (jK64 ⟨by decide, by decide⟩ ep4) (st1 := []) rfl ?_
  refine ev_aload_n (pc := 36) (fe_57 rfl) rfl ?_
  refine ev_aload_n (pc := 37) (fe_57 rfl) rfl ?_
  refine ev_ldc (pc := 38) (fe_57 rfl) (c := 999999999) rfl ?_
  refine fm_bd h (fun p5 ep5 h => ?_)
  refine ev_callVk (pc := 40) (fe_57 rfl) (z := 63) (na := 2) (ow := 5) cg_57_80 rfl rfl rfl t_219 (m := 3) rfl (jK63 ep5) (st1 := [.inl p5.1, .inr (.inl (some a1))]) rfl ?_
  refine fm_lt_h h (fun u6 eu6 h => ?_)
  refine ev_putI (pc := 43) (fe_57 rfl) fr_85 h1.1 eu6 ?_
  exact ev_R (ev_vrt (pc := 46) (fe_57 rfl) rt_57) (by rw [← Option.some.inj h])
theorem jK57 {X : Nat × (Nat → Int32)} {a1 : Nat} {u : fm} {r : fm} (h1 : fm_isM a1) (h : jF57 a1 u = some r) : ev X 57 0 [some (.inr (.inl (some 219))), some (.inr (.inl (some a1)))] [] u ([], r) := by
  unfold jF57 at h
  refine ev_aload_n (pc := 0) (fe_57 rfl) rfl ?_
  refine ev_aload_n (pc := 1) (fe_57 rfl) rfl ?_
  refine fm_bd h (fun p1 ep1 h => ?_)
  refine ev_callVk (pc := 2) (fe_57 rfl) (z := 68) (na := 1) (ow := 5) cg_57_83 rfl rfl rfl t_219 (m := 0) rfl (jK68 ep1) (st1 := [.inl p1, .inr (.inl (some a1))]) rfl ?_
  refine ev_bipush (pc := 5) (fe_57 rfl) lb_10 ?_
  refine ev_ic_eq (pc := 7) (fe_57 rfl) (t := 14) rfl h (fun h => ?_) (fun h => ?_)
  refine ev_iconst (pc := 14) (fe_57 rfl) li_0 ?_
  exact jK57_15 a1 0 u h1 (Or.inl rfl) h
  refine ev_iconst (pc := 10) (fe_57 rfl) li_1 ?_
  refine ev_goto (pc := 11) (fe_57 rfl) (t := 15) rfl ?_
  exact jK57_15 a1 1 u h1 (Or.inr rfl) h
/-- CallAgents$Reader readCSeq -/
def jF58 (a1 : Nat) (u : fm) : Option (fm) :=
  Option.bind (jF63 999999999 u) (fun p1 => fm_let (sI p1.2 a1 11 p1.1) (fun u2 => Option.bind (jF65 32 u2) (fun p3 => Option.bind (jF66 13 15 p3) (fun p4 => fm_let (sI p4.2 a1 12 p4.1) (fun u5 => if (jF45 a1 u5) = 0 then
  (some u5)
  else
  (if (fI u5 a1 12) = (fI u5 a1 1) then
  (some u5)
  else
  (fm_let (jF69 (fI p3 219 1) u5) (fun p7 => some p7))))))))
theorem jK58 {X : Nat × (Nat → Int32)} {a1 : Nat} {u : fm} {r : fm} (h1 : fm_isM a1) (h : jF58 a1 u = some r) : ev X 58 0 [some (.inr (.inl (some 219))), some (.inr (.inl (some a1))), none] [] u ([], r) := by
  unfold jF58 at h
  refine ev_aload_n (pc := 0) (fe_58 rfl) rfl ?_
  refine ev_aload_n (pc := 1) (fe_58 rfl) rfl ?_
  refine ev_ldc (pc := 2) (fe_58 rfl) (c := 999999999) rfl ?_
  refine fm_bd h (fun p1 ep1 h => ?_)
  refine ev_callVk (pc := 4) (fe_58 rfl) (z := 63) (na := 2) (ow := 5) cg_58_80 rfl rfl rfl t_219 (m := 3) rfl (jK63 ep1) (st1 := [.inl p1.1, .inr (.inl (some a1))]) rfl ?_
  refine fm_lt_h h (fun u2 eu2 h => ?_)
  refine ev_putI (pc := 7) (fe_58 rfl) fr_86 h1.1 eu2 ?_
  refine ev_aload_n (pc := 10) (fe_58 rfl) rfl ?_
  refine ev_bipush (pc := 11) (fe_58 rfl) lb_32 ?_
  refine fm_bd h (fun p3 ep3 h => ?_)
  refine ev_callVk (pc := 13) (fe_58 rfl) (z := 65) (na := 2) (ow := 5) cg_58_73 rfl rfl rfl t_219 (m := 0) rfl (jK65 ep3) (st1 := []) rfl ?_
  refine ev_aload_n (pc := 16) (fe_58 rfl) rfl ?_
  refine ev_getI (pc := 17) (fe_58 rfl) fr_70 t_219 ?_
  refine ev_istore_n (pc := 20) (fe_58 rfl) mx_58 rfl ?_
  refine ev_aload_n (pc := 21) (fe_58 rfl) rfl ?_
  refine ev_aload_n (pc := 22) (fe_58 rfl) rfl ?_
  refine ev_bipush (pc := 23) (fe_58 rfl) lb_13 ?_
  refine ev_bipush (pc := 25) (fe_58 rfl) lb_15 ?_
  refine fm_bd h (fun p4 ep4 h => ?_)
  refine ev_callVk (pc := 27) (fe_58 rfl) (z := 66) (na := 3) (ow := 5) cg_58_75 rfl rfl rfl t_219 (m := 3) rfl (jK66 ep4) (st1 := [.inl p4.1, .inr (.inl (some a1))]) rfl ?_
  refine fm_lt_h h (fun u5 eu5 h => ?_)
  refine ev_putI (pc := 30) (fe_58 rfl) fr_87 h1.1 eu5 ?_
  refine ev_aload_n (pc := 33) (fe_58 rfl) rfl ?_
  refine ev_callVZk (pc := 34) (fe_58 rfl) (z := 45) (na := 1) (ow := 4) cg_58_76 rfl rt_45 rfl rfl h1.1 (m := 0) rfl (jK45 h1 rfl) (st1 := [.inl (jF45 a1 u5)]) rfl (fun z6 => ?_)
  refine ev_if_eq (pc := 37) (fe_58 rfl) (t := 56) rfl h (fun h => ?_) (fun h => ?_)
  exact ev_R (ev_vrt (pc := 56) (fe_58 rfl) rt_58) (by rw [← Option.some.inj h])
  refine ev_aload_n (pc := 40) (fe_58 rfl) rfl ?_
  refine ev_getI (pc := 41) (fe_58 rfl) fr_87 h1.1 ?_
  refine ev_aload_n (pc := 44) (fe_58 rfl) rfl ?_
  refine ev_getI (pc := 45) (fe_58 rfl) fr_76 h1.1 ?_
  refine ev_ic_eq (pc := 48) (fe_58 rfl) (t := 56) rfl h (fun h => ?_) (fun h => ?_)
  exact ev_R (ev_vrt (pc := 56) (fe_58 rfl) rt_58) (by rw [← Option.some.inj h])
  refine ev_aload_n (pc := 51) (fe_58 rfl) rfl ?_
  refine ev_iload_n (pc := 52) (fe_58 rfl) rfl ?_
  refine fm_lt_h h (fun p7 ep7 h => ?_)
  refine ev_callVk (pc := 53) (fe_58 rfl) (z := 69) (na := 2) (ow := 5) cg_58_79 rfl rfl rfl t_219 (m := 0) rfl (jK69 ep7) (st1 := []) rfl ?_
  exact ev_R (ev_vrt (pc := 56) (fe_58 rfl) rt_58) (by rw [← Option.some.inj h])
/-- CallAgents$Reader readHeader -/
def jF56_33 (a1 : Nat) (x4 : Int32) (x5 : Int32) (u : fm) : Option (Int32 × fm) :=
  if (7 + x4) = 7 then
  (Option.bind (jF64 1000003 u) (fun p2 => Option.bind (jF61 p2) (fun p3 => fm_let (sI p3.2 a1 3 p3.1) (fun u4 => Option.bind (jF64 1000004 u4) (fun p5 => Option.bind (jF63 999999999 p5) (fun p6 => fm_let (sI p6.2 a1 4 p6.1) (fun u7 => some (x5, u7))))))))
  else if (7 + x4) = 8 then
  (Option.bind (jF64 1000005 u) (fun p8 => Option.bind (jF61 p8) (fun p9 => fm_let (sI p9.2 a1 5 p9.1) (fun u10 => Option.bind (jF64 1000006 u10) (fun p11 => Option.bind (jF63 999999999 p11) (fun p12 => fm_let (sI p12.2 a1 6 p12.1) (fun u13 => some (x5, u13))))))))
  else if (7 + x4) = 9 then
  (Option.bind (jF64 1000005 u) (fun p14 => Option.bind (jF61 p14) (fun p15 => fm_let (sI p15.2 a1 7 p15.1) (fun u16 => Option.bind (jF64 1000007 u16) (fun p17 => Option.bind (jF57 a1 p17) (fun p18 => some (x5, p18)))))))
  else if (7 + x4) = 10 then
  (Option.bind (jF63 999999999 u) (fun p19 => fm_let (sI p19.2 a1 10 p19.1) (fun u20 => some (x5, u20))))
  else if (7 + x4) = 11 then
  (Option.bind (jF58 a1 u) (fun p21 => some (x5, p21)))
  else (Option.bind (jF63 999999999 u) (fun p22 => fm_let (sI p22.2 219 4 p22.1) (fun u23 => some (x5, u23))))
def jF56 (a1 : Nat) (x2 : Int32) (u : fm) : Option (Int32 × fm) :=
  Option.bind (jF66 7 12 u) (fun p1 => if (x2 &&& (fm_shl 1 p1.1)) = 0 then
  (jF56_33 a1 p1.1 (fm_shl 1 p1.1) p1.2)
  else
  (fm_let (jF69 (fI u 219 1) p1.2) (fun p24 => jF56_33 a1 p1.1 (fm_shl 1 p1.1) p24)))
theorem jK56_33 {X : Nat × (Nat → Int32)} {r : Int32 × fm} (a1 : Nat) (x4 : Int32) (x5 : Int32) (u : fm) (h1 : fm_isM a1) (h : jF56_33 a1 x4 x5 u = some r) : ev X 56 33 [some (.inr (.inl (some 219))), some (.inr (.inl (some a1))), none, none, some (.inl x4), some (.inl x5)] [] u ([.inl r.1], r.2) := by
  unfold jF56_33 at h
  refine ev_bipush (pc := 33) (fe_56 rfl) lb_7 ?_
  refine ev_iload (pc := 35) (fe_56 rfl) rfl ?_
  refine ev_iadd (pc := 37) (fe_56 rfl) ?_
  refine fm_sp h (fun w38_7 h => ?_) (fun w38_7 h => ?_)
  refine ev_swk (pc := 38) (fe_56 rfl) (c := 7) (by rw [w38_7]; decide) (by decide) rfl (t := 72) rfl ?_
  refine ev_aload_n (pc := 72) (fe_56 rfl) rfl ?_
  refine ev_ldcs (pc := 73) (fe_56 rfl) (j := 2) rfl rfl ?_
  refine fm_bd h (fun p2 ep2 h => ?_)
  refine ev_callVk (pc := 75) (fe_56 rfl) (z := 64) (na := 2) (ow := 5) cg_56_78 rfl rfl rfl t_219 (m := 1) rfl (jK64 ⟨by decide, by decide⟩ ep2) (st1 := []) rfl ?_
  refine ev_aload_n (pc := 78) (fe_56 rfl) rfl ?_
  refine ev_aload_n (pc := 79) (fe_56 rfl) rfl ?_
  refine fm_bd h (fun p3 ep3 h => ?_)
  refine ev_callVk (pc := 80) (fe_56 rfl) (z := 61) (na := 1) (ow := 5) cg_56_77 rfl rfl rfl t_219 (m := 0) rfl (jK61 ep3) (st1 := [.inl p3.1, .inr (.inl (some a1))]) rfl ?_
  refine fm_lt_h h (fun u4 eu4 h => ?_)
  refine ev_putI (pc := 83) (fe_56 rfl) fr_78 h1.1 eu4 ?_
  refine ev_aload_n (pc := 86) (fe_56 rfl) rfl ?_
  refine ev_ldcs (pc := 87) (fe_56 rfl) (j := 3) rfl rfl ?_
  refine fm_bd h (fun p5 ep5 h => ?_)
  refine ev_callVk (pc := 89) (fe_56 rfl) (z := 64) (na := 2) (ow := 5) cg_56_78 rfl rfl rfl t_219 (m := 1) rfl (jK64 ⟨by decide, by decide⟩ ep5) (st1 := []) rfl ?_
  refine ev_aload_n (pc := 92) (fe_56 rfl) rfl ?_
  refine ev_aload_n (pc := 93) (fe_56 rfl) rfl ?_
  refine ev_ldc (pc := 94) (fe_56 rfl) (c := 999999999) rfl ?_
  refine fm_bd h (fun p6 ep6 h => ?_)
  refine ev_callVk (pc := 96) (fe_56 rfl) (z := 63) (na := 2) (ow := 5) cg_56_80 rfl rfl rfl t_219 (m := 3) rfl (jK63 ep6) (st1 := [.inl p6.1, .inr (.inl (some a1))]) rfl ?_
  refine fm_lt_h h (fun u7 eu7 h => ?_)
  refine ev_putI (pc := 99) (fe_56 rfl) fr_79 h1.1 eu7 ?_
  refine ev_goto (pc := 102) (fe_56 rfl) (t := 197) rfl ?_
  refine ev_iload (pc := 197) (fe_56 rfl) rfl ?_
  exact ev_R (ev_irt (pc := 199) (fe_56 rfl) rt_56) (by rw [← Option.some.inj h])
  refine fm_sp h (fun w38_8 h => ?_) (fun w38_8 h => ?_)
  refine ev_swk (pc := 38) (fe_56 rfl) (c := 8) (by rw [w38_8]; decide) (by decide) rfl (t := 105) rfl ?_
  refine ev_aload_n (pc := 105) (fe_56 rfl) rfl ?_
  refine ev_ldcs (pc := 106) (fe_56 rfl) (j := 4) rfl rfl ?_
  refine fm_bd h (fun p8 ep8 h => ?_)
  refine ev_callVk (pc := 108) (fe_56 rfl) (z := 64) (na := 2) (ow := 5) cg_56_78 rfl rfl rfl t_219 (m := 1) rfl (jK64 ⟨by decide, by decide⟩ ep8) (st1 := []) rfl ?_
  refine ev_aload_n (pc := 111) (fe_56 rfl) rfl ?_
  refine ev_aload_n (pc := 112) (fe_56 rfl) rfl ?_
  refine fm_bd h (fun p9 ep9 h => ?_)
  refine ev_callVk (pc := 113) (fe_56 rfl) (z := 61) (na := 1) (ow := 5) cg_56_77 rfl rfl rfl t_219 (m := 0) rfl (jK61 ep9) (st1 := [.inl p9.1, .inr (.inl (some a1))]) rfl ?_
  refine fm_lt_h h (fun u10 eu10 h => ?_)
  refine ev_putI (pc := 116) (fe_56 rfl) fr_80 h1.1 eu10 ?_
  refine ev_aload_n (pc := 119) (fe_56 rfl) rfl ?_
  refine ev_ldcs (pc := 120) (fe_56 rfl) (j := 5) rfl rfl ?_
  refine fm_bd h (fun p11 ep11 h => ?_)
  refine ev_callVk (pc := 122) (fe_56 rfl) (z := 64) (na := 2) (ow := 5) cg_56_78 rfl rfl rfl t_219 (m := 1) rfl (jK64 ⟨by decide, by decide⟩ ep11) (st1 := []) rfl ?_
  refine ev_aload_n (pc := 125) (fe_56 rfl) rfl ?_
  refine ev_aload_n (pc := 126) (fe_56 rfl) rfl ?_
  refine ev_ldc (pc := 127) (fe_56 rfl) (c := 999999999) rfl ?_
  refine fm_bd h (fun p12 ep12 h => ?_)
  refine ev_callVk (pc := 129) (fe_56 rfl) (z := 63) (na := 2) (ow := 5) cg_56_80 rfl rfl rfl t_219 (m := 3) rfl (jK63 ep12) (st1 := [.inl p12.1, .inr (.inl (some a1))]) rfl ?_
  refine fm_lt_h h (fun u13 eu13 h => ?_)
  refine ev_putI (pc := 132) (fe_56 rfl) fr_81 h1.1 eu13 ?_
  refine ev_goto (pc := 135) (fe_56 rfl) (t := 197) rfl ?_
  refine ev_iload (pc := 197) (fe_56 rfl) rfl ?_
  exact ev_R (ev_irt (pc := 199) (fe_56 rfl) rt_56) (by rw [← Option.some.inj h])
  refine fm_sp h (fun w38_9 h => ?_) (fun w38_9 h => ?_)
  refine ev_swk (pc := 38) (fe_56 rfl) (c := 9) (by rw [w38_9]; decide) (by decide) rfl (t := 138) rfl ?_
  refine ev_aload_n (pc := 138) (fe_56 rfl) rfl ?_
  refine ev_ldcs (pc := 139) (fe_56 rfl) (j := 4) rfl rfl ?_
  refine fm_bd h (fun p14 ep14 h => ?_)
  refine ev_callVk (pc := 141) (fe_56 rfl) (z := 64) (na := 2) (ow := 5) cg_56_78 rfl rfl rfl t_219 (m := 1) rfl (jK64 ⟨by decide, by decide⟩ ep14) (st1 := []) rfl ?_
  refine ev_aload_n (pc := 144) (fe_56 rfl) rfl ?_
  refine ev_aload_n (pc := 145) (fe_56 rfl) rfl ?_
  refine fm_bd h (fun p15 ep15 h => ?_)
  refine ev_callVk (pc := 146) (fe_56 rfl) (z := 61) (na := 1) (ow := 5) cg_56_77 rfl rfl rfl t_219 (m := 0) rfl (jK61 ep15) (st1 := [.inl p15.1, .inr (.inl (some a1))]) rfl ?_
  refine fm_lt_h h (fun u16 eu16 h => ?_)
  refine ev_putI (pc := 149) (fe_56 rfl) fr_82 h1.1 eu16 ?_
  refine ev_aload_n (pc := 152) (fe_56 rfl) rfl ?_
  refine ev_ldcs (pc := 153) (fe_56 rfl) (j := 6) rfl rfl ?_
  refine fm_bd h (fun p17 ep17 h => ?_)
  refine ev_callVk (pc := 155) (fe_56 rfl) (z := 64) (na := 2) (ow := 5) cg_56_78 rfl rfl rfl t_219 (m := 1) rfl (jK64 ⟨by decide, by decide⟩ ep17) (st1 := []) rfl ?_
  refine ev_aload_n (pc := 158) (fe_56 rfl) rfl ?_
  refine ev_aload_n (pc := 159) (fe_56 rfl) rfl ?_
  refine fm_bd h (fun p18 ep18 h => ?_)
  refine ev_callVk (pc := 160) (fe_56 rfl) (z := 57) (na := 2) (ow := 5) cg_56_81 rfl rfl rfl t_219 (m := 0) rfl (jK57 h1 ep18) (st1 := []) rfl ?_
  refine ev_goto (pc := 163) (fe_56 rfl) (t := 197) rfl ?_
  refine ev_iload (pc := 197) (fe_56 rfl) rfl ?_
  exact ev_R (ev_irt (pc := 199) (fe_56 rfl) rt_56) (by rw [← Option.some.inj h])
  refine fm_sp h (fun w38_10 h => ?_) (fun w38_10 h => ?_)
  refine ev_swk (pc := 38) (fe_56 rfl) (c := 10) (by rw [w38_10]; decide) (by decide) rfl (t := 166) rfl ?_
  refine ev_aload_n (pc := 166) (fe_56 rfl) rfl ?_
  refine ev_aload_n (pc := 167) (fe_56 rfl) rfl ?_
  refine ev_ldc (pc := 168) (fe_56 rfl) (c := 999999999) rfl ?_
  refine fm_bd h (fun p19 ep19 h => ?_)
  refine ev_callVk (pc := 170) (fe_56 rfl) (z := 63) (na := 2) (ow := 5) cg_56_80 rfl rfl rfl t_219 (m := 3) rfl (jK63 ep19) (st1 := [.inl p19.1, .inr (.inl (some a1))]) rfl ?_
  refine fm_lt_h h (fun u20 eu20 h => ?_)
  refine ev_putI (pc := 173) (fe_56 rfl) fr_83 h1.1 eu20 ?_
  refine ev_goto (pc := 176) (fe_56 rfl) (t := 197) rfl ?_
  refine ev_iload (pc := 197) (fe_56 rfl) rfl ?_
  exact ev_R (ev_irt (pc := 199) (fe_56 rfl) rt_56) (by rw [← Option.some.inj h])
  refine fm_sp h (fun w38_11 h => ?_) (fun w38_11 h => ?_)
  refine ev_swk (pc := 38) (fe_56 rfl) (c := 11) (by rw [w38_11]; decide) (by decide) rfl (t := 179) rfl ?_
  refine ev_aload_n (pc := 179) (fe_56 rfl) rfl ?_
  refine ev_aload_n (pc := 180) (fe_56 rfl) rfl ?_
  refine fm_bd h (fun p21 ep21 h => ?_)
  refine ev_callVk (pc := 181) (fe_56 rfl) (z := 58) (na := 2) (ow := 5) cg_56_82 rfl rfl rfl t_219 (m := 1) rfl (jK58 h1 ep21) (st1 := []) rfl ?_
  refine ev_goto (pc := 184) (fe_56 rfl) (t := 197) rfl ?_
  refine ev_iload (pc := 197) (fe_56 rfl) rfl ?_
  exact ev_R (ev_irt (pc := 199) (fe_56 rfl) rt_56) (by rw [← Option.some.inj h])
  refine ev_swd (pc := 38) (fe_56 rfl) (t := 187) rfl (fm_swx (lo := 7) (n := 5) (List.forall_mem_cons.mpr ⟨w38_7, List.forall_mem_cons.mpr ⟨w38_8, List.forall_mem_cons.mpr ⟨w38_9, List.forall_mem_cons.mpr ⟨w38_10, List.forall_mem_cons.mpr ⟨w38_11, fun _ q => nomatch q⟩⟩⟩⟩⟩)) ?_
  refine ev_aload_n (pc := 187) (fe_56 rfl) rfl ?_
  refine ev_aload_n (pc := 188) (fe_56 rfl) rfl ?_
  refine ev_ldc (pc := 189) (fe_56 rfl) (c := 999999999) rfl ?_
  refine fm_bd h (fun p22 ep22 h => ?_)
  refine ev_callVk (pc := 191) (fe_56 rfl) (z := 63) (na := 2) (ow := 5) cg_56_80 rfl rfl rfl t_219 (m := 3) rfl (jK63 ep22) (st1 := [.inl p22.1, .inr (.inl (some 219))]) rfl ?_
  refine fm_lt_h h (fun u23 eu23 h => ?_)
  refine ev_putI (pc := 194) (fe_56 rfl) fr_74 t_219 eu23 ?_
  refine ev_iload (pc := 197) (fe_56 rfl) rfl ?_
  exact ev_R (ev_irt (pc := 199) (fe_56 rfl) rt_56) (by rw [← Option.some.inj h])
theorem jK56 {X : Nat × (Nat → Int32)} {a1 : Nat} {x2 : Int32} {u : fm} {r : Int32 × fm} (h1 : fm_isM a1) (h : jF56 a1 x2 u = some r) : ev X 56 0 [some (.inr (.inl (some 219))), some (.inr (.inl (some a1))), some (.inl x2), none, none, none] [] u ([.inl r.1], r.2) := by
  unfold jF56 at h
  refine ev_aload_n (pc := 0) (fe_56 rfl) rfl ?_
  refine ev_getI (pc := 1) (fe_56 rfl) fr_70 t_219 ?_
  refine ev_istore_n (pc := 4) (fe_56 rfl) mx_56 rfl ?_
  refine ev_aload_n (pc := 5) (fe_56 rfl) rfl ?_
  refine ev_bipush (pc := 6) (fe_56 rfl) lb_7 ?_
  refine ev_bipush (pc := 8) (fe_56 rfl) lb_12 ?_
  refine fm_bd h (fun p1 ep1 h => ?_)
  refine ev_callVk (pc := 10) (fe_56 rfl) (z := 66) (na := 3) (ow := 5) cg_56_75 rfl rfl rfl t_219 (m := 3) rfl (jK66 ep1) (st1 := [.inl p1.1]) rfl ?_
  refine ev_istore (pc := 13) (fe_56 rfl) mx_56 rfl ?_
  refine ev_iconst (pc := 15) (fe_56 rfl) li_1 ?_
  refine ev_iload (pc := 16) (fe_56 rfl) rfl ?_
  refine ev_ishl (pc := 18) (fe_56 rfl) ?_
  refine ev_istore (pc := 19) (fe_56 rfl) mx_56 rfl ?_
  refine ev_iload_n (pc := 21) (fe_56 rfl) rfl ?_
  refine ev_iload (pc := 22) (fe_56 rfl) rfl ?_
  refine ev_iand (pc := 24) (fe_56 rfl) ?_
  refine ev_if_eq (pc := 25) (fe_56 rfl) (t := 33) rfl h (fun h => ?_) (fun h => ?_)
  refine ev_w [true, true, false, false, true, true] ?_
  exact jK56_33 a1 p1.1 (fm_shl 1 p1.1) p1.2 h1 h
  refine ev_aload_n (pc := 28) (fe_56 rfl) rfl ?_
  refine ev_iload_n (pc := 29) (fe_56 rfl) rfl ?_
  refine fm_lt_h h (fun p24 ep24 h => ?_)
  refine ev_callVk (pc := 30) (fe_56 rfl) (z := 69) (na := 2) (ow := 5) cg_56_79 rfl rfl rfl t_219 (m := 0) rfl (jK69 ep24) (st1 := []) rfl ?_
  refine ev_w [true, true, false, false, true, true] ?_
  exact jK56_33 a1 p1.1 (fm_shl 1 p1.1) p24 h1 h
/-- CallAgents$Reader readLine -/
def jF60_35 : Nat → Nat → Int32 → fm → Option (fm)
  | 0, _, _, _ => none
  | n + 1, a1, x2, u =>
  if x2 < 8 then
  (Option.bind (jF68 u) (fun p9 => if p9 = 32 then
  (Option.bind (jF65 32 u) (fun p11 => Option.bind (jF62 55 p11) (fun p12 => Option.bind (jF36 a1 p12.1 p12.2) (fun p13 => jF60_35 n a1 (x2 + 1) p13))))
  else
  (Option.bind (jF65 10 u) (fun p10 => some p10))))
  else
  (Option.bind (jF65 10 u) (fun p8 => some p8))
def jF60 (a1 : Nat) (u : fm) : Option (fm) :=
  Option.bind (jF64 1000001 u) (fun p1 => Option.bind (jF63 65535 p1) (fun p2 => Option.bind (jF35 a1 p2.1 p2.2) (fun p3 => Option.bind (jF65 32 p3.2) (fun p5 => Option.bind (jF62 55 p5) (fun p6 => Option.bind (jF36 a1 p6.1 p6.2) (fun p7 => jF60_35 fm_N a1 1 p7))))))
theorem jK60_35 {X : Nat × (Nat → Int32)} {r : fm} : ∀ (n : Nat) (a1 : Nat) (x2 : Int32) (u : fm) (h1 : fm_isD a1), jF60_35 n a1 x2 u = some r → ev X 60 35 [some (.inr (.inl (some 219))), some (.inr (.inl (some a1))), some (.inl x2)] [] u ([], r) := by
  intro n
  induction n with
  | zero =>
    intro _ _ _ _ h
    unfold jF60_35 at h
    cases h
  | succ n ih =>
  intro a1 x2 u h1 h
  unfold jF60_35 at h
  refine ev_iload_n (pc := 35) (fe_60 rfl) rfl ?_
  refine ev_bipush (pc := 36) (fe_60 rfl) lb_8 ?_
  refine ev_ic_ge (pc := 38) (fe_60 rfl) (t := 72) rfl h (fun h => ?_) (fun h => ?_)
  refine ev_aload_n (pc := 72) (fe_60 rfl) rfl ?_
  refine ev_bipush (pc := 73) (fe_60 rfl) lb_10 ?_
  refine fm_bd h (fun p8 ep8 h => ?_)
  refine ev_callVk (pc := 75) (fe_60 rfl) (z := 65) (na := 2) (ow := 5) cg_60_73 rfl rfl rfl t_219 (m := 0) rfl (jK65 ep8) (st1 := []) rfl ?_
  exact ev_R (ev_vrt (pc := 78) (fe_60 rfl) rt_60) (by rw [← Option.some.inj h])
  refine ev_aload_n (pc := 41) (fe_60 rfl) rfl ?_
  refine fm_bd h (fun p9 ep9 h => ?_)
  refine ev_callVk (pc := 42) (fe_60 rfl) (z := 68) (na := 1) (ow := 5) cg_60_83 rfl rfl rfl t_219 (m := 0) rfl (jK68 ep9) (st1 := [.inl p9]) rfl ?_
  refine ev_bipush (pc := 45) (fe_60 rfl) lb_32 ?_
  refine ev_ic_ne (pc := 47) (fe_60 rfl) (t := 72) rfl h (fun h => ?_) (fun h => ?_)
  refine ev_aload_n (pc := 72) (fe_60 rfl) rfl ?_
  refine ev_bipush (pc := 73) (fe_60 rfl) lb_10 ?_
  refine fm_bd h (fun p10 ep10 h => ?_)
  refine ev_callVk (pc := 75) (fe_60 rfl) (z := 65) (na := 2) (ow := 5) cg_60_73 rfl rfl rfl t_219 (m := 0) rfl (jK65 ep10) (st1 := []) rfl ?_
  exact ev_R (ev_vrt (pc := 78) (fe_60 rfl) rt_60) (by rw [← Option.some.inj h])
  refine ev_aload_n (pc := 50) (fe_60 rfl) rfl ?_
  refine ev_bipush (pc := 51) (fe_60 rfl) lb_32 ?_
  refine fm_bd h (fun p11 ep11 h => ?_)
  refine ev_callVk (pc := 53) (fe_60 rfl) (z := 65) (na := 2) (ow := 5) cg_60_73 rfl rfl rfl t_219 (m := 0) rfl (jK65 ep11) (st1 := []) rfl ?_
  refine ev_aload_n (pc := 56) (fe_60 rfl) rfl ?_
  refine ev_aload_n (pc := 57) (fe_60 rfl) rfl ?_
  refine ev_bipush (pc := 58) (fe_60 rfl) lb_55 ?_
  refine fm_bd h (fun p12 ep12 h => ?_)
  refine ev_callVk (pc := 60) (fe_60 rfl) (z := 62) (na := 2) (ow := 5) cg_60_88 rfl rfl rfl t_219 (m := 1) rfl (jK62 ep12) (st1 := [.inl p12.1, .inr (.inl (some a1))]) rfl ?_
  refine fm_bd h (fun p13 ep13 h => ?_)
  refine ev_callVk (pc := 63) (fe_60 rfl) (z := 36) (na := 2) (ow := 3) cg_60_89 rfl rfl rfl h1.1 (m := 2) rfl (jK36 h1 ep13) (st1 := []) rfl ?_
  refine ev_iinc (pc := 66) (fe_60 rfl) mx_60 rfl rfl li_1 ?_
  refine ev_goto (pc := 69) (fe_60 rfl) (t := 35) rfl ?_
  exact ih a1 (x2 + 1) p13 h1 h
theorem jK60 {X : Nat × (Nat → Int32)} {a1 : Nat} {u : fm} {r : fm} (h1 : fm_isD a1) (h : jF60 a1 u = some r) : ev X 60 0 [some (.inr (.inl (some 219))), some (.inr (.inl (some a1))), none] [] u ([], r) := by
  unfold jF60 at h
  refine ev_aload_n (pc := 0) (fe_60 rfl) rfl ?_
  refine ev_ldcs (pc := 1) (fe_60 rfl) (j := 0) rfl rfl ?_
  refine fm_bd h (fun p1 ep1 h => ?_)
  refine ev_callVk (pc := 3) (fe_60 rfl) (z := 64) (na := 2) (ow := 5) cg_60_78 rfl rfl rfl t_219 (m := 1) rfl (jK64 ⟨by decide, by decide⟩ ep1) (st1 := []) rfl ?_
  refine ev_aload_n (pc := 6) (fe_60 rfl) rfl ?_
  refine ev_aload_n (pc := 7) (fe_60 rfl) rfl ?_
  refine ev_ldc (pc := 8) (fe_60 rfl) (c := 65535) rfl ?_
  refine fm_bd h (fun p2 ep2 h => ?_)
  refine ev_callVk (pc := 10) (fe_60 rfl) (z := 63) (na := 2) (ow := 5) cg_60_80 rfl rfl rfl t_219 (m := 3) rfl (jK63 ep2) (st1 := [.inl p2.1, .inr (.inl (some a1))]) rfl ?_
  refine fm_bd h (fun p3 ep3 h => ?_)
  refine ev_callVZk (pc := 13) (fe_60 rfl) (z := 35) (na := 2) (ow := 3) cg_60_87 rfl rt_35 rfl rfl h1.1 (m := 0) rfl (jK35 h1 ep3) (st1 := [.inl p3.1]) rfl (fun z4 => ?_)
  refine ev_pop (pc := 16) (fe_60 rfl) rfl ?_
  refine ev_aload_n (pc := 17) (fe_60 rfl) rfl ?_
  refine ev_bipush (pc := 18) (fe_60 rfl) lb_32 ?_
  refine fm_bd h (fun p5 ep5 h => ?_)
  refine ev_callVk (pc := 20) (fe_60 rfl) (z := 65) (na := 2) (ow := 5) cg_60_73 rfl rfl rfl t_219 (m := 0) rfl (jK65 ep5) (st1 := []) rfl ?_
  refine ev_aload_n (pc := 23) (fe_60 rfl) rfl ?_
  refine ev_aload_n (pc := 24) (fe_60 rfl) rfl ?_
  refine ev_bipush (pc := 25) (fe_60 rfl) lb_55 ?_
  refine fm_bd h (fun p6 ep6 h => ?_)
  refine ev_callVk (pc := 27) (fe_60 rfl) (z := 62) (na := 2) (ow := 5) cg_60_88 rfl rfl rfl t_219 (m := 1) rfl (jK62 ep6) (st1 := [.inl p6.1, .inr (.inl (some a1))]) rfl ?_
  refine fm_bd h (fun p7 ep7 h => ?_)
  refine ev_callVk (pc := 30) (fe_60 rfl) (z := 36) (na := 2) (ow := 3) cg_60_89 rfl rfl rfl h1.1 (m := 2) rfl (jK36 h1 ep7) (st1 := []) rfl ?_
  refine ev_iconst (pc := 33) (fe_60 rfl) li_1 ?_
  refine ev_istore_n (pc := 34) (fe_60 rfl) mx_60 rfl ?_
  exact jK60_35 fm_N a1 1 p7 h1 h
/-- CallAgents$Reader readBody -/
def jF59_59 (x2 : Int32) (u : fm) : Option (fm) :=
  if (fI u 219 1) < x2 then
  (fm_let (jF69 (fI u 219 1) u) (fun p3 => some p3))
  else
  (if (fI u 219 1) < (fI u 213 1) then
  (fm_let (jF69 (fI u 219 1) u) (fun p4 => some p4))
  else
  (some u))
def jF59_28 : Nat → Nat → Int32 → Int32 → fm → Option (fm)
  | 0, _, _, _, _ => none
  | n + 1, a1, x2, x3, u =>
  if x3 < 3 then
  (if (fI u 219 1) < x2 then
  (if (fI u 219 3) < 0 then
  (Option.bind (jF60 a1 u) (fun p5 => jF59_28 n a1 x2 (x3 + 1) p5))
  else
  (jF59_59 x2 u))
  else
  (jF59_59 x2 u))
  else
  (jF59_59 x2 u)
def jF59 (a1 : Nat) (u : fm) : Option (fm) :=
  fm_let (jF38 a1 u) (fun p1 => fm_let (sI p1 219 2 (fm_min (fI p1 219 2) ((fI u 219 1) + (fI u 219 4)))) (fun u2 => jF59_28 fm_N a1 ((fI u 219 1) + (fI u 219 4)) 0 u2))
theorem jK59_59 {X : Nat × (Nat → Int32)} {r : fm} (x2 : Int32) (u : fm) (h : jF59_59 x2 u = some r) : ev X 59 59 [some (.inr (.inl (some 219))), none, some (.inl x2), none] [] u ([], r) := by
  unfold jF59_59 at h
  refine ev_aload_n (pc := 59) (fe_59 rfl) rfl ?_
  refine ev_getI (pc := 60) (fe_59 rfl) fr_70 t_219 ?_
  refine ev_iload_n (pc := 63) (fe_59 rfl) rfl ?_
  refine ev_ic_lt (pc := 64) (fe_59 rfl) (t := 81) rfl h (fun h => ?_) (fun h => ?_)
  refine ev_aload_n (pc := 81) (fe_59 rfl) rfl ?_
  refine ev_aload_n (pc := 82) (fe_59 rfl) rfl ?_
  refine ev_getI (pc := 83) (fe_59 rfl) fr_70 t_219 ?_
  refine fm_lt_h h (fun p3 ep3 h => ?_)
  refine ev_callVk (pc := 86) (fe_59 rfl) (z := 69) (na := 2) (ow := 5) cg_59_79 rfl rfl rfl t_219 (m := 0) rfl (jK69 ep3) (st1 := []) rfl ?_
  exact ev_R (ev_vrt (pc := 89) (fe_59 rfl) rt_59) (by rw [← Option.some.inj h])
  refine ev_aload_n (pc := 67) (fe_59 rfl) rfl ?_
  refine ev_getI (pc := 68) (fe_59 rfl) fr_70 t_219 ?_
  refine ev_aload_n (pc := 71) (fe_59 rfl) rfl ?_
  refine ev_getR (a1 := 213) (pc := 72) (fe_59 rfl) fr_69 t_219 rfl ?_
  refine ev_getI (pc := 75) (fe_59 rfl) fr_71 t_213 ?_
  refine ev_ic_ge (pc := 78) (fe_59 rfl) (t := 89) rfl h (fun h => ?_) (fun h => ?_)
  exact ev_R (ev_vrt (pc := 89) (fe_59 rfl) rt_59) (by rw [← Option.some.inj h])
  refine ev_aload_n (pc := 81) (fe_59 rfl) rfl ?_
  refine ev_aload_n (pc := 82) (fe_59 rfl) rfl ?_
  refine ev_getI (pc := 83) (fe_59 rfl) fr_70 t_219 ?_
  refine fm_lt_h h (fun p4 ep4 h => ?_)
  refine ev_callVk (pc := 86) (fe_59 rfl) (z := 69) (na := 2) (ow := 5) cg_59_79 rfl rfl rfl t_219 (m := 0) rfl (jK69 ep4) (st1 := []) rfl ?_
  exact ev_R (ev_vrt (pc := 89) (fe_59 rfl) rt_59) (by rw [← Option.some.inj h])
theorem jK59_28 {X : Nat × (Nat → Int32)} {r : fm} : ∀ (n : Nat) (a1 : Nat) (x2 : Int32) (x3 : Int32) (u : fm) (h1 : fm_isD a1), jF59_28 n a1 x2 x3 u = some r → ev X 59 28 [some (.inr (.inl (some 219))), some (.inr (.inl (some a1))), some (.inl x2), some (.inl x3)] [] u ([], r) := by
  intro n
  induction n with
  | zero =>
    intro _ _ _ _ _ h
    unfold jF59_28 at h
    cases h
  | succ n ih =>
  intro a1 x2 x3 u h1 h
  unfold jF59_28 at h
  refine ev_iload_n (pc := 28) (fe_59 rfl) rfl ?_
  refine ev_iconst (pc := 29) (fe_59 rfl) li_3 ?_
  refine ev_ic_ge (pc := 30) (fe_59 rfl) (t := 59) rfl h (fun h => ?_) (fun h => ?_)
  refine ev_w [true, false, true, false] ?_
  exact jK59_59 x2 u h
  refine ev_aload_n (pc := 33) (fe_59 rfl) rfl ?_
  refine ev_getI (pc := 34) (fe_59 rfl) fr_70 t_219 ?_
  refine ev_iload_n (pc := 37) (fe_59 rfl) rfl ?_
  refine ev_ic_ge (pc := 38) (fe_59 rfl) (t := 59) rfl h (fun h => ?_) (fun h => ?_)
  refine ev_w [true, false, true, false] ?_
  exact jK59_59 x2 u h
  refine ev_aload_n (pc := 41) (fe_59 rfl) rfl ?_
  refine ev_getI (pc := 42) (fe_59 rfl) fr_73 t_219 ?_
  refine ev_if_ge (pc := 45) (fe_59 rfl) (t := 59) rfl h (fun h => ?_) (fun h => ?_)
  refine ev_w [true, false, true, false] ?_
  exact jK59_59 x2 u h
  refine ev_aload_n (pc := 48) (fe_59 rfl) rfl ?_
  refine ev_aload_n (pc := 49) (fe_59 rfl) rfl ?_
  refine fm_bd h (fun p5 ep5 h => ?_)
  refine ev_callVk (pc := 50) (fe_59 rfl) (z := 60) (na := 2) (ow := 5) cg_59_86 rfl rfl rfl t_219 (m := 1) rfl (jK60 h1 ep5) (st1 := []) rfl ?_
  refine ev_iinc (pc := 53) (fe_59 rfl) mx_59 rfl rfl li_1 ?_
  refine ev_goto (pc := 56) (fe_59 rfl) (t := 28) rfl ?_
  exact ih a1 x2 (x3 + 1) p5 h1 h
theorem jK59 {X : Nat × (Nat → Int32)} {a1 : Nat} {u : fm} {r : fm} (h1 : fm_isD a1) (h : jF59 a1 u = some r) : ev X 59 0 [some (.inr (.inl (some 219))), some (.inr (.inl (some a1))), none, none] [] u ([], r) := by
  unfold jF59 at h
  refine ev_aload_n (pc := 0) (fe_59 rfl) rfl ?_
  refine ev_getI (pc := 1) (fe_59 rfl) fr_70 t_219 ?_
  refine ev_aload_n (pc := 4) (fe_59 rfl) rfl ?_
  refine ev_getI (pc := 5) (fe_59 rfl) fr_74 t_219 ?_
  refine ev_iadd (pc := 8) (fe_59 rfl) ?_
  refine ev_istore_n (pc := 9) (fe_59 rfl) mx_59 rfl ?_
  refine ev_aload_n (pc := 10) (fe_59 rfl) rfl ?_
  refine fm_lt_h h (fun p1 ep1 h => ?_)
  refine ev_callVk (pc := 11) (fe_59 rfl) (z := 38) (na := 1) (ow := 3) cg_59_84 rfl rfl rfl h1.1 (m := 0) rfl (jK38 h1 ep1) (st1 := []) rfl ?_
  refine ev_aload_n (pc := 14) (fe_59 rfl) rfl ?_
  refine ev_aload_n (pc := 15) (fe_59 rfl) rfl ?_
  refine ev_getI (pc := 16) (fe_59 rfl) fr_72 t_219 ?_
  refine ev_iload_n (pc := 19) (fe_59 rfl) rfl ?_
  refine ev_min (pc := 20) (fe_59 rfl) rfl (by decide +kernel) rfl ?_
  refine fm_lt_h h (fun u2 eu2 h => ?_)
  refine ev_putI (pc := 23) (fe_59 rfl) fr_72 t_219 eu2 ?_
  refine ev_iconst (pc := 26) (fe_59 rfl) li_0 ?_
  refine ev_istore_n (pc := 27) (fe_59 rfl) mx_59 rfl ?_
  exact jK59_28 fm_N a1 ((fI u 219 1) + (fI u 219 4)) 0 u2 h1 h
/-- CallAgents$Reader read -/
def jF54_36 : Nat → Nat → Int32 → Int32 → fm → Option (Int32 × fm)
  | 0, _, _, _, _ => none
  | n + 1, a1, x2, x3, u =>
  if 12 < x3 then
  (Option.bind (jF65 10 u) (fun p6 => Option.bind (jF59 (a1 + 1) p6) (fun p7 => some (fI p7 219 3, p7))))
  else
  (if (fI u 219 3) < 0 then
  (Option.bind (jF56 a1 x2 u) (fun p10 => Option.bind (jF65 10 p10.2) (fun p11 => jF54_36 n a1 (x2 ||| p10.1) (x3 + 1) p11)))
  else
  (Option.bind (jF65 10 u) (fun p8 => Option.bind (jF59 (a1 + 1) p8) (fun p9 => some (fI p9 219 3, p9)))))
def jF54 (a1 : Nat) (u : fm) : Option (Int32 × fm) :=
  fm_let (sI u 219 1 0) (fun u1 => fm_let (sI u1 219 2 (fI u1 213 1)) (fun u2 => fm_let (sI u2 219 3 (-1)) (fun u3 => fm_let (sI u3 219 4 0) (fun u4 => Option.bind (jF55 a1 u4) (fun p5 => jF54_36 fm_N a1 0 7 p5)))))
theorem jK54_36 {X : Nat × (Nat → Int32)} {r : Int32 × fm} : ∀ (n : Nat) (a1 : Nat) (x2 : Int32) (x3 : Int32) (u : fm) (h1 : fm_isM a1), jF54_36 n a1 x2 x3 u = some r → ev X 54 36 [some (.inr (.inl (some 219))), some (.inr (.inl (some a1))), some (.inl x2), some (.inl x3)] [] u ([.inl r.1], r.2) := by
  intro n
  induction n with
  | zero =>
    intro _ _ _ _ _ h
    unfold jF54_36 at h
    cases h
  | succ n ih =>
  intro a1 x2 x3 u h1 h
  unfold jF54_36 at h
  refine ev_iload_n (pc := 36) (fe_54 rfl) rfl ?_
  refine ev_bipush (pc := 37) (fe_54 rfl) lb_12 ?_
  refine ev_ic_gt (pc := 39) (fe_54 rfl) (t := 70) rfl h (fun h => ?_) (fun h => ?_)
  refine ev_aload_n (pc := 70) (fe_54 rfl) rfl ?_
  refine ev_bipush (pc := 71) (fe_54 rfl) lb_10 ?_
  refine fm_bd h (fun p6 ep6 h => ?_)
  refine ev_callVk (pc := 73) (fe_54 rfl) (z := 65) (na := 2) (ow := 5) cg_54_73 rfl rfl rfl t_219 (m := 0) rfl (jK65 ep6) (st1 := []) rfl ?_
  refine ev_aload_n (pc := 76) (fe_54 rfl) rfl ?_
  refine ev_aload_n (pc := 77) (fe_54 rfl) rfl ?_
  refine ev_getR (a1 := a1 + 1) (pc := 78) (fe_54 rfl) fr_75 h1.1 rfl ?_
  refine fm_bd h (fun p7 ep7 h => ?_)
  refine ev_callVk (pc := 81) (fe_54 rfl) (z := 59) (na := 2) (ow := 5) cg_54_74 rfl rfl rfl t_219 (m := 2) rfl (jK59 ⟨h1.2.1, h1.2.2⟩ ep7) (st1 := []) rfl ?_
  refine ev_aload_n (pc := 84) (fe_54 rfl) rfl ?_
  refine ev_getI (pc := 85) (fe_54 rfl) fr_73 t_219 ?_
  exact ev_R (ev_irt (pc := 88) (fe_54 rfl) rt_54) (by rw [← Option.some.inj h])
  refine ev_aload_n (pc := 42) (fe_54 rfl) rfl ?_
  refine ev_getI (pc := 43) (fe_54 rfl) fr_73 t_219 ?_
  refine ev_if_ge (pc := 46) (fe_54 rfl) (t := 70) rfl h (fun h => ?_) (fun h => ?_)
  refine ev_aload_n (pc := 70) (fe_54 rfl) rfl ?_
  refine ev_bipush (pc := 71) (fe_54 rfl) lb_10 ?_
  refine fm_bd h (fun p8 ep8 h => ?_)
  refine ev_callVk (pc := 73) (fe_54 rfl) (z := 65) (na := 2) (ow := 5) cg_54_73 rfl rfl rfl t_219 (m := 0) rfl (jK65 ep8) (st1 := []) rfl ?_
  refine ev_aload_n (pc := 76) (fe_54 rfl) rfl ?_
  refine ev_aload_n (pc := 77) (fe_54 rfl) rfl ?_
  refine ev_getR (a1 := a1 + 1) (pc := 78) (fe_54 rfl) fr_75 h1.1 rfl ?_
  refine fm_bd h (fun p9 ep9 h => ?_)
  refine ev_callVk (pc := 81) (fe_54 rfl) (z := 59) (na := 2) (ow := 5) cg_54_74 rfl rfl rfl t_219 (m := 2) rfl (jK59 ⟨h1.2.1, h1.2.2⟩ ep9) (st1 := []) rfl ?_
  refine ev_aload_n (pc := 84) (fe_54 rfl) rfl ?_
  refine ev_getI (pc := 85) (fe_54 rfl) fr_73 t_219 ?_
  exact ev_R (ev_irt (pc := 88) (fe_54 rfl) rt_54) (by rw [← Option.some.inj h])
  refine ev_iload_n (pc := 49) (fe_54 rfl) rfl ?_
  refine ev_aload_n (pc := 50) (fe_54 rfl) rfl ?_
  refine ev_aload_n (pc := 51) (fe_54 rfl) rfl ?_
  refine ev_iload_n (pc := 52) (fe_54 rfl) rfl ?_
  refine fm_bd h (fun p10 ep10 h => ?_)
  refine ev_callVk (pc := 53) (fe_54 rfl) (z := 56) (na := 3) (ow := 5) cg_54_72 rfl rfl rfl t_219 (m := 3) rfl (jK56 h1 ep10) (st1 := [.inl p10.1, .inl x2]) rfl ?_
  refine ev_ior (pc := 56) (fe_54 rfl) ?_
  refine ev_istore_n (pc := 57) (fe_54 rfl) mx_54 rfl ?_
  refine ev_aload_n (pc := 58) (fe_54 rfl) rfl ?_
  refine ev_bipush (pc := 59) (fe_54 rfl) lb_10 ?_
  refine fm_bd h (fun p11 ep11 h => ?_)
  refine ev_callVk (pc := 61) (fe_54 rfl) (z := 65) (na := 2) (ow := 5) cg_54_73 rfl rfl rfl t_219 (m := 0) rfl (jK65 ep11) (st1 := []) rfl ?_
  refine ev_iinc (pc := 64) (fe_54 rfl) mx_54 rfl rfl li_1 ?_
  refine ev_goto (pc := 67) (fe_54 rfl) (t := 36) rfl ?_
  exact ih a1 (x2 ||| p10.1) (x3 + 1) p11 h1 h
theorem jK54 {X : Nat × (Nat → Int32)} {a1 : Nat} {u : fm} {r : Int32 × fm} (h1 : fm_isM a1) (h : jF54 a1 u = some r) : ev X 54 0 [some (.inr (.inl (some 219))), some (.inr (.inl (some a1))), none, none] [] u ([.inl r.1], r.2) := by
  unfold jF54 at h
  refine ev_aload_n (pc := 0) (fe_54 rfl) rfl ?_
  refine ev_iconst (pc := 1) (fe_54 rfl) li_0 ?_
  refine fm_lt_h h (fun u1 eu1 h => ?_)
  refine ev_putI (pc := 2) (fe_54 rfl) fr_70 t_219 eu1 ?_
  refine ev_aload_n (pc := 5) (fe_54 rfl) rfl ?_
  refine ev_aload_n (pc := 6) (fe_54 rfl) rfl ?_
  refine ev_getR (a1 := 213) (pc := 7) (fe_54 rfl) fr_69 t_219 rfl ?_
  refine ev_getI (pc := 10) (fe_54 rfl) fr_71 t_213 ?_
  refine fm_lt_h h (fun u2 eu2 h => ?_)
  refine ev_putI (pc := 13) (fe_54 rfl) fr_72 t_219 eu2 ?_
  refine ev_aload_n (pc := 16) (fe_54 rfl) rfl ?_
  refine ev_iconst (pc := 17) (fe_54 rfl) li_m1 ?_
  refine fm_lt_h h (fun u3 eu3 h => ?_)
  refine ev_putI (pc := 18) (fe_54 rfl) fr_73 t_219 eu3 ?_
  refine ev_aload_n (pc := 21) (fe_54 rfl) rfl ?_
  refine ev_iconst (pc := 22) (fe_54 rfl) li_0 ?_
  refine fm_lt_h h (fun u4 eu4 h => ?_)
  refine ev_putI (pc := 23) (fe_54 rfl) fr_74 t_219 eu4 ?_
  refine ev_aload_n (pc := 26) (fe_54 rfl) rfl ?_
  refine ev_aload_n (pc := 27) (fe_54 rfl) rfl ?_
  refine fm_bd h (fun p5 ep5 h => ?_)
  refine ev_callVk (pc := 28) (fe_54 rfl) (z := 55) (na := 2) (ow := 5) cg_54_71 rfl rfl rfl t_219 (m := 0) rfl (jK55 h1 ep5) (st1 := []) rfl ?_
  refine ev_iconst (pc := 31) (fe_54 rfl) li_0 ?_
  refine ev_istore_n (pc := 32) (fe_54 rfl) mx_54 rfl ?_
  refine ev_bipush (pc := 33) (fe_54 rfl) lb_7 ?_
  refine ev_istore_n (pc := 35) (fe_54 rfl) mx_54 rfl ?_
  exact jK54_36 fm_N a1 0 7 p5 h1 h
/-- CallAgents$Timer next -/
def jF81 (a0 : Nat) (u : fm) : Int32 :=
  fm_min (fI u a0 1) (fI u a0 2)
theorem jK81 {X : Nat × (Nat → Int32)} {a0 : Nat} {u : fm} {r : Int32} (h0 : fm_isR a0) (h : jF81 a0 u = r) : ev X 81 0 [some (.inr (.inl (some a0)))] [] u ([.inl r], u) := by
  unfold jF81 at h
  refine ev_aload_n (pc := 0) (fe_81 rfl) rfl ?_
  refine ev_getI (pc := 1) (fe_81 rfl) fr_93 h0 ?_
  refine ev_aload_n (pc := 4) (fe_81 rfl) rfl ?_
  refine ev_getI (pc := 5) (fe_81 rfl) fr_94 h0 ?_
  refine ev_min (pc := 8) (fe_81 rfl) rfl (by decide +kernel) rfl ?_
  exact ev_R (ev_irt (pc := 11) (fe_81 rfl) rt_81) (by rw [← h])
/-- CallAgents$Timer comesBy -/
def jF82 (a0 : Nat) (x1 : Int32) (u : fm) : Int32 :=
  if (fm_b01 (fI u a0 0)) = 0 then
  (0)
  else
  (if x1 < (jF81 a0 u) then
  (0)
  else
  (1))
theorem jK82 {X : Nat × (Nat → Int32)} {a0 : Nat} {x1 : Int32} {u : fm} {r : Int32} (h0 : fm_isR a0) (h : jF82 a0 x1 u = r) : ev X 82 0 [some (.inr (.inl (some a0))), some (.inl x1)] [] u ([.inl r], u) := by
  unfold jF82 at h
  refine ev_aload_n (pc := 0) (fe_82 rfl) rfl ?_
  refine ev_getZ (pc := 1) (fe_82 rfl) fr_90 h0 ?_
  refine ev_if_eq (pc := 4) (fe_82 rfl) (t := 19) rfl h (fun h => ?_) (fun h => ?_)
  refine ev_iconst (pc := 19) (fe_82 rfl) li_0 ?_
  exact ev_R (ev_zrt (pc := 20) (fe_82 rfl) rt_82 (Or.inl rfl)) (by rw [← h])
  refine ev_aload_n (pc := 7) (fe_82 rfl) rfl ?_
  refine ev_callVk (pc := 8) (fe_82 rfl) (z := 81) (na := 1) (ow := 7) cg_82_104 rfl rfl rfl h0 (m := 0) rfl (jK81 h0 rfl) (st1 := [.inl (jF81 a0 u)]) rfl ?_
  refine ev_iload_n (pc := 11) (fe_82 rfl) rfl ?_
  refine ev_ic_gt (pc := 12) (fe_82 rfl) (t := 19) rfl h (fun h => ?_) (fun h => ?_)
  refine ev_iconst (pc := 19) (fe_82 rfl) li_0 ?_
  exact ev_R (ev_zrt (pc := 20) (fe_82 rfl) rt_82 (Or.inl rfl)) (by rw [← h])
  refine ev_iconst (pc := 15) (fe_82 rfl) li_1 ?_
  refine ev_goto (pc := 16) (fe_82 rfl) (t := 20) rfl ?_
  exact ev_R (ev_zrt (pc := 20) (fe_82 rfl) rt_82 (Or.inr rfl)) (by rw [← h])
/-- CallAgents find -/
def jF101 (x1 : Int32) (u : fm) : Option Nat :=
  if x1 = 0 then
  (some 183)
  else
  (if x1 = 1 then
  (some 198)
  else
  (none))
theorem jK101 {X : Nat × (Nat → Int32)} {x1 : Int32} {u : fm} {r : Option Nat} (h : jF101 x1 u = r) : ev X 101 0 [some (.inr (.inl (some 0))), some (.inl x1)] [] u ([.inr (.inl r)], u) := by
  unfold jF101 at h
  refine ev_iload_n (pc := 0) (fe_101 rfl) rfl ?_
  refine ev_if_ne (pc := 1) (fe_101 rfl) (t := 9) rfl h (fun h => ?_) (fun h => ?_)
  refine ev_iload_n (pc := 9) (fe_101 rfl) rfl ?_
  refine ev_iconst (pc := 10) (fe_101 rfl) li_1 ?_
  refine ev_ic_ne (pc := 11) (fe_101 rfl) (t := 21) rfl h (fun h => ?_) (fun h => ?_)
  refine ev_null (pc := 21) (fe_101 rfl) ?_
  exact ev_R (ev_art (pc := 22) (fe_101 rfl) rt_101) (by rw [← h])
  refine ev_aload_n (pc := 14) (fe_101 rfl) rfl ?_
  refine ev_getR (a1 := 198) (pc := 15) (fe_101 rfl) fr_97 t_0 rfl ?_
  refine ev_goto (pc := 18) (fe_101 rfl) (t := 22) rfl ?_
  exact ev_R (ev_art (pc := 22) (fe_101 rfl) rt_101) (by rw [← h])
  refine ev_aload_n (pc := 4) (fe_101 rfl) rfl ?_
  refine ev_getR (a1 := 183) (pc := 5) (fe_101 rfl) fr_96 t_0 rfl ?_
  exact ev_R (ev_art (pc := 8) (fe_101 rfl) rt_101) (by rw [← h])
theorem fm_A1 : fm_isA 183 := ⟨rfl, rfl, rfl, rfl, rfl, rfl, rfl, rfl, rfl, rfl, rfl, rfl, rfl, rfl, rfl⟩
theorem fm_A2 : fm_isA 198 := ⟨rfl, rfl, rfl, rfl, rfl, rfl, rfl, rfl, rfl, rfl, rfl, rfl, rfl, rfl, rfl⟩
theorem jP101 {x : Int32} {u : fm} {q : Nat} (h : jF101 x u = some q) : fm_isA q := by
  unfold jF101 at h
  split at h
  · cases h; exact fm_A1
  · split at h
    · cases h; exact fm_A2
    · cases h
/-- CallAgents media -/
def jF86 (x1 : Int32) (x2 : Int32) (x3 : Int32) (u : fm) : Option (Int32 × fm) :=
  fm_opt (jF101 x1 u)
  (some ((-1), u))
  (fun q1 => if x2 < 1 then
  (some ((-1), u))
  else
  (if 65535 < x2 then
  (some ((-1), u))
  else
  (if x3 < 1 then
  (some ((-1), u))
  else
  (if 255 < x3 then
  (some ((-1), u))
  else
  (Option.bind (jF37 (q1 + 1) x2 x3 u) (fun p2 => if p2.1 = 0 then
  (some ((-1), p2.2))
  else
  (some (fI p2.2 (q1 + 1) 1, p2.2))))))))
theorem jK86 {X : Nat × (Nat → Int32)} {x1 : Int32} {x2 : Int32} {x3 : Int32} {u : fm} {r : Int32 × fm} (h : jF86 x1 x2 x3 u = some r) : ev X 86 0 [some (.inr (.inl (some 0))), some (.inl x1), some (.inl x2), some (.inl x3), none] [] u ([.inl r.1], r.2) := by
  unfold jF86 at h
  refine ev_aload_n (pc := 0) (fe_86 rfl) rfl ?_
  refine ev_iload_n (pc := 1) (fe_86 rfl) rfl ?_
  refine fm_op h (fun eq1 h => ?_) (fun q1 eq1 h => ?_)
  refine ev_callVk (pc := 2) (fe_86 rfl) (z := 101) (na := 2) (ow := 9) cg_86_111 rfl rfl rfl t_0 (m := 0) rfl (jK101 eq1) (st1 := [.inr (.inl none)]) rfl ?_
  refine ev_astore (pc := 5) (fe_86 rfl) mx_86 rfl ?_
  refine ev_aload (pc := 7) (fe_86 rfl) rfl ?_
  refine ev_nul_t (pc := 9) (fe_86 rfl) (t := 35) rfl ?_
  refine ev_iconst (pc := 35) (fe_86 rfl) li_m1 ?_
  exact ev_R (ev_irt (pc := 36) (fe_86 rfl) rt_86) (by rw [← Option.some.inj h])
  have hq1 := jP101 eq1
  refine ev_callVk (pc := 2) (fe_86 rfl) (z := 101) (na := 2) (ow := 9) cg_86_111 rfl rfl rfl t_0 (m := 0) rfl (jK101 eq1) (st1 := [.inr (.inl (some q1))]) rfl ?_
  refine ev_astore (pc := 5) (fe_86 rfl) mx_86 rfl ?_
  refine ev_aload (pc := 7) (fe_86 rfl) rfl ?_
  refine ev_nul_f (pc := 9) (fe_86 rfl) (t := 35) rfl ?_
  refine ev_iload_n (pc := 12) (fe_86 rfl) rfl ?_
  refine ev_iconst (pc := 13) (fe_86 rfl) li_1 ?_
  refine ev_ic_lt (pc := 14) (fe_86 rfl) (t := 35) rfl h (fun h => ?_) (fun h => ?_)
  refine ev_iconst (pc := 35) (fe_86 rfl) li_m1 ?_
  exact ev_R (ev_irt (pc := 36) (fe_86 rfl) rt_86) (by rw [← Option.some.inj h])
  refine ev_iload_n (pc := 17) (fe_86 rfl) rfl ?_
  refine ev_ldc (pc := 18) (fe_86 rfl) (c := 65535) rfl ?_
  refine ev_ic_gt (pc := 20) (fe_86 rfl) (t := 35) rfl h (fun h => ?_) (fun h => ?_)
  refine ev_iconst (pc := 35) (fe_86 rfl) li_m1 ?_
  exact ev_R (ev_irt (pc := 36) (fe_86 rfl) rt_86) (by rw [← Option.some.inj h])
  refine ev_iload_n (pc := 23) (fe_86 rfl) rfl ?_
  refine ev_iconst (pc := 24) (fe_86 rfl) li_1 ?_
  refine ev_ic_lt (pc := 25) (fe_86 rfl) (t := 35) rfl h (fun h => ?_) (fun h => ?_)
  refine ev_iconst (pc := 35) (fe_86 rfl) li_m1 ?_
  exact ev_R (ev_irt (pc := 36) (fe_86 rfl) rt_86) (by rw [← Option.some.inj h])
  refine ev_iload_n (pc := 28) (fe_86 rfl) rfl ?_
  refine ev_sipush (pc := 29) (fe_86 rfl) ls_255 ?_
  refine ev_ic_le (pc := 32) (fe_86 rfl) (t := 37) rfl h (fun h => ?_) (fun h => ?_)
  refine ev_aload (pc := 37) (fe_86 rfl) rfl ?_
  refine ev_getR (a1 := q1 + 1) (pc := 39) (fe_86 rfl) fr_104 hq1.1 rfl ?_
  refine ev_iload_n (pc := 42) (fe_86 rfl) rfl ?_
  refine ev_iload_n (pc := 43) (fe_86 rfl) rfl ?_
  refine fm_bd h (fun p2 ep2 h => ?_)
  refine ev_callVZk (pc := 44) (fe_86 rfl) (z := 37) (na := 3) (ow := 3) cg_86_112 rfl rt_37 rfl rfl hq1.2.1 (m := 1) rfl (jK37 ⟨hq1.2.1, hq1.2.2.1⟩ ep2) (st1 := [.inl p2.1]) rfl (fun z3 => ?_)
  refine ev_if_eq (pc := 47) (fe_86 rfl) (t := 61) rfl h (fun h => ?_) (fun h => ?_)
  refine ev_iconst (pc := 61) (fe_86 rfl) li_m1 ?_
  exact ev_R (ev_irt (pc := 62) (fe_86 rfl) rt_86) (by rw [← Option.some.inj h])
  refine ev_aload (pc := 50) (fe_86 rfl) rfl ?_
  refine ev_getR (a1 := q1 + 1) (pc := 52) (fe_86 rfl) fr_104 hq1.1 rfl ?_
  refine ev_getI (pc := 55) (fe_86 rfl) fr_105 hq1.2.1 ?_
  refine ev_goto (pc := 58) (fe_86 rfl) (t := 62) rfl ?_
  exact ev_R (ev_irt (pc := 62) (fe_86 rfl) rt_86) (by rw [← Option.some.inj h])
  refine ev_iconst (pc := 35) (fe_86 rfl) li_m1 ?_
  exact ev_R (ev_irt (pc := 36) (fe_86 rfl) rt_86) (by rw [← Option.some.inj h])
/-- CallAgents invite -/
def jF87 (x1 : Int32) (u : fm) : Option (Int32 × fm) :=
  fm_opt (jF101 x1 u)
  (some (0, u))
  (fun q1 => Option.bind (jF2 q1 (fI u 0 8) u) (fun p2 => if p2.1 = 0 then
  (some (0, p2.2))
  else
  (some (1, p2.2))))
theorem jK87 {X : Nat × (Nat → Int32)} {x1 : Int32} {u : fm} {r : Int32 × fm} (h : jF87 x1 u = some r) : ev X 87 0 [some (.inr (.inl (some 0))), some (.inl x1), none] [] u ([.inl r.1], r.2) := by
  unfold jF87 at h
  refine ev_aload_n (pc := 0) (fe_87 rfl) rfl ?_
  refine ev_iload_n (pc := 1) (fe_87 rfl) rfl ?_
  refine fm_op h (fun eq1 h => ?_) (fun q1 eq1 h => ?_)
  refine ev_callVk (pc := 2) (fe_87 rfl) (z := 101) (na := 2) (ow := 9) cg_87_111 rfl rfl rfl t_0 (m := 0) rfl (jK101 eq1) (st1 := [.inr (.inl none)]) rfl ?_
  refine ev_astore_n (pc := 5) (fe_87 rfl) mx_87 rfl ?_
  refine ev_aload_n (pc := 6) (fe_87 rfl) rfl ?_
  refine ev_nul_t (pc := 7) (fe_87 rfl) (t := 25) rfl ?_
  refine ev_iconst (pc := 25) (fe_87 rfl) li_0 ?_
  exact ev_R (ev_zrt (pc := 26) (fe_87 rfl) rt_87 (Or.inl rfl)) (by rw [← Option.some.inj h])
  have hq1 := jP101 eq1
  refine ev_callVk (pc := 2) (fe_87 rfl) (z := 101) (na := 2) (ow := 9) cg_87_111 rfl rfl rfl t_0 (m := 0) rfl (jK101 eq1) (st1 := [.inr (.inl (some q1))]) rfl ?_
  refine ev_astore_n (pc := 5) (fe_87 rfl) mx_87 rfl ?_
  refine ev_aload_n (pc := 6) (fe_87 rfl) rfl ?_
  refine ev_nul_f (pc := 7) (fe_87 rfl) (t := 25) rfl ?_
  refine ev_aload_n (pc := 10) (fe_87 rfl) rfl ?_
  refine ev_aload_n (pc := 11) (fe_87 rfl) rfl ?_
  refine ev_getI (pc := 12) (fe_87 rfl) fr_103 t_0 ?_
  refine fm_bd h (fun p2 ep2 h => ?_)
  refine ev_callVZk (pc := 15) (fe_87 rfl) (z := 2) (na := 2) (ow := 0) cg_87_113 rfl rt_2 rfl rfl hq1.1 (m := 0) rfl (jK2 hq1 ep2) (st1 := [.inl p2.1]) rfl (fun z3 => ?_)
  refine ev_if_eq (pc := 18) (fe_87 rfl) (t := 25) rfl h (fun h => ?_) (fun h => ?_)
  refine ev_iconst (pc := 25) (fe_87 rfl) li_0 ?_
  exact ev_R (ev_zrt (pc := 26) (fe_87 rfl) rt_87 (Or.inl rfl)) (by rw [← Option.some.inj h])
  refine ev_iconst (pc := 21) (fe_87 rfl) li_1 ?_
  refine ev_goto (pc := 22) (fe_87 rfl) (t := 26) rfl ?_
  exact ev_R (ev_zrt (pc := 26) (fe_87 rfl) rt_87 (Or.inr rfl)) (by rw [← Option.some.inj h])
/-- CallAgents accept -/
def jF88 (x1 : Int32) (u : fm) : Option (Int32 × fm) :=
  fm_opt (jF101 x1 u)
  (some (0, u))
  (fun q1 => Option.bind (jF3 q1 (fI u 0 8) u) (fun p2 => if p2.1 = 0 then
  (some (0, p2.2))
  else
  (some (1, p2.2))))
theorem jK88 {X : Nat × (Nat → Int32)} {x1 : Int32} {u : fm} {r : Int32 × fm} (h : jF88 x1 u = some r) : ev X 88 0 [some (.inr (.inl (some 0))), some (.inl x1), none] [] u ([.inl r.1], r.2) := by
  unfold jF88 at h
  refine ev_aload_n (pc := 0) (fe_88 rfl) rfl ?_
  refine ev_iload_n (pc := 1) (fe_88 rfl) rfl ?_
  refine fm_op h (fun eq1 h => ?_) (fun q1 eq1 h => ?_)
  refine ev_callVk (pc := 2) (fe_88 rfl) (z := 101) (na := 2) (ow := 9) cg_88_111 rfl rfl rfl t_0 (m := 0) rfl (jK101 eq1) (st1 := [.inr (.inl none)]) rfl ?_
  refine ev_astore_n (pc := 5) (fe_88 rfl) mx_88 rfl ?_
  refine ev_aload_n (pc := 6) (fe_88 rfl) rfl ?_
  refine ev_nul_t (pc := 7) (fe_88 rfl) (t := 25) rfl ?_
  refine ev_iconst (pc := 25) (fe_88 rfl) li_0 ?_
  exact ev_R (ev_zrt (pc := 26) (fe_88 rfl) rt_88 (Or.inl rfl)) (by rw [← Option.some.inj h])
  have hq1 := jP101 eq1
  refine ev_callVk (pc := 2) (fe_88 rfl) (z := 101) (na := 2) (ow := 9) cg_88_111 rfl rfl rfl t_0 (m := 0) rfl (jK101 eq1) (st1 := [.inr (.inl (some q1))]) rfl ?_
  refine ev_astore_n (pc := 5) (fe_88 rfl) mx_88 rfl ?_
  refine ev_aload_n (pc := 6) (fe_88 rfl) rfl ?_
  refine ev_nul_f (pc := 7) (fe_88 rfl) (t := 25) rfl ?_
  refine ev_aload_n (pc := 10) (fe_88 rfl) rfl ?_
  refine ev_aload_n (pc := 11) (fe_88 rfl) rfl ?_
  refine ev_getI (pc := 12) (fe_88 rfl) fr_103 t_0 ?_
  refine fm_bd h (fun p2 ep2 h => ?_)
  refine ev_callVZk (pc := 15) (fe_88 rfl) (z := 3) (na := 2) (ow := 0) cg_88_114 rfl rt_3 rfl rfl hq1.1 (m := 0) rfl (jK3 hq1 ep2) (st1 := [.inl p2.1]) rfl (fun z3 => ?_)
  refine ev_if_eq (pc := 18) (fe_88 rfl) (t := 25) rfl h (fun h => ?_) (fun h => ?_)
  refine ev_iconst (pc := 25) (fe_88 rfl) li_0 ?_
  exact ev_R (ev_zrt (pc := 26) (fe_88 rfl) rt_88 (Or.inl rfl)) (by rw [← Option.some.inj h])
  refine ev_iconst (pc := 21) (fe_88 rfl) li_1 ?_
  refine ev_goto (pc := 22) (fe_88 rfl) (t := 26) rfl ?_
  exact ev_R (ev_zrt (pc := 26) (fe_88 rfl) rt_88 (Or.inr rfl)) (by rw [← Option.some.inj h])
/-- CallAgents refuse -/
def jF89 (x1 : Int32) (u : fm) : Option (Int32 × fm) :=
  fm_opt (jF101 x1 u)
  (some (0, u))
  (fun q1 => Option.bind (jF4 q1 (fI u 0 8) u) (fun p2 => if p2.1 = 0 then
  (some (0, p2.2))
  else
  (some (1, p2.2))))
theorem jK89 {X : Nat × (Nat → Int32)} {x1 : Int32} {u : fm} {r : Int32 × fm} (h : jF89 x1 u = some r) : ev X 89 0 [some (.inr (.inl (some 0))), some (.inl x1), none] [] u ([.inl r.1], r.2) := by
  unfold jF89 at h
  refine ev_aload_n (pc := 0) (fe_89 rfl) rfl ?_
  refine ev_iload_n (pc := 1) (fe_89 rfl) rfl ?_
  refine fm_op h (fun eq1 h => ?_) (fun q1 eq1 h => ?_)
  refine ev_callVk (pc := 2) (fe_89 rfl) (z := 101) (na := 2) (ow := 9) cg_89_111 rfl rfl rfl t_0 (m := 0) rfl (jK101 eq1) (st1 := [.inr (.inl none)]) rfl ?_
  refine ev_astore_n (pc := 5) (fe_89 rfl) mx_89 rfl ?_
  refine ev_aload_n (pc := 6) (fe_89 rfl) rfl ?_
  refine ev_nul_t (pc := 7) (fe_89 rfl) (t := 25) rfl ?_
  refine ev_iconst (pc := 25) (fe_89 rfl) li_0 ?_
  exact ev_R (ev_zrt (pc := 26) (fe_89 rfl) rt_89 (Or.inl rfl)) (by rw [← Option.some.inj h])
  have hq1 := jP101 eq1
  refine ev_callVk (pc := 2) (fe_89 rfl) (z := 101) (na := 2) (ow := 9) cg_89_111 rfl rfl rfl t_0 (m := 0) rfl (jK101 eq1) (st1 := [.inr (.inl (some q1))]) rfl ?_
  refine ev_astore_n (pc := 5) (fe_89 rfl) mx_89 rfl ?_
  refine ev_aload_n (pc := 6) (fe_89 rfl) rfl ?_
  refine ev_nul_f (pc := 7) (fe_89 rfl) (t := 25) rfl ?_
  refine ev_aload_n (pc := 10) (fe_89 rfl) rfl ?_
  refine ev_aload_n (pc := 11) (fe_89 rfl) rfl ?_
  refine ev_getI (pc := 12) (fe_89 rfl) fr_103 t_0 ?_
  refine fm_bd h (fun p2 ep2 h => ?_)
  refine ev_callVZk (pc := 15) (fe_89 rfl) (z := 4) (na := 2) (ow := 0) cg_89_115 rfl rt_4 rfl rfl hq1.1 (m := 0) rfl (jK4 hq1 ep2) (st1 := [.inl p2.1]) rfl (fun z3 => ?_)
  refine ev_if_eq (pc := 18) (fe_89 rfl) (t := 25) rfl h (fun h => ?_) (fun h => ?_)
  refine ev_iconst (pc := 25) (fe_89 rfl) li_0 ?_
  exact ev_R (ev_zrt (pc := 26) (fe_89 rfl) rt_89 (Or.inl rfl)) (by rw [← Option.some.inj h])
  refine ev_iconst (pc := 21) (fe_89 rfl) li_1 ?_
  refine ev_goto (pc := 22) (fe_89 rfl) (t := 26) rfl ?_
  exact ev_R (ev_zrt (pc := 26) (fe_89 rfl) rt_89 (Or.inr rfl)) (by rw [← Option.some.inj h])
/-- CallAgents hang -/
def jF90 (x1 : Int32) (u : fm) : Option (Int32 × fm) :=
  fm_opt (jF101 x1 u)
  (some (0, u))
  (fun q1 => Option.bind (jF5 q1 (fI u 0 8) u) (fun p2 => if p2.1 = 0 then
  (some (0, p2.2))
  else
  (some (1, p2.2))))
theorem jK90 {X : Nat × (Nat → Int32)} {x1 : Int32} {u : fm} {r : Int32 × fm} (h : jF90 x1 u = some r) : ev X 90 0 [some (.inr (.inl (some 0))), some (.inl x1), none] [] u ([.inl r.1], r.2) := by
  unfold jF90 at h
  refine ev_aload_n (pc := 0) (fe_90 rfl) rfl ?_
  refine ev_iload_n (pc := 1) (fe_90 rfl) rfl ?_
  refine fm_op h (fun eq1 h => ?_) (fun q1 eq1 h => ?_)
  refine ev_callVk (pc := 2) (fe_90 rfl) (z := 101) (na := 2) (ow := 9) cg_90_111 rfl rfl rfl t_0 (m := 0) rfl (jK101 eq1) (st1 := [.inr (.inl none)]) rfl ?_
  refine ev_astore_n (pc := 5) (fe_90 rfl) mx_90 rfl ?_
  refine ev_aload_n (pc := 6) (fe_90 rfl) rfl ?_
  refine ev_nul_t (pc := 7) (fe_90 rfl) (t := 25) rfl ?_
  refine ev_iconst (pc := 25) (fe_90 rfl) li_0 ?_
  exact ev_R (ev_zrt (pc := 26) (fe_90 rfl) rt_90 (Or.inl rfl)) (by rw [← Option.some.inj h])
  have hq1 := jP101 eq1
  refine ev_callVk (pc := 2) (fe_90 rfl) (z := 101) (na := 2) (ow := 9) cg_90_111 rfl rfl rfl t_0 (m := 0) rfl (jK101 eq1) (st1 := [.inr (.inl (some q1))]) rfl ?_
  refine ev_astore_n (pc := 5) (fe_90 rfl) mx_90 rfl ?_
  refine ev_aload_n (pc := 6) (fe_90 rfl) rfl ?_
  refine ev_nul_f (pc := 7) (fe_90 rfl) (t := 25) rfl ?_
  refine ev_aload_n (pc := 10) (fe_90 rfl) rfl ?_
  refine ev_aload_n (pc := 11) (fe_90 rfl) rfl ?_
  refine ev_getI (pc := 12) (fe_90 rfl) fr_103 t_0 ?_
  refine fm_bd h (fun p2 ep2 h => ?_)
  refine ev_callVZk (pc := 15) (fe_90 rfl) (z := 5) (na := 2) (ow := 0) cg_90_116 rfl rt_5 rfl rfl hq1.1 (m := 0) rfl (jK5 hq1 ep2) (st1 := [.inl p2.1]) rfl (fun z3 => ?_)
  refine ev_if_eq (pc := 18) (fe_90 rfl) (t := 25) rfl h (fun h => ?_) (fun h => ?_)
  refine ev_iconst (pc := 25) (fe_90 rfl) li_0 ?_
  exact ev_R (ev_zrt (pc := 26) (fe_90 rfl) rt_90 (Or.inl rfl)) (by rw [← Option.some.inj h])
  refine ev_iconst (pc := 21) (fe_90 rfl) li_1 ?_
  refine ev_goto (pc := 22) (fe_90 rfl) (t := 26) rfl ?_
  exact ev_R (ev_zrt (pc := 26) (fe_90 rfl) rt_90 (Or.inr rfl)) (by rw [← Option.some.inj h])
/-- CallAgents receiverOf -/
def jF102 (x1 : Int32) (u : fm) : Option (Option Nat × fm) :=
  Option.bind (jF30 x1 u) (fun p1 => fm_opt p1
  (some (none, u))
  (fun q2 => Option.bind (jF47 220 q2 u) (fun p3 => fm_opt (jF101 (jF46 q2 p3) p3)
  (some (none, p3))
  (fun q4 => some (some q4, p3)))))
theorem jK102 {X : Nat × (Nat → Int32)} {x1 : Int32} {u : fm} {r : Option Nat × fm} (h : jF102 x1 u = some r) : ev X 102 0 [some (.inr (.inl (some 0))), some (.inl x1), none] [] u ([.inr (.inl r.1)], r.2) := by
  unfold jF102 at h
  refine ev_aload_n (pc := 0) (fe_102 rfl) rfl ?_
  refine ev_getR (a1 := 1) (pc := 1) (fe_102 rfl) fr_95 t_0 rfl ?_
  refine ev_iload_n (pc := 4) (fe_102 rfl) rfl ?_
  refine fm_bd h (fun p1 ep1 h => ?_)
  refine fm_op h (fun eq2 h => ?_) (fun q2 eq2 h => ?_)
  refine ev_callVk (pc := 5) (fe_102 rfl) (z := 30) (na := 2) (ow := 2) cg_102_120 rfl rfl rfl t_1 (m := 0) rfl (jK30 ep1) (st1 := [.inr (.inl none)]) (by rw [eq2]; rfl) ?_
  refine ev_astore_n (pc := 8) (fe_102 rfl) mx_102 rfl ?_
  refine ev_aload_n (pc := 9) (fe_102 rfl) rfl ?_
  refine ev_nnl_f (pc := 10) (fe_102 rfl) (t := 15) rfl ?_
  refine ev_null (pc := 13) (fe_102 rfl) ?_
  exact ev_R (ev_art (pc := 14) (fe_102 rfl) rt_102) (by rw [← Option.some.inj h])
  have hq2 := jP30 ep1 eq2
  refine ev_callVk (pc := 5) (fe_102 rfl) (z := 30) (na := 2) (ow := 2) cg_102_120 rfl rfl rfl t_1 (m := 0) rfl (jK30 ep1) (st1 := [.inr (.inl (some q2))]) (by rw [eq2]; rfl) ?_
  refine ev_astore_n (pc := 8) (fe_102 rfl) mx_102 rfl ?_
  refine ev_aload_n (pc := 9) (fe_102 rfl) rfl ?_
  refine ev_nnl_t (pc := 10) (fe_102 rfl) (t := 15) rfl ?_
  refine ev_aload_n (pc := 15) (fe_102 rfl) rfl ?_
  refine ev_getR (a1 := 220) (pc := 16) (fe_102 rfl) fr_102 t_0 rfl ?_
  refine ev_aload_n (pc := 19) (fe_102 rfl) rfl ?_
  refine fm_bd h (fun p3 ep3 h => ?_)
  refine ev_callVk (pc := 20) (fe_102 rfl) (z := 47) (na := 2) (ow := 4) cg_102_130 rfl rfl rfl t_220 (m := 0) rfl (jK47 ⟨t_220, t_221, t_222⟩ (fm_isL_M hq2) ep3) (st1 := []) rfl ?_
  refine ev_aload_n (pc := 23) (fe_102 rfl) rfl ?_
  refine ev_aload_n (pc := 24) (fe_102 rfl) rfl ?_
  refine ev_callVk (pc := 25) (fe_102 rfl) (z := 46) (na := 1) (ow := 4) cg_102_131 rfl rfl rfl (fm_isL_M hq2).1 (m := 0) rfl (jK46 (fm_isL_M hq2) rfl) (st1 := [.inl (jF46 q2 p3), .inr (.inl (some 0))]) rfl ?_
  refine fm_op h (fun eq4 h => ?_) (fun q4 eq4 h => ?_)
  refine ev_callVk (pc := 28) (fe_102 rfl) (z := 101) (na := 2) (ow := 9) cg_102_111 rfl rfl rfl t_0 (m := 0) rfl (jK101 eq4) (st1 := [.inr (.inl none)]) rfl ?_
  exact ev_R (ev_art (pc := 31) (fe_102 rfl) rt_102) (by rw [← Option.some.inj h])
  have hq4 := jP101 eq4
  refine ev_callVk (pc := 28) (fe_102 rfl) (z := 101) (na := 2) (ow := 9) cg_102_111 rfl rfl rfl t_0 (m := 0) rfl (jK101 eq4) (st1 := [.inr (.inl (some q4))]) rfl ?_
  exact ev_R (ev_art (pc := 31) (fe_102 rfl) rt_102) (by rw [← Option.some.inj h])
theorem jP102 {x : Int32} {u : fm} {p : Option Nat × fm} {q : Nat} (h : jF102 x u = some p) (e : p.1 = some q) : fm_isA q := by
  unfold jF102 at h
  cases h1 : jF30 x u with
  | none => rw [h1] at h; cases h
  | some a =>
    rw [h1] at h
    cases a with
    | none => simp only [Option.bind, fm_opt] at h; cases h; cases e
    | some m =>
      simp only [Option.bind, fm_opt] at h
      cases h2 : jF47 220 m u with
      | none => rw [h2] at h; cases h
      | some v =>
        rw [h2] at h
        simp only at h
        cases h3 : jF101 (jF46 m v) v with
        | none => rw [h3] at h; simp only [fm_opt] at h; cases h; cases e
        | some a =>
          rw [h3] at h
          simp only [fm_opt] at h
          cases h
          cases e
          exact jP101 h3
/-- CallAgents bring -/
def jF91 (x1 : Int32) (u : fm) : Option (Int32 × fm) :=
  Option.bind (jF102 x1 u) (fun p1 => fm_opt p1.1
  (some ((-1), p1.2))
  (fun q2 => Option.bind (jF31 x1 p1.2) (fun p3 => Option.bind (jF7 q2 220 p3.2) (fun p5 => some (fI p5 1 1, p5)))))
theorem jK91 {X : Nat × (Nat → Int32)} {x1 : Int32} {u : fm} {r : Int32 × fm} (h : jF91 x1 u = some r) : ev X 91 0 [some (.inr (.inl (some 0))), some (.inl x1), none] [] u ([.inl r.1], r.2) := by
  unfold jF91 at h
  refine ev_aload_n (pc := 0) (fe_91 rfl) rfl ?_
  refine ev_iload_n (pc := 1) (fe_91 rfl) rfl ?_
  refine fm_bd h (fun p1 ep1 h => ?_)
  refine fm_op h (fun eq2 h => ?_) (fun q2 eq2 h => ?_)
  refine ev_callVk (pc := 2) (fe_91 rfl) (z := 102) (na := 2) (ow := 9) cg_91_117 rfl rfl rfl t_0 (m := 1) rfl (jK102 ep1) (st1 := [.inr (.inl none)]) (by rw [eq2]; rfl) ?_
  refine ev_astore_n (pc := 5) (fe_91 rfl) mx_91 rfl ?_
  refine ev_aload_n (pc := 6) (fe_91 rfl) rfl ?_
  refine ev_nnl_f (pc := 7) (fe_91 rfl) (t := 12) rfl ?_
  refine ev_iconst (pc := 10) (fe_91 rfl) li_m1 ?_
  exact ev_R (ev_irt (pc := 11) (fe_91 rfl) rt_91) (by rw [← Option.some.inj h])
  have hq2 := jP102 ep1 eq2
  refine ev_callVk (pc := 2) (fe_91 rfl) (z := 102) (na := 2) (ow := 9) cg_91_117 rfl rfl rfl t_0 (m := 1) rfl (jK102 ep1) (st1 := [.inr (.inl (some q2))]) (by rw [eq2]; rfl) ?_
  refine ev_astore_n (pc := 5) (fe_91 rfl) mx_91 rfl ?_
  refine ev_aload_n (pc := 6) (fe_91 rfl) rfl ?_
  refine ev_nnl_t (pc := 7) (fe_91 rfl) (t := 12) rfl ?_
  refine ev_aload_n (pc := 12) (fe_91 rfl) rfl ?_
  refine ev_getR (a1 := 1) (pc := 13) (fe_91 rfl) fr_95 t_0 rfl ?_
  refine ev_iload_n (pc := 16) (fe_91 rfl) rfl ?_
  refine fm_bd h (fun p3 ep3 h => ?_)
  refine ev_callVZk (pc := 17) (fe_91 rfl) (z := 31) (na := 2) (ow := 2) cg_91_118 rfl rt_31 rfl rfl t_1 (m := 2) rfl (jK31 ep3) (st1 := [.inl p3.1]) rfl (fun z4 => ?_)
  refine ev_pop (pc := 20) (fe_91 rfl) rfl ?_
  refine ev_aload_n (pc := 21) (fe_91 rfl) rfl ?_
  refine ev_aload_n (pc := 22) (fe_91 rfl) rfl ?_
  refine ev_getR (a1 := 220) (pc := 23) (fe_91 rfl) fr_102 t_0 rfl ?_
  refine fm_bd h (fun p5 ep5 h => ?_)
  refine ev_callVk (pc := 26) (fe_91 rfl) (z := 7) (na := 2) (ow := 0) cg_91_119 rfl rfl rfl hq2.1 (m := 1) rfl (jK7 hq2 ⟨t_220, t_221, t_222⟩ ep5) (st1 := []) rfl ?_
  refine ev_aload_n (pc := 29) (fe_91 rfl) rfl ?_
  refine ev_getR (a1 := 1) (pc := 30) (fe_91 rfl) fr_95 t_0 rfl ?_
  refine ev_getI (pc := 33) (fe_91 rfl) fr_106 t_1 ?_
  exact ev_R (ev_irt (pc := 36) (fe_91 rfl) rt_91) (by rw [← Option.some.inj h])
/-- CallAgents twice -/
def jF92 (x1 : Int32) (u : fm) : Option (Int32 × fm) :=
  Option.bind (jF102 x1 u) (fun p1 => fm_opt p1.1
  (some ((-1), p1.2))
  (fun q2 => Option.bind (jF7 q2 220 p1.2) (fun p3 => some (fI p3 1 1, p3))))
theorem jK92 {X : Nat × (Nat → Int32)} {x1 : Int32} {u : fm} {r : Int32 × fm} (h : jF92 x1 u = some r) : ev X 92 0 [some (.inr (.inl (some 0))), some (.inl x1), none] [] u ([.inl r.1], r.2) := by
  unfold jF92 at h
  refine ev_aload_n (pc := 0) (fe_92 rfl) rfl ?_
  refine ev_iload_n (pc := 1) (fe_92 rfl) rfl ?_
  refine fm_bd h (fun p1 ep1 h => ?_)
  refine fm_op h (fun eq2 h => ?_) (fun q2 eq2 h => ?_)
  refine ev_callVk (pc := 2) (fe_92 rfl) (z := 102) (na := 2) (ow := 9) cg_92_117 rfl rfl rfl t_0 (m := 1) rfl (jK102 ep1) (st1 := [.inr (.inl none)]) (by rw [eq2]; rfl) ?_
  refine ev_astore_n (pc := 5) (fe_92 rfl) mx_92 rfl ?_
  refine ev_aload_n (pc := 6) (fe_92 rfl) rfl ?_
  refine ev_nnl_f (pc := 7) (fe_92 rfl) (t := 12) rfl ?_
  refine ev_iconst (pc := 10) (fe_92 rfl) li_m1 ?_
  exact ev_R (ev_irt (pc := 11) (fe_92 rfl) rt_92) (by rw [← Option.some.inj h])
  have hq2 := jP102 ep1 eq2
  refine ev_callVk (pc := 2) (fe_92 rfl) (z := 102) (na := 2) (ow := 9) cg_92_117 rfl rfl rfl t_0 (m := 1) rfl (jK102 ep1) (st1 := [.inr (.inl (some q2))]) (by rw [eq2]; rfl) ?_
  refine ev_astore_n (pc := 5) (fe_92 rfl) mx_92 rfl ?_
  refine ev_aload_n (pc := 6) (fe_92 rfl) rfl ?_
  refine ev_nnl_t (pc := 7) (fe_92 rfl) (t := 12) rfl ?_
  refine ev_aload_n (pc := 12) (fe_92 rfl) rfl ?_
  refine ev_aload_n (pc := 13) (fe_92 rfl) rfl ?_
  refine ev_getR (a1 := 220) (pc := 14) (fe_92 rfl) fr_102 t_0 rfl ?_
  refine fm_bd h (fun p3 ep3 h => ?_)
  refine ev_callVk (pc := 17) (fe_92 rfl) (z := 7) (na := 2) (ow := 0) cg_92_119 rfl rfl rfl hq2.1 (m := 1) rfl (jK7 hq2 ⟨t_220, t_221, t_222⟩ ep3) (st1 := []) rfl ?_
  refine ev_aload_n (pc := 20) (fe_92 rfl) rfl ?_
  refine ev_getR (a1 := 1) (pc := 21) (fe_92 rfl) fr_95 t_0 rfl ?_
  refine ev_getI (pc := 24) (fe_92 rfl) fr_106 t_1 ?_
  exact ev_R (ev_irt (pc := 27) (fe_92 rfl) rt_92) (by rw [← Option.some.inj h])
/-- CallAgents lose -/
def jF93 (x1 : Int32) (u : fm) : Option (Int32 × fm) :=
  Option.bind (jF31 x1 u) (fun p1 => if p1.1 = 0 then
  (some ((-1), p1.2))
  else
  (some (fI p1.2 1 1, p1.2)))
theorem jK93 {X : Nat × (Nat → Int32)} {x1 : Int32} {u : fm} {r : Int32 × fm} (h : jF93 x1 u = some r) : ev X 93 0 [some (.inr (.inl (some 0))), some (.inl x1)] [] u ([.inl r.1], r.2) := by
  unfold jF93 at h
  refine ev_aload_n (pc := 0) (fe_93 rfl) rfl ?_
  refine ev_getR (a1 := 1) (pc := 1) (fe_93 rfl) fr_95 t_0 rfl ?_
  refine ev_iload_n (pc := 4) (fe_93 rfl) rfl ?_
  refine fm_bd h (fun p1 ep1 h => ?_)
  refine ev_callVZk (pc := 5) (fe_93 rfl) (z := 31) (na := 2) (ow := 2) cg_93_118 rfl rt_31 rfl rfl t_1 (m := 2) rfl (jK31 ep1) (st1 := [.inl p1.1]) rfl (fun z2 => ?_)
  refine ev_if_eq (pc := 8) (fe_93 rfl) (t := 21) rfl h (fun h => ?_) (fun h => ?_)
  refine ev_iconst (pc := 21) (fe_93 rfl) li_m1 ?_
  exact ev_R (ev_irt (pc := 22) (fe_93 rfl) rt_93) (by rw [← Option.some.inj h])
  refine ev_aload_n (pc := 11) (fe_93 rfl) rfl ?_
  refine ev_getR (a1 := 1) (pc := 12) (fe_93 rfl) fr_95 t_0 rfl ?_
  refine ev_getI (pc := 15) (fe_93 rfl) fr_106 t_1 ?_
  refine ev_goto (pc := 18) (fe_93 rfl) (t := 22) rfl ?_
  exact ev_R (ev_irt (pc := 22) (fe_93 rfl) rt_93) (by rw [← Option.some.inj h])
/-- CallAgents flying -/
def jF94 (u : fm) : Int32 :=
  fI u 1 1
theorem jK94 {X : Nat × (Nat → Int32)} {u : fm} {r : Int32} (h : jF94 u = r) : ev X 94 0 [some (.inr (.inl (some 0)))] [] u ([.inl r], u) := by
  unfold jF94 at h
  refine ev_aload_n (pc := 0) (fe_94 rfl) rfl ?_
  refine ev_getR (a1 := 1) (pc := 1) (fe_94 rfl) fr_95 t_0 rfl ?_
  refine ev_getI (pc := 4) (fe_94 rfl) fr_106 t_1 ?_
  exact ev_R (ev_irt (pc := 7) (fe_94 rfl) rt_94) (by rw [← h])
