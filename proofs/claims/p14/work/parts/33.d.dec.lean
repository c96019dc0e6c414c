set_option maxRecDepth 8000
/-- CallAgents sign -/
def jF95 (x1 : Int32) (x2 : Int32) (u : fm) : Option (Int32 × fm) :=
  Option.bind (jF30 x1 u) (fun p1 => fm_opt p1
  (some ((-1), u))
  (fun q2 => Option.bind (jF50 q2 215 217 u) (fun p3 => Option.bind (jF72 215 x2 p3) (fun p4 => some (p4, p3)))))
theorem jK95 {X : Nat × (Nat → Int32)} {x1 : Int32} {x2 : Int32} {u : fm} {r : Int32 × fm} (h : jF95 x1 x2 u = some r) : ev X 95 0 [some (.inr (.inl (some 0))), some (.inl x1), some (.inl x2), none] [] u ([.inl r.1], r.2) := by
  unfold jF95 at h
  refine ev_aload_n (pc := 0) (fe_95 rfl) rfl ?_
  refine ev_getR (a1 := 1) (pc := 1) (fe_95 rfl) fr_95 t_0 rfl ?_
  refine ev_iload_n (pc := 4) (fe_95 rfl) rfl ?_
  refine fm_bd h (fun p1 ep1 h => ?_)
  refine fm_op h (fun eq2 h => ?_) (fun q2 eq2 h => ?_)
  refine ev_callVk (pc := 5) (fe_95 rfl) (z := 30) (na := 2) (ow := 2) cg_95_120 rfl rfl rfl t_1 (m := 0) rfl (jK30 ep1) (st1 := [.inr (.inl none)]) (by rw [eq2]; rfl) ?_
  refine ev_astore_n (pc := 8) (fe_95 rfl) mx_95 rfl ?_
  refine ev_aload_n (pc := 9) (fe_95 rfl) rfl ?_
  refine ev_nnl_f (pc := 10) (fe_95 rfl) (t := 15) rfl ?_
  refine ev_iconst (pc := 13) (fe_95 rfl) li_m1 ?_
  exact ev_R (ev_irt (pc := 14) (fe_95 rfl) rt_95) (by rw [← Option.some.inj h])
  have hq2 := jP30 ep1 eq2
  refine ev_callVk (pc := 5) (fe_95 rfl) (z := 30) (na := 2) (ow := 2) cg_95_120 rfl rfl rfl t_1 (m := 0) rfl (jK30 ep1) (st1 := [.inr (.inl (some q2))]) (by rw [eq2]; rfl) ?_
  refine ev_astore_n (pc := 8) (fe_95 rfl) mx_95 rfl ?_
  refine ev_aload_n (pc := 9) (fe_95 rfl) rfl ?_
  refine ev_nnl_t (pc := 10) (fe_95 rfl) (t := 15) rfl ?_
  refine ev_aload_n (pc := 15) (fe_95 rfl) rfl ?_
  refine ev_aload_n (pc := 16) (fe_95 rfl) rfl ?_
  refine ev_getR (a1 := 215) (pc := 17) (fe_95 rfl) fr_99 t_0 rfl ?_
  refine ev_aload_n (pc := 20) (fe_95 rfl) rfl ?_
  refine ev_getR (a1 := 217) (pc := 21) (fe_95 rfl) fr_100 t_0 rfl ?_
  refine fm_bd h (fun p3 ep3 h => ?_)
  refine ev_callVk (pc := 24) (fe_95 rfl) (z := 50) (na := 3) (ow := 4) cg_95_121 rfl rfl rfl (fm_isL_M hq2).1 (m := 0) rfl (jK50 (fm_isL_M hq2) ⟨t_215, t_216⟩ ⟨t_217, t_218⟩ ep3) (st1 := []) rfl ?_
  refine ev_aload_n (pc := 27) (fe_95 rfl) rfl ?_
  refine ev_getR (a1 := 215) (pc := 28) (fe_95 rfl) fr_99 t_0 rfl ?_
  refine ev_iload_n (pc := 31) (fe_95 rfl) rfl ?_
  refine fm_bd h (fun p4 ep4 h => ?_)
  refine ev_callVk (pc := 32) (fe_95 rfl) (z := 72) (na := 2) (ow := 6) cg_95_122 rfl rfl rfl t_215 (m := 0) rfl (jK72 ⟨t_215, t_216⟩ ep4) (st1 := [.inl p4]) rfl ?_
  exact ev_R (ev_irt (pc := 35) (fe_95 rfl) rt_95) (by rw [← Option.some.inj h])
/-- CallAgents unit -/
def jF96 (x1 : Int32) (u : fm) : Option (Int32 × fm) :=
  if x1 = 10 then
  (Option.bind (jF73 213 x1 u) (fun p1 => if p1.1 = 0 then
  (some (0, p1.2))
  else
  (some (1, p1.2))))
  else
  (if x1 < 32 then
  (some (0, u))
  else
  (if 126 < x1 then
  (some (0, u))
  else
  (Option.bind (jF73 213 x1 u) (fun p3 => if p3.1 = 0 then
  (some (0, p3.2))
  else
  (some (1, p3.2))))))
theorem jK96 {X : Nat × (Nat → Int32)} {x1 : Int32} {u : fm} {r : Int32 × fm} (h : jF96 x1 u = some r) : ev X 96 0 [some (.inr (.inl (some 0))), some (.inl x1), none] [] u ([.inl r.1], r.2) := by
  unfold jF96 at h
  refine ev_iload_n (pc := 0) (fe_96 rfl) rfl ?_
  refine ev_bipush (pc := 1) (fe_96 rfl) lb_10 ?_
  refine ev_ic_eq (pc := 3) (fe_96 rfl) (t := 18) rfl h (fun h => ?_) (fun h => ?_)
  refine ev_iconst (pc := 18) (fe_96 rfl) li_1 ?_
  refine ev_goto (pc := 19) (fe_96 rfl) (t := 23) rfl ?_
  refine ev_istore_n (pc := 23) (fe_96 rfl) mx_96 rfl ?_
  refine ev_iload_n (pc := 24) (fe_96 rfl) rfl ?_
  refine ev_ifc (pc := 25) (fe_96 rfl) (t := 43) (t1 := 28) (b := false) rfl (by decide) rfl ?_
  refine ev_aload_n (pc := 28) (fe_96 rfl) rfl ?_
  refine ev_getR (a1 := 213) (pc := 29) (fe_96 rfl) fr_98 t_0 rfl ?_
  refine ev_iload_n (pc := 32) (fe_96 rfl) rfl ?_
  refine fm_bd h (fun p1 ep1 h => ?_)
  refine ev_callVZk (pc := 33) (fe_96 rfl) (z := 73) (na := 2) (ow := 6) cg_96_123 rfl rt_73 rfl rfl t_213 (m := 0) rfl (jK73 ⟨t_213, t_214⟩ ep1) (st1 := [.inl p1.1]) rfl (fun z2 => ?_)
  refine ev_if_eq (pc := 36) (fe_96 rfl) (t := 43) rfl h (fun h => ?_) (fun h => ?_)
  refine ev_iconst (pc := 43) (fe_96 rfl) li_0 ?_
  exact ev_R (ev_zrt (pc := 44) (fe_96 rfl) rt_96 (Or.inl rfl)) (by rw [← Option.some.inj h])
  refine ev_iconst (pc := 39) (fe_96 rfl) li_1 ?_
  refine ev_goto (pc := 40) (fe_96 rfl) (t := 44) rfl ?_
  exact ev_R (ev_zrt (pc := 44) (fe_96 rfl) rt_96 (Or.inr rfl)) (by rw [← Option.some.inj h])
  refine ev_iload_n (pc := 6) (fe_96 rfl) rfl ?_
  refine ev_bipush (pc := 7) (fe_96 rfl) lb_32 ?_
  refine ev_ic_lt (pc := 9) (fe_96 rfl) (t := 22) rfl h (fun h => ?_) (fun h => ?_)
  refine ev_iconst (pc := 22) (fe_96 rfl) li_0 ?_
  refine ev_istore_n (pc := 23) (fe_96 rfl) mx_96 rfl ?_
  refine ev_iload_n (pc := 24) (fe_96 rfl) rfl ?_
  refine ev_ifc (pc := 25) (fe_96 rfl) (t := 43) (t1 := 43) (b := true) rfl (by decide) rfl ?_
  refine ev_iconst (pc := 43) (fe_96 rfl) li_0 ?_
  exact ev_R (ev_zrt (pc := 44) (fe_96 rfl) rt_96 (Or.inl rfl)) (by rw [← Option.some.inj h])
  refine ev_iload_n (pc := 12) (fe_96 rfl) rfl ?_
  refine ev_bipush (pc := 13) (fe_96 rfl) lb_126 ?_
  refine ev_ic_gt (pc := 15) (fe_96 rfl) (t := 22) rfl h (fun h => ?_) (fun h => ?_)
  refine ev_iconst (pc := 22) (fe_96 rfl) li_0 ?_
  refine ev_istore_n (pc := 23) (fe_96 rfl) mx_96 rfl ?_
  refine ev_iload_n (pc := 24) (fe_96 rfl) rfl ?_
  refine ev_ifc (pc := 25) (fe_96 rfl) (t := 43) (t1 := 43) (b := true) rfl (by decide) rfl ?_
  refine ev_iconst (pc := 43) (fe_96 rfl) li_0 ?_
  exact ev_R (ev_zrt (pc := 44) (fe_96 rfl) rt_96 (Or.inl rfl)) (by rw [← Option.some.inj h])
  refine ev_iconst (pc := 18) (fe_96 rfl) li_1 ?_
  refine ev_goto (pc := 19) (fe_96 rfl) (t := 23) rfl ?_
  refine ev_istore_n (pc := 23) (fe_96 rfl) mx_96 rfl ?_
  refine ev_iload_n (pc := 24) (fe_96 rfl) rfl ?_
  refine ev_ifc (pc := 25) (fe_96 rfl) (t := 43) (t1 := 28) (b := false) rfl (by decide) rfl ?_
  refine ev_aload_n (pc := 28) (fe_96 rfl) rfl ?_
  refine ev_getR (a1 := 213) (pc := 29) (fe_96 rfl) fr_98 t_0 rfl ?_
  refine ev_iload_n (pc := 32) (fe_96 rfl) rfl ?_
  refine fm_bd h (fun p3 ep3 h => ?_)
  refine ev_callVZk (pc := 33) (fe_96 rfl) (z := 73) (na := 2) (ow := 6) cg_96_123 rfl rt_73 rfl rfl t_213 (m := 0) rfl (jK73 ⟨t_213, t_214⟩ ep3) (st1 := [.inl p3.1]) rfl (fun z4 => ?_)
  refine ev_if_eq (pc := 36) (fe_96 rfl) (t := 43) rfl h (fun h => ?_) (fun h => ?_)
  refine ev_iconst (pc := 43) (fe_96 rfl) li_0 ?_
  exact ev_R (ev_zrt (pc := 44) (fe_96 rfl) rt_96 (Or.inl rfl)) (by rw [← Option.some.inj h])
  refine ev_iconst (pc := 39) (fe_96 rfl) li_1 ?_
  refine ev_goto (pc := 40) (fe_96 rfl) (t := 44) rfl ?_
  exact ev_R (ev_zrt (pc := 44) (fe_96 rfl) rt_96 (Or.inr rfl)) (by rw [← Option.some.inj h])
/-- CallAgents inject -/
def jF97 (x1 : Int32) (u : fm) : Option (Int32 × fm) :=
  fm_opt (jF101 x1 u)
  (some ((-2), u))
  (fun q1 => Option.bind (jF54 220 u) (fun p2 => fm_let (jF71 213 p2.2) (fun p3 => if p2.1 < 0 then
  (Option.bind (jF7 q1 220 p3) (fun p4 => some (0, p4)))
  else
  (some ((-10) - p2.1, p3)))))
theorem jK97 {X : Nat × (Nat → Int32)} {x1 : Int32} {u : fm} {r : Int32 × fm} (h : jF97 x1 u = some r) : ev X 97 0 [some (.inr (.inl (some 0))), some (.inl x1), none, none] [] u ([.inl r.1], r.2) := by
  unfold jF97 at h
  refine ev_aload_n (pc := 0) (fe_97 rfl) rfl ?_
  refine ev_iload_n (pc := 1) (fe_97 rfl) rfl ?_
  refine fm_op h (fun eq1 h => ?_) (fun q1 eq1 h => ?_)
  refine ev_callVk (pc := 2) (fe_97 rfl) (z := 101) (na := 2) (ow := 9) cg_97_111 rfl rfl rfl t_0 (m := 0) rfl (jK101 eq1) (st1 := [.inr (.inl none)]) rfl ?_
  refine ev_astore_n (pc := 5) (fe_97 rfl) mx_97 rfl ?_
  refine ev_aload_n (pc := 6) (fe_97 rfl) rfl ?_
  refine ev_nnl_f (pc := 7) (fe_97 rfl) (t := 13) rfl ?_
  refine ev_bipush (pc := 10) (fe_97 rfl) lb_m2 ?_
  exact ev_R (ev_irt (pc := 12) (fe_97 rfl) rt_97) (by rw [← Option.some.inj h])
  have hq1 := jP101 eq1
  refine ev_callVk (pc := 2) (fe_97 rfl) (z := 101) (na := 2) (ow := 9) cg_97_111 rfl rfl rfl t_0 (m := 0) rfl (jK101 eq1) (st1 := [.inr (.inl (some q1))]) rfl ?_
  refine ev_astore_n (pc := 5) (fe_97 rfl) mx_97 rfl ?_
  refine ev_aload_n (pc := 6) (fe_97 rfl) rfl ?_
  refine ev_nnl_t (pc := 7) (fe_97 rfl) (t := 13) rfl ?_
  refine ev_aload_n (pc := 13) (fe_97 rfl) rfl ?_
  refine ev_getR (a1 := 219) (pc := 14) (fe_97 rfl) fr_101 t_0 rfl ?_
  refine ev_aload_n (pc := 17) (fe_97 rfl) rfl ?_
  refine ev_getR (a1 := 220) (pc := 18) (fe_97 rfl) fr_102 t_0 rfl ?_
  refine fm_bd h (fun p2 ep2 h => ?_)
  refine ev_callVk (pc := 21) (fe_97 rfl) (z := 54) (na := 2) (ow := 5) cg_97_124 rfl rfl rfl t_219 (m := 2) rfl (jK54 ⟨t_220, t_221, t_222⟩ ep2) (st1 := [.inl p2.1]) rfl ?_
  refine ev_istore_n (pc := 24) (fe_97 rfl) mx_97 rfl ?_
  refine ev_aload_n (pc := 25) (fe_97 rfl) rfl ?_
  refine ev_getR (a1 := 213) (pc := 26) (fe_97 rfl) fr_98 t_0 rfl ?_
  refine fm_lt_h h (fun p3 ep3 h => ?_)
  refine ev_callVk (pc := 29) (fe_97 rfl) (z := 71) (na := 1) (ow := 6) cg_97_125 rfl rfl rfl t_213 (m := 0) rfl (jK71 ⟨t_213, t_214⟩ ep3) (st1 := []) rfl ?_
  refine ev_iload_n (pc := 32) (fe_97 rfl) rfl ?_
  refine ev_if_lt (pc := 33) (fe_97 rfl) (t := 41) rfl h (fun h => ?_) (fun h => ?_)
  refine ev_aload_n (pc := 41) (fe_97 rfl) rfl ?_
  refine ev_aload_n (pc := 42) (fe_97 rfl) rfl ?_
  refine ev_getR (a1 := 220) (pc := 43) (fe_97 rfl) fr_102 t_0 rfl ?_
  refine fm_bd h (fun p4 ep4 h => ?_)
  refine ev_callVk (pc := 46) (fe_97 rfl) (z := 7) (na := 2) (ow := 0) cg_97_119 rfl rfl rfl hq1.1 (m := 1) rfl (jK7 hq1 ⟨t_220, t_221, t_222⟩ ep4) (st1 := []) rfl ?_
  refine ev_iconst (pc := 49) (fe_97 rfl) li_0 ?_
  exact ev_R (ev_irt (pc := 50) (fe_97 rfl) rt_97) (by rw [← Option.some.inj h])
  refine ev_bipush (pc := 36) (fe_97 rfl) lb_m10 ?_
  refine ev_iload_n (pc := 38) (fe_97 rfl) rfl ?_
  refine ev_isub (pc := 39) (fe_97 rfl) ?_
  exact ev_R (ev_irt (pc := 40) (fe_97 rfl) rt_97) (by rw [← Option.some.inj h])
/-- CallAgents nextByTimer -/
def jF103 (x1 : Int32) (u : fm) : Option Nat :=
  if (jF82 206 x1 u) = 0 then
  (if (jF82 191 x1 u) = 0 then
  (none)
  else
  (some 183))
  else
  (if (jF82 191 x1 u) = 0 then
  (some 198)
  else
  (if (jF81 206 u) < (jF81 191 u) then
  (some 198)
  else
  (some 183)))
theorem jK103 {X : Nat × (Nat → Int32)} {x1 : Int32} {u : fm} {r : Option Nat} (h : jF103 x1 u = r) : ev X 103 0 [some (.inr (.inl (some 0))), some (.inl x1), none] [] u ([.inr (.inl r)], u) := by
  unfold jF103 at h
  refine ev_aload_n (pc := 0) (fe_103 rfl) rfl ?_
  refine ev_getR (a1 := 183) (pc := 1) (fe_103 rfl) fr_96 t_0 rfl ?_
  refine ev_getR (a1 := 191) (pc := 4) (fe_103 rfl) fr_109 t_183 rfl ?_
  refine ev_iload_n (pc := 7) (fe_103 rfl) rfl ?_
  refine ev_callVZk (pc := 8) (fe_103 rfl) (z := 82) (na := 2) (ow := 7) cg_103_132 rfl rt_82 rfl rfl t_191 (m := 0) rfl (jK82 t_191 rfl) (st1 := [.inl (jF82 191 x1 u)]) rfl (fun z1 => ?_)
  refine ev_istore_n (pc := 11) (fe_103 rfl) mx_103 rfl ?_
  refine ev_aload_n (pc := 12) (fe_103 rfl) rfl ?_
  refine ev_getR (a1 := 198) (pc := 13) (fe_103 rfl) fr_97 t_0 rfl ?_
  refine ev_getR (a1 := 206) (pc := 16) (fe_103 rfl) fr_109 t_198 rfl ?_
  refine ev_iload_n (pc := 19) (fe_103 rfl) rfl ?_
  refine ev_callVZk (pc := 20) (fe_103 rfl) (z := 82) (na := 2) (ow := 7) cg_103_132 rfl rt_82 rfl rfl t_206 (m := 0) rfl (jK82 t_206 rfl) (st1 := [.inl (jF82 206 x1 u)]) rfl (fun z2 => ?_)
  refine ev_if_ne (pc := 23) (fe_103 rfl) (t := 39) rfl h (fun h => ?_) (fun h => ?_)
  refine ev_iload_n (pc := 39) (fe_103 rfl) rfl ?_
  refine ev_if_eq (pc := 40) (fe_103 rfl) (t := 73) rfl h (fun h => ?_) (fun h => ?_)
  refine ev_aload_n (pc := 73) (fe_103 rfl) rfl ?_
  refine ev_getR (a1 := 198) (pc := 74) (fe_103 rfl) fr_97 t_0 rfl ?_
  exact ev_R (ev_art (pc := 77) (fe_103 rfl) rt_103) (by rw [← h])
  refine ev_aload_n (pc := 43) (fe_103 rfl) rfl ?_
  refine ev_getR (a1 := 183) (pc := 44) (fe_103 rfl) fr_96 t_0 rfl ?_
  refine ev_getR (a1 := 191) (pc := 47) (fe_103 rfl) fr_109 t_183 rfl ?_
  refine ev_callVk (pc := 50) (fe_103 rfl) (z := 81) (na := 1) (ow := 7) cg_103_133 rfl rfl rfl t_191 (m := 0) rfl (jK81 t_191 rfl) (st1 := [.inl (jF81 191 u)]) rfl ?_
  refine ev_aload_n (pc := 53) (fe_103 rfl) rfl ?_
  refine ev_getR (a1 := 198) (pc := 54) (fe_103 rfl) fr_97 t_0 rfl ?_
  refine ev_getR (a1 := 206) (pc := 57) (fe_103 rfl) fr_109 t_198 rfl ?_
  refine ev_callVk (pc := 60) (fe_103 rfl) (z := 81) (na := 1) (ow := 7) cg_103_133 rfl rfl rfl t_206 (m := 0) rfl (jK81 t_206 rfl) (st1 := [.inl (jF81 206 u), .inl (jF81 191 u)]) rfl ?_
  refine ev_ic_gt (pc := 63) (fe_103 rfl) (t := 73) rfl h (fun h => ?_) (fun h => ?_)
  refine ev_aload_n (pc := 73) (fe_103 rfl) rfl ?_
  refine ev_getR (a1 := 198) (pc := 74) (fe_103 rfl) fr_97 t_0 rfl ?_
  exact ev_R (ev_art (pc := 77) (fe_103 rfl) rt_103) (by rw [← h])
  refine ev_aload_n (pc := 66) (fe_103 rfl) rfl ?_
  refine ev_getR (a1 := 183) (pc := 67) (fe_103 rfl) fr_96 t_0 rfl ?_
  refine ev_goto (pc := 70) (fe_103 rfl) (t := 77) rfl ?_
  exact ev_R (ev_art (pc := 77) (fe_103 rfl) rt_103) (by rw [← h])
  refine ev_iload_n (pc := 26) (fe_103 rfl) rfl ?_
  refine ev_if_eq (pc := 27) (fe_103 rfl) (t := 37) rfl h (fun h => ?_) (fun h => ?_)
  refine ev_null (pc := 37) (fe_103 rfl) ?_
  exact ev_R (ev_art (pc := 38) (fe_103 rfl) rt_103) (by rw [← h])
  refine ev_aload_n (pc := 30) (fe_103 rfl) rfl ?_
  refine ev_getR (a1 := 183) (pc := 31) (fe_103 rfl) fr_96 t_0 rfl ?_
  refine ev_goto (pc := 34) (fe_103 rfl) (t := 38) rfl ?_
  exact ev_R (ev_art (pc := 38) (fe_103 rfl) rt_103) (by rw [← h])
theorem jP103 {x : Int32} {u : fm} {q : Nat} (h : jF103 x u = some q) : fm_isA q := by
  unfold jF103 at h
  repeat' split at h
  all_goals first | (cases h; exact fm_A1) | (cases h; exact fm_A2) | cases h
/-- CallAgents pass -/
def jF98_22 : Nat → Int32 → Int32 → fm → Option (Int32 × fm)
  | 0, _, _, _ => none
  | n + 1, x2, x3, u =>
  if x3 < 1000 then
  (fm_opt (jF103 x2 u)
  (fm_let (sI u 0 8 x2) (fun u3 => some (fI u3 0 8, u3)))
  (fun q2 => Option.bind (jF6 q2 u) (fun p4 => jF98_22 n x2 (x3 + 1) p4)))
  else
  (fm_let (sI u 0 8 x2) (fun u1 => some (fI u1 0 8, u1)))
def jF98 (x1 : Int32) (u : fm) : Option (Int32 × fm) :=
  if x1 < 1 then
  (some ((-1), u))
  else
  (if 100000 < x1 then
  (some ((-1), u))
  else
  (jF98_22 fm_N ((fI u 0 8) + x1) 0 u))
theorem jK98_22 {X : Nat × (Nat → Int32)} {r : Int32 × fm} : ∀ (n : Nat) (x2 : Int32) (x3 : Int32) (u : fm), jF98_22 n x2 x3 u = some r → ev X 98 22 [some (.inr (.inl (some 0))), none, some (.inl x2), some (.inl x3), none] [] u ([.inl r.1], r.2) := by
  intro n
  induction n with
  | zero =>
    intro _ _ _ h
    unfold jF98_22 at h
    cases h
  | succ n ih =>
  intro x2 x3 u h
  unfold jF98_22 at h
  refine ev_iload_n (pc := 22) (fe_98 rfl) rfl ?_
  refine ev_sipush (pc := 23) (fe_98 rfl) ls_1000 ?_
  refine ev_ic_ge (pc := 26) (fe_98 rfl) (t := 55) rfl h (fun h => ?_) (fun h => ?_)
  refine ev_aload_n (pc := 55) (fe_98 rfl) rfl ?_
  refine ev_iload_n (pc := 56) (fe_98 rfl) rfl ?_
  refine fm_lt_h h (fun u1 eu1 h => ?_)
  refine ev_putI (pc := 57) (fe_98 rfl) fr_103 t_0 eu1 ?_
  refine ev_aload_n (pc := 60) (fe_98 rfl) rfl ?_
  refine ev_getI (pc := 61) (fe_98 rfl) fr_103 t_0 ?_
  exact ev_R (ev_irt (pc := 64) (fe_98 rfl) rt_98) (by rw [← Option.some.inj h])
  refine ev_aload_n (pc := 29) (fe_98 rfl) rfl ?_
  refine ev_iload_n (pc := 30) (fe_98 rfl) rfl ?_
  refine fm_op h (fun eq2 h => ?_) (fun q2 eq2 h => ?_)
  refine ev_callVk (pc := 31) (fe_98 rfl) (z := 103) (na := 2) (ow := 9) cg_98_126 rfl rfl rfl t_0 (m := 1) rfl (jK103 eq2) (st1 := [.inr (.inl none)]) rfl ?_
  refine ev_astore (pc := 34) (fe_98 rfl) mx_98 rfl ?_
  refine ev_aload (pc := 36) (fe_98 rfl) rfl ?_
  refine ev_nnl_f (pc := 38) (fe_98 rfl) (t := 44) rfl ?_
  refine ev_goto (pc := 41) (fe_98 rfl) (t := 55) rfl ?_
  refine ev_aload_n (pc := 55) (fe_98 rfl) rfl ?_
  refine ev_iload_n (pc := 56) (fe_98 rfl) rfl ?_
  refine fm_lt_h h (fun u3 eu3 h => ?_)
  refine ev_putI (pc := 57) (fe_98 rfl) fr_103 t_0 eu3 ?_
  refine ev_aload_n (pc := 60) (fe_98 rfl) rfl ?_
  refine ev_getI (pc := 61) (fe_98 rfl) fr_103 t_0 ?_
  exact ev_R (ev_irt (pc := 64) (fe_98 rfl) rt_98) (by rw [← Option.some.inj h])
  have hq2 := jP103 eq2
  refine ev_callVk (pc := 31) (fe_98 rfl) (z := 103) (na := 2) (ow := 9) cg_98_126 rfl rfl rfl t_0 (m := 1) rfl (jK103 eq2) (st1 := [.inr (.inl (some q2))]) rfl ?_
  refine ev_astore (pc := 34) (fe_98 rfl) mx_98 rfl ?_
  refine ev_aload (pc := 36) (fe_98 rfl) rfl ?_
  refine ev_nnl_t (pc := 38) (fe_98 rfl) (t := 44) rfl ?_
  refine ev_aload (pc := 44) (fe_98 rfl) rfl ?_
  refine fm_bd h (fun p4 ep4 h => ?_)
  refine ev_callVk (pc := 46) (fe_98 rfl) (z := 6) (na := 1) (ow := 0) cg_98_127 rfl rfl rfl hq2.1 (m := 0) rfl (jK6 hq2 ep4) (st1 := []) rfl ?_
  refine ev_iinc (pc := 49) (fe_98 rfl) mx_98 rfl rfl li_1 ?_
  refine ev_goto (pc := 52) (fe_98 rfl) (t := 22) rfl ?_
  refine ev_w [true, true, true, true, false] ?_
  exact ih x2 (x3 + 1) p4 h
theorem jK98 {X : Nat × (Nat → Int32)} {x1 : Int32} {u : fm} {r : Int32 × fm} (h : jF98 x1 u = some r) : ev X 98 0 [some (.inr (.inl (some 0))), some (.inl x1), none, none, none] [] u ([.inl r.1], r.2) := by
  unfold jF98 at h
  refine ev_iload_n (pc := 0) (fe_98 rfl) rfl ?_
  refine ev_iconst (pc := 1) (fe_98 rfl) li_1 ?_
  refine ev_ic_lt (pc := 2) (fe_98 rfl) (t := 11) rfl h (fun h => ?_) (fun h => ?_)
  refine ev_iconst (pc := 11) (fe_98 rfl) li_m1 ?_
  exact ev_R (ev_irt (pc := 12) (fe_98 rfl) rt_98) (by rw [← Option.some.inj h])
  refine ev_iload_n (pc := 5) (fe_98 rfl) rfl ?_
  refine ev_ldc (pc := 6) (fe_98 rfl) (c := 100000) rfl ?_
  refine ev_ic_le (pc := 8) (fe_98 rfl) (t := 13) rfl h (fun h => ?_) (fun h => ?_)
  refine ev_aload_n (pc := 13) (fe_98 rfl) rfl ?_
  refine ev_getI (pc := 14) (fe_98 rfl) fr_103 t_0 ?_
  refine ev_iload_n (pc := 17) (fe_98 rfl) rfl ?_
  refine ev_iadd (pc := 18) (fe_98 rfl) ?_
  refine ev_istore_n (pc := 19) (fe_98 rfl) mx_98 rfl ?_
  refine ev_iconst (pc := 20) (fe_98 rfl) li_0 ?_
  refine ev_istore_n (pc := 21) (fe_98 rfl) mx_98 rfl ?_
  refine ev_w [true, false, true, true, true] ?_
  exact jK98_22 fm_N ((fI u 0 8) + x1) 0 u h
  refine ev_iconst (pc := 11) (fe_98 rfl) li_m1 ?_
  exact ev_R (ev_irt (pc := 12) (fe_98 rfl) rt_98) (by rw [← Option.some.inj h])
/-- CallAgents told -/
def jF99 (x1 : Int32) (x2 : Int32) (u : fm) : Int32 :=
  fm_opt (jF101 x1 u)
  ((-1))
  (fun q1 => jF8 q1 x2 u)
theorem jK99 {X : Nat × (Nat → Int32)} {x1 : Int32} {x2 : Int32} {u : fm} {r : Int32} (h : jF99 x1 x2 u = r) : ev X 99 0 [some (.inr (.inl (some 0))), some (.inl x1), some (.inl x2), none] [] u ([.inl r], u) := by
  unfold jF99 at h
  refine ev_aload_n (pc := 0) (fe_99 rfl) rfl ?_
  refine ev_iload_n (pc := 1) (fe_99 rfl) rfl ?_
  refine fm_op h (fun eq1 h => ?_) (fun q1 eq1 h => ?_)
  refine ev_callVk (pc := 2) (fe_99 rfl) (z := 101) (na := 2) (ow := 9) cg_99_111 rfl rfl rfl t_0 (m := 0) rfl (jK101 eq1) (st1 := [.inr (.inl none)]) rfl ?_
  refine ev_astore_n (pc := 5) (fe_99 rfl) mx_99 rfl ?_
  refine ev_aload_n (pc := 6) (fe_99 rfl) rfl ?_
  refine ev_nnl_f (pc := 7) (fe_99 rfl) (t := 14) rfl ?_
  refine ev_iconst (pc := 10) (fe_99 rfl) li_m1 ?_
  refine ev_goto (pc := 11) (fe_99 rfl) (t := 19) rfl ?_
  exact ev_R (ev_irt (pc := 19) (fe_99 rfl) rt_99) (by rw [← h])
  have hq1 := jP101 eq1
  refine ev_callVk (pc := 2) (fe_99 rfl) (z := 101) (na := 2) (ow := 9) cg_99_111 rfl rfl rfl t_0 (m := 0) rfl (jK101 eq1) (st1 := [.inr (.inl (some q1))]) rfl ?_
  refine ev_astore_n (pc := 5) (fe_99 rfl) mx_99 rfl ?_
  refine ev_aload_n (pc := 6) (fe_99 rfl) rfl ?_
  refine ev_nnl_t (pc := 7) (fe_99 rfl) (t := 14) rfl ?_
  refine ev_aload_n (pc := 14) (fe_99 rfl) rfl ?_
  refine ev_iload_n (pc := 15) (fe_99 rfl) rfl ?_
  refine ev_callVk (pc := 16) (fe_99 rfl) (z := 8) (na := 2) (ow := 0) cg_99_128 rfl rfl rfl hq1.1 (m := 0) rfl (jK8 hq1 rfl) (st1 := [.inl (jF8 q1 x2 u)]) rfl ?_
  exact ev_R (ev_irt (pc := 19) (fe_99 rfl) rt_99) (by rw [← h])
/-- CallAgents line -/
def jF100 (x1 : Int32) (x2 : Int32) (x3 : Int32) (u : fm) : Option (Int32) :=
  fm_opt (jF101 x1 u)
  (some (-1))
  (fun q1 => Option.bind (jF34 (q1 + 6) x2 x3 u) (fun p2 => some p2))
theorem jK100 {X : Nat × (Nat → Int32)} {x1 : Int32} {x2 : Int32} {x3 : Int32} {u : fm} {r : Int32} (h : jF100 x1 x2 x3 u = some r) : ev X 100 0 [some (.inr (.inl (some 0))), some (.inl x1), some (.inl x2), some (.inl x3), none] [] u ([.inl r], u) := by
  unfold jF100 at h
  refine ev_aload_n (pc := 0) (fe_100 rfl) rfl ?_
  refine ev_iload_n (pc := 1) (fe_100 rfl) rfl ?_
  refine fm_op h (fun eq1 h => ?_) (fun q1 eq1 h => ?_)
  refine ev_callVk (pc := 2) (fe_100 rfl) (z := 101) (na := 2) (ow := 9) cg_100_111 rfl rfl rfl t_0 (m := 0) rfl (jK101 eq1) (st1 := [.inr (.inl none)]) rfl ?_
  refine ev_astore (pc := 5) (fe_100 rfl) mx_100 rfl ?_
  refine ev_aload (pc := 7) (fe_100 rfl) rfl ?_
  refine ev_nnl_f (pc := 9) (fe_100 rfl) (t := 16) rfl ?_
  refine ev_iconst (pc := 12) (fe_100 rfl) li_m1 ?_
  refine ev_goto (pc := 13) (fe_100 rfl) (t := 29) rfl ?_
  exact ev_R (ev_irt (pc := 29) (fe_100 rfl) rt_100) (by rw [← Option.some.inj h])
  have hq1 := jP101 eq1
  refine ev_callVk (pc := 2) (fe_100 rfl) (z := 101) (na := 2) (ow := 9) cg_100_111 rfl rfl rfl t_0 (m := 0) rfl (jK101 eq1) (st1 := [.inr (.inl (some q1))]) rfl ?_
  refine ev_astore (pc := 5) (fe_100 rfl) mx_100 rfl ?_
  refine ev_aload (pc := 7) (fe_100 rfl) rfl ?_
  refine ev_nnl_t (pc := 9) (fe_100 rfl) (t := 16) rfl ?_
  refine ev_aload (pc := 16) (fe_100 rfl) rfl ?_
  refine ev_getR (a1 := q1 + 3) (pc := 18) (fe_100 rfl) fr_107 hq1.1 rfl ?_
  refine ev_getR (a1 := q1 + 6) (pc := 21) (fe_100 rfl) fr_108 hq1.2.2.2.1 rfl ?_
  refine ev_iload_n (pc := 24) (fe_100 rfl) rfl ?_
  refine ev_iload_n (pc := 25) (fe_100 rfl) rfl ?_
  refine fm_bd h (fun p2 ep2 h => ?_)
  refine ev_callVk (pc := 26) (fe_100 rfl) (z := 34) (na := 3) (ow := 3) cg_100_129 rfl rfl rfl hq1.2.2.2.2.2.2.1 (m := 1) rfl (jK34 ⟨hq1.2.2.2.2.2.2.1, hq1.2.2.2.2.2.2.2.1⟩ ep2) (st1 := [.inl p2]) rfl ?_
  exact ev_R (ev_irt (pc := 29) (fe_100 rfl) rt_100) (by rw [← Option.some.inj h])
/-- CallAgentsModel isAgent -/
def jF105 (x0 : Int32) : Int32 :=
  if x0 = 0 then
  (1)
  else
  (if x0 = 1 then
  (1)
  else
  (0))
theorem jK105 {X : Nat × (Nat → Int32)} {x0 : Int32} {u : fm} {r : Int32} (h : jF105 x0 = r) : ev X 105 0 [some (.inl x0)] [] u ([.inl r], u) := by
  unfold jF105 at h
  refine ev_iload_n (pc := 0) (fe_105 rfl) rfl ?_
  refine ev_if_eq (pc := 1) (fe_105 rfl) (t := 9) rfl h (fun h => ?_) (fun h => ?_)
  refine ev_iconst (pc := 9) (fe_105 rfl) li_1 ?_
  refine ev_goto (pc := 10) (fe_105 rfl) (t := 14) rfl ?_
  exact ev_R (ev_zrt (pc := 14) (fe_105 rfl) rt_105 (Or.inr rfl)) (by rw [← h])
  refine ev_iload_n (pc := 4) (fe_105 rfl) rfl ?_
  refine ev_iconst (pc := 5) (fe_105 rfl) li_1 ?_
  refine ev_ic_ne (pc := 6) (fe_105 rfl) (t := 13) rfl h (fun h => ?_) (fun h => ?_)
  refine ev_iconst (pc := 13) (fe_105 rfl) li_0 ?_
  exact ev_R (ev_zrt (pc := 14) (fe_105 rfl) rt_105 (Or.inl rfl)) (by rw [← h])
  refine ev_iconst (pc := 9) (fe_105 rfl) li_1 ?_
  refine ev_goto (pc := 10) (fe_105 rfl) (t := 14) rfl ?_
  exact ev_R (ev_zrt (pc := 14) (fe_105 rfl) rt_105 (Or.inr rfl)) (by rw [← h])
/-- CallAgentsModel isFree -/
def jF106 (x1 : Int32) (u : fm) : Option (Int32) :=
  if fm_in x1 2 then if (fA u 225 (Int32.toNatClampNeg x1)) = 0 then
  (some 1)
  else
  (if (fA u 225 (Int32.toNatClampNeg x1)) = 4 then
  (some 1)
  else
  (if (fA u 225 (Int32.toNatClampNeg x1)) = 9 then
  (some 1)
  else
  (some 0))) else none
theorem jK106 {X : Nat × (Nat → Int32)} {x1 : Int32} {u : fm} {r : Int32} (h : jF106 x1 u = some r) : ev X 106 0 [some (.inr (.inl (some 223))), some (.inl x1)] [] u ([.inl r], u) := by
  unfold jF106 at h
  refine ev_aload_n (pc := 0) (fe_106 rfl) rfl ?_
  refine ev_getR (a1 := 225) (pc := 1) (fe_106 rfl) fr_111 t_223 rfl ?_
  refine ev_iload_n (pc := 4) (fe_106 rfl) rfl ?_
  refine fm_ob h (fun g1 h => ?_)
  refine ev_iaload (pc := 5) (fe_106 rfl) t_225 g1 ?_
  refine ev_if_eq (pc := 6) (fe_106 rfl) (t := 30) rfl h (fun h => ?_) (fun h => ?_)
  refine ev_iconst (pc := 30) (fe_106 rfl) li_1 ?_
  refine ev_goto (pc := 31) (fe_106 rfl) (t := 35) rfl ?_
  exact ev_R (ev_zrt (pc := 35) (fe_106 rfl) rt_106 (Or.inr rfl)) (by rw [← Option.some.inj h])
  refine ev_aload_n (pc := 9) (fe_106 rfl) rfl ?_
  refine ev_getR (a1 := 225) (pc := 10) (fe_106 rfl) fr_111 t_223 rfl ?_
  refine ev_iload_n (pc := 13) (fe_106 rfl) rfl ?_
  refine ev_iaload (pc := 14) (fe_106 rfl) t_225 g1 ?_
  refine ev_iconst (pc := 15) (fe_106 rfl) li_4 ?_
  refine ev_ic_eq (pc := 16) (fe_106 rfl) (t := 30) rfl h (fun h => ?_) (fun h => ?_)
  refine ev_iconst (pc := 30) (fe_106 rfl) li_1 ?_
  refine ev_goto (pc := 31) (fe_106 rfl) (t := 35) rfl ?_
  exact ev_R (ev_zrt (pc := 35) (fe_106 rfl) rt_106 (Or.inr rfl)) (by rw [← Option.some.inj h])
  refine ev_aload_n (pc := 19) (fe_106 rfl) rfl ?_
  refine ev_getR (a1 := 225) (pc := 20) (fe_106 rfl) fr_111 t_223 rfl ?_
  refine ev_iload_n (pc := 23) (fe_106 rfl) rfl ?_
  refine ev_iaload (pc := 24) (fe_106 rfl) t_225 g1 ?_
  refine ev_bipush (pc := 25) (fe_106 rfl) lb_9 ?_
  refine ev_ic_ne (pc := 27) (fe_106 rfl) (t := 34) rfl h (fun h => ?_) (fun h => ?_)
  refine ev_iconst (pc := 34) (fe_106 rfl) li_0 ?_
  exact ev_R (ev_zrt (pc := 35) (fe_106 rfl) rt_106 (Or.inl rfl)) (by rw [← Option.some.inj h])
  refine ev_iconst (pc := 30) (fe_106 rfl) li_1 ?_
  refine ev_goto (pc := 31) (fe_106 rfl) (t := 35) rfl ?_
  exact ev_R (ev_zrt (pc := 35) (fe_106 rfl) rt_106 (Or.inr rfl)) (by rw [← Option.some.inj h])
/-- CallAgentsModel stop -/
def jF107 (x1 : Int32) (u : fm) : Option (fm) :=
  if fm_in x1 2 then fm_let (sG u 248 (Int32.toNatClampNeg x1) (-1)) (fun u2 => fm_let (sG u2 250 (Int32.toNatClampNeg x1) (-1)) (fun u3 => some u3)) else none
theorem jK107 {X : Nat × (Nat → Int32)} {x1 : Int32} {u : fm} {r : fm} (h : jF107 x1 u = some r) : ev X 107 0 [some (.inr (.inl (some 223))), some (.inl x1)] [] u ([], r) := by
  unfold jF107 at h
  refine ev_aload_n (pc := 0) (fe_107 rfl) rfl ?_
  refine ev_getR (a1 := 248) (pc := 1) (fe_107 rfl) fr_134 t_223 rfl ?_
  refine ev_iload_n (pc := 4) (fe_107 rfl) rfl ?_
  refine ev_ldc2 (pc := 5) (fe_107 rfl) (c := (-1)) rfl ?_
  refine fm_ob h (fun g1 h => ?_)
  refine fm_lt_h h (fun u2 eu2 h => ?_)
  refine ev_lastore (pc := 8) (fe_107 rfl) t_248 g1 eu2 ?_
  refine ev_aload_n (pc := 9) (fe_107 rfl) rfl ?_
  refine ev_getR (a1 := 250) (pc := 10) (fe_107 rfl) fr_136 t_223 rfl ?_
  refine ev_iload_n (pc := 13) (fe_107 rfl) rfl ?_
  refine ev_ldc2 (pc := 14) (fe_107 rfl) (c := (-1)) rfl ?_
  refine fm_lt_h h (fun u3 eu3 h => ?_)
  refine ev_lastore (pc := 17) (fe_107 rfl) t_250 g1 eu3 ?_
  exact ev_R (ev_vrt (pc := 18) (fe_107 rfl) rt_107) (by rw [← Option.some.inj h])
/-- CallAgentsModel start -/
def jF108_2 : Nat → Int32 → Int32 → fm → Option (fm)
  | 0, _, _, _ => none
  | n + 1, x1, x2, u =>
  if x2 < 50 then
  (if fm_in x2 50 then if fm_in ((50 * x1) + x2) 100 then fm_let (sA u 244 (Int32.toNatClampNeg ((50 * x1) + x2)) (fA u 252 (Int32.toNatClampNeg x2))) (fun u7 => jF108_2 n x1 (x2 + 1) u7) else none else none)
  else
  (if fm_in x1 2 then fm_let (sG u 249 (Int32.toNatClampNeg x1) 500) (fun u2 => fm_let (sG u2 248 (Int32.toNatClampNeg x1) ((fJ u2 223 2) + 500)) (fun u3 => fm_let (sG u3 250 (Int32.toNatClampNeg x1) ((fJ u3 223 2) + 32000)) (fun u4 => some u4))) else none)
def jF108 (x1 : Int32) (u : fm) : Option (fm) :=
  jF108_2 fm_N x1 0 u
theorem jK108_2 {X : Nat × (Nat → Int32)} {r : fm} : ∀ (n : Nat) (x1 : Int32) (x2 : Int32) (u : fm), jF108_2 n x1 x2 u = some r → ev X 108 2 [some (.inr (.inl (some 223))), some (.inl x1), some (.inl x2)] [] u ([], r) := by
  intro n
  induction n with
  | zero =>
    intro _ _ _ h
    unfold jF108_2 at h
    cases h
  | succ n ih =>
  intro x1 x2 u h
  unfold jF108_2 at h
  refine ev_iload_n (pc := 2) (fe_108 rfl) rfl ?_
  refine ev_bipush (pc := 3) (fe_108 rfl) lb_50 ?_
  refine ev_ic_ge (pc := 5) (fe_108 rfl) (t := 31) rfl h (fun h => ?_) (fun h => ?_)
  refine ev_aload_n (pc := 31) (fe_108 rfl) rfl ?_
  refine ev_getR (a1 := 249) (pc := 32) (fe_108 rfl) fr_135 t_223 rfl ?_
  refine ev_iload_n (pc := 35) (fe_108 rfl) rfl ?_
  refine ev_ldc2 (pc := 36) (fe_108 rfl) (c := 500) rfl ?_
  refine fm_ob h (fun g1 h => ?_)
  refine fm_lt_h h (fun u2 eu2 h => ?_)
  refine ev_lastore (pc := 39) (fe_108 rfl) t_249 g1 eu2 ?_
  refine ev_aload_n (pc := 40) (fe_108 rfl) rfl ?_
  refine ev_getR (a1 := 248) (pc := 41) (fe_108 rfl) fr_134 t_223 rfl ?_
  refine ev_iload_n (pc := 44) (fe_108 rfl) rfl ?_
  refine ev_aload_n (pc := 45) (fe_108 rfl) rfl ?_
  refine ev_getJ (pc := 46) (fe_108 rfl) fr_142 t_223 ?_
  refine ev_ldc2 (pc := 49) (fe_108 rfl) (c := 500) rfl ?_
  refine ev_ladd (pc := 52) (fe_108 rfl) ?_
  refine fm_lt_h h (fun u3 eu3 h => ?_)
  refine ev_lastore (pc := 53) (fe_108 rfl) t_248 g1 eu3 ?_
  refine ev_aload_n (pc := 54) (fe_108 rfl) rfl ?_
  refine ev_getR (a1 := 250) (pc := 55) (fe_108 rfl) fr_136 t_223 rfl ?_
  refine ev_iload_n (pc := 58) (fe_108 rfl) rfl ?_
  refine ev_aload_n (pc := 59) (fe_108 rfl) rfl ?_
  refine ev_getJ (pc := 60) (fe_108 rfl) fr_142 t_223 ?_
  refine ev_ldc2 (pc := 63) (fe_108 rfl) (c := 32000) rfl ?_
  refine ev_ladd (pc := 66) (fe_108 rfl) ?_
  refine fm_lt_h h (fun u4 eu4 h => ?_)
  refine ev_lastore (pc := 67) (fe_108 rfl) t_250 g1 eu4 ?_
  exact ev_R (ev_vrt (pc := 68) (fe_108 rfl) rt_108) (by rw [← Option.some.inj h])
  refine ev_aload_n (pc := 8) (fe_108 rfl) rfl ?_
  refine ev_getR (a1 := 244) (pc := 9) (fe_108 rfl) fr_130 t_223 rfl ?_
  refine ev_bipush (pc := 12) (fe_108 rfl) lb_50 ?_
  refine ev_iload_n (pc := 14) (fe_108 rfl) rfl ?_
  refine ev_imul (pc := 15) (fe_108 rfl) ?_
  refine ev_iload_n (pc := 16) (fe_108 rfl) rfl ?_
  refine ev_iadd (pc := 17) (fe_108 rfl) ?_
  refine ev_aload_n (pc := 18) (fe_108 rfl) rfl ?_
  refine ev_getR (a1 := 252) (pc := 19) (fe_108 rfl) fr_138 t_223 rfl ?_
  refine ev_iload_n (pc := 22) (fe_108 rfl) rfl ?_
  refine fm_ob h (fun g5 h => ?_)
  refine ev_iaload (pc := 23) (fe_108 rfl) t_252 g5 ?_
  refine fm_ob h (fun g6 h => ?_)
  refine fm_lt_h h (fun u7 eu7 h => ?_)
  refine ev_iastore (pc := 24) (fe_108 rfl) t_244 g6 eu7 ?_
  refine ev_iinc (pc := 25) (fe_108 rfl) mx_108 rfl rfl li_1 ?_
  refine ev_goto (pc := 28) (fe_108 rfl) (t := 2) rfl ?_
  exact ih x1 (x2 + 1) u7 h
theorem jK108 {X : Nat × (Nat → Int32)} {x1 : Int32} {u : fm} {r : fm} (h : jF108 x1 u = some r) : ev X 108 0 [some (.inr (.inl (some 223))), some (.inl x1), none] [] u ([], r) := by
  unfold jF108 at h
  refine ev_iconst (pc := 0) (fe_108 rfl) li_0 ?_
  refine ev_istore_n (pc := 1) (fe_108 rfl) mx_108 rfl ?_
  exact jK108_2 fm_N x1 0 u h
/-- CallAgentsModel drop -/
def jF110_15 : Nat → Int32 → fm → Option (fm)
  | 0, _, _ => none
  | n + 1, x2, u =>
  if x2 < (50 * (fI u 223 1)) then
  (if fm_in (x2 + 50) 3050 then if fm_in x2 3050 then fm_let (sA u 224 (Int32.toNatClampNeg x2) (fA u 224 (Int32.toNatClampNeg (x2 + 50)))) (fun u4 => jF110_15 n (x2 + 1) u4) else none else none)
  else
  (some u)
def jF110 (x1 : Int32) (u : fm) : Option (fm) :=
  fm_let (sI u 223 1 ((fI u 223 1) - 1)) (fun u1 => jF110_15 fm_N (50 * x1) u1)
theorem jK110_15 {X : Nat × (Nat → Int32)} {r : fm} : ∀ (n : Nat) (x2 : Int32) (u : fm), jF110_15 n x2 u = some r → ev X 110 15 [some (.inr (.inl (some 223))), none, some (.inl x2)] [] u ([], r) := by
  intro n
  induction n with
  | zero =>
    intro _ _ h
    unfold jF110_15 at h
    cases h
  | succ n ih =>
  intro x2 u h
  unfold jF110_15 at h
  refine ev_iload_n (pc := 15) (fe_110 rfl) rfl ?_
  refine ev_bipush (pc := 16) (fe_110 rfl) lb_50 ?_
  refine ev_aload_n (pc := 18) (fe_110 rfl) rfl ?_
  refine ev_getI (pc := 19) (fe_110 rfl) fr_143 t_223 ?_
  refine ev_imul (pc := 22) (fe_110 rfl) ?_
  refine ev_ic_ge (pc := 23) (fe_110 rfl) (t := 47) rfl h (fun h => ?_) (fun h => ?_)
  exact ev_R (ev_vrt (pc := 47) (fe_110 rfl) rt_110) (by rw [← Option.some.inj h])
  refine ev_aload_n (pc := 26) (fe_110 rfl) rfl ?_
  refine ev_getR (a1 := 224) (pc := 27) (fe_110 rfl) fr_110 t_223 rfl ?_
  refine ev_iload_n (pc := 30) (fe_110 rfl) rfl ?_
  refine ev_aload_n (pc := 31) (fe_110 rfl) rfl ?_
  refine ev_getR (a1 := 224) (pc := 32) (fe_110 rfl) fr_110 t_223 rfl ?_
  refine ev_iload_n (pc := 35) (fe_110 rfl) rfl ?_
  refine ev_bipush (pc := 36) (fe_110 rfl) lb_50 ?_
  refine ev_iadd (pc := 38) (fe_110 rfl) ?_
  refine fm_ob h (fun g2 h => ?_)
  refine ev_iaload (pc := 39) (fe_110 rfl) t_224 g2 ?_
  refine fm_ob h (fun g3 h => ?_)
  refine fm_lt_h h (fun u4 eu4 h => ?_)
  refine ev_iastore (pc := 40) (fe_110 rfl) t_224 g3 eu4 ?_
  refine ev_iinc (pc := 41) (fe_110 rfl) mx_110 rfl rfl li_1 ?_
  refine ev_goto (pc := 44) (fe_110 rfl) (t := 15) rfl ?_
  exact ih (x2 + 1) u4 h
theorem jK110 {X : Nat × (Nat → Int32)} {x1 : Int32} {u : fm} {r : fm} (h : jF110 x1 u = some r) : ev X 110 0 [some (.inr (.inl (some 223))), some (.inl x1), none] [] u ([], r) := by
  unfold jF110 at h
  refine ev_aload_n (pc := 0) (fe_110 rfl) rfl ?_
  refine ev_dup (pc := 1) (fe_110 rfl) rfl ?_
  refine ev_getI (pc := 2) (fe_110 rfl) fr_143 t_223 ?_
  refine ev_iconst (pc := 5) (fe_110 rfl) li_1 ?_
  refine ev_isub (pc := 6) (fe_110 rfl) ?_
  refine fm_lt_h h (fun u1 eu1 h => ?_)
  refine ev_putI (pc := 7) (fe_110 rfl) fr_143 t_223 eu1 ?_
  refine ev_bipush (pc := 10) (fe_110 rfl) lb_50 ?_
  refine ev_iload_n (pc := 12) (fe_110 rfl) rfl ?_
  refine ev_imul (pc := 13) (fe_110 rfl) ?_
  refine ev_istore_n (pc := 14) (fe_110 rfl) mx_110 rfl ?_
  refine ev_w [true, false, true] ?_
  exact jK110_15 fm_N (50 * x1) u1 h
/-- CallAgentsModel fly -/
def jF109_16 : Nat → Nat → Int32 → Int32 → fm → Option (fm)
  | 0, _, _, _, _ => none
  | n + 1, a1, x2, x3, u =>
  if x3 < 50 then
  (if fm_in (x2 + x3) (fm_ln a1) then if fm_in ((50 * (fI u 223 1)) + x3) 3050 then fm_let (sA u 224 (Int32.toNatClampNeg ((50 * (fI u 223 1)) + x3)) (fA u a1 (Int32.toNatClampNeg (x2 + x3)))) (fun u7 => jF109_16 n a1 x2 (x3 + 1) u7) else none else none)
  else
  (fm_let (sI u 223 1 ((fI u 223 1) + 1)) (fun u1 => if fm_in (x2 + 1) (fm_ln a1) then if fm_in (1 - (fA u1 a1 (Int32.toNatClampNeg (x2 + 1)))) 2 then fm_let (sA u1 234 (Int32.toNatClampNeg (1 - (fA u1 a1 (Int32.toNatClampNeg (x2 + 1))))) ((fA u1 234 (Int32.toNatClampNeg (1 - (fA u1 a1 (Int32.toNatClampNeg (x2 + 1)))))) + 1)) (fun u4 => some u4) else none else none))
def jF109 (a1 : Nat) (x2 : Int32) (u : fm) : Option (fm) :=
  if (fI u 223 1) = 60 then
  (Option.bind (jF110 0 u) (fun p8 => jF109_16 fm_N a1 x2 0 p8))
  else
  (jF109_16 fm_N a1 x2 0 u)
theorem jK109_16 {X : Nat × (Nat → Int32)} {r : fm} : ∀ (n : Nat) (a1 : Nat) (x2 : Int32) (x3 : Int32) (u : fm) (h1 : fm_isIA a1), jF109_16 n a1 x2 x3 u = some r → ev X 109 16 [some (.inr (.inl (some 223))), some (.inr (.inl (some a1))), some (.inl x2), some (.inl x3)] [] u ([], r) := by
  intro n
  induction n with
  | zero =>
    intro _ _ _ _ _ h
    unfold jF109_16 at h
    cases h
  | succ n ih =>
  intro a1 x2 x3 u h1 h
  unfold jF109_16 at h
  refine ev_iload_n (pc := 16) (fe_109 rfl) rfl ?_
  refine ev_bipush (pc := 17) (fe_109 rfl) lb_50 ?_
  refine ev_ic_ge (pc := 19) (fe_109 rfl) (t := 47) rfl h (fun h => ?_) (fun h => ?_)
  refine ev_aload_n (pc := 47) (fe_109 rfl) rfl ?_
  refine ev_dup (pc := 48) (fe_109 rfl) rfl ?_
  refine ev_getI (pc := 49) (fe_109 rfl) fr_143 t_223 ?_
  refine ev_iconst (pc := 52) (fe_109 rfl) li_1 ?_
  refine ev_iadd (pc := 53) (fe_109 rfl) ?_
  refine fm_lt_h h (fun u1 eu1 h => ?_)
  refine ev_putI (pc := 54) (fe_109 rfl) fr_143 t_223 eu1 ?_
  refine ev_aload_n (pc := 57) (fe_109 rfl) rfl ?_
  refine ev_getR (a1 := 234) (pc := 58) (fe_109 rfl) fr_120 t_223 rfl ?_
  refine ev_iconst (pc := 61) (fe_109 rfl) li_1 ?_
  refine ev_aload_n (pc := 62) (fe_109 rfl) rfl ?_
  refine ev_iload_n (pc := 63) (fe_109 rfl) rfl ?_
  refine ev_iconst (pc := 64) (fe_109 rfl) li_1 ?_
  refine ev_iadd (pc := 65) (fe_109 rfl) ?_
  refine fm_ob h (fun g2 h => ?_)
  refine ev_iaload (pc := 66) (fe_109 rfl) h1 g2 ?_
  refine ev_isub (pc := 67) (fe_109 rfl) ?_
  refine ev_dup2 (pc := 68) (fe_109 rfl) rfl rfl ?_
  refine fm_ob h (fun g3 h => ?_)
  refine ev_iaload (pc := 69) (fe_109 rfl) t_234 g3 ?_
  refine ev_iconst (pc := 70) (fe_109 rfl) li_1 ?_
  refine ev_iadd (pc := 71) (fe_109 rfl) ?_
  refine fm_lt_h h (fun u4 eu4 h => ?_)
  refine ev_iastore (pc := 72) (fe_109 rfl) t_234 g3 eu4 ?_
  exact ev_R (ev_vrt (pc := 73) (fe_109 rfl) rt_109) (by rw [← Option.some.inj h])
  refine ev_aload_n (pc := 22) (fe_109 rfl) rfl ?_
  refine ev_getR (a1 := 224) (pc := 23) (fe_109 rfl) fr_110 t_223 rfl ?_
  refine ev_bipush (pc := 26) (fe_109 rfl) lb_50 ?_
  refine ev_aload_n (pc := 28) (fe_109 rfl) rfl ?_
  refine ev_getI (pc := 29) (fe_109 rfl) fr_143 t_223 ?_
  refine ev_imul (pc := 32) (fe_109 rfl) ?_
  refine ev_iload_n (pc := 33) (fe_109 rfl) rfl ?_
  refine ev_iadd (pc := 34) (fe_109 rfl) ?_
  refine ev_aload_n (pc := 35) (fe_109 rfl) rfl ?_
  refine ev_iload_n (pc := 36) (fe_109 rfl) rfl ?_
  refine ev_iload_n (pc := 37) (fe_109 rfl) rfl ?_
  refine ev_iadd (pc := 38) (fe_109 rfl) ?_
  refine fm_ob h (fun g5 h => ?_)
  refine ev_iaload (pc := 39) (fe_109 rfl) h1 g5 ?_
  refine fm_ob h (fun g6 h => ?_)
  refine fm_lt_h h (fun u7 eu7 h => ?_)
  refine ev_iastore (pc := 40) (fe_109 rfl) t_224 g6 eu7 ?_
  refine ev_iinc (pc := 41) (fe_109 rfl) mx_109 rfl rfl li_1 ?_
  refine ev_goto (pc := 44) (fe_109 rfl) (t := 16) rfl ?_
  exact ih a1 x2 (x3 + 1) u7 h1 h
theorem jK109 {X : Nat × (Nat → Int32)} {a1 : Nat} {x2 : Int32} {u : fm} {r : fm} (h1 : fm_isIA a1) (h : jF109 a1 x2 u = some r) : ev X 109 0 [some (.inr (.inl (some 223))), some (.inr (.inl (some a1))), some (.inl x2), none] [] u ([], r) := by
  unfold jF109 at h
  refine ev_aload_n (pc := 0) (fe_109 rfl) rfl ?_
  refine ev_getI (pc := 1) (fe_109 rfl) fr_143 t_223 ?_
  refine ev_bipush (pc := 4) (fe_109 rfl) lb_60 ?_
  refine ev_ic_ne (pc := 6) (fe_109 rfl) (t := 14) rfl h (fun h => ?_) (fun h => ?_)
  refine ev_iconst (pc := 14) (fe_109 rfl) li_0 ?_
  refine ev_istore_n (pc := 15) (fe_109 rfl) mx_109 rfl ?_
  exact jK109_16 fm_N a1 x2 0 u h1 h
  refine ev_aload_n (pc := 9) (fe_109 rfl) rfl ?_
  refine ev_iconst (pc := 10) (fe_109 rfl) li_0 ?_
  refine fm_bd h (fun p8 ep8 h => ?_)
  refine ev_callVk (pc := 11) (fe_109 rfl) (z := 110) (na := 2) (ow := 10) cg_109_136 rfl rfl rfl t_223 (m := 1) rfl (jK110 ep8) (st1 := []) rfl ?_
  refine ev_iconst (pc := 14) (fe_109 rfl) li_0 ?_
  refine ev_istore_n (pc := 15) (fe_109 rfl) mx_109 rfl ?_
  exact jK109_16 fm_N a1 x2 0 p8 h1 h
/-- CallAgentsModel request -/
def jF111_3 : Nat → Int32 → Int32 → Int32 → Int32 → Int32 → Int32 → fm → Option (fm)
  | 0, _, _, _, _, _, _, _ => none
  | n + 1, x1, x2, x3, x4, x5, x6, u =>
  if x6 < 50 then
  (if fm_in x6 50 then fm_let (sA u 252 (Int32.toNatClampNeg x6) 0) (fun u16 => jF111_3 n x1 x2 x3 x4 x5 (x6 + 1) u16) else none)
  else
  (fm_let (sA u 252 0 x2) (fun u1 => fm_let (sA u1 252 1 (1 - x1)) (fun u2 => fm_let (sA u2 252 2 (1 - x1)) (fun u3 => fm_let (sA u3 252 3 x1) (fun u4 => fm_let (sA u4 252 4 x3) (fun u5 => fm_let (sA u5 252 5 x1) (fun u6 => if fm_in x1 2 then fm_let (sA u6 252 6 (fA u6 226 (Int32.toNatClampNeg x1))) (fun u8 => fm_let (sA u8 252 7 (1 - x1)) (fun u9 => fm_let (sA u9 252 8 x4) (fun u10 => fm_let (sA u10 252 9 (fA u10 228 (Int32.toNatClampNeg x1))) (fun u11 => fm_let (sA u11 252 10 x5) (fun u12 => fm_let (sA u12 252 11 x2) (fun u13 => fm_let (sA u13 230 (Int32.toNatClampNeg x1) x3) (fun u14 => some u14))))))) else none)))))))
def jF111 (x1 : Int32) (x2 : Int32) (x3 : Int32) (x4 : Int32) (x5 : Int32) (u : fm) : Option (fm) :=
  jF111_3 fm_N x1 x2 x3 x4 x5 0 u
theorem jK111_3 {X : Nat × (Nat → Int32)} {r : fm} : ∀ (n : Nat) (x1 : Int32) (x2 : Int32) (x3 : Int32) (x4 : Int32) (x5 : Int32) (x6 : Int32) (u : fm), jF111_3 n x1 x2 x3 x4 x5 x6 u = some r → ev X 111 3 [some (.inr (.inl (some 223))), some (.inl x1), some (.inl x2), some (.inl x3), some (.inl x4), some (.inl x5), some (.inl x6)] [] u ([], r) := by
  intro n
  induction n with
  | zero =>
    intro _ _ _ _ _ _ _ h
    unfold jF111_3 at h
    cases h
  | succ n ih =>
  intro x1 x2 x3 x4 x5 x6 u h
  unfold jF111_3 at h
  refine ev_iload (pc := 3) (fe_111 rfl) rfl ?_
  refine ev_bipush (pc := 5) (fe_111 rfl) lb_50 ?_
  refine ev_ic_ge (pc := 7) (fe_111 rfl) (t := 24) rfl h (fun h => ?_) (fun h => ?_)
  refine ev_aload_n (pc := 24) (fe_111 rfl) rfl ?_
  refine ev_getR (a1 := 252) (pc := 25) (fe_111 rfl) fr_138 t_223 rfl ?_
  refine ev_iconst (pc := 28) (fe_111 rfl) li_0 ?_
  refine ev_iload_n (pc := 29) (fe_111 rfl) rfl ?_
  refine fm_lt_h h (fun u1 eu1 h => ?_)
  refine ev_iastorek (pc := 30) (fe_111 rfl) t_252 (by decide) rfl eu1 ?_
  refine ev_aload_n (pc := 31) (fe_111 rfl) rfl ?_
  refine ev_getR (a1 := 252) (pc := 32) (fe_111 rfl) fr_138 t_223 rfl ?_
  refine ev_iconst (pc := 35) (fe_111 rfl) li_1 ?_
  refine ev_iconst (pc := 36) (fe_111 rfl) li_1 ?_
  refine ev_iload_n (pc := 37) (fe_111 rfl) rfl ?_
  refine ev_isub (pc := 38) (fe_111 rfl) ?_
  refine fm_lt_h h (fun u2 eu2 h => ?_)
  refine ev_iastorek (pc := 39) (fe_111 rfl) t_252 (by decide) rfl eu2 ?_
  refine ev_aload_n (pc := 40) (fe_111 rfl) rfl ?_
  refine ev_getR (a1 := 252) (pc := 41) (fe_111 rfl) fr_138 t_223 rfl ?_
  refine ev_iconst (pc := 44) (fe_111 rfl) li_2 ?_
  refine ev_iconst (pc := 45) (fe_111 rfl) li_1 ?_
  refine ev_iload_n (pc := 46) (fe_111 rfl) rfl ?_
  refine ev_isub (pc := 47) (fe_111 rfl) ?_
  refine fm_lt_h h (fun u3 eu3 h => ?_)
  refine ev_iastorek (pc := 48) (fe_111 rfl) t_252 (by decide) rfl eu3 ?_
  refine ev_aload_n (pc := 49) (fe_111 rfl) rfl ?_
  refine ev_getR (a1 := 252) (pc := 50) (fe_111 rfl) fr_138 t_223 rfl ?_
  refine ev_iconst (pc := 53) (fe_111 rfl) li_3 ?_
  refine ev_iload_n (pc := 54) (fe_111 rfl) rfl ?_
  refine fm_lt_h h (fun u4 eu4 h => ?_)
  refine ev_iastorek (pc := 55) (fe_111 rfl) t_252 (by decide) rfl eu4 ?_
  refine ev_aload_n (pc := 56) (fe_111 rfl) rfl ?_
  refine ev_getR (a1 := 252) (pc := 57) (fe_111 rfl) fr_138 t_223 rfl ?_
  refine ev_iconst (pc := 60) (fe_111 rfl) li_4 ?_
  refine ev_iload_n (pc := 61) (fe_111 rfl) rfl ?_
  refine fm_lt_h h (fun u5 eu5 h => ?_)
  refine ev_iastorek (pc := 62) (fe_111 rfl) t_252 (by decide) rfl eu5 ?_
  refine ev_aload_n (pc := 63) (fe_111 rfl) rfl ?_
  refine ev_getR (a1 := 252) (pc := 64) (fe_111 rfl) fr_138 t_223 rfl ?_
  refine ev_iconst (pc := 67) (fe_111 rfl) li_5 ?_
  refine ev_iload_n (pc := 68) (fe_111 rfl) rfl ?_
  refine fm_lt_h h (fun u6 eu6 h => ?_)
  refine ev_iastorek (pc := 69) (fe_111 rfl) t_252 (by decide) rfl eu6 ?_
  refine ev_aload_n (pc := 70) (fe_111 rfl) rfl ?_
  refine ev_getR (a1 := 252) (pc := 71) (fe_111 rfl) fr_138 t_223 rfl ?_
  refine ev_bipush (pc := 74) (fe_111 rfl) lb_6 ?_
  refine ev_aload_n (pc := 76) (fe_111 rfl) rfl ?_
  refine ev_getR (a1 := 226) (pc := 77) (fe_111 rfl) fr_112 t_223 rfl ?_
  refine ev_iload_n (pc := 80) (fe_111 rfl) rfl ?_
  refine fm_ob h (fun g7 h => ?_)
  refine ev_iaload (pc := 81) (fe_111 rfl) t_226 g7 ?_
  refine fm_lt_h h (fun u8 eu8 h => ?_)
  refine ev_iastorek (pc := 82) (fe_111 rfl) t_252 (by decide) rfl eu8 ?_
  refine ev_aload_n (pc := 83) (fe_111 rfl) rfl ?_
  refine ev_getR (a1 := 252) (pc := 84) (fe_111 rfl) fr_138 t_223 rfl ?_
  refine ev_bipush (pc := 87) (fe_111 rfl) lb_7 ?_
  refine ev_iconst (pc := 89) (fe_111 rfl) li_1 ?_
  refine ev_iload_n (pc := 90) (fe_111 rfl) rfl ?_
  refine ev_isub (pc := 91) (fe_111 rfl) ?_
  refine fm_lt_h h (fun u9 eu9 h => ?_)
  refine ev_iastorek (pc := 92) (fe_111 rfl) t_252 (by decide) rfl eu9 ?_
  refine ev_aload_n (pc := 93) (fe_111 rfl) rfl ?_
  refine ev_getR (a1 := 252) (pc := 94) (fe_111 rfl) fr_138 t_223 rfl ?_
  refine ev_bipush (pc := 97) (fe_111 rfl) lb_8 ?_
  refine ev_iload (pc := 99) (fe_111 rfl) rfl ?_
  refine fm_lt_h h (fun u10 eu10 h => ?_)
  refine ev_iastorek (pc := 101) (fe_111 rfl) t_252 (by decide) rfl eu10 ?_
  refine ev_aload_n (pc := 102) (fe_111 rfl) rfl ?_
  refine ev_getR (a1 := 252) (pc := 103) (fe_111 rfl) fr_138 t_223 rfl ?_
  refine ev_bipush (pc := 106) (fe_111 rfl) lb_9 ?_
  refine ev_aload_n (pc := 108) (fe_111 rfl) rfl ?_
  refine ev_getR (a1 := 228) (pc := 109) (fe_111 rfl) fr_114 t_223 rfl ?_
  refine ev_iload_n (pc := 112) (fe_111 rfl) rfl ?_
  refine ev_iaload (pc := 113) (fe_111 rfl) t_228 g7 ?_
  refine fm_lt_h h (fun u11 eu11 h => ?_)
  refine ev_iastorek (pc := 114) (fe_111 rfl) t_252 (by decide) rfl eu11 ?_
  refine ev_aload_n (pc := 115) (fe_111 rfl) rfl ?_
  refine ev_getR (a1 := 252) (pc := 116) (fe_111 rfl) fr_138 t_223 rfl ?_
  refine ev_bipush (pc := 119) (fe_111 rfl) lb_10 ?_
  refine ev_iload (pc := 121) (fe_111 rfl) rfl ?_
  refine fm_lt_h h (fun u12 eu12 h => ?_)
  refine ev_iastorek (pc := 123) (fe_111 rfl) t_252 (by decide) rfl eu12 ?_
  refine ev_aload_n (pc := 124) (fe_111 rfl) rfl ?_
  refine ev_getR (a1 := 252) (pc := 125) (fe_111 rfl) fr_138 t_223 rfl ?_
  refine ev_bipush (pc := 128) (fe_111 rfl) lb_11 ?_
  refine ev_iload_n (pc := 130) (fe_111 rfl) rfl ?_
  refine fm_lt_h h (fun u13 eu13 h => ?_)
  refine ev_iastorek (pc := 131) (fe_111 rfl) t_252 (by decide) rfl eu13 ?_
  refine ev_aload_n (pc := 132) (fe_111 rfl) rfl ?_
  refine ev_getR (a1 := 230) (pc := 133) (fe_111 rfl) fr_116 t_223 rfl ?_
  refine ev_iload_n (pc := 136) (fe_111 rfl) rfl ?_
  refine ev_iload_n (pc := 137) (fe_111 rfl) rfl ?_
  refine fm_lt_h h (fun u14 eu14 h => ?_)
  refine ev_iastore (pc := 138) (fe_111 rfl) t_230 g7 eu14 ?_
  exact ev_R (ev_vrt (pc := 139) (fe_111 rfl) rt_111) (by rw [← Option.some.inj h])
  refine ev_aload_n (pc := 10) (fe_111 rfl) rfl ?_
  refine ev_getR (a1 := 252) (pc := 11) (fe_111 rfl) fr_138 t_223 rfl ?_
  refine ev_iload (pc := 14) (fe_111 rfl) rfl ?_
  refine ev_iconst (pc := 16) (fe_111 rfl) li_0 ?_
  refine fm_ob h (fun g15 h => ?_)
  refine fm_lt_h h (fun u16 eu16 h => ?_)
  refine ev_iastore (pc := 17) (fe_111 rfl) t_252 g15 eu16 ?_
  refine ev_iinc (pc := 18) (fe_111 rfl) mx_111 rfl rfl li_1 ?_
  refine ev_goto (pc := 21) (fe_111 rfl) (t := 3) rfl ?_
  exact ih x1 x2 x3 x4 x5 (x6 + 1) u16 h
theorem jK111 {X : Nat × (Nat → Int32)} {x1 : Int32} {x2 : Int32} {x3 : Int32} {x4 : Int32} {x5 : Int32} {u : fm} {r : fm} (h : jF111 x1 x2 x3 x4 x5 u = some r) : ev X 111 0 [some (.inr (.inl (some 223))), some (.inl x1), some (.inl x2), some (.inl x3), some (.inl x4), some (.inl x5), none] [] u ([], r) := by
  unfold jF111 at h
  refine ev_iconst (pc := 0) (fe_111 rfl) li_0 ?_
  refine ev_istore (pc := 1) (fe_111 rfl) mx_111 rfl ?_
  exact jK111_3 fm_N x1 x2 x3 x4 x5 0 u h
/-- CallAgentsModel newBranch -/
def jF112 (x1 : Int32) (u : fm) : Option (Int32 × fm) :=
  if fm_in x1 2 then fm_let (sA u 231 (Int32.toNatClampNeg x1) ((fA u 231 (Int32.toNatClampNeg x1)) + 1)) (fun u2 => some (fA u2 231 (Int32.toNatClampNeg x1), u2)) else none
theorem jK112 {X : Nat × (Nat → Int32)} {x1 : Int32} {u : fm} {r : Int32 × fm} (h : jF112 x1 u = some r) : ev X 112 0 [some (.inr (.inl (some 223))), some (.inl x1)] [] u ([.inl r.1], r.2) := by
  unfold jF112 at h
  refine ev_aload_n (pc := 0) (fe_112 rfl) rfl ?_
  refine ev_getR (a1 := 231) (pc := 1) (fe_112 rfl) fr_117 t_223 rfl ?_
  refine ev_iload_n (pc := 4) (fe_112 rfl) rfl ?_
  refine ev_dup2 (pc := 5) (fe_112 rfl) rfl rfl ?_
  refine fm_ob h (fun g1 h => ?_)
  refine ev_iaload (pc := 6) (fe_112 rfl) t_231 g1 ?_
  refine ev_iconst (pc := 7) (fe_112 rfl) li_1 ?_
  refine ev_iadd (pc := 8) (fe_112 rfl) ?_
  refine fm_lt_h h (fun u2 eu2 h => ?_)
  refine ev_iastore (pc := 9) (fe_112 rfl) t_231 g1 eu2 ?_
  refine ev_aload_n (pc := 10) (fe_112 rfl) rfl ?_
  refine ev_getR (a1 := 231) (pc := 11) (fe_112 rfl) fr_117 t_223 rfl ?_
  refine ev_iload_n (pc := 14) (fe_112 rfl) rfl ?_
  refine ev_iaload (pc := 15) (fe_112 rfl) t_231 g1 ?_
  exact ev_R (ev_irt (pc := 16) (fe_112 rfl) rt_112) (by rw [← Option.some.inj h])
/-- CallAgentsModel newTag -/
def jF113 (x1 : Int32) (u : fm) : Option (Int32 × fm) :=
  if fm_in x1 2 then fm_let (sA u 232 (Int32.toNatClampNeg x1) ((fA u 232 (Int32.toNatClampNeg x1)) + 1)) (fun u2 => some (fA u2 232 (Int32.toNatClampNeg x1), u2)) else none
theorem jK113 {X : Nat × (Nat → Int32)} {x1 : Int32} {u : fm} {r : Int32 × fm} (h : jF113 x1 u = some r) : ev X 113 0 [some (.inr (.inl (some 223))), some (.inl x1)] [] u ([.inl r.1], r.2) := by
  unfold jF113 at h
  refine ev_aload_n (pc := 0) (fe_113 rfl) rfl ?_
  refine ev_getR (a1 := 232) (pc := 1) (fe_113 rfl) fr_118 t_223 rfl ?_
  refine ev_iload_n (pc := 4) (fe_113 rfl) rfl ?_
  refine ev_dup2 (pc := 5) (fe_113 rfl) rfl rfl ?_
  refine fm_ob h (fun g1 h => ?_)
  refine ev_iaload (pc := 6) (fe_113 rfl) t_232 g1 ?_
  refine ev_iconst (pc := 7) (fe_113 rfl) li_1 ?_
  refine ev_iadd (pc := 8) (fe_113 rfl) ?_
  refine fm_lt_h h (fun u2 eu2 h => ?_)
  refine ev_iastore (pc := 9) (fe_113 rfl) t_232 g1 eu2 ?_
  refine ev_aload_n (pc := 10) (fe_113 rfl) rfl ?_
  refine ev_getR (a1 := 232) (pc := 11) (fe_113 rfl) fr_118 t_223 rfl ?_
  refine ev_iload_n (pc := 14) (fe_113 rfl) rfl ?_
  refine ev_iaload (pc := 15) (fe_113 rfl) t_232 g1 ?_
  exact ev_R (ev_irt (pc := 16) (fe_113 rfl) rt_113) (by rw [← Option.some.inj h])
/-- CallAgentsModel respond -/
def jF114_3 : Nat → Int32 → Int32 → Nat → Int32 → Int32 → Int32 → fm → Option (fm)
  | 0, _, _, _, _, _, _, _ => none
  | n + 1, x1, x2, a3, x4, x5, x6, u =>
  if x6 < 50 then
  (if x6 < 12 then
  (if fm_in (x4 + x6) (fm_ln a3) then if fm_in x6 50 then fm_let (sA u 252 (Int32.toNatClampNeg x6) (fA u a3 (Int32.toNatClampNeg (x4 + x6)))) (fun u8 => jF114_3 n x1 x2 a3 x4 x5 (x6 + 1) u8) else none else none)
  else
  (if fm_in x6 50 then fm_let (sA u 252 (Int32.toNatClampNeg x6) 0) (fun u5 => jF114_3 n x1 x2 a3 x4 x5 (x6 + 1) u5) else none))
  else
  (fm_let (sA u 252 0 x2) (fun u1 => fm_let (sA u1 252 1 (1 - x1)) (fun u2 => fm_let (sA u2 252 8 x5) (fun u3 => some u3))))
def jF114 (x1 : Int32) (x2 : Int32) (a3 : Nat) (x4 : Int32) (x5 : Int32) (u : fm) : Option (fm) :=
  jF114_3 fm_N x1 x2 a3 x4 x5 0 u
theorem jK114_3 {X : Nat × (Nat → Int32)} {r : fm} : ∀ (n : Nat) (x1 : Int32) (x2 : Int32) (a3 : Nat) (x4 : Int32) (x5 : Int32) (x6 : Int32) (u : fm) (h3 : fm_isIA a3), jF114_3 n x1 x2 a3 x4 x5 x6 u = some r → ev X 114 3 [some (.inr (.inl (some 223))), some (.inl x1), some (.inl x2), some (.inr (.inl (some a3))), some (.inl x4), some (.inl x5), some (.inl x6)] [] u ([], r) := by
  intro n
  induction n with
  | zero =>
    intro _ _ _ _ _ _ _ _ h
    unfold jF114_3 at h
    cases h
  | succ n ih =>
  intro x1 x2 a3 x4 x5 x6 u h3 h
  unfold jF114_3 at h
  refine ev_iload (pc := 3) (fe_114 rfl) rfl ?_
  refine ev_bipush (pc := 5) (fe_114 rfl) lb_50 ?_
  refine ev_ic_ge (pc := 7) (fe_114 rfl) (t := 41) rfl h (fun h => ?_) (fun h => ?_)
  refine ev_aload_n (pc := 41) (fe_114 rfl) rfl ?_
  refine ev_getR (a1 := 252) (pc := 42) (fe_114 rfl) fr_138 t_223 rfl ?_
  refine ev_iconst (pc := 45) (fe_114 rfl) li_0 ?_
  refine ev_iload_n (pc := 46) (fe_114 rfl) rfl ?_
  refine fm_lt_h h (fun u1 eu1 h => ?_)
  refine ev_iastorek (pc := 47) (fe_114 rfl) t_252 (by decide) rfl eu1 ?_
  refine ev_aload_n (pc := 48) (fe_114 rfl) rfl ?_
  refine ev_getR (a1 := 252) (pc := 49) (fe_114 rfl) fr_138 t_223 rfl ?_
  refine ev_iconst (pc := 52) (fe_114 rfl) li_1 ?_
  refine ev_iconst (pc := 53) (fe_114 rfl) li_1 ?_
  refine ev_iload_n (pc := 54) (fe_114 rfl) rfl ?_
  refine ev_isub (pc := 55) (fe_114 rfl) ?_
  refine fm_lt_h h (fun u2 eu2 h => ?_)
  refine ev_iastorek (pc := 56) (fe_114 rfl) t_252 (by decide) rfl eu2 ?_
  refine ev_aload_n (pc := 57) (fe_114 rfl) rfl ?_
  refine ev_getR (a1 := 252) (pc := 58) (fe_114 rfl) fr_138 t_223 rfl ?_
  refine ev_bipush (pc := 61) (fe_114 rfl) lb_8 ?_
  refine ev_iload (pc := 63) (fe_114 rfl) rfl ?_
  refine fm_lt_h h (fun u3 eu3 h => ?_)
  refine ev_iastorek (pc := 65) (fe_114 rfl) t_252 (by decide) rfl eu3 ?_
  exact ev_R (ev_vrt (pc := 66) (fe_114 rfl) rt_114) (by rw [← Option.some.inj h])
  refine ev_aload_n (pc := 10) (fe_114 rfl) rfl ?_
  refine ev_getR (a1 := 252) (pc := 11) (fe_114 rfl) fr_138 t_223 rfl ?_
  refine ev_iload (pc := 14) (fe_114 rfl) rfl ?_
  refine ev_iload (pc := 16) (fe_114 rfl) rfl ?_
  refine ev_bipush (pc := 18) (fe_114 rfl) lb_12 ?_
  refine ev_ic_ge (pc := 20) (fe_114 rfl) (t := 33) rfl h (fun h => ?_) (fun h => ?_)
  refine ev_iconst (pc := 33) (fe_114 rfl) li_0 ?_
  refine fm_ob h (fun g4 h => ?_)
  refine fm_lt_h h (fun u5 eu5 h => ?_)
  refine ev_iastore (pc := 34) (fe_114 rfl) t_252 g4 eu5 ?_
  refine ev_iinc (pc := 35) (fe_114 rfl) mx_114 rfl rfl li_1 ?_
  refine ev_goto (pc := 38) (fe_114 rfl) (t := 3) rfl ?_
  exact ih x1 x2 a3 x4 x5 (x6 + 1) u5 h3 h
  refine ev_aload_n (pc := 23) (fe_114 rfl) rfl ?_
  refine ev_iload (pc := 24) (fe_114 rfl) rfl ?_
  refine ev_iload (pc := 26) (fe_114 rfl) rfl ?_
  refine ev_iadd (pc := 28) (fe_114 rfl) ?_
  refine fm_ob h (fun g6 h => ?_)
  refine ev_iaload (pc := 29) (fe_114 rfl) h3 g6 ?_
  refine ev_goto (pc := 30) (fe_114 rfl) (t := 34) rfl ?_
  refine fm_ob h (fun g7 h => ?_)
  refine fm_lt_h h (fun u8 eu8 h => ?_)
  refine ev_iastore (pc := 34) (fe_114 rfl) t_252 g7 eu8 ?_
  refine ev_iinc (pc := 35) (fe_114 rfl) mx_114 rfl rfl li_1 ?_
  refine ev_goto (pc := 38) (fe_114 rfl) (t := 3) rfl ?_
  exact ih x1 x2 a3 x4 x5 (x6 + 1) u8 h3 h
theorem jK114 {X : Nat × (Nat → Int32)} {x1 : Int32} {x2 : Int32} {a3 : Nat} {x4 : Int32} {x5 : Int32} {u : fm} {r : fm} (h3 : fm_isIA a3) (h : jF114 x1 x2 a3 x4 x5 u = some r) : ev X 114 0 [some (.inr (.inl (some 223))), some (.inl x1), some (.inl x2), some (.inr (.inl (some a3))), some (.inl x4), some (.inl x5), none] [] u ([], r) := by
  unfold jF114 at h
  refine ev_iconst (pc := 0) (fe_114 rfl) li_0 ?_
  refine ev_istore (pc := 1) (fe_114 rfl) mx_114 rfl ?_
  exact jK114_3 fm_N x1 x2 a3 x4 x5 0 u h3 h
/-- CallAgentsModel media -/
def jF115_35 (x1 : Int32) (x2 : Int32) (x3 : Int32) (s0 : Int32) (u : fm) : Option (Int32 × fm) :=
  if s0 = 0 then
  (some ((-1), u))
  else
  (if fm_in x1 2 then if (fA u 236 (Int32.toNatClampNeg x1)) = 3 then
  (some ((-1), u))
  else
  (if fm_in ((3 * x1) + (fA u 236 (Int32.toNatClampNeg x1))) 6 then fm_let (sA u 237 (Int32.toNatClampNeg ((3 * x1) + (fA u 236 (Int32.toNatClampNeg x1)))) x2) (fun u4 => if fm_in ((3 * x1) + (fA u4 236 (Int32.toNatClampNeg x1))) 6 then fm_let (sA u4 238 (Int32.toNatClampNeg ((3 * x1) + (fA u4 236 (Int32.toNatClampNeg x1)))) x3) (fun u6 => fm_let (sA u6 236 (Int32.toNatClampNeg x1) ((fA u6 236 (Int32.toNatClampNeg x1)) + 1)) (fun u7 => some (fA u7 236 (Int32.toNatClampNeg x1), u7))) else none) else none) else none)
def jF115_34 (x1 : Int32) (x2 : Int32) (x3 : Int32) (u : fm) : Option (Int32 × fm) :=
  jF115_35 x1 x2 x3 0 u
def jF115 (x1 : Int32) (x2 : Int32) (x3 : Int32) (u : fm) : Option (Int32 × fm) :=
  if (jF105 x1) = 0 then
  (jF115_34 x1 x2 x3 u)
  else
  (if x2 < 1 then
  (jF115_34 x1 x2 x3 u)
  else
  (if 65535 < x2 then
  (jF115_34 x1 x2 x3 u)
  else
  (if x3 < 1 then
  (jF115_34 x1 x2 x3 u)
  else
  (if 255 < x3 then
  (jF115_34 x1 x2 x3 u)
  else
  (jF115_35 x1 x2 x3 1 u)))))
theorem jK115_35 {X : Nat × (Nat → Int32)} {r : Int32 × fm} (x1 : Int32) (x2 : Int32) (x3 : Int32) (s0 : Int32) (u : fm) (b_s0 : s0 = 0 ∨ s0 = 1) (h : jF115_35 x1 x2 x3 s0 u = some r) : ev X 115 35 [some (.inr (.inl (some 223))), some (.inl x1), some (.inl x2), some (.inl x3), none] [.inl s0] u ([.inl r.1], r.2) := by
  unfold jF115_35 at h
  refine ev_istore (pc := 35) (fe_115 rfl) mx_115 rfl ?_
  refine ev_iload (pc := 37) (fe_115 rfl) rfl ?_
  refine ev_if_eq (pc := 39) (fe_115 rfl) (t := 52) rfl h (fun h => ?_) (fun h => ?_)
  refine ev_iconst (pc := 52) (fe_115 rfl) li_m1 ?_
  exact ev_R (ev_irt (pc := 53) (fe_115 rfl) rt_115) (by rw [← Option.some.inj h])
  refine ev_aload_n (pc := 42) (fe_115 rfl) rfl ?_
  refine ev_getR (a1 := 236) (pc := 43) (fe_115 rfl) fr_122 t_223 rfl ?_
  refine ev_iload_n (pc := 46) (fe_115 rfl) rfl ?_
  refine fm_ob h (fun g2 h => ?_)
  refine ev_iaload (pc := 47) (fe_115 rfl) t_236 g2 ?_
  refine ev_iconst (pc := 48) (fe_115 rfl) li_3 ?_
  refine ev_ic_ne (pc := 49) (fe_115 rfl) (t := 54) rfl h (fun h => ?_) (fun h => ?_)
  refine ev_aload_n (pc := 54) (fe_115 rfl) rfl ?_
  refine ev_getR (a1 := 237) (pc := 55) (fe_115 rfl) fr_123 t_223 rfl ?_
  refine ev_iconst (pc := 58) (fe_115 rfl) li_3 ?_
  refine ev_iload_n (pc := 59) (fe_115 rfl) rfl ?_
  refine ev_imul (pc := 60) (fe_115 rfl) ?_
  refine ev_aload_n (pc := 61) (fe_115 rfl) rfl ?_
  refine ev_getR (a1 := 236) (pc := 62) (fe_115 rfl) fr_122 t_223 rfl ?_
  refine ev_iload_n (pc := 65) (fe_115 rfl) rfl ?_
  refine ev_iaload (pc := 66) (fe_115 rfl) t_236 g2 ?_
  refine ev_iadd (pc := 67) (fe_115 rfl) ?_
  refine ev_iload_n (pc := 68) (fe_115 rfl) rfl ?_
  refine fm_ob h (fun g3 h => ?_)
  refine fm_lt_h h (fun u4 eu4 h => ?_)
  refine ev_iastore (pc := 69) (fe_115 rfl) t_237 g3 eu4 ?_
  refine ev_aload_n (pc := 70) (fe_115 rfl) rfl ?_
  refine ev_getR (a1 := 238) (pc := 71) (fe_115 rfl) fr_124 t_223 rfl ?_
  refine ev_iconst (pc := 74) (fe_115 rfl) li_3 ?_
  refine ev_iload_n (pc := 75) (fe_115 rfl) rfl ?_
  refine ev_imul (pc := 76) (fe_115 rfl) ?_
  refine ev_aload_n (pc := 77) (fe_115 rfl) rfl ?_
  refine ev_getR (a1 := 236) (pc := 78) (fe_115 rfl) fr_122 t_223 rfl ?_
  refine ev_iload_n (pc := 81) (fe_115 rfl) rfl ?_
  refine ev_iaload (pc := 82) (fe_115 rfl) t_236 g2 ?_
  refine ev_iadd (pc := 83) (fe_115 rfl) ?_
  refine ev_iload_n (pc := 84) (fe_115 rfl) rfl ?_
  refine fm_ob h (fun g5 h => ?_)
  refine fm_lt_h h (fun u6 eu6 h => ?_)
  refine ev_iastore (pc := 85) (fe_115 rfl) t_238 g5 eu6 ?_
  refine ev_aload_n (pc := 86) (fe_115 rfl) rfl ?_
  refine ev_getR (a1 := 236) (pc := 87) (fe_115 rfl) fr_122 t_223 rfl ?_
  refine ev_iload_n (pc := 90) (fe_115 rfl) rfl ?_
  refine ev_dup2 (pc := 91) (fe_115 rfl) rfl rfl ?_
  refine ev_iaload (pc := 92) (fe_115 rfl) t_236 g2 ?_
  refine ev_iconst (pc := 93) (fe_115 rfl) li_1 ?_
  refine ev_iadd (pc := 94) (fe_115 rfl) ?_
  refine fm_lt_h h (fun u7 eu7 h => ?_)
  refine ev_iastore (pc := 95) (fe_115 rfl) t_236 g2 eu7 ?_
  refine ev_aload_n (pc := 96) (fe_115 rfl) rfl ?_
  refine ev_getR (a1 := 236) (pc := 97) (fe_115 rfl) fr_122 t_223 rfl ?_
  refine ev_iload_n (pc := 100) (fe_115 rfl) rfl ?_
  refine ev_iaload (pc := 101) (fe_115 rfl) t_236 g2 ?_
  exact ev_R (ev_irt (pc := 102) (fe_115 rfl) rt_115) (by rw [← Option.some.inj h])
  refine ev_iconst (pc := 52) (fe_115 rfl) li_m1 ?_
  exact ev_R (ev_irt (pc := 53) (fe_115 rfl) rt_115) (by rw [← Option.some.inj h])
theorem jK115_34 {X : Nat × (Nat → Int32)} {r : Int32 × fm} (x1 : Int32) (x2 : Int32) (x3 : Int32) (u : fm) (h : jF115_34 x1 x2 x3 u = some r) : ev X 115 34 [some (.inr (.inl (some 223))), some (.inl x1), some (.inl x2), some (.inl x3), none] [] u ([.inl r.1], r.2) := by
  unfold jF115_34 at h
  refine ev_iconst (pc := 34) (fe_115 rfl) li_0 ?_
  exact jK115_35 x1 x2 x3 0 u (Or.inl rfl) h
theorem jK115 {X : Nat × (Nat → Int32)} {x1 : Int32} {x2 : Int32} {x3 : Int32} {u : fm} {r : Int32 × fm} (h : jF115 x1 x2 x3 u = some r) : ev X 115 0 [some (.inr (.inl (some 223))), some (.inl x1), some (.inl x2), some (.inl x3), none] [] u ([.inl r.1], r.2) := by
  unfold jF115 at h
  refine ev_iload_n (pc := 0) (fe_115 rfl) rfl ?_
  refine ev_callSZk (pc := 1) (fe_115 rfl) (z := 105) (na := 1) (ow := 10) cg_115_137 rt_105 rfl (m := 0) rfl (jK105 rfl) (st1 := [.inl (jF105 x1)]) rfl (fun z1 => ?_)
  refine ev_if_eq (pc := 4) (fe_115 rfl) (t := 34) rfl h (fun h => ?_) (fun h => ?_)
  exact jK115_34 x1 x2 x3 u h
  refine ev_iload_n (pc := 7) (fe_115 rfl) rfl ?_
  refine ev_iconst (pc := 8) (fe_115 rfl) li_1 ?_
  refine ev_ic_lt (pc := 9) (fe_115 rfl) (t := 34) rfl h (fun h => ?_) (fun h => ?_)
  exact jK115_34 x1 x2 x3 u h
  refine ev_iload_n (pc := 12) (fe_115 rfl) rfl ?_
  refine ev_ldc (pc := 13) (fe_115 rfl) (c := 65535) rfl ?_
  refine ev_ic_gt (pc := 15) (fe_115 rfl) (t := 34) rfl h (fun h => ?_) (fun h => ?_)
  exact jK115_34 x1 x2 x3 u h
  refine ev_iload_n (pc := 18) (fe_115 rfl) rfl ?_
  refine ev_iconst (pc := 19) (fe_115 rfl) li_1 ?_
  refine ev_ic_lt (pc := 20) (fe_115 rfl) (t := 34) rfl h (fun h => ?_) (fun h => ?_)
  exact jK115_34 x1 x2 x3 u h
  refine ev_iload_n (pc := 23) (fe_115 rfl) rfl ?_
  refine ev_sipush (pc := 24) (fe_115 rfl) ls_255 ?_
  refine ev_ic_gt (pc := 27) (fe_115 rfl) (t := 34) rfl h (fun h => ?_) (fun h => ?_)
  exact jK115_34 x1 x2 x3 u h
  refine ev_iconst (pc := 30) (fe_115 rfl) li_1 ?_
  refine ev_goto (pc := 31) (fe_115 rfl) (t := 35) rfl ?_
  exact jK115_35 x1 x2 x3 1 u (Or.inr rfl) h
/-- CallAgentsModel invite -/
def jF116_195 : Nat → (Int32 → Int32 → fm → Option (Int32 × fm)) → Int32 → Int32 → Int32 → Int32 → fm → Option (Int32 × fm)
  | 0, _, _, _, _, _, _ => none
  | n + 1, k158, x1, x2, x3, x4, u =>
  if x4 < 8 then
  (if fm_in ((3 * x1) + x2) 6 then if ((fm_shr (fA u 238 (Int32.toNatClampNeg ((3 * x1) + x2))) x4) &&& 1) = 1 then
  (if fm_in (x3 + 1) 50 then if fm_in ((x3 + 2) + (fA u 252 (Int32.toNatClampNeg (x3 + 1)))) 50 then fm_let (sA u 252 (Int32.toNatClampNeg ((x3 + 2) + (fA u 252 (Int32.toNatClampNeg (x3 + 1))))) x4) (fun u29 => fm_let (sA u29 252 (Int32.toNatClampNeg (x3 + 1)) ((fA u29 252 (Int32.toNatClampNeg (x3 + 1))) + 1)) (fun u30 => jF116_195 n k158 x1 x2 x3 (x4 + 1) u30)) else none else none)
  else
  (jF116_195 n k158 x1 x2 x3 (x4 + 1) u) else none)
  else
  (k158 x1 (x2 + 1) u)
def jF116_158 : Nat → Int32 → Int32 → fm → Option (Int32 × fm)
  | 0, _, _, _ => none
  | n + 1, x1, x2, u =>
  if fm_in x1 2 then if x2 < (fA u 236 (Int32.toNatClampNeg x1)) then
  (if fm_in ((3 * x1) + x2) 6 then if fm_in (13 + (10 * x2)) 50 then fm_let (sA u 252 (Int32.toNatClampNeg (13 + (10 * x2))) (fA u 237 (Int32.toNatClampNeg ((3 * x1) + x2)))) (fun u25 => jF116_195 fm_N (fun x1' x2' u' => jF116_158 n x1' x2' u') x1 x2 (13 + (10 * x2)) 0 u25) else none else none)
  else
  (fm_let (sA u 225 (Int32.toNatClampNeg x1) 1) (fun u20 => Option.bind (jF108 x1 u20) (fun p21 => Option.bind (jF109 252 0 p21) (fun p22 => some (1, p22))))) else none
def jF116 (x1 : Int32) (u : fm) : Option (Int32 × fm) :=
  if (jF105 x1) = 0 then
  (some (0, u))
  else
  (Option.bind (jF106 x1 u) (fun p2 => if p2 = 0 then
  (some (0, u))
  else
  (if fm_in x1 2 then if (fA u 236 (Int32.toNatClampNeg x1)) = 0 then
  (some (0, u))
  else
  (fm_let (sA u 233 (Int32.toNatClampNeg x1) ((fA u 233 (Int32.toNatClampNeg x1)) + 1)) (fun u5 => fm_let (sA u5 228 (Int32.toNatClampNeg x1) ((2 * (fA u5 233 (Int32.toNatClampNeg x1))) + x1)) (fun u6 => Option.bind (jF113 x1 u6) (fun p7 => fm_let (sA p7.2 226 (Int32.toNatClampNeg x1) p7.1) (fun u8 => fm_let (sA u8 227 (Int32.toNatClampNeg x1) 0) (fun u9 => fm_let (sA u9 246 (Int32.toNatClampNeg x1) 0) (fun u10 => fm_let (sA u10 229 (Int32.toNatClampNeg x1) ((fA u10 229 (Int32.toNatClampNeg x1)) + 1)) (fun u11 => fm_let (sA u11 239 (Int32.toNatClampNeg x1) 1) (fun u12 => fm_let (sA u12 242 (Int32.toNatClampNeg x1) 0) (fun u13 => fm_let (sA u13 240 (Int32.toNatClampNeg x1) (fA u13 229 (Int32.toNatClampNeg x1))) (fun u14 => Option.bind (jF112 x1 u14) (fun p15 => fm_let (sA p15.2 241 (Int32.toNatClampNeg x1) p15.1) (fun u16 => Option.bind (jF111 x1 0 (fA u16 241 (Int32.toNatClampNeg x1)) (-1) (fA u16 229 (Int32.toNatClampNeg x1)) u16) (fun p17 => fm_let (sA p17 252 12 (fA p17 236 (Int32.toNatClampNeg x1))) (fun u18 => jF116_158 fm_N x1 0 u18))))))))))))))) else none)))
theorem jK116_195 {X : Nat × (Nat → Int32)} {r : Int32 × fm} {k158 : Int32 → Int32 → fm → Option (Int32 × fm)} : ∀ (n : Nat) (x1 : Int32) (x2 : Int32) (x3 : Int32) (x4 : Int32) (u : fm) (hk158 : ∀ (x1 : Int32) (x2 : Int32) (u : fm), k158 x1 x2 u = some r → ev X 116 158 [some (.inr (.inl (some 223))), some (.inl x1), some (.inl x2), none, none] [] u ([.inl r.1], r.2)), jF116_195 n k158 x1 x2 x3 x4 u = some r → ev X 116 195 [some (.inr (.inl (some 223))), some (.inl x1), some (.inl x2), some (.inl x3), some (.inl x4)] [] u ([.inl r.1], r.2) := by
  intro n
  induction n with
  | zero =>
    intro _ _ _ _ _ _ h
    unfold jF116_195 at h
    cases h
  | succ n ih =>
  intro x1 x2 x3 x4 u hk158 h
  unfold jF116_195 at h
  refine ev_iload (pc := 195) (fe_116 rfl) rfl ?_
  refine ev_bipush (pc := 197) (fe_116 rfl) lb_8 ?_
  refine ev_ic_ge (pc := 199) (fe_116 rfl) (t := 258) rfl h (fun h => ?_) (fun h => ?_)
  refine ev_iinc (pc := 258) (fe_116 rfl) mx_116 rfl rfl li_1 ?_
  refine ev_goto (pc := 261) (fe_116 rfl) (t := 158) rfl ?_
  refine ev_w [true, true, true, false, false] ?_
  exact hk158 x1 (x2 + 1) u h
  refine ev_aload_n (pc := 202) (fe_116 rfl) rfl ?_
  refine ev_getR (a1 := 238) (pc := 203) (fe_116 rfl) fr_124 t_223 rfl ?_
  refine ev_iconst (pc := 206) (fe_116 rfl) li_3 ?_
  refine ev_iload_n (pc := 207) (fe_116 rfl) rfl ?_
  refine ev_imul (pc := 208) (fe_116 rfl) ?_
  refine ev_iload_n (pc := 209) (fe_116 rfl) rfl ?_
  refine ev_iadd (pc := 210) (fe_116 rfl) ?_
  refine fm_ob h (fun g26 h => ?_)
  refine ev_iaload (pc := 211) (fe_116 rfl) t_238 g26 ?_
  refine ev_iload (pc := 212) (fe_116 rfl) rfl ?_
  refine ev_ishr (pc := 214) (fe_116 rfl) ?_
  refine ev_iconst (pc := 215) (fe_116 rfl) li_1 ?_
  refine ev_iand (pc := 216) (fe_116 rfl) ?_
  refine ev_iconst (pc := 217) (fe_116 rfl) li_1 ?_
  refine ev_ic_ne (pc := 218) (fe_116 rfl) (t := 252) rfl h (fun h => ?_) (fun h => ?_)
  refine ev_iinc (pc := 252) (fe_116 rfl) mx_116 rfl rfl li_1 ?_
  refine ev_goto (pc := 255) (fe_116 rfl) (t := 195) rfl ?_
  exact ih x1 x2 x3 (x4 + 1) u hk158 h
  refine ev_aload_n (pc := 221) (fe_116 rfl) rfl ?_
  refine ev_getR (a1 := 252) (pc := 222) (fe_116 rfl) fr_138 t_223 rfl ?_
  refine ev_iload_n (pc := 225) (fe_116 rfl) rfl ?_
  refine ev_iconst (pc := 226) (fe_116 rfl) li_2 ?_
  refine ev_iadd (pc := 227) (fe_116 rfl) ?_
  refine ev_aload_n (pc := 228) (fe_116 rfl) rfl ?_
  refine ev_getR (a1 := 252) (pc := 229) (fe_116 rfl) fr_138 t_223 rfl ?_
  refine ev_iload_n (pc := 232) (fe_116 rfl) rfl ?_
  refine ev_iconst (pc := 233) (fe_116 rfl) li_1 ?_
  refine ev_iadd (pc := 234) (fe_116 rfl) ?_
  refine fm_ob h (fun g27 h => ?_)
  refine ev_iaload (pc := 235) (fe_116 rfl) t_252 g27 ?_
  refine ev_iadd (pc := 236) (fe_116 rfl) ?_
  refine ev_iload (pc := 237) (fe_116 rfl) rfl ?_
  refine fm_ob h (fun g28 h => ?_)
  refine fm_lt_h h (fun u29 eu29 h => ?_)
  refine ev_iastore (pc := 239) (fe_116 rfl) t_252 g28 eu29 ?_
  refine ev_aload_n (pc := 240) (fe_116 rfl) rfl ?_
  refine ev_getR (a1 := 252) (pc := 241) (fe_116 rfl) fr_138 t_223 rfl ?_
  refine ev_iload_n (pc := 244) (fe_116 rfl) rfl ?_
  refine ev_iconst (pc := 245) (fe_116 rfl) li_1 ?_
  refine ev_iadd (pc := 246) (fe_116 rfl) ?_
  refine ev_dup2 (pc := 247) (fe_116 rfl) rfl rfl ?_
  refine ev_iaload (pc := 248) (fe_116 rfl) t_252 g27 ?_
  refine ev_iconst (pc := 249) (fe_116 rfl) li_1 ?_
  refine ev_iadd (pc := 250) (fe_116 rfl) ?_
  refine fm_lt_h h (fun u30 eu30 h => ?_)
  refine ev_iastore (pc := 251) (fe_116 rfl) t_252 g27 eu30 ?_
  refine ev_iinc (pc := 252) (fe_116 rfl) mx_116 rfl rfl li_1 ?_
  refine ev_goto (pc := 255) (fe_116 rfl) (t := 195) rfl ?_
  exact ih x1 x2 x3 (x4 + 1) u30 hk158 h
theorem jK116_158 {X : Nat × (Nat → Int32)} {r : Int32 × fm} : ∀ (n : Nat) (x1 : Int32) (x2 : Int32) (u : fm), jF116_158 n x1 x2 u = some r → ev X 116 158 [some (.inr (.inl (some 223))), some (.inl x1), some (.inl x2), none, none] [] u ([.inl r.1], r.2) := by
  intro n
  induction n with
  | zero =>
    intro _ _ _ h
    unfold jF116_158 at h
    cases h
  | succ n ih =>
  intro x1 x2 u h
  unfold jF116_158 at h
  refine ev_iload_n (pc := 158) (fe_116 rfl) rfl ?_
  refine ev_aload_n (pc := 159) (fe_116 rfl) rfl ?_
  refine ev_getR (a1 := 236) (pc := 160) (fe_116 rfl) fr_122 t_223 rfl ?_
  refine ev_iload_n (pc := 163) (fe_116 rfl) rfl ?_
  refine fm_ob h (fun g19 h => ?_)
  refine ev_iaload (pc := 164) (fe_116 rfl) t_236 g19 ?_
  refine ev_ic_ge (pc := 165) (fe_116 rfl) (t := 264) rfl h (fun h => ?_) (fun h => ?_)
  refine ev_aload_n (pc := 264) (fe_116 rfl) rfl ?_
  refine ev_getR (a1 := 225) (pc := 265) (fe_116 rfl) fr_111 t_223 rfl ?_
  refine ev_iload_n (pc := 268) (fe_116 rfl) rfl ?_
  refine ev_iconst (pc := 269) (fe_116 rfl) li_1 ?_
  refine fm_lt_h h (fun u20 eu20 h => ?_)
  refine ev_iastore (pc := 270) (fe_116 rfl) t_225 g19 eu20 ?_
  refine ev_aload_n (pc := 271) (fe_116 rfl) rfl ?_
  refine ev_iload_n (pc := 272) (fe_116 rfl) rfl ?_
  refine fm_bd h (fun p21 ep21 h => ?_)
  refine ev_callVk (pc := 273) (fe_116 rfl) (z := 108) (na := 2) (ow := 10) cg_116_142 rfl rfl rfl t_223 (m := 1) rfl (jK108 ep21) (st1 := []) rfl ?_
  refine ev_aload_n (pc := 276) (fe_116 rfl) rfl ?_
  refine ev_aload_n (pc := 277) (fe_116 rfl) rfl ?_
  refine ev_getR (a1 := 252) (pc := 278) (fe_116 rfl) fr_138 t_223 rfl ?_
  refine ev_iconst (pc := 281) (fe_116 rfl) li_0 ?_
  refine fm_bd h (fun p22 ep22 h => ?_)
  refine ev_callVk (pc := 282) (fe_116 rfl) (z := 109) (na := 3) (ow := 10) cg_116_143 rfl rfl rfl t_223 (m := 1) rfl (jK109 t_252 ep22) (st1 := []) rfl ?_
  refine ev_iconst (pc := 285) (fe_116 rfl) li_1 ?_
  exact ev_R (ev_zrt (pc := 286) (fe_116 rfl) rt_116 (Or.inr rfl)) (by rw [← Option.some.inj h])
  refine ev_bipush (pc := 168) (fe_116 rfl) lb_13 ?_
  refine ev_bipush (pc := 170) (fe_116 rfl) lb_10 ?_
  refine ev_iload_n (pc := 172) (fe_116 rfl) rfl ?_
  refine ev_imul (pc := 173) (fe_116 rfl) ?_
  refine ev_iadd (pc := 174) (fe_116 rfl) ?_
  refine ev_istore_n (pc := 175) (fe_116 rfl) mx_116 rfl ?_
  refine ev_aload_n (pc := 176) (fe_116 rfl) rfl ?_
  refine ev_getR (a1 := 252) (pc := 177) (fe_116 rfl) fr_138 t_223 rfl ?_
  refine ev_iload_n (pc := 180) (fe_116 rfl) rfl ?_
  refine ev_aload_n (pc := 181) (fe_116 rfl) rfl ?_
  refine ev_getR (a1 := 237) (pc := 182) (fe_116 rfl) fr_123 t_223 rfl ?_
  refine ev_iconst (pc := 185) (fe_116 rfl) li_3 ?_
  refine ev_iload_n (pc := 186) (fe_116 rfl) rfl ?_
  refine ev_imul (pc := 187) (fe_116 rfl) ?_
  refine ev_iload_n (pc := 188) (fe_116 rfl) rfl ?_
  refine ev_iadd (pc := 189) (fe_116 rfl) ?_
  refine fm_ob h (fun g23 h => ?_)
  refine ev_iaload (pc := 190) (fe_116 rfl) t_237 g23 ?_
  refine fm_ob h (fun g24 h => ?_)
  refine fm_lt_h h (fun u25 eu25 h => ?_)
  refine ev_iastore (pc := 191) (fe_116 rfl) t_252 g24 eu25 ?_
  refine ev_iconst (pc := 192) (fe_116 rfl) li_0 ?_
  refine ev_istore (pc := 193) (fe_116 rfl) mx_116 rfl ?_
  exact jK116_195 fm_N x1 x2 (13 + (10 * x2)) 0 u25 (fun x1' x2' u' h => ih x1' x2' u' h) h
theorem jK116 {X : Nat × (Nat → Int32)} {x1 : Int32} {u : fm} {r : Int32 × fm} (h : jF116 x1 u = some r) : ev X 116 0 [some (.inr (.inl (some 223))), some (.inl x1), none, none, none] [] u ([.inl r.1], r.2) := by
  unfold jF116 at h
  refine ev_iload_n (pc := 0) (fe_116 rfl) rfl ?_
  refine ev_callSZk (pc := 1) (fe_116 rfl) (z := 105) (na := 1) (ow := 10) cg_116_137 rt_105 rfl (m := 0) rfl (jK105 rfl) (st1 := [.inl (jF105 x1)]) rfl (fun z1 => ?_)
  refine ev_if_eq (pc := 4) (fe_116 rfl) (t := 24) rfl h (fun h => ?_) (fun h => ?_)
  refine ev_iconst (pc := 24) (fe_116 rfl) li_0 ?_
  exact ev_R (ev_zrt (pc := 25) (fe_116 rfl) rt_116 (Or.inl rfl)) (by rw [← Option.some.inj h])
  refine ev_aload_n (pc := 7) (fe_116 rfl) rfl ?_
  refine ev_iload_n (pc := 8) (fe_116 rfl) rfl ?_
  refine fm_bd h (fun p2 ep2 h => ?_)
  refine ev_callVZk (pc := 9) (fe_116 rfl) (z := 106) (na := 2) (ow := 10) cg_116_138 rfl rt_106 rfl rfl t_223 (m := 0) rfl (jK106 ep2) (st1 := [.inl p2]) rfl (fun z3 => ?_)
  refine ev_if_eq (pc := 12) (fe_116 rfl) (t := 24) rfl h (fun h => ?_) (fun h => ?_)
  refine ev_iconst (pc := 24) (fe_116 rfl) li_0 ?_
  exact ev_R (ev_zrt (pc := 25) (fe_116 rfl) rt_116 (Or.inl rfl)) (by rw [← Option.some.inj h])
  refine ev_aload_n (pc := 15) (fe_116 rfl) rfl ?_
  refine ev_getR (a1 := 236) (pc := 16) (fe_116 rfl) fr_122 t_223 rfl ?_
  refine ev_iload_n (pc := 19) (fe_116 rfl) rfl ?_
  refine fm_ob h (fun g4 h => ?_)
  refine ev_iaload (pc := 20) (fe_116 rfl) t_236 g4 ?_
  refine ev_if_ne (pc := 21) (fe_116 rfl) (t := 26) rfl h (fun h => ?_) (fun h => ?_)
  refine ev_aload_n (pc := 26) (fe_116 rfl) rfl ?_
  refine ev_getR (a1 := 233) (pc := 27) (fe_116 rfl) fr_119 t_223 rfl ?_
  refine ev_iload_n (pc := 30) (fe_116 rfl) rfl ?_
  refine ev_dup2 (pc := 31) (fe_116 rfl) rfl rfl ?_
  refine ev_iaload (pc := 32) (fe_116 rfl) t_233 g4 ?_
  refine ev_iconst (pc := 33) (fe_116 rfl) li_1 ?_
  refine ev_iadd (pc := 34) (fe_116 rfl) ?_
  refine fm_lt_h h (fun u5 eu5 h => ?_)
  refine ev_iastore (pc := 35) (fe_116 rfl) t_233 g4 eu5 ?_
  refine ev_aload_n (pc := 36) (fe_116 rfl) rfl ?_
  refine ev_getR (a1 := 228) (pc := 37) (fe_116 rfl) fr_114 t_223 rfl ?_
  refine ev_iload_n (pc := 40) (fe_116 rfl) rfl ?_
  refine ev_iconst (pc := 41) (fe_116 rfl) li_2 ?_
  refine ev_aload_n (pc := 42) (fe_116 rfl) rfl ?_
  refine ev_getR (a1 := 233) (pc := 43) (fe_116 rfl) fr_119 t_223 rfl ?_
  refine ev_iload_n (pc := 46) (fe_116 rfl) rfl ?_
  refine ev_iaload (pc := 47) (fe_116 rfl) t_233 g4 ?_
  refine ev_imul (pc := 48) (fe_116 rfl) ?_
  refine ev_iload_n (pc := 49) (fe_116 rfl) rfl ?_
  refine ev_iadd (pc := 50) (fe_116 rfl) ?_
  refine fm_lt_h h (fun u6 eu6 h => ?_)
  refine ev_iastore (pc := 51) (fe_116 rfl) t_228 g4 eu6 ?_
  refine ev_aload_n (pc := 52) (fe_116 rfl) rfl ?_
  refine ev_getR (a1 := 226) (pc := 53) (fe_116 rfl) fr_112 t_223 rfl ?_
  refine ev_iload_n (pc := 56) (fe_116 rfl) rfl ?_
  refine ev_aload_n (pc := 57) (fe_116 rfl) rfl ?_
  refine ev_iload_n (pc := 58) (fe_116 rfl) rfl ?_
  refine fm_bd h (fun p7 ep7 h => ?_)
  refine ev_callVk (pc := 59) (fe_116 rfl) (z := 113) (na := 2) (ow := 10) cg_116_139 rfl rfl rfl t_223 (m := 0) rfl (jK113 ep7) (st1 := [.inl p7.1, .inl x1, .inr (.inl (some 226))]) rfl ?_
  refine fm_lt_h h (fun u8 eu8 h => ?_)
  refine ev_iastore (pc := 62) (fe_116 rfl) t_226 g4 eu8 ?_
  refine ev_aload_n (pc := 63) (fe_116 rfl) rfl ?_
  refine ev_getR (a1 := 227) (pc := 64) (fe_116 rfl) fr_113 t_223 rfl ?_
  refine ev_iload_n (pc := 67) (fe_116 rfl) rfl ?_
  refine ev_iconst (pc := 68) (fe_116 rfl) li_0 ?_
  refine fm_lt_h h (fun u9 eu9 h => ?_)
  refine ev_iastore (pc := 69) (fe_116 rfl) t_227 g4 eu9 ?_
  refine ev_aload_n (pc := 70) (fe_116 rfl) rfl ?_
  refine ev_getR (a1 := 246) (pc := 71) (fe_116 rfl) fr_132 t_223 rfl ?_
  refine ev_iload_n (pc := 74) (fe_116 rfl) rfl ?_
  refine ev_iconst (pc := 75) (fe_116 rfl) li_0 ?_
  refine fm_lt_h h (fun u10 eu10 h => ?_)
  refine ev_iastore (pc := 76) (fe_116 rfl) t_246 g4 eu10 ?_
  refine ev_aload_n (pc := 77) (fe_116 rfl) rfl ?_
  refine ev_getR (a1 := 229) (pc := 78) (fe_116 rfl) fr_115 t_223 rfl ?_
  refine ev_iload_n (pc := 81) (fe_116 rfl) rfl ?_
  refine ev_dup2 (pc := 82) (fe_116 rfl) rfl rfl ?_
  refine ev_iaload (pc := 83) (fe_116 rfl) t_229 g4 ?_
  refine ev_iconst (pc := 84) (fe_116 rfl) li_1 ?_
  refine ev_iadd (pc := 85) (fe_116 rfl) ?_
  refine fm_lt_h h (fun u11 eu11 h => ?_)
  refine ev_iastore (pc := 86) (fe_116 rfl) t_229 g4 eu11 ?_
  refine ev_aload_n (pc := 87) (fe_116 rfl) rfl ?_
  refine ev_getR (a1 := 239) (pc := 88) (fe_116 rfl) fr_125 t_223 rfl ?_
  refine ev_iload_n (pc := 91) (fe_116 rfl) rfl ?_
  refine ev_iconst (pc := 92) (fe_116 rfl) li_1 ?_
  refine fm_lt_h h (fun u12 eu12 h => ?_)
  refine ev_bastore (pc := 93) (fe_116 rfl) t_239 g4 (Or.inr rfl) eu12 ?_
  refine ev_aload_n (pc := 94) (fe_116 rfl) rfl ?_
  refine ev_getR (a1 := 242) (pc := 95) (fe_116 rfl) fr_128 t_223 rfl ?_
  refine ev_iload_n (pc := 98) (fe_116 rfl) rfl ?_
  refine ev_iconst (pc := 99) (fe_116 rfl) li_0 ?_
  refine fm_lt_h h (fun u13 eu13 h => ?_)
  refine ev_bastore (pc := 100) (fe_116 rfl) t_242 g4 (Or.inl rfl) eu13 ?_
  refine ev_aload_n (pc := 101) (fe_116 rfl) rfl ?_
  refine ev_getR (a1 := 240) (pc := 102) (fe_116 rfl) fr_126 t_223 rfl ?_
  refine ev_iload_n (pc := 105) (fe_116 rfl) rfl ?_
  refine ev_aload_n (pc := 106) (fe_116 rfl) rfl ?_
  refine ev_getR (a1 := 229) (pc := 107) (fe_116 rfl) fr_115 t_223 rfl ?_
  refine ev_iload_n (pc := 110) (fe_116 rfl) rfl ?_
  refine ev_iaload (pc := 111) (fe_116 rfl) t_229 g4 ?_
  refine fm_lt_h h (fun u14 eu14 h => ?_)
  refine ev_iastore (pc := 112) (fe_116 rfl) t_240 g4 eu14 ?_
  refine ev_aload_n (pc := 113) (fe_116 rfl) rfl ?_
  refine ev_getR (a1 := 241) (pc := 114) (fe_116 rfl) fr_127 t_223 rfl ?_
  refine ev_iload_n (pc := 117) (fe_116 rfl) rfl ?_
  refine ev_aload_n (pc := 118) (fe_116 rfl) rfl ?_
  refine ev_iload_n (pc := 119) (fe_116 rfl) rfl ?_
  refine fm_bd h (fun p15 ep15 h => ?_)
  refine ev_callVk (pc := 120) (fe_116 rfl) (z := 112) (na := 2) (ow := 10) cg_116_140 rfl rfl rfl t_223 (m := 0) rfl (jK112 ep15) (st1 := [.inl p15.1, .inl x1, .inr (.inl (some 241))]) rfl ?_
  refine fm_lt_h h (fun u16 eu16 h => ?_)
  refine ev_iastore (pc := 123) (fe_116 rfl) t_241 g4 eu16 ?_
  refine ev_aload_n (pc := 124) (fe_116 rfl) rfl ?_
  refine ev_iload_n (pc := 125) (fe_116 rfl) rfl ?_
  refine ev_iconst (pc := 126) (fe_116 rfl) li_0 ?_
  refine ev_aload_n (pc := 127) (fe_116 rfl) rfl ?_
  refine ev_getR (a1 := 241) (pc := 128) (fe_116 rfl) fr_127 t_223 rfl ?_
  refine ev_iload_n (pc := 131) (fe_116 rfl) rfl ?_
  refine ev_iaload (pc := 132) (fe_116 rfl) t_241 g4 ?_
  refine ev_iconst (pc := 133) (fe_116 rfl) li_m1 ?_
  refine ev_aload_n (pc := 134) (fe_116 rfl) rfl ?_
  refine ev_getR (a1 := 229) (pc := 135) (fe_116 rfl) fr_115 t_223 rfl ?_
  refine ev_iload_n (pc := 138) (fe_116 rfl) rfl ?_
  refine ev_iaload (pc := 139) (fe_116 rfl) t_229 g4 ?_
  refine fm_bd h (fun p17 ep17 h => ?_)
  refine ev_callVk (pc := 140) (fe_116 rfl) (z := 111) (na := 6) (ow := 10) cg_116_141 rfl rfl rfl t_223 (m := 1) rfl (jK111 ep17) (st1 := []) rfl ?_
  refine ev_aload_n (pc := 143) (fe_116 rfl) rfl ?_
  refine ev_getR (a1 := 252) (pc := 144) (fe_116 rfl) fr_138 t_223 rfl ?_
  refine ev_bipush (pc := 147) (fe_116 rfl) lb_12 ?_
  refine ev_aload_n (pc := 149) (fe_116 rfl) rfl ?_
  refine ev_getR (a1 := 236) (pc := 150) (fe_116 rfl) fr_122 t_223 rfl ?_
  refine ev_iload_n (pc := 153) (fe_116 rfl) rfl ?_
  refine ev_iaload (pc := 154) (fe_116 rfl) t_236 g4 ?_
  refine fm_lt_h h (fun u18 eu18 h => ?_)
  refine ev_iastorek (pc := 155) (fe_116 rfl) t_252 (by decide) rfl eu18 ?_
  refine ev_iconst (pc := 156) (fe_116 rfl) li_0 ?_
  refine ev_istore_n (pc := 157) (fe_116 rfl) mx_116 rfl ?_
  exact jK116_158 fm_N x1 0 u18 h
  refine ev_iconst (pc := 24) (fe_116 rfl) li_0 ?_
  exact ev_R (ev_zrt (pc := 25) (fe_116 rfl) rt_116 (Or.inl rfl)) (by rw [← Option.some.inj h])
/-- CallAgentsModel answer -/
def jF117_198 : Nat → (Int32 → Int32 → Int32 → fm → Option (fm)) → Int32 → Int32 → Int32 → Int32 → Int32 → Int32 → fm → Option (fm)
  | 0, _, _, _, _, _, _, _, _ => none
  | n + 1, k23, x1, x2, x3, x4, x5, x8, u =>
  if x8 < 9 then
  (if fm_in ((x5 + 1) + x8) 100 then if fm_in ((x4 + 1) + x8) 50 then fm_let (sA u 252 (Int32.toNatClampNeg ((x4 + 1) + x8)) (fA u 243 (Int32.toNatClampNeg ((x5 + 1) + x8)))) (fun u14 => jF117_198 n k23 x1 x2 x3 x4 x5 (x8 + 1) u14) else none else none)
  else
  (if fm_in x4 50 then fm_let (sA u 252 (Int32.toNatClampNeg x4) 0) (fun u11 => k23 x1 x2 (x3 + 1) u11) else none)
def jF117_81 : Nat → (Int32 → Int32 → Int32 → fm → Option (fm)) → Int32 → Int32 → Int32 → Int32 → Int32 → Int32 → Int32 → Int32 → fm → Option (fm)
  | 0, _, _, _, _, _, _, _, _, _, _ => none
  | n + 1, k23, x1, x2, x3, x4, x5, x6, x7, x8, u =>
  if fm_in (x5 + 1) 100 then if x8 < (fA u 243 (Int32.toNatClampNeg (x5 + 1))) then
  (if fm_in ((x5 + 2) + x8) 100 then if ((fm_shr x6 (fA u 243 (Int32.toNatClampNeg ((x5 + 2) + x8)))) &&& 1) = 1 then
  (if fm_in ((x4 + 2) + x7) 50 then fm_let (sA u 252 (Int32.toNatClampNeg ((x4 + 2) + x7)) (fA u 243 (Int32.toNatClampNeg ((x5 + 2) + x8)))) (fun u21 => jF117_81 n k23 x1 x2 x3 x4 x5 x6 (x7 + 1) (x8 + 1) u21) else none)
  else
  (jF117_81 n k23 x1 x2 x3 x4 x5 x6 x7 (x8 + 1) u) else none)
  else
  (if fm_in (x4 + 1) 50 then fm_let (sA u 252 (Int32.toNatClampNeg (x4 + 1)) x7) (fun u6 => if 0 < x7 then
  (if fm_in ((3 * x1) + x3) 6 then if fm_in x4 50 then fm_let (sA u6 252 (Int32.toNatClampNeg x4) (fA u6 237 (Int32.toNatClampNeg ((3 * x1) + x3)))) (fun u17 => if fm_in x5 100 then if (fA u17 243 (Int32.toNatClampNeg x5)) = 0 then
  (jF117_198 fm_N k23 x1 x2 x3 x4 x5 0 u17)
  else
  (if x7 = 0 then
  (jF117_198 fm_N k23 x1 x2 x3 x4 x5 0 u17)
  else
  (k23 x1 x2 (x3 + 1) u17)) else none) else none else none)
  else
  (if fm_in x4 50 then fm_let (sA u6 252 (Int32.toNatClampNeg x4) 0) (fun u8 => if fm_in x5 100 then if (fA u8 243 (Int32.toNatClampNeg x5)) = 0 then
  (jF117_198 fm_N k23 x1 x2 x3 x4 x5 0 u8)
  else
  (if x7 = 0 then
  (jF117_198 fm_N k23 x1 x2 x3 x4 x5 0 u8)
  else
  (k23 x1 x2 (x3 + 1) u8)) else none) else none)) else none) else none
def jF117_23 : Nat → Int32 → Int32 → Int32 → fm → Option (fm)
  | 0, _, _, _, _ => none
  | n + 1, x1, x2, x3, u =>
  if x3 < (fA u 252 12) then
  (if fm_in x1 2 then if x3 < (fA u 236 (Int32.toNatClampNeg x1)) then
  (if fm_in ((3 * x1) + x3) 6 then jF117_81 fm_N (fun x1' x2' x3' u' => jF117_23 n x1' x2' x3' u') x1 x2 x3 (13 + (10 * x3)) (x2 + (13 + (10 * x3))) (fA u 238 (Int32.toNatClampNeg ((3 * x1) + x3))) 0 0 u else none)
  else
  (jF117_81 fm_N (fun x1' x2' x3' u' => jF117_23 n x1' x2' x3' u') x1 x2 x3 (13 + (10 * x3)) (x2 + (13 + (10 * x3))) 0 0 0 u) else none)
  else
  (some u)
def jF117 (x1 : Int32) (u : fm) : Option (fm) :=
  if fm_in ((50 * x1) + 12) 100 then fm_let (sA u 252 12 (fA u 243 (Int32.toNatClampNeg ((50 * x1) + 12)))) (fun u2 => jF117_23 fm_N x1 (50 * x1) 0 u2) else none
theorem jK117_198 {X : Nat × (Nat → Int32)} {r : fm} {k23 : Int32 → Int32 → Int32 → fm → Option (fm)} : ∀ (n : Nat) (x1 : Int32) (x2 : Int32) (x3 : Int32) (x4 : Int32) (x5 : Int32) (x8 : Int32) (u : fm) (hk23 : ∀ (x1 : Int32) (x2 : Int32) (x3 : Int32) (u : fm), k23 x1 x2 x3 u = some r → ev X 117 23 [some (.inr (.inl (some 223))), some (.inl x1), some (.inl x2), some (.inl x3), none, none, none, none, none, none] [] u ([], r)), jF117_198 n k23 x1 x2 x3 x4 x5 x8 u = some r → ev X 117 198 [some (.inr (.inl (some 223))), some (.inl x1), some (.inl x2), some (.inl x3), some (.inl x4), some (.inl x5), none, none, some (.inl x8), none] [] u ([], r) := by
  intro n
  induction n with
  | zero =>
    intro _ _ _ _ _ _ _ _ h
    unfold jF117_198 at h
    cases h
  | succ n ih =>
  intro x1 x2 x3 x4 x5 x8 u hk23 h
  unfold jF117_198 at h
  refine ev_iload (pc := 198) (fe_117 rfl) rfl ?_
  refine ev_bipush (pc := 200) (fe_117 rfl) lb_9 ?_
  refine ev_ic_ge (pc := 202) (fe_117 rfl) (t := 235) rfl h (fun h => ?_) (fun h => ?_)
  refine ev_aload_n (pc := 235) (fe_117 rfl) rfl ?_
  refine ev_getR (a1 := 252) (pc := 236) (fe_117 rfl) fr_138 t_223 rfl ?_
  refine ev_iload (pc := 239) (fe_117 rfl) rfl ?_
  refine ev_iconst (pc := 241) (fe_117 rfl) li_0 ?_
  refine fm_ob h (fun g10 h => ?_)
  refine fm_lt_h h (fun u11 eu11 h => ?_)
  refine ev_iastore (pc := 242) (fe_117 rfl) t_252 g10 eu11 ?_
  refine ev_iinc (pc := 243) (fe_117 rfl) mx_117 rfl rfl li_1 ?_
  refine ev_goto (pc := 246) (fe_117 rfl) (t := 23) rfl ?_
  refine ev_w [true, true, true, true, false, false, true, true, false, true] ?_
  exact hk23 x1 x2 (x3 + 1) u11 h
  refine ev_aload_n (pc := 205) (fe_117 rfl) rfl ?_
  refine ev_getR (a1 := 252) (pc := 206) (fe_117 rfl) fr_138 t_223 rfl ?_
  refine ev_iload (pc := 209) (fe_117 rfl) rfl ?_
  refine ev_iconst (pc := 211) (fe_117 rfl) li_1 ?_
  refine ev_iadd (pc := 212) (fe_117 rfl) ?_
  refine ev_iload (pc := 213) (fe_117 rfl) rfl ?_
  refine ev_iadd (pc := 215) (fe_117 rfl) ?_
  refine ev_aload_n (pc := 216) (fe_117 rfl) rfl ?_
  refine ev_getR (a1 := 243) (pc := 217) (fe_117 rfl) fr_129 t_223 rfl ?_
  refine ev_iload (pc := 220) (fe_117 rfl) rfl ?_
  refine ev_iconst (pc := 222) (fe_117 rfl) li_1 ?_
  refine ev_iadd (pc := 223) (fe_117 rfl) ?_
  refine ev_iload (pc := 224) (fe_117 rfl) rfl ?_
  refine ev_iadd (pc := 226) (fe_117 rfl) ?_
  refine fm_ob h (fun g12 h => ?_)
  refine ev_iaload (pc := 227) (fe_117 rfl) t_243 g12 ?_
  refine fm_ob h (fun g13 h => ?_)
  refine fm_lt_h h (fun u14 eu14 h => ?_)
  refine ev_iastore (pc := 228) (fe_117 rfl) t_252 g13 eu14 ?_
  refine ev_iinc (pc := 229) (fe_117 rfl) mx_117 rfl rfl li_1 ?_
  refine ev_goto (pc := 232) (fe_117 rfl) (t := 198) rfl ?_
  exact ih x1 x2 x3 x4 x5 (x8 + 1) u14 hk23 h
theorem jK117_81 {X : Nat × (Nat → Int32)} {r : fm} {k23 : Int32 → Int32 → Int32 → fm → Option (fm)} : ∀ (n : Nat) (x1 : Int32) (x2 : Int32) (x3 : Int32) (x4 : Int32) (x5 : Int32) (x6 : Int32) (x7 : Int32) (x8 : Int32) (u : fm) (hk23 : ∀ (x1 : Int32) (x2 : Int32) (x3 : Int32) (u : fm), k23 x1 x2 x3 u = some r → ev X 117 23 [some (.inr (.inl (some 223))), some (.inl x1), some (.inl x2), some (.inl x3), none, none, none, none, none, none] [] u ([], r)), jF117_81 n k23 x1 x2 x3 x4 x5 x6 x7 x8 u = some r → ev X 117 81 [some (.inr (.inl (some 223))), some (.inl x1), some (.inl x2), some (.inl x3), some (.inl x4), some (.inl x5), some (.inl x6), some (.inl x7), some (.inl x8), none] [] u ([], r) := by
  intro n
  induction n with
  | zero =>
    intro _ _ _ _ _ _ _ _ _ _ h
    unfold jF117_81 at h
    cases h
  | succ n ih =>
  intro x1 x2 x3 x4 x5 x6 x7 x8 u hk23 h
  unfold jF117_81 at h
  refine ev_iload (pc := 81) (fe_117 rfl) rfl ?_
  refine ev_aload_n (pc := 83) (fe_117 rfl) rfl ?_
  refine ev_getR (a1 := 243) (pc := 84) (fe_117 rfl) fr_129 t_223 rfl ?_
  refine ev_iload (pc := 87) (fe_117 rfl) rfl ?_
  refine ev_iconst (pc := 89) (fe_117 rfl) li_1 ?_
  refine ev_iadd (pc := 90) (fe_117 rfl) ?_
  refine fm_ob h (fun g4 h => ?_)
  refine ev_iaload (pc := 91) (fe_117 rfl) t_243 g4 ?_
  refine ev_ic_ge (pc := 92) (fe_117 rfl) (t := 143) rfl h (fun h => ?_) (fun h => ?_)
  refine ev_aload_n (pc := 143) (fe_117 rfl) rfl ?_
  refine ev_getR (a1 := 252) (pc := 144) (fe_117 rfl) fr_138 t_223 rfl ?_
  refine ev_iload (pc := 147) (fe_117 rfl) rfl ?_
  refine ev_iconst (pc := 149) (fe_117 rfl) li_1 ?_
  refine ev_iadd (pc := 150) (fe_117 rfl) ?_
  refine ev_iload (pc := 151) (fe_117 rfl) rfl ?_
  refine fm_ob h (fun g5 h => ?_)
  refine fm_lt_h h (fun u6 eu6 h => ?_)
  refine ev_iastore (pc := 153) (fe_117 rfl) t_252 g5 eu6 ?_
  refine ev_aload_n (pc := 154) (fe_117 rfl) rfl ?_
  refine ev_getR (a1 := 252) (pc := 155) (fe_117 rfl) fr_138 t_223 rfl ?_
  refine ev_iload (pc := 158) (fe_117 rfl) rfl ?_
  refine ev_iload (pc := 160) (fe_117 rfl) rfl ?_
  refine ev_if_le (pc := 162) (fe_117 rfl) (t := 178) rfl h (fun h => ?_) (fun h => ?_)
  refine ev_iconst (pc := 178) (fe_117 rfl) li_0 ?_
  refine fm_ob h (fun g7 h => ?_)
  refine fm_lt_h h (fun u8 eu8 h => ?_)
  refine ev_iastore (pc := 179) (fe_117 rfl) t_252 g7 eu8 ?_
  refine ev_aload_n (pc := 180) (fe_117 rfl) rfl ?_
  refine ev_getR (a1 := 243) (pc := 181) (fe_117 rfl) fr_129 t_223 rfl ?_
  refine ev_iload (pc := 184) (fe_117 rfl) rfl ?_
  refine fm_ob h (fun g9 h => ?_)
  refine ev_iaload (pc := 186) (fe_117 rfl) t_243 g9 ?_
  refine ev_if_eq (pc := 187) (fe_117 rfl) (t := 195) rfl h (fun h => ?_) (fun h => ?_)
  refine ev_iconst (pc := 195) (fe_117 rfl) li_0 ?_
  refine ev_istore (pc := 196) (fe_117 rfl) mx_117 rfl ?_
  refine ev_w [true, true, true, true, true, true, false, false, true, true] ?_
  exact jK117_198 fm_N x1 x2 x3 x4 x5 0 u8 hk23 h
  refine ev_iload (pc := 190) (fe_117 rfl) rfl ?_
  refine ev_if_ne (pc := 192) (fe_117 rfl) (t := 243) rfl h (fun h => ?_) (fun h => ?_)
  refine ev_iinc (pc := 243) (fe_117 rfl) mx_117 rfl rfl li_1 ?_
  refine ev_goto (pc := 246) (fe_117 rfl) (t := 23) rfl ?_
  refine ev_w [true, true, true, true, false, false, false, false, false, true] ?_
  exact hk23 x1 x2 (x3 + 1) u8 h
  refine ev_iconst (pc := 195) (fe_117 rfl) li_0 ?_
  refine ev_istore (pc := 196) (fe_117 rfl) mx_117 rfl ?_
  refine ev_w [true, true, true, true, true, true, false, false, true, true] ?_
  exact jK117_198 fm_N x1 x2 x3 x4 x5 0 u8 hk23 h
  refine ev_aload_n (pc := 165) (fe_117 rfl) rfl ?_
  refine ev_getR (a1 := 237) (pc := 166) (fe_117 rfl) fr_123 t_223 rfl ?_
  refine ev_iconst (pc := 169) (fe_117 rfl) li_3 ?_
  refine ev_iload_n (pc := 170) (fe_117 rfl) rfl ?_
  refine ev_imul (pc := 171) (fe_117 rfl) ?_
  refine ev_iload_n (pc := 172) (fe_117 rfl) rfl ?_
  refine ev_iadd (pc := 173) (fe_117 rfl) ?_
  refine fm_ob h (fun g15 h => ?_)
  refine ev_iaload (pc := 174) (fe_117 rfl) t_237 g15 ?_
  refine ev_goto (pc := 175) (fe_117 rfl) (t := 179) rfl ?_
  refine fm_ob h (fun g16 h => ?_)
  refine fm_lt_h h (fun u17 eu17 h => ?_)
  refine ev_iastore (pc := 179) (fe_117 rfl) t_252 g16 eu17 ?_
  refine ev_aload_n (pc := 180) (fe_117 rfl) rfl ?_
  refine ev_getR (a1 := 243) (pc := 181) (fe_117 rfl) fr_129 t_223 rfl ?_
  refine ev_iload (pc := 184) (fe_117 rfl) rfl ?_
  refine fm_ob h (fun g18 h => ?_)
  refine ev_iaload (pc := 186) (fe_117 rfl) t_243 g18 ?_
  refine ev_if_eq (pc := 187) (fe_117 rfl) (t := 195) rfl h (fun h => ?_) (fun h => ?_)
  refine ev_iconst (pc := 195) (fe_117 rfl) li_0 ?_
  refine ev_istore (pc := 196) (fe_117 rfl) mx_117 rfl ?_
  refine ev_w [true, true, true, true, true, true, false, false, true, true] ?_
  exact jK117_198 fm_N x1 x2 x3 x4 x5 0 u17 hk23 h
  refine ev_iload (pc := 190) (fe_117 rfl) rfl ?_
  refine ev_if_ne (pc := 192) (fe_117 rfl) (t := 243) rfl h (fun h => ?_) (fun h => ?_)
  refine ev_iinc (pc := 243) (fe_117 rfl) mx_117 rfl rfl li_1 ?_
  refine ev_goto (pc := 246) (fe_117 rfl) (t := 23) rfl ?_
  refine ev_w [true, true, true, true, false, false, false, false, false, true] ?_
  exact hk23 x1 x2 (x3 + 1) u17 h
  refine ev_iconst (pc := 195) (fe_117 rfl) li_0 ?_
  refine ev_istore (pc := 196) (fe_117 rfl) mx_117 rfl ?_
  refine ev_w [true, true, true, true, true, true, false, false, true, true] ?_
  exact jK117_198 fm_N x1 x2 x3 x4 x5 0 u17 hk23 h
  refine ev_aload_n (pc := 95) (fe_117 rfl) rfl ?_
  refine ev_getR (a1 := 243) (pc := 96) (fe_117 rfl) fr_129 t_223 rfl ?_
  refine ev_iload (pc := 99) (fe_117 rfl) rfl ?_
  refine ev_iconst (pc := 101) (fe_117 rfl) li_2 ?_
  refine ev_iadd (pc := 102) (fe_117 rfl) ?_
  refine ev_iload (pc := 103) (fe_117 rfl) rfl ?_
  refine ev_iadd (pc := 105) (fe_117 rfl) ?_
  refine fm_ob h (fun g19 h => ?_)
  refine ev_iaload (pc := 106) (fe_117 rfl) t_243 g19 ?_
  refine ev_istore (pc := 107) (fe_117 rfl) mx_117 rfl ?_
  refine ev_iload (pc := 109) (fe_117 rfl) rfl ?_
  refine ev_iload (pc := 111) (fe_117 rfl) rfl ?_
  refine ev_ishr (pc := 113) (fe_117 rfl) ?_
  refine ev_iconst (pc := 114) (fe_117 rfl) li_1 ?_
  refine ev_iand (pc := 115) (fe_117 rfl) ?_
  refine ev_iconst (pc := 116) (fe_117 rfl) li_1 ?_
  refine ev_ic_ne (pc := 117) (fe_117 rfl) (t := 137) rfl h (fun h => ?_) (fun h => ?_)
  refine ev_iinc (pc := 137) (fe_117 rfl) mx_117 rfl rfl li_1 ?_
  refine ev_goto (pc := 140) (fe_117 rfl) (t := 81) rfl ?_
  refine ev_w [true, true, true, true, true, true, true, true, true, false] ?_
  exact ih x1 x2 x3 x4 x5 x6 x7 (x8 + 1) u hk23 h
  refine ev_aload_n (pc := 120) (fe_117 rfl) rfl ?_
  refine ev_getR (a1 := 252) (pc := 121) (fe_117 rfl) fr_138 t_223 rfl ?_
  refine ev_iload (pc := 124) (fe_117 rfl) rfl ?_
  refine ev_iconst (pc := 126) (fe_117 rfl) li_2 ?_
  refine ev_iadd (pc := 127) (fe_117 rfl) ?_
  refine ev_iload (pc := 128) (fe_117 rfl) rfl ?_
  refine ev_iadd (pc := 130) (fe_117 rfl) ?_
  refine ev_iload (pc := 131) (fe_117 rfl) rfl ?_
  refine fm_ob h (fun g20 h => ?_)
  refine fm_lt_h h (fun u21 eu21 h => ?_)
  refine ev_iastore (pc := 133) (fe_117 rfl) t_252 g20 eu21 ?_
  refine ev_iinc (pc := 134) (fe_117 rfl) mx_117 rfl rfl li_1 ?_
  refine ev_iinc (pc := 137) (fe_117 rfl) mx_117 rfl rfl li_1 ?_
  refine ev_goto (pc := 140) (fe_117 rfl) (t := 81) rfl ?_
  refine ev_w [true, true, true, true, true, true, true, true, true, false] ?_
  exact ih x1 x2 x3 x4 x5 x6 (x7 + 1) (x8 + 1) u21 hk23 h
theorem jK117_23 {X : Nat × (Nat → Int32)} {r : fm} : ∀ (n : Nat) (x1 : Int32) (x2 : Int32) (x3 : Int32) (u : fm), jF117_23 n x1 x2 x3 u = some r → ev X 117 23 [some (.inr (.inl (some 223))), some (.inl x1), some (.inl x2), some (.inl x3), none, none, none, none, none, none] [] u ([], r) := by
  intro n
  induction n with
  | zero =>
    intro _ _ _ _ h
    unfold jF117_23 at h
    cases h
  | succ n ih =>
  intro x1 x2 x3 u h
  unfold jF117_23 at h
  refine ev_iload_n (pc := 23) (fe_117 rfl) rfl ?_
  refine ev_aload_n (pc := 24) (fe_117 rfl) rfl ?_
  refine ev_getR (a1 := 252) (pc := 25) (fe_117 rfl) fr_138 t_223 rfl ?_
  refine ev_bipush (pc := 28) (fe_117 rfl) lb_12 ?_
  refine ev_ialoadk (pc := 30) (fe_117 rfl) t_252 (by decide) rfl ?_
  refine ev_ic_ge (pc := 31) (fe_117 rfl) (t := 249) rfl h (fun h => ?_) (fun h => ?_)
  exact ev_R (ev_vrt (pc := 249) (fe_117 rfl) rt_117) (by rw [← Option.some.inj h])
  refine ev_bipush (pc := 34) (fe_117 rfl) lb_13 ?_
  refine ev_bipush (pc := 36) (fe_117 rfl) lb_10 ?_
  refine ev_iload_n (pc := 38) (fe_117 rfl) rfl ?_
  refine ev_imul (pc := 39) (fe_117 rfl) ?_
  refine ev_iadd (pc := 40) (fe_117 rfl) ?_
  refine ev_istore (pc := 41) (fe_117 rfl) mx_117 rfl ?_
  refine ev_iload_n (pc := 43) (fe_117 rfl) rfl ?_
  refine ev_iload (pc := 44) (fe_117 rfl) rfl ?_
  refine ev_iadd (pc := 46) (fe_117 rfl) ?_
  refine ev_istore (pc := 47) (fe_117 rfl) mx_117 rfl ?_
  refine ev_iload_n (pc := 49) (fe_117 rfl) rfl ?_
  refine ev_aload_n (pc := 50) (fe_117 rfl) rfl ?_
  refine ev_getR (a1 := 236) (pc := 51) (fe_117 rfl) fr_122 t_223 rfl ?_
  refine ev_iload_n (pc := 54) (fe_117 rfl) rfl ?_
  refine fm_ob h (fun g3 h => ?_)
  refine ev_iaload (pc := 55) (fe_117 rfl) t_236 g3 ?_
  refine ev_ic_ge (pc := 56) (fe_117 rfl) (t := 72) rfl h (fun h => ?_) (fun h => ?_)
  refine ev_iconst (pc := 72) (fe_117 rfl) li_0 ?_
  refine ev_istore (pc := 73) (fe_117 rfl) mx_117 rfl ?_
  refine ev_iconst (pc := 75) (fe_117 rfl) li_0 ?_
  refine ev_istore (pc := 76) (fe_117 rfl) mx_117 rfl ?_
  refine ev_iconst (pc := 78) (fe_117 rfl) li_0 ?_
  refine ev_istore (pc := 79) (fe_117 rfl) mx_117 rfl ?_
  exact jK117_81 fm_N x1 x2 x3 (13 + (10 * x3)) (x2 + (13 + (10 * x3))) 0 0 0 u (fun x1' x2' x3' u' h => ih x1' x2' x3' u' h) h
  refine ev_aload_n (pc := 59) (fe_117 rfl) rfl ?_
  refine ev_getR (a1 := 238) (pc := 60) (fe_117 rfl) fr_124 t_223 rfl ?_
  refine ev_iconst (pc := 63) (fe_117 rfl) li_3 ?_
  refine ev_iload_n (pc := 64) (fe_117 rfl) rfl ?_
  refine ev_imul (pc := 65) (fe_117 rfl) ?_
  refine ev_iload_n (pc := 66) (fe_117 rfl) rfl ?_
  refine ev_iadd (pc := 67) (fe_117 rfl) ?_
  refine fm_ob h (fun g22 h => ?_)
  refine ev_iaload (pc := 68) (fe_117 rfl) t_238 g22 ?_
  refine ev_goto (pc := 69) (fe_117 rfl) (t := 73) rfl ?_
  refine ev_istore (pc := 73) (fe_117 rfl) mx_117 rfl ?_
  refine ev_iconst (pc := 75) (fe_117 rfl) li_0 ?_
  refine ev_istore (pc := 76) (fe_117 rfl) mx_117 rfl ?_
  refine ev_iconst (pc := 78) (fe_117 rfl) li_0 ?_
  refine ev_istore (pc := 79) (fe_117 rfl) mx_117 rfl ?_
  exact jK117_81 fm_N x1 x2 x3 (13 + (10 * x3)) (x2 + (13 + (10 * x3))) (fA u 238 (Int32.toNatClampNeg ((3 * x1) + x3))) 0 0 u (fun x1' x2' x3' u' h => ih x1' x2' x3' u' h) h
theorem jK117 {X : Nat × (Nat → Int32)} {x1 : Int32} {u : fm} {r : fm} (h : jF117 x1 u = some r) : ev X 117 0 [some (.inr (.inl (some 223))), some (.inl x1), none, none, none, none, none, none, none, none] [] u ([], r) := by
  unfold jF117 at h
  refine ev_bipush (pc := 0) (fe_117 rfl) lb_50 ?_
  refine ev_iload_n (pc := 2) (fe_117 rfl) rfl ?_
  refine ev_imul (pc := 3) (fe_117 rfl) ?_
  refine ev_istore_n (pc := 4) (fe_117 rfl) mx_117 rfl ?_
  refine ev_aload_n (pc := 5) (fe_117 rfl) rfl ?_
  refine ev_getR (a1 := 252) (pc := 6) (fe_117 rfl) fr_138 t_223 rfl ?_
  refine ev_bipush (pc := 9) (fe_117 rfl) lb_12 ?_
  refine ev_aload_n (pc := 11) (fe_117 rfl) rfl ?_
  refine ev_getR (a1 := 243) (pc := 12) (fe_117 rfl) fr_129 t_223 rfl ?_
  refine ev_iload_n (pc := 15) (fe_117 rfl) rfl ?_
  refine ev_bipush (pc := 16) (fe_117 rfl) lb_12 ?_
  refine ev_iadd (pc := 18) (fe_117 rfl) ?_
  refine fm_ob h (fun g1 h => ?_)
  refine ev_iaload (pc := 19) (fe_117 rfl) t_243 g1 ?_
  refine fm_lt_h h (fun u2 eu2 h => ?_)
  refine ev_iastorek (pc := 20) (fe_117 rfl) t_252 (by decide) rfl eu2 ?_
  refine ev_iconst (pc := 21) (fe_117 rfl) li_0 ?_
  refine ev_istore_n (pc := 22) (fe_117 rfl) mx_117 rfl ?_
  exact jK117_23 fm_N x1 (50 * x1) 0 u2 h
/-- CallAgentsModel agree -/
def jF118_12 : Nat → Int32 → Nat → Int32 → fm → Option (fm)
  | 0, _, _, _, _ => none
  | n + 1, x1, a2, x3, u =>
  if x3 < 30 then
  (if fm_in (13 + x3) (fm_ln a2) then if fm_in ((30 * x1) + x3) 60 then fm_let (sA u 247 (Int32.toNatClampNeg ((30 * x1) + x3)) (fA u a2 (Int32.toNatClampNeg (13 + x3)))) (fun u6 => jF118_12 n x1 a2 (x3 + 1) u6) else none else none)
  else
  (some u)
def jF118 (x1 : Int32) (a2 : Nat) (u : fm) : Option (fm) :=
  if fm_in 12 (fm_ln a2) then if fm_in x1 2 then fm_let (sA u 246 (Int32.toNatClampNeg x1) (fA u a2 12)) (fun u3 => jF118_12 fm_N x1 a2 0 u3) else none else none
theorem jK118_12 {X : Nat × (Nat → Int32)} {r : fm} : ∀ (n : Nat) (x1 : Int32) (a2 : Nat) (x3 : Int32) (u : fm) (h2 : fm_isIA a2), jF118_12 n x1 a2 x3 u = some r → ev X 118 12 [some (.inr (.inl (some 223))), some (.inl x1), some (.inr (.inl (some a2))), some (.inl x3)] [] u ([], r) := by
  intro n
  induction n with
  | zero =>
    intro _ _ _ _ _ h
    unfold jF118_12 at h
    cases h
  | succ n ih =>
  intro x1 a2 x3 u h2 h
  unfold jF118_12 at h
  refine ev_iload_n (pc := 12) (fe_118 rfl) rfl ?_
  refine ev_bipush (pc := 13) (fe_118 rfl) lb_30 ?_
  refine ev_ic_ge (pc := 15) (fe_118 rfl) (t := 41) rfl h (fun h => ?_) (fun h => ?_)
  exact ev_R (ev_vrt (pc := 41) (fe_118 rfl) rt_118) (by rw [← Option.some.inj h])
  refine ev_aload_n (pc := 18) (fe_118 rfl) rfl ?_
  refine ev_getR (a1 := 247) (pc := 19) (fe_118 rfl) fr_133 t_223 rfl ?_
  refine ev_bipush (pc := 22) (fe_118 rfl) lb_30 ?_
  refine ev_iload_n (pc := 24) (fe_118 rfl) rfl ?_
  refine ev_imul (pc := 25) (fe_118 rfl) ?_
  refine ev_iload_n (pc := 26) (fe_118 rfl) rfl ?_
  refine ev_iadd (pc := 27) (fe_118 rfl) ?_
  refine ev_aload_n (pc := 28) (fe_118 rfl) rfl ?_
  refine ev_bipush (pc := 29) (fe_118 rfl) lb_13 ?_
  refine ev_iload_n (pc := 31) (fe_118 rfl) rfl ?_
  refine ev_iadd (pc := 32) (fe_118 rfl) ?_
  refine fm_ob h (fun g4 h => ?_)
  refine ev_iaload (pc := 33) (fe_118 rfl) h2 g4 ?_
  refine fm_ob h (fun g5 h => ?_)
  refine fm_lt_h h (fun u6 eu6 h => ?_)
  refine ev_iastore (pc := 34) (fe_118 rfl) t_247 g5 eu6 ?_
  refine ev_iinc (pc := 35) (fe_118 rfl) mx_118 rfl rfl li_1 ?_
  refine ev_goto (pc := 38) (fe_118 rfl) (t := 12) rfl ?_
  exact ih x1 a2 (x3 + 1) u6 h2 h
theorem jK118 {X : Nat × (Nat → Int32)} {x1 : Int32} {a2 : Nat} {u : fm} {r : fm} (h2 : fm_isIA a2) (h : jF118 x1 a2 u = some r) : ev X 118 0 [some (.inr (.inl (some 223))), some (.inl x1), some (.inr (.inl (some a2))), none] [] u ([], r) := by
  unfold jF118 at h
  refine ev_aload_n (pc := 0) (fe_118 rfl) rfl ?_
  refine ev_getR (a1 := 246) (pc := 1) (fe_118 rfl) fr_132 t_223 rfl ?_
  refine ev_iload_n (pc := 4) (fe_118 rfl) rfl ?_
  refine ev_aload_n (pc := 5) (fe_118 rfl) rfl ?_
  refine ev_bipush (pc := 6) (fe_118 rfl) lb_12 ?_
  refine fm_ob h (fun g1 h => ?_)
  refine ev_ialoadk (pc := 8) (fe_118 rfl) h2 g1 rfl ?_
  refine fm_ob h (fun g2 h => ?_)
  refine fm_lt_h h (fun u3 eu3 h => ?_)
  refine ev_iastore (pc := 9) (fe_118 rfl) t_246 g2 eu3 ?_
  refine ev_iconst (pc := 10) (fe_118 rfl) li_0 ?_
  refine ev_istore_n (pc := 11) (fe_118 rfl) mx_118 rfl ?_
  exact jK118_12 fm_N x1 a2 0 u3 h2 h
/-- CallAgentsModel keepAgain -/
def jF119_2 : Nat → Int32 → Int32 → fm → Option (fm)
  | 0, _, _, _ => none
  | n + 1, x1, x2, u =>
  if x2 < 50 then
  (if fm_in x2 50 then if fm_in ((50 * x1) + x2) 100 then fm_let (sA u 244 (Int32.toNatClampNeg ((50 * x1) + x2)) (fA u 252 (Int32.toNatClampNeg x2))) (fun u3 => jF119_2 n x1 (x2 + 1) u3) else none else none)
  else
  (some u)
def jF119 (x1 : Int32) (u : fm) : Option (fm) :=
  jF119_2 fm_N x1 0 u
theorem jK119_2 {X : Nat × (Nat → Int32)} {r : fm} : ∀ (n : Nat) (x1 : Int32) (x2 : Int32) (u : fm), jF119_2 n x1 x2 u = some r → ev X 119 2 [some (.inr (.inl (some 223))), some (.inl x1), some (.inl x2)] [] u ([], r) := by
  intro n
  induction n with
  | zero =>
    intro _ _ _ h
    unfold jF119_2 at h
    cases h
  | succ n ih =>
  intro x1 x2 u h
  unfold jF119_2 at h
  refine ev_iload_n (pc := 2) (fe_119 rfl) rfl ?_
  refine ev_bipush (pc := 3) (fe_119 rfl) lb_50 ?_
  refine ev_ic_ge (pc := 5) (fe_119 rfl) (t := 31) rfl h (fun h => ?_) (fun h => ?_)
  exact ev_R (ev_vrt (pc := 31) (fe_119 rfl) rt_119) (by rw [← Option.some.inj h])
  refine ev_aload_n (pc := 8) (fe_119 rfl) rfl ?_
  refine ev_getR (a1 := 244) (pc := 9) (fe_119 rfl) fr_130 t_223 rfl ?_
  refine ev_bipush (pc := 12) (fe_119 rfl) lb_50 ?_
  refine ev_iload_n (pc := 14) (fe_119 rfl) rfl ?_
  refine ev_imul (pc := 15) (fe_119 rfl) ?_
  refine ev_iload_n (pc := 16) (fe_119 rfl) rfl ?_
  refine ev_iadd (pc := 17) (fe_119 rfl) ?_
  refine ev_aload_n (pc := 18) (fe_119 rfl) rfl ?_
  refine ev_getR (a1 := 252) (pc := 19) (fe_119 rfl) fr_138 t_223 rfl ?_
  refine ev_iload_n (pc := 22) (fe_119 rfl) rfl ?_
  refine fm_ob h (fun g1 h => ?_)
  refine ev_iaload (pc := 23) (fe_119 rfl) t_252 g1 ?_
  refine fm_ob h (fun g2 h => ?_)
  refine fm_lt_h h (fun u3 eu3 h => ?_)
  refine ev_iastore (pc := 24) (fe_119 rfl) t_244 g2 eu3 ?_
  refine ev_iinc (pc := 25) (fe_119 rfl) mx_119 rfl rfl li_1 ?_
  refine ev_goto (pc := 28) (fe_119 rfl) (t := 2) rfl ?_
  exact ih x1 (x2 + 1) u3 h
theorem jK119 {X : Nat × (Nat → Int32)} {x1 : Int32} {u : fm} {r : fm} (h : jF119 x1 u = some r) : ev X 119 0 [some (.inr (.inl (some 223))), some (.inl x1), none] [] u ([], r) := by
  unfold jF119 at h
  refine ev_iconst (pc := 0) (fe_119 rfl) li_0 ?_
  refine ev_istore_n (pc := 1) (fe_119 rfl) mx_119 rfl ?_
  exact jK119_2 fm_N x1 0 u h
/-- CallAgentsModel accept -/
def jF120 (x1 : Int32) (u : fm) : Option (Int32 × fm) :=
  if (jF105 x1) = 0 then
  (some (0, u))
  else
  (if fm_in x1 2 then if (fA u 225 (Int32.toNatClampNeg x1)) = 5 then
  (Option.bind (jF114 x1 4 243 (50 * x1) (fA u 226 (Int32.toNatClampNeg x1)) u) (fun p3 => Option.bind (jF117 x1 p3) (fun p4 => Option.bind (jF118 x1 252 p4) (fun p5 => fm_let (sA p5 225 (Int32.toNatClampNeg x1) 6) (fun u6 => Option.bind (jF108 x1 u6) (fun p7 => Option.bind (jF109 252 0 p7) (fun p8 => some (1, p8))))))))
  else
  (some (0, u)) else none)
theorem jK120 {X : Nat × (Nat → Int32)} {x1 : Int32} {u : fm} {r : Int32 × fm} (h : jF120 x1 u = some r) : ev X 120 0 [some (.inr (.inl (some 223))), some (.inl x1)] [] u ([.inl r.1], r.2) := by
  unfold jF120 at h
  refine ev_iload_n (pc := 0) (fe_120 rfl) rfl ?_
  refine ev_callSZk (pc := 1) (fe_120 rfl) (z := 105) (na := 1) (ow := 10) cg_120_137 rt_105 rfl (m := 0) rfl (jK105 rfl) (st1 := [.inl (jF105 x1)]) rfl (fun z1 => ?_)
  refine ev_if_eq (pc := 4) (fe_120 rfl) (t := 17) rfl h (fun h => ?_) (fun h => ?_)
  refine ev_iconst (pc := 17) (fe_120 rfl) li_0 ?_
  exact ev_R (ev_zrt (pc := 18) (fe_120 rfl) rt_120 (Or.inl rfl)) (by rw [← Option.some.inj h])
  refine ev_aload_n (pc := 7) (fe_120 rfl) rfl ?_
  refine ev_getR (a1 := 225) (pc := 8) (fe_120 rfl) fr_111 t_223 rfl ?_
  refine ev_iload_n (pc := 11) (fe_120 rfl) rfl ?_
  refine fm_ob h (fun g2 h => ?_)
  refine ev_iaload (pc := 12) (fe_120 rfl) t_225 g2 ?_
  refine ev_iconst (pc := 13) (fe_120 rfl) li_5 ?_
  refine ev_ic_eq (pc := 14) (fe_120 rfl) (t := 19) rfl h (fun h => ?_) (fun h => ?_)
  refine ev_aload_n (pc := 19) (fe_120 rfl) rfl ?_
  refine ev_iload_n (pc := 20) (fe_120 rfl) rfl ?_
  refine ev_iconst (pc := 21) (fe_120 rfl) li_4 ?_
  refine ev_aload_n (pc := 22) (fe_120 rfl) rfl ?_
  refine ev_getR (a1 := 243) (pc := 23) (fe_120 rfl) fr_129 t_223 rfl ?_
  refine ev_bipush (pc := 26) (fe_120 rfl) lb_50 ?_
  refine ev_iload_n (pc := 28) (fe_120 rfl) rfl ?_
  refine ev_imul (pc := 29) (fe_120 rfl) ?_
  refine ev_aload_n (pc := 30) (fe_120 rfl) rfl ?_
  refine ev_getR (a1 := 226) (pc := 31) (fe_120 rfl) fr_112 t_223 rfl ?_
  refine ev_iload_n (pc := 34) (fe_120 rfl) rfl ?_
  refine ev_iaload (pc := 35) (fe_120 rfl) t_226 g2 ?_
  refine fm_bd h (fun p3 ep3 h => ?_)
  refine ev_callVk (pc := 36) (fe_120 rfl) (z := 114) (na := 6) (ow := 10) cg_120_144 rfl rfl rfl t_223 (m := 1) rfl (jK114 t_243 ep3) (st1 := []) rfl ?_
  refine ev_aload_n (pc := 39) (fe_120 rfl) rfl ?_
  refine ev_iload_n (pc := 40) (fe_120 rfl) rfl ?_
  refine fm_bd h (fun p4 ep4 h => ?_)
  refine ev_callVk (pc := 41) (fe_120 rfl) (z := 117) (na := 2) (ow := 10) cg_120_145 rfl rfl rfl t_223 (m := 8) rfl (jK117 ep4) (st1 := []) rfl ?_
  refine ev_aload_n (pc := 44) (fe_120 rfl) rfl ?_
  refine ev_iload_n (pc := 45) (fe_120 rfl) rfl ?_
  refine ev_aload_n (pc := 46) (fe_120 rfl) rfl ?_
  refine ev_getR (a1 := 252) (pc := 47) (fe_120 rfl) fr_138 t_223 rfl ?_
  refine fm_bd h (fun p5 ep5 h => ?_)
  refine ev_callVk (pc := 50) (fe_120 rfl) (z := 118) (na := 3) (ow := 10) cg_120_146 rfl rfl rfl t_223 (m := 1) rfl (jK118 t_252 ep5) (st1 := []) rfl ?_
  refine ev_aload_n (pc := 53) (fe_120 rfl) rfl ?_
  refine ev_getR (a1 := 225) (pc := 54) (fe_120 rfl) fr_111 t_223 rfl ?_
  refine ev_iload_n (pc := 57) (fe_120 rfl) rfl ?_
  refine ev_bipush (pc := 58) (fe_120 rfl) lb_6 ?_
  refine fm_lt_h h (fun u6 eu6 h => ?_)
  refine ev_iastore (pc := 60) (fe_120 rfl) t_225 g2 eu6 ?_
  refine ev_aload_n (pc := 61) (fe_120 rfl) rfl ?_
  refine ev_iload_n (pc := 62) (fe_120 rfl) rfl ?_
  refine fm_bd h (fun p7 ep7 h => ?_)
  refine ev_callVk (pc := 63) (fe_120 rfl) (z := 108) (na := 2) (ow := 10) cg_120_142 rfl rfl rfl t_223 (m := 1) rfl (jK108 ep7) (st1 := []) rfl ?_
  refine ev_aload_n (pc := 66) (fe_120 rfl) rfl ?_
  refine ev_aload_n (pc := 67) (fe_120 rfl) rfl ?_
  refine ev_getR (a1 := 252) (pc := 68) (fe_120 rfl) fr_138 t_223 rfl ?_
  refine ev_iconst (pc := 71) (fe_120 rfl) li_0 ?_
  refine fm_bd h (fun p8 ep8 h => ?_)
  refine ev_callVk (pc := 72) (fe_120 rfl) (z := 109) (na := 3) (ow := 10) cg_120_143 rfl rfl rfl t_223 (m := 1) rfl (jK109 t_252 ep8) (st1 := []) rfl ?_
  refine ev_iconst (pc := 75) (fe_120 rfl) li_1 ?_
  exact ev_R (ev_zrt (pc := 76) (fe_120 rfl) rt_120 (Or.inr rfl)) (by rw [← Option.some.inj h])
  refine ev_iconst (pc := 17) (fe_120 rfl) li_0 ?_
  exact ev_R (ev_zrt (pc := 18) (fe_120 rfl) rt_120 (Or.inl rfl)) (by rw [← Option.some.inj h])
