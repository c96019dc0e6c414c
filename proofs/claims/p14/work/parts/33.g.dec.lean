set_option maxRecDepth 8000
/-- CallAgentsModel takeSign -/
def jF160 (x1 : Int32) (u : fm) : Option (fm) :=
  if (fI u 223 34) = (-1) then
  (if (fI u 223 33) < (fI u 223 32) then
  (if fm_in (fI u 223 33) 500 then if (fA u 253 (Int32.toNatClampNeg (fI u 223 33))) = x1 then
  (fm_let (sI u 223 33 ((fI u 223 33) + 1)) (fun u4 => some u4))
  else
  (fm_let (jF157 (fI u 223 33) u) (fun p3 => some p3)) else none)
  else
  (fm_let (jF157 (fI u 223 33) u) (fun p1 => some p1)))
  else
  (some u)
theorem jK160 {X : Nat × (Nat → Int32)} {x1 : Int32} {u : fm} {r : fm} (h : jF160 x1 u = some r) : ev X 160 0 [some (.inr (.inl (some 223))), some (.inl x1)] [] u ([], r) := by
  unfold jF160 at h
  refine ev_aload_n (pc := 0) (fe_160 rfl) rfl ?_
  refine ev_getI (pc := 1) (fe_160 rfl) fr_146 t_223 ?_
  refine ev_iconst (pc := 4) (fe_160 rfl) li_m1 ?_
  refine ev_ic_eq (pc := 5) (fe_160 rfl) (t := 9) rfl h (fun h => ?_) (fun h => ?_)
  refine ev_aload_n (pc := 9) (fe_160 rfl) rfl ?_
  refine ev_getI (pc := 10) (fe_160 rfl) fr_147 t_223 ?_
  refine ev_aload_n (pc := 13) (fe_160 rfl) rfl ?_
  refine ev_getI (pc := 14) (fe_160 rfl) fr_145 t_223 ?_
  refine ev_ic_ge (pc := 17) (fe_160 rfl) (t := 46) rfl h (fun h => ?_) (fun h => ?_)
  refine ev_aload_n (pc := 46) (fe_160 rfl) rfl ?_
  refine ev_aload_n (pc := 47) (fe_160 rfl) rfl ?_
  refine ev_getI (pc := 48) (fe_160 rfl) fr_147 t_223 ?_
  refine fm_lt_h h (fun p1 ep1 h => ?_)
  refine ev_callVk (pc := 51) (fe_160 rfl) (z := 157) (na := 2) (ow := 10) cg_160_176 rfl rfl rfl t_223 (m := 0) rfl (jK157 ep1) (st1 := []) rfl ?_
  exact ev_R (ev_vrt (pc := 54) (fe_160 rfl) rt_160) (by rw [← Option.some.inj h])
  refine ev_aload_n (pc := 20) (fe_160 rfl) rfl ?_
  refine ev_getR (a1 := 253) (pc := 21) (fe_160 rfl) fr_139 t_223 rfl ?_
  refine ev_aload_n (pc := 24) (fe_160 rfl) rfl ?_
  refine ev_getI (pc := 25) (fe_160 rfl) fr_147 t_223 ?_
  refine fm_ob h (fun g2 h => ?_)
  refine ev_iaload (pc := 28) (fe_160 rfl) t_253 g2 ?_
  refine ev_iload_n (pc := 29) (fe_160 rfl) rfl ?_
  refine ev_ic_ne (pc := 30) (fe_160 rfl) (t := 46) rfl h (fun h => ?_) (fun h => ?_)
  refine ev_aload_n (pc := 46) (fe_160 rfl) rfl ?_
  refine ev_aload_n (pc := 47) (fe_160 rfl) rfl ?_
  refine ev_getI (pc := 48) (fe_160 rfl) fr_147 t_223 ?_
  refine fm_lt_h h (fun p3 ep3 h => ?_)
  refine ev_callVk (pc := 51) (fe_160 rfl) (z := 157) (na := 2) (ow := 10) cg_160_176 rfl rfl rfl t_223 (m := 0) rfl (jK157 ep3) (st1 := []) rfl ?_
  exact ev_R (ev_vrt (pc := 54) (fe_160 rfl) rt_160) (by rw [← Option.some.inj h])
  refine ev_aload_n (pc := 33) (fe_160 rfl) rfl ?_
  refine ev_dup (pc := 34) (fe_160 rfl) rfl ?_
  refine ev_getI (pc := 35) (fe_160 rfl) fr_147 t_223 ?_
  refine ev_iconst (pc := 38) (fe_160 rfl) li_1 ?_
  refine ev_iadd (pc := 39) (fe_160 rfl) ?_
  refine fm_lt_h h (fun u4 eu4 h => ?_)
  refine ev_putI (pc := 40) (fe_160 rfl) fr_147 t_223 eu4 ?_
  refine ev_goto (pc := 43) (fe_160 rfl) (t := 54) rfl ?_
  exact ev_R (ev_vrt (pc := 54) (fe_160 rfl) rt_160) (by rw [← Option.some.inj h])
  exact ev_R (ev_vrt (pc := 8) (fe_160 rfl) rt_160) (by rw [← Option.some.inj h])
/-- CallAgentsModel take10 -/
def jF159 (u : fm) : Option (fm) :=
  Option.bind (jF160 10 u) (fun p1 => some p1)
theorem jK159 {X : Nat × (Nat → Int32)} {u : fm} {r : fm} (h : jF159 u = some r) : ev X 159 0 [some (.inr (.inl (some 223)))] [] u ([], r) := by
  unfold jF159 at h
  refine ev_aload_n (pc := 0) (fe_159 rfl) rfl ?_
  refine ev_bipush (pc := 1) (fe_159 rfl) lb_10 ?_
  refine fm_bd h (fun p1 ep1 h => ?_)
  refine ev_callVk (pc := 3) (fe_159 rfl) (z := 160) (na := 2) (ow := 10) cg_159_177 rfl rfl rfl t_223 (m := 0) rfl (jK160 ep1) (st1 := []) rfl ?_
  exact ev_R (ev_vrt (pc := 6) (fe_159 rfl) rt_159) (by rw [← Option.some.inj h])
/-- CallAgentsModel digit -/
def jF161 (x1 : Int32) (x2 : Int32) (u : fm) : Option (Int32 × fm) :=
  if (fI u 223 34) = (-1) then
  (if (fI u 223 33) < (fI u 223 32) then
  (if fm_in (fI u 223 33) 500 then if (fA u 253 (Int32.toNatClampNeg (fI u 223 33))) < (48 + x1) then
  (fm_let (jF157 (fI u 223 33) u) (fun p3 => some (0, p3)))
  else
  (if (48 + x2) < (fA u 253 (Int32.toNatClampNeg (fI u 223 33))) then
  (fm_let (jF157 (fI u 223 33) u) (fun p4 => some (0, p4)))
  else
  (fm_let (sI u 223 33 ((fI u 223 33) + 1)) (fun u5 => if fm_in ((fI u5 223 33) - 1) 500 then some ((fA u5 253 (Int32.toNatClampNeg ((fI u5 223 33) - 1))) - 48, u5) else none))) else none)
  else
  (fm_let (jF157 (fI u 223 33) u) (fun p1 => some (0, p1))))
  else
  (some (0, u))
theorem jK161 {X : Nat × (Nat → Int32)} {x1 : Int32} {x2 : Int32} {u : fm} {r : Int32 × fm} (h : jF161 x1 x2 u = some r) : ev X 161 0 [some (.inr (.inl (some 223))), some (.inl x1), some (.inl x2)] [] u ([.inl r.1], r.2) := by
  unfold jF161 at h
  refine ev_aload_n (pc := 0) (fe_161 rfl) rfl ?_
  refine ev_getI (pc := 1) (fe_161 rfl) fr_146 t_223 ?_
  refine ev_iconst (pc := 4) (fe_161 rfl) li_m1 ?_
  refine ev_ic_eq (pc := 5) (fe_161 rfl) (t := 10) rfl h (fun h => ?_) (fun h => ?_)
  refine ev_aload_n (pc := 10) (fe_161 rfl) rfl ?_
  refine ev_getI (pc := 11) (fe_161 rfl) fr_147 t_223 ?_
  refine ev_aload_n (pc := 14) (fe_161 rfl) rfl ?_
  refine ev_getI (pc := 15) (fe_161 rfl) fr_145 t_223 ?_
  refine ev_ic_ge (pc := 18) (fe_161 rfl) (t := 78) rfl h (fun h => ?_) (fun h => ?_)
  refine ev_aload_n (pc := 78) (fe_161 rfl) rfl ?_
  refine ev_aload_n (pc := 79) (fe_161 rfl) rfl ?_
  refine ev_getI (pc := 80) (fe_161 rfl) fr_147 t_223 ?_
  refine fm_lt_h h (fun p1 ep1 h => ?_)
  refine ev_callVk (pc := 83) (fe_161 rfl) (z := 157) (na := 2) (ow := 10) cg_161_176 rfl rfl rfl t_223 (m := 0) rfl (jK157 ep1) (st1 := []) rfl ?_
  refine ev_iconst (pc := 86) (fe_161 rfl) li_0 ?_
  exact ev_R (ev_irt (pc := 87) (fe_161 rfl) rt_161) (by rw [← Option.some.inj h])
  refine ev_aload_n (pc := 21) (fe_161 rfl) rfl ?_
  refine ev_getR (a1 := 253) (pc := 22) (fe_161 rfl) fr_139 t_223 rfl ?_
  refine ev_aload_n (pc := 25) (fe_161 rfl) rfl ?_
  refine ev_getI (pc := 26) (fe_161 rfl) fr_147 t_223 ?_
  refine fm_ob h (fun g2 h => ?_)
  refine ev_iaload (pc := 29) (fe_161 rfl) t_253 g2 ?_
  refine ev_bipush (pc := 30) (fe_161 rfl) lb_48 ?_
  refine ev_iload_n (pc := 32) (fe_161 rfl) rfl ?_
  refine ev_iadd (pc := 33) (fe_161 rfl) ?_
  refine ev_ic_lt (pc := 34) (fe_161 rfl) (t := 78) rfl h (fun h => ?_) (fun h => ?_)
  refine ev_aload_n (pc := 78) (fe_161 rfl) rfl ?_
  refine ev_aload_n (pc := 79) (fe_161 rfl) rfl ?_
  refine ev_getI (pc := 80) (fe_161 rfl) fr_147 t_223 ?_
  refine fm_lt_h h (fun p3 ep3 h => ?_)
  refine ev_callVk (pc := 83) (fe_161 rfl) (z := 157) (na := 2) (ow := 10) cg_161_176 rfl rfl rfl t_223 (m := 0) rfl (jK157 ep3) (st1 := []) rfl ?_
  refine ev_iconst (pc := 86) (fe_161 rfl) li_0 ?_
  exact ev_R (ev_irt (pc := 87) (fe_161 rfl) rt_161) (by rw [← Option.some.inj h])
  refine ev_aload_n (pc := 37) (fe_161 rfl) rfl ?_
  refine ev_getR (a1 := 253) (pc := 38) (fe_161 rfl) fr_139 t_223 rfl ?_
  refine ev_aload_n (pc := 41) (fe_161 rfl) rfl ?_
  refine ev_getI (pc := 42) (fe_161 rfl) fr_147 t_223 ?_
  refine ev_iaload (pc := 45) (fe_161 rfl) t_253 g2 ?_
  refine ev_bipush (pc := 46) (fe_161 rfl) lb_48 ?_
  refine ev_iload_n (pc := 48) (fe_161 rfl) rfl ?_
  refine ev_iadd (pc := 49) (fe_161 rfl) ?_
  refine ev_ic_gt (pc := 50) (fe_161 rfl) (t := 78) rfl h (fun h => ?_) (fun h => ?_)
  refine ev_aload_n (pc := 78) (fe_161 rfl) rfl ?_
  refine ev_aload_n (pc := 79) (fe_161 rfl) rfl ?_
  refine ev_getI (pc := 80) (fe_161 rfl) fr_147 t_223 ?_
  refine fm_lt_h h (fun p4 ep4 h => ?_)
  refine ev_callVk (pc := 83) (fe_161 rfl) (z := 157) (na := 2) (ow := 10) cg_161_176 rfl rfl rfl t_223 (m := 0) rfl (jK157 ep4) (st1 := []) rfl ?_
  refine ev_iconst (pc := 86) (fe_161 rfl) li_0 ?_
  exact ev_R (ev_irt (pc := 87) (fe_161 rfl) rt_161) (by rw [← Option.some.inj h])
  refine ev_aload_n (pc := 53) (fe_161 rfl) rfl ?_
  refine ev_dup (pc := 54) (fe_161 rfl) rfl ?_
  refine ev_getI (pc := 55) (fe_161 rfl) fr_147 t_223 ?_
  refine ev_iconst (pc := 58) (fe_161 rfl) li_1 ?_
  refine ev_iadd (pc := 59) (fe_161 rfl) ?_
  refine fm_lt_h h (fun u5 eu5 h => ?_)
  refine ev_putI (pc := 60) (fe_161 rfl) fr_147 t_223 eu5 ?_
  refine ev_aload_n (pc := 63) (fe_161 rfl) rfl ?_
  refine ev_getR (a1 := 253) (pc := 64) (fe_161 rfl) fr_139 t_223 rfl ?_
  refine ev_aload_n (pc := 67) (fe_161 rfl) rfl ?_
  refine ev_getI (pc := 68) (fe_161 rfl) fr_147 t_223 ?_
  refine ev_iconst (pc := 71) (fe_161 rfl) li_1 ?_
  refine ev_isub (pc := 72) (fe_161 rfl) ?_
  refine fm_ob h (fun g6 h => ?_)
  refine ev_iaload (pc := 73) (fe_161 rfl) t_253 g6 ?_
  refine ev_bipush (pc := 74) (fe_161 rfl) lb_48 ?_
  refine ev_isub (pc := 76) (fe_161 rfl) ?_
  exact ev_R (ev_irt (pc := 77) (fe_161 rfl) rt_161) (by rw [← Option.some.inj h])
  refine ev_iconst (pc := 8) (fe_161 rfl) li_0 ?_
  exact ev_R (ev_irt (pc := 9) (fe_161 rfl) rt_161) (by rw [← Option.some.inj h])
/-- CallAgentsModel number -/
def jF162_102 (x1 : Int32) (x2 : Int32) (x3 : Int32) (x4 : Int32) (u : fm) : Option (Int32 × fm) :=
  if (fI u 223 34) = (-1) then
  (if x4 = 0 then
  (fm_let (jF157 x2 u) (fun p1 => some (x3, p1)))
  else
  (if 9 < x4 then
  (fm_let (jF157 x2 u) (fun p2 => some (x3, p2)))
  else
  (if 1 < x4 then
  (if fm_in x2 500 then if (fA u 253 (Int32.toNatClampNeg x2)) = 48 then
  (fm_let (jF157 x2 u) (fun p5 => some (x3, p5)))
  else
  (if x1 < x3 then
  (fm_let (jF157 x2 u) (fun p6 => some (x3, p6)))
  else
  (some (x3, u))) else none)
  else
  (if x1 < x3 then
  (fm_let (jF157 x2 u) (fun p3 => some (x3, p3)))
  else
  (some (x3, u))))))
  else
  (some (x3, u))
def jF162_10 : Nat → Int32 → Int32 → Int32 → Int32 → fm → Option (Int32 × fm)
  | 0, _, _, _, _, _ => none
  | n + 1, x1, x2, x3, x4, u =>
  if (fI u 223 34) = (-1) then
  (if (fI u 223 33) < (fI u 223 32) then
  (if fm_in (fI u 223 33) 500 then if (fA u 253 (Int32.toNatClampNeg (fI u 223 33))) < 48 then
  (jF162_102 x1 x2 x3 x4 u)
  else
  (if 57 < (fA u 253 (Int32.toNatClampNeg (fI u 223 33))) then
  (jF162_102 x1 x2 x3 x4 u)
  else
  (if x4 < 9 then
  (fm_let (sI u 223 33 ((fI u 223 33) + 1)) (fun u9 => jF162_10 n x1 x2 (((10 * x3) + (fA u 253 (Int32.toNatClampNeg (fI u 223 33)))) - 48) (x4 + 1) u9))
  else
  (fm_let (sI u 223 33 ((fI u 223 33) + 1)) (fun u8 => jF162_10 n x1 x2 x3 (x4 + 1) u8)))) else none)
  else
  (jF162_102 x1 x2 x3 x4 u))
  else
  (jF162_102 x1 x2 x3 x4 u)
def jF162 (x1 : Int32) (u : fm) : Option (Int32 × fm) :=
  jF162_10 fm_N x1 (fI u 223 33) 0 0 u
theorem jK162_102 {X : Nat × (Nat → Int32)} {r : Int32 × fm} (x1 : Int32) (x2 : Int32) (x3 : Int32) (x4 : Int32) (u : fm) (h : jF162_102 x1 x2 x3 x4 u = some r) : ev X 162 102 [some (.inr (.inl (some 223))), some (.inl x1), some (.inl x2), some (.inl x3), some (.inl x4)] [] u ([.inl r.1], r.2) := by
  unfold jF162_102 at h
  refine ev_aload_n (pc := 102) (fe_162 rfl) rfl ?_
  refine ev_getI (pc := 103) (fe_162 rfl) fr_146 t_223 ?_
  refine ev_iconst (pc := 106) (fe_162 rfl) li_m1 ?_
  refine ev_ic_ne (pc := 107) (fe_162 rfl) (t := 149) rfl h (fun h => ?_) (fun h => ?_)
  refine ev_iload_n (pc := 149) (fe_162 rfl) rfl ?_
  exact ev_R (ev_irt (pc := 150) (fe_162 rfl) rt_162) (by rw [← Option.some.inj h])
  refine ev_iload (pc := 110) (fe_162 rfl) rfl ?_
  refine ev_if_eq (pc := 112) (fe_162 rfl) (t := 144) rfl h (fun h => ?_) (fun h => ?_)
  refine ev_aload_n (pc := 144) (fe_162 rfl) rfl ?_
  refine ev_iload_n (pc := 145) (fe_162 rfl) rfl ?_
  refine fm_lt_h h (fun p1 ep1 h => ?_)
  refine ev_callVk (pc := 146) (fe_162 rfl) (z := 157) (na := 2) (ow := 10) cg_162_176 rfl rfl rfl t_223 (m := 0) rfl (jK157 ep1) (st1 := []) rfl ?_
  refine ev_iload_n (pc := 149) (fe_162 rfl) rfl ?_
  exact ev_R (ev_irt (pc := 150) (fe_162 rfl) rt_162) (by rw [← Option.some.inj h])
  refine ev_iload (pc := 115) (fe_162 rfl) rfl ?_
  refine ev_bipush (pc := 117) (fe_162 rfl) lb_9 ?_
  refine ev_ic_gt (pc := 119) (fe_162 rfl) (t := 144) rfl h (fun h => ?_) (fun h => ?_)
  refine ev_aload_n (pc := 144) (fe_162 rfl) rfl ?_
  refine ev_iload_n (pc := 145) (fe_162 rfl) rfl ?_
  refine fm_lt_h h (fun p2 ep2 h => ?_)
  refine ev_callVk (pc := 146) (fe_162 rfl) (z := 157) (na := 2) (ow := 10) cg_162_176 rfl rfl rfl t_223 (m := 0) rfl (jK157 ep2) (st1 := []) rfl ?_
  refine ev_iload_n (pc := 149) (fe_162 rfl) rfl ?_
  exact ev_R (ev_irt (pc := 150) (fe_162 rfl) rt_162) (by rw [← Option.some.inj h])
  refine ev_iload (pc := 122) (fe_162 rfl) rfl ?_
  refine ev_iconst (pc := 124) (fe_162 rfl) li_1 ?_
  refine ev_ic_le (pc := 125) (fe_162 rfl) (t := 139) rfl h (fun h => ?_) (fun h => ?_)
  refine ev_iload_n (pc := 139) (fe_162 rfl) rfl ?_
  refine ev_iload_n (pc := 140) (fe_162 rfl) rfl ?_
  refine ev_ic_le (pc := 141) (fe_162 rfl) (t := 149) rfl h (fun h => ?_) (fun h => ?_)
  refine ev_iload_n (pc := 149) (fe_162 rfl) rfl ?_
  exact ev_R (ev_irt (pc := 150) (fe_162 rfl) rt_162) (by rw [← Option.some.inj h])
  refine ev_aload_n (pc := 144) (fe_162 rfl) rfl ?_
  refine ev_iload_n (pc := 145) (fe_162 rfl) rfl ?_
  refine fm_lt_h h (fun p3 ep3 h => ?_)
  refine ev_callVk (pc := 146) (fe_162 rfl) (z := 157) (na := 2) (ow := 10) cg_162_176 rfl rfl rfl t_223 (m := 0) rfl (jK157 ep3) (st1 := []) rfl ?_
  refine ev_iload_n (pc := 149) (fe_162 rfl) rfl ?_
  exact ev_R (ev_irt (pc := 150) (fe_162 rfl) rt_162) (by rw [← Option.some.inj h])
  refine ev_aload_n (pc := 128) (fe_162 rfl) rfl ?_
  refine ev_getR (a1 := 253) (pc := 129) (fe_162 rfl) fr_139 t_223 rfl ?_
  refine ev_iload_n (pc := 132) (fe_162 rfl) rfl ?_
  refine fm_ob h (fun g4 h => ?_)
  refine ev_iaload (pc := 133) (fe_162 rfl) t_253 g4 ?_
  refine ev_bipush (pc := 134) (fe_162 rfl) lb_48 ?_
  refine ev_ic_eq (pc := 136) (fe_162 rfl) (t := 144) rfl h (fun h => ?_) (fun h => ?_)
  refine ev_aload_n (pc := 144) (fe_162 rfl) rfl ?_
  refine ev_iload_n (pc := 145) (fe_162 rfl) rfl ?_
  refine fm_lt_h h (fun p5 ep5 h => ?_)
  refine ev_callVk (pc := 146) (fe_162 rfl) (z := 157) (na := 2) (ow := 10) cg_162_176 rfl rfl rfl t_223 (m := 0) rfl (jK157 ep5) (st1 := []) rfl ?_
  refine ev_iload_n (pc := 149) (fe_162 rfl) rfl ?_
  exact ev_R (ev_irt (pc := 150) (fe_162 rfl) rt_162) (by rw [← Option.some.inj h])
  refine ev_iload_n (pc := 139) (fe_162 rfl) rfl ?_
  refine ev_iload_n (pc := 140) (fe_162 rfl) rfl ?_
  refine ev_ic_le (pc := 141) (fe_162 rfl) (t := 149) rfl h (fun h => ?_) (fun h => ?_)
  refine ev_iload_n (pc := 149) (fe_162 rfl) rfl ?_
  exact ev_R (ev_irt (pc := 150) (fe_162 rfl) rt_162) (by rw [← Option.some.inj h])
  refine ev_aload_n (pc := 144) (fe_162 rfl) rfl ?_
  refine ev_iload_n (pc := 145) (fe_162 rfl) rfl ?_
  refine fm_lt_h h (fun p6 ep6 h => ?_)
  refine ev_callVk (pc := 146) (fe_162 rfl) (z := 157) (na := 2) (ow := 10) cg_162_176 rfl rfl rfl t_223 (m := 0) rfl (jK157 ep6) (st1 := []) rfl ?_
  refine ev_iload_n (pc := 149) (fe_162 rfl) rfl ?_
  exact ev_R (ev_irt (pc := 150) (fe_162 rfl) rt_162) (by rw [← Option.some.inj h])
theorem jK162_10 {X : Nat × (Nat → Int32)} {r : Int32 × fm} : ∀ (n : Nat) (x1 : Int32) (x2 : Int32) (x3 : Int32) (x4 : Int32) (u : fm), jF162_10 n x1 x2 x3 x4 u = some r → ev X 162 10 [some (.inr (.inl (some 223))), some (.inl x1), some (.inl x2), some (.inl x3), some (.inl x4)] [] u ([.inl r.1], r.2) := by
  intro n
  induction n with
  | zero =>
    intro _ _ _ _ _ h
    unfold jF162_10 at h
    cases h
  | succ n ih =>
  intro x1 x2 x3 x4 u h
  unfold jF162_10 at h
  refine ev_aload_n (pc := 10) (fe_162 rfl) rfl ?_
  refine ev_getI (pc := 11) (fe_162 rfl) fr_146 t_223 ?_
  refine ev_iconst (pc := 14) (fe_162 rfl) li_m1 ?_
  refine ev_ic_ne (pc := 15) (fe_162 rfl) (t := 102) rfl h (fun h => ?_) (fun h => ?_)
  exact jK162_102 x1 x2 x3 x4 u h
  refine ev_aload_n (pc := 18) (fe_162 rfl) rfl ?_
  refine ev_getI (pc := 19) (fe_162 rfl) fr_147 t_223 ?_
  refine ev_aload_n (pc := 22) (fe_162 rfl) rfl ?_
  refine ev_getI (pc := 23) (fe_162 rfl) fr_145 t_223 ?_
  refine ev_ic_ge (pc := 26) (fe_162 rfl) (t := 102) rfl h (fun h => ?_) (fun h => ?_)
  exact jK162_102 x1 x2 x3 x4 u h
  refine ev_aload_n (pc := 29) (fe_162 rfl) rfl ?_
  refine ev_getR (a1 := 253) (pc := 30) (fe_162 rfl) fr_139 t_223 rfl ?_
  refine ev_aload_n (pc := 33) (fe_162 rfl) rfl ?_
  refine ev_getI (pc := 34) (fe_162 rfl) fr_147 t_223 ?_
  refine fm_ob h (fun g7 h => ?_)
  refine ev_iaload (pc := 37) (fe_162 rfl) t_253 g7 ?_
  refine ev_bipush (pc := 38) (fe_162 rfl) lb_48 ?_
  refine ev_ic_lt (pc := 40) (fe_162 rfl) (t := 102) rfl h (fun h => ?_) (fun h => ?_)
  exact jK162_102 x1 x2 x3 x4 u h
  refine ev_aload_n (pc := 43) (fe_162 rfl) rfl ?_
  refine ev_getR (a1 := 253) (pc := 44) (fe_162 rfl) fr_139 t_223 rfl ?_
  refine ev_aload_n (pc := 47) (fe_162 rfl) rfl ?_
  refine ev_getI (pc := 48) (fe_162 rfl) fr_147 t_223 ?_
  refine ev_iaload (pc := 51) (fe_162 rfl) t_253 g7 ?_
  refine ev_bipush (pc := 52) (fe_162 rfl) lb_57 ?_
  refine ev_ic_gt (pc := 54) (fe_162 rfl) (t := 102) rfl h (fun h => ?_) (fun h => ?_)
  exact jK162_102 x1 x2 x3 x4 u h
  refine ev_iload (pc := 57) (fe_162 rfl) rfl ?_
  refine ev_bipush (pc := 59) (fe_162 rfl) lb_9 ?_
  refine ev_ic_ge (pc := 61) (fe_162 rfl) (t := 84) rfl h (fun h => ?_) (fun h => ?_)
  refine ev_iload_n (pc := 84) (fe_162 rfl) rfl ?_
  refine ev_istore_n (pc := 85) (fe_162 rfl) mx_162 rfl ?_
  refine ev_iinc (pc := 86) (fe_162 rfl) mx_162 rfl rfl li_1 ?_
  refine ev_aload_n (pc := 89) (fe_162 rfl) rfl ?_
  refine ev_dup (pc := 90) (fe_162 rfl) rfl ?_
  refine ev_getI (pc := 91) (fe_162 rfl) fr_147 t_223 ?_
  refine ev_iconst (pc := 94) (fe_162 rfl) li_1 ?_
  refine ev_iadd (pc := 95) (fe_162 rfl) ?_
  refine fm_lt_h h (fun u8 eu8 h => ?_)
  refine ev_putI (pc := 96) (fe_162 rfl) fr_147 t_223 eu8 ?_
  refine ev_goto (pc := 99) (fe_162 rfl) (t := 10) rfl ?_
  exact ih x1 x2 x3 (x4 + 1) u8 h
  refine ev_bipush (pc := 64) (fe_162 rfl) lb_10 ?_
  refine ev_iload_n (pc := 66) (fe_162 rfl) rfl ?_
  refine ev_imul (pc := 67) (fe_162 rfl) ?_
  refine ev_aload_n (pc := 68) (fe_162 rfl) rfl ?_
  refine ev_getR (a1 := 253) (pc := 69) (fe_162 rfl) fr_139 t_223 rfl ?_
  refine ev_aload_n (pc := 72) (fe_162 rfl) rfl ?_
  refine ev_getI (pc := 73) (fe_162 rfl) fr_147 t_223 ?_
  refine ev_iaload (pc := 76) (fe_162 rfl) t_253 g7 ?_
  refine ev_iadd (pc := 77) (fe_162 rfl) ?_
  refine ev_bipush (pc := 78) (fe_162 rfl) lb_48 ?_
  refine ev_isub (pc := 80) (fe_162 rfl) ?_
  refine ev_goto (pc := 81) (fe_162 rfl) (t := 85) rfl ?_
  refine ev_istore_n (pc := 85) (fe_162 rfl) mx_162 rfl ?_
  refine ev_iinc (pc := 86) (fe_162 rfl) mx_162 rfl rfl li_1 ?_
  refine ev_aload_n (pc := 89) (fe_162 rfl) rfl ?_
  refine ev_dup (pc := 90) (fe_162 rfl) rfl ?_
  refine ev_getI (pc := 91) (fe_162 rfl) fr_147 t_223 ?_
  refine ev_iconst (pc := 94) (fe_162 rfl) li_1 ?_
  refine ev_iadd (pc := 95) (fe_162 rfl) ?_
  refine fm_lt_h h (fun u9 eu9 h => ?_)
  refine ev_putI (pc := 96) (fe_162 rfl) fr_147 t_223 eu9 ?_
  refine ev_goto (pc := 99) (fe_162 rfl) (t := 10) rfl ?_
  exact ih x1 x2 (((10 * x3) + (fA u 253 (Int32.toNatClampNeg (fI u 223 33)))) - 48) (x4 + 1) u9 h
theorem jK162 {X : Nat × (Nat → Int32)} {x1 : Int32} {u : fm} {r : Int32 × fm} (h : jF162 x1 u = some r) : ev X 162 0 [some (.inr (.inl (some 223))), some (.inl x1), none, none, none] [] u ([.inl r.1], r.2) := by
  unfold jF162 at h
  refine ev_aload_n (pc := 0) (fe_162 rfl) rfl ?_
  refine ev_getI (pc := 1) (fe_162 rfl) fr_147 t_223 ?_
  refine ev_istore_n (pc := 4) (fe_162 rfl) mx_162 rfl ?_
  refine ev_iconst (pc := 5) (fe_162 rfl) li_0 ?_
  refine ev_istore_n (pc := 6) (fe_162 rfl) mx_162 rfl ?_
  refine ev_iconst (pc := 7) (fe_162 rfl) li_0 ?_
  refine ev_istore (pc := 8) (fe_162 rfl) mx_162 rfl ?_
  exact jK162_10 fm_N x1 (fI u 223 33) 0 0 u h
/-- CallAgentsModel which -/
def jF165_2 : Nat → Int32 → Int32 → Option (Int32)
  | 0, _, _ => none
  | n + 1, x0, x1 =>
  if ((fm_shr x0 x1) &&& 1) = 0 then
  (jF165_2 n x0 (x1 + 1))
  else
  (some x1)
def jF165 (x0 : Int32) : Option (Int32) :=
  jF165_2 fm_N x0 0
theorem jK165_2 {X : Nat × (Nat → Int32)} {u : fm} {r : Int32} : ∀ (n : Nat) (x0 : Int32) (x1 : Int32), jF165_2 n x0 x1 = some r → ev X 165 2 [some (.inl x0), some (.inl x1)] [] u ([.inl r], u) := by
  intro n
  induction n with
  | zero =>
    intro _ _ h
    unfold jF165_2 at h
    cases h
  | succ n ih =>
  intro x0 x1 h
  unfold jF165_2 at h
  refine ev_iload_n (pc := 2) (fe_165 rfl) rfl ?_
  refine ev_iload_n (pc := 3) (fe_165 rfl) rfl ?_
  refine ev_ishr (pc := 4) (fe_165 rfl) ?_
  refine ev_iconst (pc := 5) (fe_165 rfl) li_1 ?_
  refine ev_iand (pc := 6) (fe_165 rfl) ?_
  refine ev_if_ne (pc := 7) (fe_165 rfl) (t := 16) rfl h (fun h => ?_) (fun h => ?_)
  refine ev_iload_n (pc := 16) (fe_165 rfl) rfl ?_
  exact ev_R (ev_irt (pc := 17) (fe_165 rfl) rt_165) (by rw [← Option.some.inj h])
  refine ev_iinc (pc := 10) (fe_165 rfl) mx_165 rfl rfl li_1 ?_
  refine ev_goto (pc := 13) (fe_165 rfl) (t := 2) rfl ?_
  exact ih x0 (x1 + 1) h
theorem jK165 {X : Nat × (Nat → Int32)} {x0 : Int32} {u : fm} {r : Int32} (h : jF165 x0 = some r) : ev X 165 0 [some (.inl x0), none] [] u ([.inl r], u) := by
  unfold jF165 at h
  refine ev_iconst (pc := 0) (fe_165 rfl) li_0 ?_
  refine ev_istore_n (pc := 1) (fe_165 rfl) mx_165 rfl ?_
  exact jK165_2 fm_N x0 0 h
/-- CallAgentsModel name -/
def jF164_18 : Nat → (Int32 → Int32 → fm → Option (Int32 × fm)) → Int32 → Int32 → Int32 → Int32 → fm → Option (Int32 × fm)
  | 0, _, _, _, _, _, _ => none
  | n + 1, k5, x1, x2, x3, x4, u =>
  if x4 < 6 then
  (if ((fI u 223 33) + x2) < (fI u 223 32) then
  (if ((fm_shr x1 x4) &&& 1) = 1 then
  (if fm_in ((fI u 223 33) + x2) 500 then if (jF136 (7 + x4) x2) = (fA u 253 (Int32.toNatClampNeg ((fI u 223 33) + x2))) then
  (jF164_18 n k5 x1 x2 (x3 ||| (fm_shl 1 x4)) (x4 + 1) u)
  else
  (jF164_18 n k5 x1 x2 x3 (x4 + 1) u) else none)
  else
  (jF164_18 n k5 x1 x2 x3 (x4 + 1) u))
  else
  (jF164_18 n k5 x1 x2 x3 (x4 + 1) u))
  else
  (if x3 = 0 then
  (fm_let (jF157 ((fI u 223 33) + x2) u) (fun p3 => k5 x3 (x2 + 1) p3))
  else
  (if fm_in ((fI u 223 33) + x2) 500 then if (fA u 253 (Int32.toNatClampNeg ((fI u 223 33) + x2))) = 32 then
  (Option.bind (jF165 x3) (fun p2 => some (p2, u)))
  else
  (k5 x3 (x2 + 1) u) else none))
def jF164_5 : Nat → Int32 → Int32 → fm → Option (Int32 × fm)
  | 0, _, _, _ => none
  | n + 1, x1, x2, u =>
  if (fI u 223 34) = (-1) then
  (jF164_18 fm_N (fun x1' x2' u' => jF164_5 n x1' x2' u') x1 x2 0 0 u)
  else
  (some (0, u))
def jF164 (u : fm) : Option (Int32 × fm) :=
  jF164_5 fm_N 63 0 u
theorem jK164_18 {X : Nat × (Nat → Int32)} {r : Int32 × fm} {k5 : Int32 → Int32 → fm → Option (Int32 × fm)} : ∀ (n : Nat) (x1 : Int32) (x2 : Int32) (x3 : Int32) (x4 : Int32) (u : fm) (hk5 : ∀ (x1 : Int32) (x2 : Int32) (u : fm), k5 x1 x2 u = some r → ev X 164 5 [some (.inr (.inl (some 223))), some (.inl x1), some (.inl x2), none, none, none] [] u ([.inl r.1], r.2)), jF164_18 n k5 x1 x2 x3 x4 u = some r → ev X 164 18 [some (.inr (.inl (some 223))), some (.inl x1), some (.inl x2), some (.inl x3), some (.inl x4), none] [] u ([.inl r.1], r.2) := by
  intro n
  induction n with
  | zero =>
    intro _ _ _ _ _ _ h
    unfold jF164_18 at h
    cases h
  | succ n ih =>
  intro x1 x2 x3 x4 u hk5 h
  unfold jF164_18 at h
  refine ev_iload (pc := 18) (fe_164 rfl) rfl ?_
  refine ev_bipush (pc := 20) (fe_164 rfl) lb_6 ?_
  refine ev_ic_ge (pc := 22) (fe_164 rfl) (t := 100) rfl h (fun h => ?_) (fun h => ?_)
  refine ev_iload_n (pc := 100) (fe_164 rfl) rfl ?_
  refine ev_istore_n (pc := 101) (fe_164 rfl) mx_164 rfl ?_
  refine ev_iload_n (pc := 102) (fe_164 rfl) rfl ?_
  refine ev_if_ne (pc := 103) (fe_164 rfl) (t := 119) rfl h (fun h => ?_) (fun h => ?_)
  refine ev_aload_n (pc := 119) (fe_164 rfl) rfl ?_
  refine ev_getR (a1 := 253) (pc := 120) (fe_164 rfl) fr_139 t_223 rfl ?_
  refine ev_aload_n (pc := 123) (fe_164 rfl) rfl ?_
  refine ev_getI (pc := 124) (fe_164 rfl) fr_147 t_223 ?_
  refine ev_iload_n (pc := 127) (fe_164 rfl) rfl ?_
  refine ev_iadd (pc := 128) (fe_164 rfl) ?_
  refine fm_ob h (fun g1 h => ?_)
  refine ev_iaload (pc := 129) (fe_164 rfl) t_253 g1 ?_
  refine ev_bipush (pc := 130) (fe_164 rfl) lb_32 ?_
  refine ev_ic_ne (pc := 132) (fe_164 rfl) (t := 140) rfl h (fun h => ?_) (fun h => ?_)
  refine ev_iinc (pc := 140) (fe_164 rfl) mx_164 rfl rfl li_1 ?_
  refine ev_goto (pc := 143) (fe_164 rfl) (t := 5) rfl ?_
  refine ev_w [true, true, true, false, false, true] ?_
  exact hk5 x3 (x2 + 1) u h
  refine ev_iload_n (pc := 135) (fe_164 rfl) rfl ?_
  refine fm_bd h (fun p2 ep2 h => ?_)
  refine ev_callSk (pc := 136) (fe_164 rfl) (z := 165) (na := 1) (ow := 10) cg_164_183 rfl (m := 1) rfl (jK165 ep2) (st1 := [.inl p2]) rfl ?_
  exact ev_R (ev_irt (pc := 139) (fe_164 rfl) rt_164) (by rw [← Option.some.inj h])
  refine ev_aload_n (pc := 106) (fe_164 rfl) rfl ?_
  refine ev_aload_n (pc := 107) (fe_164 rfl) rfl ?_
  refine ev_getI (pc := 108) (fe_164 rfl) fr_147 t_223 ?_
  refine ev_iload_n (pc := 111) (fe_164 rfl) rfl ?_
  refine ev_iadd (pc := 112) (fe_164 rfl) ?_
  refine fm_lt_h h (fun p3 ep3 h => ?_)
  refine ev_callVk (pc := 113) (fe_164 rfl) (z := 157) (na := 2) (ow := 10) cg_164_176 rfl rfl rfl t_223 (m := 0) rfl (jK157 ep3) (st1 := []) rfl ?_
  refine ev_goto (pc := 116) (fe_164 rfl) (t := 140) rfl ?_
  refine ev_iinc (pc := 140) (fe_164 rfl) mx_164 rfl rfl li_1 ?_
  refine ev_goto (pc := 143) (fe_164 rfl) (t := 5) rfl ?_
  refine ev_w [true, true, true, false, false, true] ?_
  exact hk5 x3 (x2 + 1) p3 h
  refine ev_aload_n (pc := 25) (fe_164 rfl) rfl ?_
  refine ev_getI (pc := 26) (fe_164 rfl) fr_147 t_223 ?_
  refine ev_iload_n (pc := 29) (fe_164 rfl) rfl ?_
  refine ev_iadd (pc := 30) (fe_164 rfl) ?_
  refine ev_aload_n (pc := 31) (fe_164 rfl) rfl ?_
  refine ev_getI (pc := 32) (fe_164 rfl) fr_145 t_223 ?_
  refine ev_ic_ge (pc := 35) (fe_164 rfl) (t := 75) rfl h (fun h => ?_) (fun h => ?_)
  refine ev_iconst (pc := 75) (fe_164 rfl) li_0 ?_
  refine ev_istore (pc := 76) (fe_164 rfl) mx_164 rfl ?_
  refine ev_iload (pc := 78) (fe_164 rfl) rfl ?_
  refine ev_ifc (pc := 80) (fe_164 rfl) (t := 92) (t1 := 92) (b := true) rfl (by decide) rfl ?_
  refine ev_iload_n (pc := 92) (fe_164 rfl) rfl ?_
  refine ev_istore_n (pc := 93) (fe_164 rfl) mx_164 rfl ?_
  refine ev_iinc (pc := 94) (fe_164 rfl) mx_164 rfl rfl li_1 ?_
  refine ev_goto (pc := 97) (fe_164 rfl) (t := 18) rfl ?_
  refine ev_w [true, true, true, true, true, false] ?_
  exact ih x1 x2 x3 (x4 + 1) u hk5 h
  refine ev_iload_n (pc := 38) (fe_164 rfl) rfl ?_
  refine ev_iload (pc := 39) (fe_164 rfl) rfl ?_
  refine ev_ishr (pc := 41) (fe_164 rfl) ?_
  refine ev_iconst (pc := 42) (fe_164 rfl) li_1 ?_
  refine ev_iand (pc := 43) (fe_164 rfl) ?_
  refine ev_iconst (pc := 44) (fe_164 rfl) li_1 ?_
  refine ev_ic_ne (pc := 45) (fe_164 rfl) (t := 75) rfl h (fun h => ?_) (fun h => ?_)
  refine ev_iconst (pc := 75) (fe_164 rfl) li_0 ?_
  refine ev_istore (pc := 76) (fe_164 rfl) mx_164 rfl ?_
  refine ev_iload (pc := 78) (fe_164 rfl) rfl ?_
  refine ev_ifc (pc := 80) (fe_164 rfl) (t := 92) (t1 := 92) (b := true) rfl (by decide) rfl ?_
  refine ev_iload_n (pc := 92) (fe_164 rfl) rfl ?_
  refine ev_istore_n (pc := 93) (fe_164 rfl) mx_164 rfl ?_
  refine ev_iinc (pc := 94) (fe_164 rfl) mx_164 rfl rfl li_1 ?_
  refine ev_goto (pc := 97) (fe_164 rfl) (t := 18) rfl ?_
  refine ev_w [true, true, true, true, true, false] ?_
  exact ih x1 x2 x3 (x4 + 1) u hk5 h
  refine ev_bipush (pc := 48) (fe_164 rfl) lb_7 ?_
  refine ev_iload (pc := 50) (fe_164 rfl) rfl ?_
  refine ev_iadd (pc := 52) (fe_164 rfl) ?_
  refine ev_iload_n (pc := 53) (fe_164 rfl) rfl ?_
  refine ev_callSk (pc := 54) (fe_164 rfl) (z := 136) (na := 2) (ow := 10) cg_164_168 rfl (m := 0) rfl (jK136 rfl) (st1 := [.inl (jF136 (7 + x4) x2)]) rfl ?_
  refine ev_aload_n (pc := 57) (fe_164 rfl) rfl ?_
  refine ev_getR (a1 := 253) (pc := 58) (fe_164 rfl) fr_139 t_223 rfl ?_
  refine ev_aload_n (pc := 61) (fe_164 rfl) rfl ?_
  refine ev_getI (pc := 62) (fe_164 rfl) fr_147 t_223 ?_
  refine ev_iload_n (pc := 65) (fe_164 rfl) rfl ?_
  refine ev_iadd (pc := 66) (fe_164 rfl) ?_
  refine fm_ob h (fun g4 h => ?_)
  refine ev_iaload (pc := 67) (fe_164 rfl) t_253 g4 ?_
  refine ev_ic_ne (pc := 68) (fe_164 rfl) (t := 75) rfl h (fun h => ?_) (fun h => ?_)
  refine ev_iconst (pc := 75) (fe_164 rfl) li_0 ?_
  refine ev_istore (pc := 76) (fe_164 rfl) mx_164 rfl ?_
  refine ev_iload (pc := 78) (fe_164 rfl) rfl ?_
  refine ev_ifc (pc := 80) (fe_164 rfl) (t := 92) (t1 := 92) (b := true) rfl (by decide) rfl ?_
  refine ev_iload_n (pc := 92) (fe_164 rfl) rfl ?_
  refine ev_istore_n (pc := 93) (fe_164 rfl) mx_164 rfl ?_
  refine ev_iinc (pc := 94) (fe_164 rfl) mx_164 rfl rfl li_1 ?_
  refine ev_goto (pc := 97) (fe_164 rfl) (t := 18) rfl ?_
  refine ev_w [true, true, true, true, true, false] ?_
  exact ih x1 x2 x3 (x4 + 1) u hk5 h
  refine ev_iconst (pc := 71) (fe_164 rfl) li_1 ?_
  refine ev_goto (pc := 72) (fe_164 rfl) (t := 76) rfl ?_
  refine ev_istore (pc := 76) (fe_164 rfl) mx_164 rfl ?_
  refine ev_iload (pc := 78) (fe_164 rfl) rfl ?_
  refine ev_ifc (pc := 80) (fe_164 rfl) (t := 92) (t1 := 83) (b := false) rfl (by decide) rfl ?_
  refine ev_iload_n (pc := 83) (fe_164 rfl) rfl ?_
  refine ev_iconst (pc := 84) (fe_164 rfl) li_1 ?_
  refine ev_iload (pc := 85) (fe_164 rfl) rfl ?_
  refine ev_ishl (pc := 87) (fe_164 rfl) ?_
  refine ev_ior (pc := 88) (fe_164 rfl) ?_
  refine ev_goto (pc := 89) (fe_164 rfl) (t := 93) rfl ?_
  refine ev_istore_n (pc := 93) (fe_164 rfl) mx_164 rfl ?_
  refine ev_iinc (pc := 94) (fe_164 rfl) mx_164 rfl rfl li_1 ?_
  refine ev_goto (pc := 97) (fe_164 rfl) (t := 18) rfl ?_
  refine ev_w [true, true, true, true, true, false] ?_
  exact ih x1 x2 (x3 ||| (fm_shl 1 x4)) (x4 + 1) u hk5 h
theorem jK164_5 {X : Nat × (Nat → Int32)} {r : Int32 × fm} : ∀ (n : Nat) (x1 : Int32) (x2 : Int32) (u : fm), jF164_5 n x1 x2 u = some r → ev X 164 5 [some (.inr (.inl (some 223))), some (.inl x1), some (.inl x2), none, none, none] [] u ([.inl r.1], r.2) := by
  intro n
  induction n with
  | zero =>
    intro _ _ _ h
    unfold jF164_5 at h
    cases h
  | succ n ih =>
  intro x1 x2 u h
  unfold jF164_5 at h
  refine ev_aload_n (pc := 5) (fe_164 rfl) rfl ?_
  refine ev_getI (pc := 6) (fe_164 rfl) fr_146 t_223 ?_
  refine ev_iconst (pc := 9) (fe_164 rfl) li_m1 ?_
  refine ev_ic_ne (pc := 10) (fe_164 rfl) (t := 146) rfl h (fun h => ?_) (fun h => ?_)
  refine ev_iconst (pc := 146) (fe_164 rfl) li_0 ?_
  exact ev_R (ev_irt (pc := 147) (fe_164 rfl) rt_164) (by rw [← Option.some.inj h])
  refine ev_iconst (pc := 13) (fe_164 rfl) li_0 ?_
  refine ev_istore_n (pc := 14) (fe_164 rfl) mx_164 rfl ?_
  refine ev_iconst (pc := 15) (fe_164 rfl) li_0 ?_
  refine ev_istore (pc := 16) (fe_164 rfl) mx_164 rfl ?_
  exact jK164_18 fm_N x1 x2 0 0 u (fun x1' x2' u' h => ih x1' x2' u' h) h
theorem jK164 {X : Nat × (Nat → Int32)} {u : fm} {r : Int32 × fm} (h : jF164 u = some r) : ev X 164 0 [some (.inr (.inl (some 223))), none, none, none, none, none] [] u ([.inl r.1], r.2) := by
  unfold jF164 at h
  refine ev_bipush (pc := 0) (fe_164 rfl) lb_63 ?_
  refine ev_istore_n (pc := 2) (fe_164 rfl) mx_164 rfl ?_
  refine ev_iconst (pc := 3) (fe_164 rfl) li_0 ?_
  refine ev_istore_n (pc := 4) (fe_164 rfl) mx_164 rfl ?_
  exact jK164_5 fm_N 63 0 u h
/-- CallAgentsModel readHeader -/
def jF163_259 : Nat → Int32 → fm → Option (fm)
  | 0, _, _ => none
  | n + 1, x3, u =>
  if x3 < 5 then
  (Option.bind (jF160 (jF148 x3) u) (fun p29 => jF163_259 n (x3 + 1) p29))
  else
  (Option.bind (jF162 999999999 u) (fun p26 => fm_let (sA p26.2 251 8 p26.1) (fun u27 => Option.bind (jF159 u27) (fun p28 => some p28))))
def jF163_39 (x1 : Int32) (u : fm) : Option (fm) :=
  Option.bind (jF164 u) (fun p1 => if (fI p1.2 223 34) = (-1) then
  (if fm_in p1.1 6 then if (fm_b01 (fA p1.2 254 (Int32.toNatClampNeg p1.1))) = 0 then
  (fm_let (sA p1.2 254 (Int32.toNatClampNeg p1.1) 1) (fun u3 => fm_let (sI u3 223 33 x1) (fun u4 => Option.bind (jF158 (7 + p1.1) 1 u4) (fun p5 => if p1.1 = 0 then
  (Option.bind (jF161 0 1 p5.2) (fun p6 => fm_let (sA p6.2 251 3 p6.1) (fun u7 => Option.bind (jF158 17 1 u7) (fun p8 => Option.bind (jF162 999999999 p8.2) (fun p9 => fm_let (sA p9.2 251 4 p9.1) (fun u10 => Option.bind (jF159 u10) (fun p11 => some p11)))))))
  else if p1.1 = 1 then
  (Option.bind (jF161 0 1 p5.2) (fun p12 => fm_let (sA p12.2 251 5 p12.1) (fun u13 => Option.bind (jF158 18 1 u13) (fun p14 => Option.bind (jF162 999999999 p14.2) (fun p15 => fm_let (sA p15.2 251 6 p15.1) (fun u16 => Option.bind (jF159 u16) (fun p17 => some p17)))))))
  else if p1.1 = 2 then
  (Option.bind (jF161 0 1 p5.2) (fun p18 => fm_let (sA p18.2 251 7 p18.1) (fun u19 => Option.bind (jF160 62 u19) (fun p20 => fm_let (sA p20 251 8 (-1)) (fun u21 => if (fI u21 223 33) < (fI u21 223 32) then
  (if fm_in (fI u21 223 33) 500 then if (fA u21 253 (Int32.toNatClampNeg (fI u21 223 33))) = 59 then
  (if (fI u21 223 34) = (-1) then
  (jF163_259 fm_N 0 u21)
  else
  (Option.bind (jF159 u21) (fun p25 => some p25)))
  else
  (Option.bind (jF159 u21) (fun p24 => some p24)) else none)
  else
  (Option.bind (jF159 u21) (fun p22 => some p22)))))))
  else if p1.1 = 3 then
  (Option.bind (jF162 999999999 p5.2) (fun p30 => fm_let (sA p30.2 251 9 p30.1) (fun u31 => Option.bind (jF159 u31) (fun p32 => some p32))))
  else if p1.1 = 4 then
  (Option.bind (jF162 999999999 p5.2) (fun p33 => fm_let (sA p33.2 251 10 p33.1) (fun u34 => Option.bind (jF160 32 u34) (fun p35 => Option.bind (jF158 13 3 p35) (fun p36 => fm_let (sA p36.2 251 11 p36.1) (fun u37 => if (fI u37 223 34) = (-1) then
  (if (fA u37 251 0) < 3 then
  (if (fA u37 251 11) = (fA u37 251 0) then
  (Option.bind (jF159 u37) (fun p40 => some p40))
  else
  (fm_let (jF157 (fI p35 223 33) u37) (fun p41 => Option.bind (jF159 p41) (fun p42 => some p42))))
  else
  (Option.bind (jF159 u37) (fun p39 => some p39)))
  else
  (Option.bind (jF159 u37) (fun p38 => some p38))))))))
  else (Option.bind (jF162 999999999 p5.2) (fun p43 => fm_let (sA p43.2 251 12 p43.1) (fun u44 => Option.bind (jF159 u44) (fun p45 => some p45))))))))
  else
  (fm_let (jF157 x1 p1.2) (fun p46 => some p46)) else none)
  else
  (some p1.2))
def jF163 (u : fm) : Option (fm) :=
  if (fI u 223 33) < (fI u 223 32) then
  (if fm_in (fI u 223 33) 500 then if (fA u 253 (Int32.toNatClampNeg (fI u 223 33))) = 10 then
  (fm_let (jF157 (fI u 223 33) u) (fun p48 => some p48))
  else
  (jF163_39 (fI u 223 33) u) else none)
  else
  (jF163_39 (fI u 223 33) u)
theorem jK163_259 {X : Nat × (Nat → Int32)} {r : fm} : ∀ (n : Nat) (x3 : Int32) (u : fm), jF163_259 n x3 u = some r → ev X 163 259 [some (.inr (.inl (some 223))), none, none, some (.inl x3)] [] u ([], r) := by
  intro n
  induction n with
  | zero =>
    intro _ _ h
    unfold jF163_259 at h
    cases h
  | succ n ih =>
  intro x3 u h
  unfold jF163_259 at h
  refine ev_iload_n (pc := 259) (fe_163 rfl) rfl ?_
  refine ev_iconst (pc := 260) (fe_163 rfl) li_5 ?_
  refine ev_ic_ge (pc := 261) (fe_163 rfl) (t := 278) rfl h (fun h => ?_) (fun h => ?_)
  refine ev_aload_n (pc := 278) (fe_163 rfl) rfl ?_
  refine ev_getR (a1 := 251) (pc := 279) (fe_163 rfl) fr_137 t_223 rfl ?_
  refine ev_bipush (pc := 282) (fe_163 rfl) lb_8 ?_
  refine ev_aload_n (pc := 284) (fe_163 rfl) rfl ?_
  refine ev_ldcw (pc := 285) (fe_163 rfl) (c := 999999999) rfl ?_
  refine fm_bd h (fun p26 ep26 h => ?_)
  refine ev_callVk (pc := 288) (fe_163 rfl) (z := 162) (na := 2) (ow := 10) cg_163_181 rfl rfl rfl t_223 (m := 3) rfl (jK162 ep26) (st1 := [.inl p26.1, .inl 8, .inr (.inl (some 251))]) rfl ?_
  refine fm_lt_h h (fun u27 eu27 h => ?_)
  refine ev_iastorek (pc := 291) (fe_163 rfl) t_251 (by decide) rfl eu27 ?_
  refine ev_goto (pc := 292) (fe_163 rfl) (t := 407) rfl ?_
  refine ev_aload_n (pc := 407) (fe_163 rfl) rfl ?_
  refine fm_bd h (fun p28 ep28 h => ?_)
  refine ev_callVk (pc := 408) (fe_163 rfl) (z := 159) (na := 1) (ow := 10) cg_163_182 rfl rfl rfl t_223 (m := 0) rfl (jK159 ep28) (st1 := []) rfl ?_
  exact ev_R (ev_vrt (pc := 411) (fe_163 rfl) rt_163) (by rw [← Option.some.inj h])
  refine ev_aload_n (pc := 264) (fe_163 rfl) rfl ?_
  refine ev_iload_n (pc := 265) (fe_163 rfl) rfl ?_
  refine ev_callSk (pc := 266) (fe_163 rfl) (z := 148) (na := 1) (ow := 10) cg_163_167 rfl (m := 0) rfl (jK148 rfl) (st1 := [.inl (jF148 x3), .inr (.inl (some 223))]) rfl ?_
  refine fm_bd h (fun p29 ep29 h => ?_)
  refine ev_callVk (pc := 269) (fe_163 rfl) (z := 160) (na := 2) (ow := 10) cg_163_177 rfl rfl rfl t_223 (m := 0) rfl (jK160 ep29) (st1 := []) rfl ?_
  refine ev_iinc (pc := 272) (fe_163 rfl) mx_163 rfl rfl li_1 ?_
  refine ev_goto (pc := 275) (fe_163 rfl) (t := 259) rfl ?_
  exact ih (x3 + 1) p29 h
theorem jK163_39 {X : Nat × (Nat → Int32)} {r : fm} (x1 : Int32) (u : fm) (h : jF163_39 x1 u = some r) : ev X 163 39 [some (.inr (.inl (some 223))), some (.inl x1), none, none] [] u ([], r) := by
  unfold jF163_39 at h
  refine ev_aload_n (pc := 39) (fe_163 rfl) rfl ?_
  refine fm_bd h (fun p1 ep1 h => ?_)
  refine ev_callVk (pc := 40) (fe_163 rfl) (z := 164) (na := 1) (ow := 10) cg_163_178 rfl rfl rfl t_223 (m := 5) rfl (jK164 ep1) (st1 := [.inl p1.1]) rfl ?_
  refine ev_istore_n (pc := 43) (fe_163 rfl) mx_163 rfl ?_
  refine ev_aload_n (pc := 44) (fe_163 rfl) rfl ?_
  refine ev_getI (pc := 45) (fe_163 rfl) fr_146 t_223 ?_
  refine ev_iconst (pc := 48) (fe_163 rfl) li_m1 ?_
  refine ev_ic_eq (pc := 49) (fe_163 rfl) (t := 53) rfl h (fun h => ?_) (fun h => ?_)
  refine ev_aload_n (pc := 53) (fe_163 rfl) rfl ?_
  refine ev_getR (a1 := 254) (pc := 54) (fe_163 rfl) fr_140 t_223 rfl ?_
  refine ev_iload_n (pc := 57) (fe_163 rfl) rfl ?_
  refine fm_ob h (fun g2 h => ?_)
  refine ev_baload (pc := 58) (fe_163 rfl) t_254 g2 ?_
  refine ev_if_eq (pc := 59) (fe_163 rfl) (t := 68) rfl h (fun h => ?_) (fun h => ?_)
  refine ev_aload_n (pc := 68) (fe_163 rfl) rfl ?_
  refine ev_getR (a1 := 254) (pc := 69) (fe_163 rfl) fr_140 t_223 rfl ?_
  refine ev_iload_n (pc := 72) (fe_163 rfl) rfl ?_
  refine ev_iconst (pc := 73) (fe_163 rfl) li_1 ?_
  refine fm_lt_h h (fun u3 eu3 h => ?_)
  refine ev_bastore (pc := 74) (fe_163 rfl) t_254 g2 (Or.inr rfl) eu3 ?_
  refine ev_aload_n (pc := 75) (fe_163 rfl) rfl ?_
  refine ev_iload_n (pc := 76) (fe_163 rfl) rfl ?_
  refine fm_lt_h h (fun u4 eu4 h => ?_)
  refine ev_putI (pc := 77) (fe_163 rfl) fr_147 t_223 eu4 ?_
  refine ev_aload_n (pc := 80) (fe_163 rfl) rfl ?_
  refine ev_bipush (pc := 81) (fe_163 rfl) lb_7 ?_
  refine ev_iload_n (pc := 83) (fe_163 rfl) rfl ?_
  refine ev_iadd (pc := 84) (fe_163 rfl) ?_
  refine ev_iconst (pc := 85) (fe_163 rfl) li_1 ?_
  refine fm_bd h (fun p5 ep5 h => ?_)
  refine ev_callVk (pc := 86) (fe_163 rfl) (z := 158) (na := 3) (ow := 10) cg_163_179 rfl rfl rfl t_223 (m := 5) rfl (jK158 ep5) (st1 := [.inl p5.1]) rfl ?_
  refine ev_pop (pc := 89) (fe_163 rfl) rfl ?_
  refine ev_iload_n (pc := 90) (fe_163 rfl) rfl ?_
  refine fm_sp h (fun w91_0 h => ?_) (fun w91_0 h => ?_)
  refine ev_swk (pc := 91) (fe_163 rfl) (c := 0) (by rw [w91_0]; decide) (by decide) rfl (t := 124) rfl ?_
  refine ev_aload_n (pc := 124) (fe_163 rfl) rfl ?_
  refine ev_getR (a1 := 251) (pc := 125) (fe_163 rfl) fr_137 t_223 rfl ?_
  refine ev_iconst (pc := 128) (fe_163 rfl) li_3 ?_
  refine ev_aload_n (pc := 129) (fe_163 rfl) rfl ?_
  refine ev_iconst (pc := 130) (fe_163 rfl) li_0 ?_
  refine ev_iconst (pc := 131) (fe_163 rfl) li_1 ?_
  refine fm_bd h (fun p6 ep6 h => ?_)
  refine ev_callVk (pc := 132) (fe_163 rfl) (z := 161) (na := 3) (ow := 10) cg_163_180 rfl rfl rfl t_223 (m := 0) rfl (jK161 ep6) (st1 := [.inl p6.1, .inl 3, .inr (.inl (some 251))]) rfl ?_
  refine fm_lt_h h (fun u7 eu7 h => ?_)
  refine ev_iastorek (pc := 135) (fe_163 rfl) t_251 (by decide) rfl eu7 ?_
  refine ev_aload_n (pc := 136) (fe_163 rfl) rfl ?_
  refine ev_bipush (pc := 137) (fe_163 rfl) lb_17 ?_
  refine ev_iconst (pc := 139) (fe_163 rfl) li_1 ?_
  refine fm_bd h (fun p8 ep8 h => ?_)
  refine ev_callVk (pc := 140) (fe_163 rfl) (z := 158) (na := 3) (ow := 10) cg_163_179 rfl rfl rfl t_223 (m := 5) rfl (jK158 ep8) (st1 := [.inl p8.1]) rfl ?_
  refine ev_pop (pc := 143) (fe_163 rfl) rfl ?_
  refine ev_aload_n (pc := 144) (fe_163 rfl) rfl ?_
  refine ev_getR (a1 := 251) (pc := 145) (fe_163 rfl) fr_137 t_223 rfl ?_
  refine ev_iconst (pc := 148) (fe_163 rfl) li_4 ?_
  refine ev_aload_n (pc := 149) (fe_163 rfl) rfl ?_
  refine ev_ldcw (pc := 150) (fe_163 rfl) (c := 999999999) rfl ?_
  refine fm_bd h (fun p9 ep9 h => ?_)
  refine ev_callVk (pc := 153) (fe_163 rfl) (z := 162) (na := 2) (ow := 10) cg_163_181 rfl rfl rfl t_223 (m := 3) rfl (jK162 ep9) (st1 := [.inl p9.1, .inl 4, .inr (.inl (some 251))]) rfl ?_
  refine fm_lt_h h (fun u10 eu10 h => ?_)
  refine ev_iastorek (pc := 156) (fe_163 rfl) t_251 (by decide) rfl eu10 ?_
  refine ev_goto (pc := 157) (fe_163 rfl) (t := 407) rfl ?_
  refine ev_aload_n (pc := 407) (fe_163 rfl) rfl ?_
  refine fm_bd h (fun p11 ep11 h => ?_)
  refine ev_callVk (pc := 408) (fe_163 rfl) (z := 159) (na := 1) (ow := 10) cg_163_182 rfl rfl rfl t_223 (m := 0) rfl (jK159 ep11) (st1 := []) rfl ?_
  exact ev_R (ev_vrt (pc := 411) (fe_163 rfl) rt_163) (by rw [← Option.some.inj h])
  refine fm_sp h (fun w91_1 h => ?_) (fun w91_1 h => ?_)
  refine ev_swk (pc := 91) (fe_163 rfl) (c := 1) (by rw [w91_1]; decide) (by decide) rfl (t := 160) rfl ?_
  refine ev_aload_n (pc := 160) (fe_163 rfl) rfl ?_
  refine ev_getR (a1 := 251) (pc := 161) (fe_163 rfl) fr_137 t_223 rfl ?_
  refine ev_iconst (pc := 164) (fe_163 rfl) li_5 ?_
  refine ev_aload_n (pc := 165) (fe_163 rfl) rfl ?_
  refine ev_iconst (pc := 166) (fe_163 rfl) li_0 ?_
  refine ev_iconst (pc := 167) (fe_163 rfl) li_1 ?_
  refine fm_bd h (fun p12 ep12 h => ?_)
  refine ev_callVk (pc := 168) (fe_163 rfl) (z := 161) (na := 3) (ow := 10) cg_163_180 rfl rfl rfl t_223 (m := 0) rfl (jK161 ep12) (st1 := [.inl p12.1, .inl 5, .inr (.inl (some 251))]) rfl ?_
  refine fm_lt_h h (fun u13 eu13 h => ?_)
  refine ev_iastorek (pc := 171) (fe_163 rfl) t_251 (by decide) rfl eu13 ?_
  refine ev_aload_n (pc := 172) (fe_163 rfl) rfl ?_
  refine ev_bipush (pc := 173) (fe_163 rfl) lb_18 ?_
  refine ev_iconst (pc := 175) (fe_163 rfl) li_1 ?_
  refine fm_bd h (fun p14 ep14 h => ?_)
  refine ev_callVk (pc := 176) (fe_163 rfl) (z := 158) (na := 3) (ow := 10) cg_163_179 rfl rfl rfl t_223 (m := 5) rfl (jK158 ep14) (st1 := [.inl p14.1]) rfl ?_
  refine ev_pop (pc := 179) (fe_163 rfl) rfl ?_
  refine ev_aload_n (pc := 180) (fe_163 rfl) rfl ?_
  refine ev_getR (a1 := 251) (pc := 181) (fe_163 rfl) fr_137 t_223 rfl ?_
  refine ev_bipush (pc := 184) (fe_163 rfl) lb_6 ?_
  refine ev_aload_n (pc := 186) (fe_163 rfl) rfl ?_
  refine ev_ldcw (pc := 187) (fe_163 rfl) (c := 999999999) rfl ?_
  refine fm_bd h (fun p15 ep15 h => ?_)
  refine ev_callVk (pc := 190) (fe_163 rfl) (z := 162) (na := 2) (ow := 10) cg_163_181 rfl rfl rfl t_223 (m := 3) rfl (jK162 ep15) (st1 := [.inl p15.1, .inl 6, .inr (.inl (some 251))]) rfl ?_
  refine fm_lt_h h (fun u16 eu16 h => ?_)
  refine ev_iastorek (pc := 193) (fe_163 rfl) t_251 (by decide) rfl eu16 ?_
  refine ev_goto (pc := 194) (fe_163 rfl) (t := 407) rfl ?_
  refine ev_aload_n (pc := 407) (fe_163 rfl) rfl ?_
  refine fm_bd h (fun p17 ep17 h => ?_)
  refine ev_callVk (pc := 408) (fe_163 rfl) (z := 159) (na := 1) (ow := 10) cg_163_182 rfl rfl rfl t_223 (m := 0) rfl (jK159 ep17) (st1 := []) rfl ?_
  exact ev_R (ev_vrt (pc := 411) (fe_163 rfl) rt_163) (by rw [← Option.some.inj h])
  refine fm_sp h (fun w91_2 h => ?_) (fun w91_2 h => ?_)
  refine ev_swk (pc := 91) (fe_163 rfl) (c := 2) (by rw [w91_2]; decide) (by decide) rfl (t := 197) rfl ?_
  refine ev_aload_n (pc := 197) (fe_163 rfl) rfl ?_
  refine ev_getR (a1 := 251) (pc := 198) (fe_163 rfl) fr_137 t_223 rfl ?_
  refine ev_bipush (pc := 201) (fe_163 rfl) lb_7 ?_
  refine ev_aload_n (pc := 203) (fe_163 rfl) rfl ?_
  refine ev_iconst (pc := 204) (fe_163 rfl) li_0 ?_
  refine ev_iconst (pc := 205) (fe_163 rfl) li_1 ?_
  refine fm_bd h (fun p18 ep18 h => ?_)
  refine ev_callVk (pc := 206) (fe_163 rfl) (z := 161) (na := 3) (ow := 10) cg_163_180 rfl rfl rfl t_223 (m := 0) rfl (jK161 ep18) (st1 := [.inl p18.1, .inl 7, .inr (.inl (some 251))]) rfl ?_
  refine fm_lt_h h (fun u19 eu19 h => ?_)
  refine ev_iastorek (pc := 209) (fe_163 rfl) t_251 (by decide) rfl eu19 ?_
  refine ev_aload_n (pc := 210) (fe_163 rfl) rfl ?_
  refine ev_bipush (pc := 211) (fe_163 rfl) lb_62 ?_
  refine fm_bd h (fun p20 ep20 h => ?_)
  refine ev_callVk (pc := 213) (fe_163 rfl) (z := 160) (na := 2) (ow := 10) cg_163_177 rfl rfl rfl t_223 (m := 0) rfl (jK160 ep20) (st1 := []) rfl ?_
  refine ev_aload_n (pc := 216) (fe_163 rfl) rfl ?_
  refine ev_getR (a1 := 251) (pc := 217) (fe_163 rfl) fr_137 t_223 rfl ?_
  refine ev_bipush (pc := 220) (fe_163 rfl) lb_8 ?_
  refine ev_iconst (pc := 222) (fe_163 rfl) li_m1 ?_
  refine fm_lt_h h (fun u21 eu21 h => ?_)
  refine ev_iastorek (pc := 223) (fe_163 rfl) t_251 (by decide) rfl eu21 ?_
  refine ev_aload_n (pc := 224) (fe_163 rfl) rfl ?_
  refine ev_getI (pc := 225) (fe_163 rfl) fr_147 t_223 ?_
  refine ev_aload_n (pc := 228) (fe_163 rfl) rfl ?_
  refine ev_getI (pc := 229) (fe_163 rfl) fr_145 t_223 ?_
  refine ev_ic_ge (pc := 232) (fe_163 rfl) (t := 407) rfl h (fun h => ?_) (fun h => ?_)
  refine ev_aload_n (pc := 407) (fe_163 rfl) rfl ?_
  refine fm_bd h (fun p22 ep22 h => ?_)
  refine ev_callVk (pc := 408) (fe_163 rfl) (z := 159) (na := 1) (ow := 10) cg_163_182 rfl rfl rfl t_223 (m := 0) rfl (jK159 ep22) (st1 := []) rfl ?_
  exact ev_R (ev_vrt (pc := 411) (fe_163 rfl) rt_163) (by rw [← Option.some.inj h])
  refine ev_aload_n (pc := 235) (fe_163 rfl) rfl ?_
  refine ev_getR (a1 := 253) (pc := 236) (fe_163 rfl) fr_139 t_223 rfl ?_
  refine ev_aload_n (pc := 239) (fe_163 rfl) rfl ?_
  refine ev_getI (pc := 240) (fe_163 rfl) fr_147 t_223 ?_
  refine fm_ob h (fun g23 h => ?_)
  refine ev_iaload (pc := 243) (fe_163 rfl) t_253 g23 ?_
  refine ev_bipush (pc := 244) (fe_163 rfl) lb_59 ?_
  refine ev_ic_ne (pc := 246) (fe_163 rfl) (t := 407) rfl h (fun h => ?_) (fun h => ?_)
  refine ev_aload_n (pc := 407) (fe_163 rfl) rfl ?_
  refine fm_bd h (fun p24 ep24 h => ?_)
  refine ev_callVk (pc := 408) (fe_163 rfl) (z := 159) (na := 1) (ow := 10) cg_163_182 rfl rfl rfl t_223 (m := 0) rfl (jK159 ep24) (st1 := []) rfl ?_
  exact ev_R (ev_vrt (pc := 411) (fe_163 rfl) rt_163) (by rw [← Option.some.inj h])
  refine ev_aload_n (pc := 249) (fe_163 rfl) rfl ?_
  refine ev_getI (pc := 250) (fe_163 rfl) fr_146 t_223 ?_
  refine ev_iconst (pc := 253) (fe_163 rfl) li_m1 ?_
  refine ev_ic_ne (pc := 254) (fe_163 rfl) (t := 407) rfl h (fun h => ?_) (fun h => ?_)
  refine ev_aload_n (pc := 407) (fe_163 rfl) rfl ?_
  refine fm_bd h (fun p25 ep25 h => ?_)
  refine ev_callVk (pc := 408) (fe_163 rfl) (z := 159) (na := 1) (ow := 10) cg_163_182 rfl rfl rfl t_223 (m := 0) rfl (jK159 ep25) (st1 := []) rfl ?_
  exact ev_R (ev_vrt (pc := 411) (fe_163 rfl) rt_163) (by rw [← Option.some.inj h])
  refine ev_iconst (pc := 257) (fe_163 rfl) li_0 ?_
  refine ev_istore_n (pc := 258) (fe_163 rfl) mx_163 rfl ?_
  refine ev_w [true, false, false, true] ?_
  exact jK163_259 fm_N 0 u21 h
  refine fm_sp h (fun w91_3 h => ?_) (fun w91_3 h => ?_)
  refine ev_swk (pc := 91) (fe_163 rfl) (c := 3) (by rw [w91_3]; decide) (by decide) rfl (t := 295) rfl ?_
  refine ev_aload_n (pc := 295) (fe_163 rfl) rfl ?_
  refine ev_getR (a1 := 251) (pc := 296) (fe_163 rfl) fr_137 t_223 rfl ?_
  refine ev_bipush (pc := 299) (fe_163 rfl) lb_9 ?_
  refine ev_aload_n (pc := 301) (fe_163 rfl) rfl ?_
  refine ev_ldcw (pc := 302) (fe_163 rfl) (c := 999999999) rfl ?_
  refine fm_bd h (fun p30 ep30 h => ?_)
  refine ev_callVk (pc := 305) (fe_163 rfl) (z := 162) (na := 2) (ow := 10) cg_163_181 rfl rfl rfl t_223 (m := 3) rfl (jK162 ep30) (st1 := [.inl p30.1, .inl 9, .inr (.inl (some 251))]) rfl ?_
  refine fm_lt_h h (fun u31 eu31 h => ?_)
  refine ev_iastorek (pc := 308) (fe_163 rfl) t_251 (by decide) rfl eu31 ?_
  refine ev_goto (pc := 309) (fe_163 rfl) (t := 407) rfl ?_
  refine ev_aload_n (pc := 407) (fe_163 rfl) rfl ?_
  refine fm_bd h (fun p32 ep32 h => ?_)
  refine ev_callVk (pc := 408) (fe_163 rfl) (z := 159) (na := 1) (ow := 10) cg_163_182 rfl rfl rfl t_223 (m := 0) rfl (jK159 ep32) (st1 := []) rfl ?_
  exact ev_R (ev_vrt (pc := 411) (fe_163 rfl) rt_163) (by rw [← Option.some.inj h])
  refine fm_sp h (fun w91_4 h => ?_) (fun w91_4 h => ?_)
  refine ev_swk (pc := 91) (fe_163 rfl) (c := 4) (by rw [w91_4]; decide) (by decide) rfl (t := 312) rfl ?_
  refine ev_aload_n (pc := 312) (fe_163 rfl) rfl ?_
  refine ev_getR (a1 := 251) (pc := 313) (fe_163 rfl) fr_137 t_223 rfl ?_
  refine ev_bipush (pc := 316) (fe_163 rfl) lb_10 ?_
  refine ev_aload_n (pc := 318) (fe_163 rfl) rfl ?_
  refine ev_ldcw (pc := 319) (fe_163 rfl) (c := 999999999) rfl ?_
  refine fm_bd h (fun p33 ep33 h => ?_)
  refine ev_callVk (pc := 322) (fe_163 rfl) (z := 162) (na := 2) (ow := 10) cg_163_181 rfl rfl rfl t_223 (m := 3) rfl (jK162 ep33) (st1 := [.inl p33.1, .inl 10, .inr (.inl (some 251))]) rfl ?_
  refine fm_lt_h h (fun u34 eu34 h => ?_)
  refine ev_iastorek (pc := 325) (fe_163 rfl) t_251 (by decide) rfl eu34 ?_
  refine ev_aload_n (pc := 326) (fe_163 rfl) rfl ?_
  refine ev_bipush (pc := 327) (fe_163 rfl) lb_32 ?_
  refine fm_bd h (fun p35 ep35 h => ?_)
  refine ev_callVk (pc := 329) (fe_163 rfl) (z := 160) (na := 2) (ow := 10) cg_163_177 rfl rfl rfl t_223 (m := 0) rfl (jK160 ep35) (st1 := []) rfl ?_
  refine ev_aload_n (pc := 332) (fe_163 rfl) rfl ?_
  refine ev_getI (pc := 333) (fe_163 rfl) fr_147 t_223 ?_
  refine ev_istore_n (pc := 336) (fe_163 rfl) mx_163 rfl ?_
  refine ev_aload_n (pc := 337) (fe_163 rfl) rfl ?_
  refine ev_getR (a1 := 251) (pc := 338) (fe_163 rfl) fr_137 t_223 rfl ?_
  refine ev_bipush (pc := 341) (fe_163 rfl) lb_11 ?_
  refine ev_aload_n (pc := 343) (fe_163 rfl) rfl ?_
  refine ev_bipush (pc := 344) (fe_163 rfl) lb_13 ?_
  refine ev_iconst (pc := 346) (fe_163 rfl) li_3 ?_
  refine fm_bd h (fun p36 ep36 h => ?_)
  refine ev_callVk (pc := 347) (fe_163 rfl) (z := 158) (na := 3) (ow := 10) cg_163_179 rfl rfl rfl t_223 (m := 5) rfl (jK158 ep36) (st1 := [.inl p36.1, .inl 11, .inr (.inl (some 251))]) rfl ?_
  refine fm_lt_h h (fun u37 eu37 h => ?_)
  refine ev_iastorek (pc := 350) (fe_163 rfl) t_251 (by decide) rfl eu37 ?_
  refine ev_aload_n (pc := 351) (fe_163 rfl) rfl ?_
  refine ev_getI (pc := 352) (fe_163 rfl) fr_146 t_223 ?_
  refine ev_iconst (pc := 355) (fe_163 rfl) li_m1 ?_
  refine ev_ic_ne (pc := 356) (fe_163 rfl) (t := 407) rfl h (fun h => ?_) (fun h => ?_)
  refine ev_aload_n (pc := 407) (fe_163 rfl) rfl ?_
  refine fm_bd h (fun p38 ep38 h => ?_)
  refine ev_callVk (pc := 408) (fe_163 rfl) (z := 159) (na := 1) (ow := 10) cg_163_182 rfl rfl rfl t_223 (m := 0) rfl (jK159 ep38) (st1 := []) rfl ?_
  exact ev_R (ev_vrt (pc := 411) (fe_163 rfl) rt_163) (by rw [← Option.some.inj h])
  refine ev_aload_n (pc := 359) (fe_163 rfl) rfl ?_
  refine ev_getR (a1 := 251) (pc := 360) (fe_163 rfl) fr_137 t_223 rfl ?_
  refine ev_iconst (pc := 363) (fe_163 rfl) li_0 ?_
  refine ev_ialoadk (pc := 364) (fe_163 rfl) t_251 (by decide) rfl ?_
  refine ev_iconst (pc := 365) (fe_163 rfl) li_3 ?_
  refine ev_ic_ge (pc := 366) (fe_163 rfl) (t := 407) rfl h (fun h => ?_) (fun h => ?_)
  refine ev_aload_n (pc := 407) (fe_163 rfl) rfl ?_
  refine fm_bd h (fun p39 ep39 h => ?_)
  refine ev_callVk (pc := 408) (fe_163 rfl) (z := 159) (na := 1) (ow := 10) cg_163_182 rfl rfl rfl t_223 (m := 0) rfl (jK159 ep39) (st1 := []) rfl ?_
  exact ev_R (ev_vrt (pc := 411) (fe_163 rfl) rt_163) (by rw [← Option.some.inj h])
  refine ev_aload_n (pc := 369) (fe_163 rfl) rfl ?_
  refine ev_getR (a1 := 251) (pc := 370) (fe_163 rfl) fr_137 t_223 rfl ?_
  refine ev_bipush (pc := 373) (fe_163 rfl) lb_11 ?_
  refine ev_ialoadk (pc := 375) (fe_163 rfl) t_251 (by decide) rfl ?_
  refine ev_aload_n (pc := 376) (fe_163 rfl) rfl ?_
  refine ev_getR (a1 := 251) (pc := 377) (fe_163 rfl) fr_137 t_223 rfl ?_
  refine ev_iconst (pc := 380) (fe_163 rfl) li_0 ?_
  refine ev_ialoadk (pc := 381) (fe_163 rfl) t_251 (by decide) rfl ?_
  refine ev_ic_eq (pc := 382) (fe_163 rfl) (t := 407) rfl h (fun h => ?_) (fun h => ?_)
  refine ev_aload_n (pc := 407) (fe_163 rfl) rfl ?_
  refine fm_bd h (fun p40 ep40 h => ?_)
  refine ev_callVk (pc := 408) (fe_163 rfl) (z := 159) (na := 1) (ow := 10) cg_163_182 rfl rfl rfl t_223 (m := 0) rfl (jK159 ep40) (st1 := []) rfl ?_
  exact ev_R (ev_vrt (pc := 411) (fe_163 rfl) rt_163) (by rw [← Option.some.inj h])
  refine ev_aload_n (pc := 385) (fe_163 rfl) rfl ?_
  refine ev_iload_n (pc := 386) (fe_163 rfl) rfl ?_
  refine fm_lt_h h (fun p41 ep41 h => ?_)
  refine ev_callVk (pc := 387) (fe_163 rfl) (z := 157) (na := 2) (ow := 10) cg_163_176 rfl rfl rfl t_223 (m := 0) rfl (jK157 ep41) (st1 := []) rfl ?_
  refine ev_goto (pc := 390) (fe_163 rfl) (t := 407) rfl ?_
  refine ev_aload_n (pc := 407) (fe_163 rfl) rfl ?_
  refine fm_bd h (fun p42 ep42 h => ?_)
  refine ev_callVk (pc := 408) (fe_163 rfl) (z := 159) (na := 1) (ow := 10) cg_163_182 rfl rfl rfl t_223 (m := 0) rfl (jK159 ep42) (st1 := []) rfl ?_
  exact ev_R (ev_vrt (pc := 411) (fe_163 rfl) rt_163) (by rw [← Option.some.inj h])
  refine ev_swd (pc := 91) (fe_163 rfl) (t := 393) rfl (fm_swx (lo := 0) (n := 5) (List.forall_mem_cons.mpr ⟨w91_0, List.forall_mem_cons.mpr ⟨w91_1, List.forall_mem_cons.mpr ⟨w91_2, List.forall_mem_cons.mpr ⟨w91_3, List.forall_mem_cons.mpr ⟨w91_4, fun _ q => nomatch q⟩⟩⟩⟩⟩)) ?_
  refine ev_aload_n (pc := 393) (fe_163 rfl) rfl ?_
  refine ev_getR (a1 := 251) (pc := 394) (fe_163 rfl) fr_137 t_223 rfl ?_
  refine ev_bipush (pc := 397) (fe_163 rfl) lb_12 ?_
  refine ev_aload_n (pc := 399) (fe_163 rfl) rfl ?_
  refine ev_ldcw (pc := 400) (fe_163 rfl) (c := 999999999) rfl ?_
  refine fm_bd h (fun p43 ep43 h => ?_)
  refine ev_callVk (pc := 403) (fe_163 rfl) (z := 162) (na := 2) (ow := 10) cg_163_181 rfl rfl rfl t_223 (m := 3) rfl (jK162 ep43) (st1 := [.inl p43.1, .inl 12, .inr (.inl (some 251))]) rfl ?_
  refine fm_lt_h h (fun u44 eu44 h => ?_)
  refine ev_iastorek (pc := 406) (fe_163 rfl) t_251 (by decide) rfl eu44 ?_
  refine ev_aload_n (pc := 407) (fe_163 rfl) rfl ?_
  refine fm_bd h (fun p45 ep45 h => ?_)
  refine ev_callVk (pc := 408) (fe_163 rfl) (z := 159) (na := 1) (ow := 10) cg_163_182 rfl rfl rfl t_223 (m := 0) rfl (jK159 ep45) (st1 := []) rfl ?_
  exact ev_R (ev_vrt (pc := 411) (fe_163 rfl) rt_163) (by rw [← Option.some.inj h])
  refine ev_aload_n (pc := 62) (fe_163 rfl) rfl ?_
  refine ev_iload_n (pc := 63) (fe_163 rfl) rfl ?_
  refine fm_lt_h h (fun p46 ep46 h => ?_)
  refine ev_callVk (pc := 64) (fe_163 rfl) (z := 157) (na := 2) (ow := 10) cg_163_176 rfl rfl rfl t_223 (m := 0) rfl (jK157 ep46) (st1 := []) rfl ?_
  exact ev_R (ev_vrt (pc := 67) (fe_163 rfl) rt_163) (by rw [← Option.some.inj h])
  exact ev_R (ev_vrt (pc := 52) (fe_163 rfl) rt_163) (by rw [← Option.some.inj h])
theorem jK163 {X : Nat × (Nat → Int32)} {u : fm} {r : fm} (h : jF163 u = some r) : ev X 163 0 [some (.inr (.inl (some 223))), none, none, none] [] u ([], r) := by
  unfold jF163 at h
  refine ev_aload_n (pc := 0) (fe_163 rfl) rfl ?_
  refine ev_getI (pc := 1) (fe_163 rfl) fr_147 t_223 ?_
  refine ev_istore_n (pc := 4) (fe_163 rfl) mx_163 rfl ?_
  refine ev_aload_n (pc := 5) (fe_163 rfl) rfl ?_
  refine ev_getI (pc := 6) (fe_163 rfl) fr_147 t_223 ?_
  refine ev_aload_n (pc := 9) (fe_163 rfl) rfl ?_
  refine ev_getI (pc := 10) (fe_163 rfl) fr_145 t_223 ?_
  refine ev_ic_ge (pc := 13) (fe_163 rfl) (t := 39) rfl h (fun h => ?_) (fun h => ?_)
  exact jK163_39 (fI u 223 33) u h
  refine ev_aload_n (pc := 16) (fe_163 rfl) rfl ?_
  refine ev_getR (a1 := 253) (pc := 17) (fe_163 rfl) fr_139 t_223 rfl ?_
  refine ev_aload_n (pc := 20) (fe_163 rfl) rfl ?_
  refine ev_getI (pc := 21) (fe_163 rfl) fr_147 t_223 ?_
  refine fm_ob h (fun g47 h => ?_)
  refine ev_iaload (pc := 24) (fe_163 rfl) t_253 g47 ?_
  refine ev_bipush (pc := 25) (fe_163 rfl) lb_10 ?_
  refine ev_ic_ne (pc := 27) (fe_163 rfl) (t := 39) rfl h (fun h => ?_) (fun h => ?_)
  exact jK163_39 (fI u 223 33) u h
  refine ev_aload_n (pc := 30) (fe_163 rfl) rfl ?_
  refine ev_aload_n (pc := 31) (fe_163 rfl) rfl ?_
  refine ev_getI (pc := 32) (fe_163 rfl) fr_147 t_223 ?_
  refine fm_lt_h h (fun p48 ep48 h => ?_)
  refine ev_callVk (pc := 35) (fe_163 rfl) (z := 157) (na := 2) (ow := 10) cg_163_176 rfl rfl rfl t_223 (m := 0) rfl (jK157 ep48) (st1 := []) rfl ?_
  exact ev_R (ev_vrt (pc := 38) (fe_163 rfl) rt_163) (by rw [← Option.some.inj h])
/-- CallAgentsModel readLine -/
def jF167_64 : Nat → Int32 → Int32 → fm → Option (fm)
  | 0, _, _, _ => none
  | n + 1, x1, x3, u =>
  if x3 < 8 then
  (if (fI u 223 33) < (fI u 223 32) then
  (if fm_in (fI u 223 33) 500 then if (fA u 253 (Int32.toNatClampNeg (fI u 223 33))) = 32 then
  (if (fI u 223 34) = (-1) then
  (fm_let (sI u 223 33 ((fI u 223 33) + 1)) (fun u23 => Option.bind (jF161 0 7 u23) (fun p24 => if fm_in ((x1 + 2) + x3) 50 then fm_let (sA p24.2 251 (Int32.toNatClampNeg ((x1 + 2) + x3)) p24.1) (fun u26 => jF167_64 n x1 (x3 + 1) u26) else none)))
  else
  (if fm_in (x1 + 1) 50 then fm_let (sA u 251 (Int32.toNatClampNeg (x1 + 1)) x3) (fun u21 => Option.bind (jF159 u21) (fun p22 => some p22)) else none))
  else
  (if fm_in (x1 + 1) 50 then fm_let (sA u 251 (Int32.toNatClampNeg (x1 + 1)) x3) (fun u18 => Option.bind (jF159 u18) (fun p19 => some p19)) else none) else none)
  else
  (if fm_in (x1 + 1) 50 then fm_let (sA u 251 (Int32.toNatClampNeg (x1 + 1)) x3) (fun u14 => Option.bind (jF159 u14) (fun p15 => some p15)) else none))
  else
  (if fm_in (x1 + 1) 50 then fm_let (sA u 251 (Int32.toNatClampNeg (x1 + 1)) x3) (fun u11 => Option.bind (jF159 u11) (fun p12 => some p12)) else none)
def jF167 (x1 : Int32) (u : fm) : Option (fm) :=
  Option.bind (jF160 109 u) (fun p1 => Option.bind (jF160 61 p1) (fun p2 => Option.bind (jF162 65535 p2) (fun p3 => Option.bind (jF160 32 p3.2) (fun p4 => Option.bind (jF161 0 7 p4) (fun p5 => if (fI p5.2 223 34) = (-1) then
  (if fm_in x1 50 then fm_let (sA p5.2 251 (Int32.toNatClampNeg x1) p3.1) (fun u7 => if fm_in (x1 + 2) 50 then fm_let (sA u7 251 (Int32.toNatClampNeg (x1 + 2)) p5.1) (fun u9 => jF167_64 fm_N x1 1 u9) else none) else none)
  else
  (some p5.2))))))
theorem jK167_64 {X : Nat × (Nat → Int32)} {r : fm} : ∀ (n : Nat) (x1 : Int32) (x3 : Int32) (u : fm), jF167_64 n x1 x3 u = some r → ev X 167 64 [some (.inr (.inl (some 223))), some (.inl x1), none, some (.inl x3), none] [] u ([], r) := by
  intro n
  induction n with
  | zero =>
    intro _ _ _ h
    unfold jF167_64 at h
    cases h
  | succ n ih =>
  intro x1 x3 u h
  unfold jF167_64 at h
  refine ev_iload_n (pc := 64) (fe_167 rfl) rfl ?_
  refine ev_bipush (pc := 65) (fe_167 rfl) lb_8 ?_
  refine ev_ic_ge (pc := 67) (fe_167 rfl) (t := 136) rfl h (fun h => ?_) (fun h => ?_)
  refine ev_aload_n (pc := 136) (fe_167 rfl) rfl ?_
  refine ev_getR (a1 := 251) (pc := 137) (fe_167 rfl) fr_137 t_223 rfl ?_
  refine ev_iload_n (pc := 140) (fe_167 rfl) rfl ?_
  refine ev_iconst (pc := 141) (fe_167 rfl) li_1 ?_
  refine ev_iadd (pc := 142) (fe_167 rfl) ?_
  refine ev_iload_n (pc := 143) (fe_167 rfl) rfl ?_
  refine fm_ob h (fun g10 h => ?_)
  refine fm_lt_h h (fun u11 eu11 h => ?_)
  refine ev_iastore (pc := 144) (fe_167 rfl) t_251 g10 eu11 ?_
  refine ev_aload_n (pc := 145) (fe_167 rfl) rfl ?_
  refine fm_bd h (fun p12 ep12 h => ?_)
  refine ev_callVk (pc := 146) (fe_167 rfl) (z := 159) (na := 1) (ow := 10) cg_167_182 rfl rfl rfl t_223 (m := 0) rfl (jK159 ep12) (st1 := []) rfl ?_
  exact ev_R (ev_vrt (pc := 149) (fe_167 rfl) rt_167) (by rw [← Option.some.inj h])
  refine ev_aload_n (pc := 70) (fe_167 rfl) rfl ?_
  refine ev_getI (pc := 71) (fe_167 rfl) fr_147 t_223 ?_
  refine ev_aload_n (pc := 74) (fe_167 rfl) rfl ?_
  refine ev_getI (pc := 75) (fe_167 rfl) fr_145 t_223 ?_
  refine ev_ic_ge (pc := 78) (fe_167 rfl) (t := 136) rfl h (fun h => ?_) (fun h => ?_)
  refine ev_aload_n (pc := 136) (fe_167 rfl) rfl ?_
  refine ev_getR (a1 := 251) (pc := 137) (fe_167 rfl) fr_137 t_223 rfl ?_
  refine ev_iload_n (pc := 140) (fe_167 rfl) rfl ?_
  refine ev_iconst (pc := 141) (fe_167 rfl) li_1 ?_
  refine ev_iadd (pc := 142) (fe_167 rfl) ?_
  refine ev_iload_n (pc := 143) (fe_167 rfl) rfl ?_
  refine fm_ob h (fun g13 h => ?_)
  refine fm_lt_h h (fun u14 eu14 h => ?_)
  refine ev_iastore (pc := 144) (fe_167 rfl) t_251 g13 eu14 ?_
  refine ev_aload_n (pc := 145) (fe_167 rfl) rfl ?_
  refine fm_bd h (fun p15 ep15 h => ?_)
  refine ev_callVk (pc := 146) (fe_167 rfl) (z := 159) (na := 1) (ow := 10) cg_167_182 rfl rfl rfl t_223 (m := 0) rfl (jK159 ep15) (st1 := []) rfl ?_
  exact ev_R (ev_vrt (pc := 149) (fe_167 rfl) rt_167) (by rw [← Option.some.inj h])
  refine ev_aload_n (pc := 81) (fe_167 rfl) rfl ?_
  refine ev_getR (a1 := 253) (pc := 82) (fe_167 rfl) fr_139 t_223 rfl ?_
  refine ev_aload_n (pc := 85) (fe_167 rfl) rfl ?_
  refine ev_getI (pc := 86) (fe_167 rfl) fr_147 t_223 ?_
  refine fm_ob h (fun g16 h => ?_)
  refine ev_iaload (pc := 89) (fe_167 rfl) t_253 g16 ?_
  refine ev_bipush (pc := 90) (fe_167 rfl) lb_32 ?_
  refine ev_ic_ne (pc := 92) (fe_167 rfl) (t := 136) rfl h (fun h => ?_) (fun h => ?_)
  refine ev_aload_n (pc := 136) (fe_167 rfl) rfl ?_
  refine ev_getR (a1 := 251) (pc := 137) (fe_167 rfl) fr_137 t_223 rfl ?_
  refine ev_iload_n (pc := 140) (fe_167 rfl) rfl ?_
  refine ev_iconst (pc := 141) (fe_167 rfl) li_1 ?_
  refine ev_iadd (pc := 142) (fe_167 rfl) ?_
  refine ev_iload_n (pc := 143) (fe_167 rfl) rfl ?_
  refine fm_ob h (fun g17 h => ?_)
  refine fm_lt_h h (fun u18 eu18 h => ?_)
  refine ev_iastore (pc := 144) (fe_167 rfl) t_251 g17 eu18 ?_
  refine ev_aload_n (pc := 145) (fe_167 rfl) rfl ?_
  refine fm_bd h (fun p19 ep19 h => ?_)
  refine ev_callVk (pc := 146) (fe_167 rfl) (z := 159) (na := 1) (ow := 10) cg_167_182 rfl rfl rfl t_223 (m := 0) rfl (jK159 ep19) (st1 := []) rfl ?_
  exact ev_R (ev_vrt (pc := 149) (fe_167 rfl) rt_167) (by rw [← Option.some.inj h])
  refine ev_aload_n (pc := 95) (fe_167 rfl) rfl ?_
  refine ev_getI (pc := 96) (fe_167 rfl) fr_146 t_223 ?_
  refine ev_iconst (pc := 99) (fe_167 rfl) li_m1 ?_
  refine ev_ic_ne (pc := 100) (fe_167 rfl) (t := 136) rfl h (fun h => ?_) (fun h => ?_)
  refine ev_aload_n (pc := 136) (fe_167 rfl) rfl ?_
  refine ev_getR (a1 := 251) (pc := 137) (fe_167 rfl) fr_137 t_223 rfl ?_
  refine ev_iload_n (pc := 140) (fe_167 rfl) rfl ?_
  refine ev_iconst (pc := 141) (fe_167 rfl) li_1 ?_
  refine ev_iadd (pc := 142) (fe_167 rfl) ?_
  refine ev_iload_n (pc := 143) (fe_167 rfl) rfl ?_
  refine fm_ob h (fun g20 h => ?_)
  refine fm_lt_h h (fun u21 eu21 h => ?_)
  refine ev_iastore (pc := 144) (fe_167 rfl) t_251 g20 eu21 ?_
  refine ev_aload_n (pc := 145) (fe_167 rfl) rfl ?_
  refine fm_bd h (fun p22 ep22 h => ?_)
  refine ev_callVk (pc := 146) (fe_167 rfl) (z := 159) (na := 1) (ow := 10) cg_167_182 rfl rfl rfl t_223 (m := 0) rfl (jK159 ep22) (st1 := []) rfl ?_
  exact ev_R (ev_vrt (pc := 149) (fe_167 rfl) rt_167) (by rw [← Option.some.inj h])
  refine ev_aload_n (pc := 103) (fe_167 rfl) rfl ?_
  refine ev_dup (pc := 104) (fe_167 rfl) rfl ?_
  refine ev_getI (pc := 105) (fe_167 rfl) fr_147 t_223 ?_
  refine ev_iconst (pc := 108) (fe_167 rfl) li_1 ?_
  refine ev_iadd (pc := 109) (fe_167 rfl) ?_
  refine fm_lt_h h (fun u23 eu23 h => ?_)
  refine ev_putI (pc := 110) (fe_167 rfl) fr_147 t_223 eu23 ?_
  refine ev_aload_n (pc := 113) (fe_167 rfl) rfl ?_
  refine ev_getR (a1 := 251) (pc := 114) (fe_167 rfl) fr_137 t_223 rfl ?_
  refine ev_iload_n (pc := 117) (fe_167 rfl) rfl ?_
  refine ev_iconst (pc := 118) (fe_167 rfl) li_2 ?_
  refine ev_iadd (pc := 119) (fe_167 rfl) ?_
  refine ev_iload_n (pc := 120) (fe_167 rfl) rfl ?_
  refine ev_iadd (pc := 121) (fe_167 rfl) ?_
  refine ev_aload_n (pc := 122) (fe_167 rfl) rfl ?_
  refine ev_iconst (pc := 123) (fe_167 rfl) li_0 ?_
  refine ev_bipush (pc := 124) (fe_167 rfl) lb_7 ?_
  refine fm_bd h (fun p24 ep24 h => ?_)
  refine ev_callVk (pc := 126) (fe_167 rfl) (z := 161) (na := 3) (ow := 10) cg_167_180 rfl rfl rfl t_223 (m := 0) rfl (jK161 ep24) (st1 := [.inl p24.1, .inl ((x1 + 2) + x3), .inr (.inl (some 251))]) rfl ?_
  refine fm_ob h (fun g25 h => ?_)
  refine fm_lt_h h (fun u26 eu26 h => ?_)
  refine ev_iastore (pc := 129) (fe_167 rfl) t_251 g25 eu26 ?_
  refine ev_iinc (pc := 130) (fe_167 rfl) mx_167 rfl rfl li_1 ?_
  refine ev_goto (pc := 133) (fe_167 rfl) (t := 64) rfl ?_
  exact ih x1 (x3 + 1) u26 h
theorem jK167 {X : Nat × (Nat → Int32)} {x1 : Int32} {u : fm} {r : fm} (h : jF167 x1 u = some r) : ev X 167 0 [some (.inr (.inl (some 223))), some (.inl x1), none, none, none] [] u ([], r) := by
  unfold jF167 at h
  refine ev_aload_n (pc := 0) (fe_167 rfl) rfl ?_
  refine ev_bipush (pc := 1) (fe_167 rfl) lb_109 ?_
  refine fm_bd h (fun p1 ep1 h => ?_)
  refine ev_callVk (pc := 3) (fe_167 rfl) (z := 160) (na := 2) (ow := 10) cg_167_177 rfl rfl rfl t_223 (m := 0) rfl (jK160 ep1) (st1 := []) rfl ?_
  refine ev_aload_n (pc := 6) (fe_167 rfl) rfl ?_
  refine ev_bipush (pc := 7) (fe_167 rfl) lb_61 ?_
  refine fm_bd h (fun p2 ep2 h => ?_)
  refine ev_callVk (pc := 9) (fe_167 rfl) (z := 160) (na := 2) (ow := 10) cg_167_177 rfl rfl rfl t_223 (m := 0) rfl (jK160 ep2) (st1 := []) rfl ?_
  refine ev_aload_n (pc := 12) (fe_167 rfl) rfl ?_
  refine ev_ldc (pc := 13) (fe_167 rfl) (c := 65535) rfl ?_
  refine fm_bd h (fun p3 ep3 h => ?_)
  refine ev_callVk (pc := 15) (fe_167 rfl) (z := 162) (na := 2) (ow := 10) cg_167_181 rfl rfl rfl t_223 (m := 3) rfl (jK162 ep3) (st1 := [.inl p3.1]) rfl ?_
  refine ev_istore_n (pc := 18) (fe_167 rfl) mx_167 rfl ?_
  refine ev_iconst (pc := 19) (fe_167 rfl) li_0 ?_
  refine ev_istore_n (pc := 20) (fe_167 rfl) mx_167 rfl ?_
  refine ev_aload_n (pc := 21) (fe_167 rfl) rfl ?_
  refine ev_bipush (pc := 22) (fe_167 rfl) lb_32 ?_
  refine fm_bd h (fun p4 ep4 h => ?_)
  refine ev_callVk (pc := 24) (fe_167 rfl) (z := 160) (na := 2) (ow := 10) cg_167_177 rfl rfl rfl t_223 (m := 0) rfl (jK160 ep4) (st1 := []) rfl ?_
  refine ev_aload_n (pc := 27) (fe_167 rfl) rfl ?_
  refine ev_iconst (pc := 28) (fe_167 rfl) li_0 ?_
  refine ev_bipush (pc := 29) (fe_167 rfl) lb_7 ?_
  refine fm_bd h (fun p5 ep5 h => ?_)
  refine ev_callVk (pc := 31) (fe_167 rfl) (z := 161) (na := 3) (ow := 10) cg_167_180 rfl rfl rfl t_223 (m := 0) rfl (jK161 ep5) (st1 := [.inl p5.1]) rfl ?_
  refine ev_istore (pc := 34) (fe_167 rfl) mx_167 rfl ?_
  refine ev_aload_n (pc := 36) (fe_167 rfl) rfl ?_
  refine ev_getI (pc := 37) (fe_167 rfl) fr_146 t_223 ?_
  refine ev_iconst (pc := 40) (fe_167 rfl) li_m1 ?_
  refine ev_ic_eq (pc := 41) (fe_167 rfl) (t := 45) rfl h (fun h => ?_) (fun h => ?_)
  refine ev_aload_n (pc := 45) (fe_167 rfl) rfl ?_
  refine ev_getR (a1 := 251) (pc := 46) (fe_167 rfl) fr_137 t_223 rfl ?_
  refine ev_iload_n (pc := 49) (fe_167 rfl) rfl ?_
  refine ev_iload_n (pc := 50) (fe_167 rfl) rfl ?_
  refine fm_ob h (fun g6 h => ?_)
  refine fm_lt_h h (fun u7 eu7 h => ?_)
  refine ev_iastore (pc := 51) (fe_167 rfl) t_251 g6 eu7 ?_
  refine ev_aload_n (pc := 52) (fe_167 rfl) rfl ?_
  refine ev_getR (a1 := 251) (pc := 53) (fe_167 rfl) fr_137 t_223 rfl ?_
  refine ev_iload_n (pc := 56) (fe_167 rfl) rfl ?_
  refine ev_iconst (pc := 57) (fe_167 rfl) li_2 ?_
  refine ev_iadd (pc := 58) (fe_167 rfl) ?_
  refine ev_iload (pc := 59) (fe_167 rfl) rfl ?_
  refine fm_ob h (fun g8 h => ?_)
  refine fm_lt_h h (fun u9 eu9 h => ?_)
  refine ev_iastore (pc := 61) (fe_167 rfl) t_251 g8 eu9 ?_
  refine ev_iconst (pc := 62) (fe_167 rfl) li_1 ?_
  refine ev_istore_n (pc := 63) (fe_167 rfl) mx_167 rfl ?_
  refine ev_w [true, true, false, true, false] ?_
  exact jK167_64 fm_N x1 1 u9 h
  exact ev_R (ev_vrt (pc := 44) (fe_167 rfl) rt_167) (by rw [← Option.some.inj h])
/-- CallAgentsModel readBody -/
def jF166_110 (x2 : Int32) (x4 : Int32) (u : fm) : Option (fm) :=
  fm_let (sI u 223 32 x2) (fun u3 => if (fI u3 223 34) = (-1) then
  (if (fI u3 223 33) < (fI u3 223 32) then
  (fm_let (jF157 (fI u3 223 33) u3) (fun p6 => fm_let (sA p6 251 12 x4) (fun u7 => some u7)))
  else
  (fm_let (sA u3 251 12 x4) (fun u5 => some u5)))
  else
  (fm_let (sA u3 251 12 x4) (fun u4 => some u4)))
def jF166_68 (k37 : Int32 → Int32 → Int32 → Int32 → fm → Option (fm)) (x1 : Int32) (x2 : Int32) (x3 : Int32) (x4 : Int32) (u : fm) : Option (fm) :=
  if x4 = 3 then
  (fm_let (jF157 (fI u 223 33) u) (fun p10 => if x4 < 3 then
  (Option.bind (jF167 (13 + (10 * x4)) p10) (fun p12 => k37 x1 x2 x3 (x4 + 1) p12))
  else
  (Option.bind (jF167 (13 + (10 * 0)) p10) (fun p11 => k37 x1 x2 x3 (x4 + 1) p11))))
  else
  (if x4 < 3 then
  (Option.bind (jF167 (13 + (10 * x4)) u) (fun p9 => k37 x1 x2 x3 (x4 + 1) p9))
  else
  (Option.bind (jF167 (13 + (10 * 0)) u) (fun p8 => k37 x1 x2 x3 (x4 + 1) p8)))
def jF166_37 : Nat → Int32 → Int32 → Int32 → Int32 → fm → Option (fm)
  | 0, _, _, _, _, _ => none
  | n + 1, x1, x2, x3, x4, u =>
  if (fI u 223 34) = (-1) then
  (if (fI u 223 33) < (fI u 223 32) then
  (jF166_68 (fun x1' x2' x3' x4' u' => jF166_37 n x1' x2' x3' x4' u') x1 x2 x3 x4 u)
  else
  (if 0 < x1 then
  (if (fI u 223 33) < x3 then
  (jF166_68 (fun x1' x2' x3' x4' u' => jF166_37 n x1' x2' x3' x4' u') x1 x2 x3 x4 u)
  else
  (jF166_110 x2 x4 u))
  else
  (jF166_110 x2 x4 u)))
  else
  (jF166_110 x2 x4 u)
def jF166 (x1 : Int32) (u : fm) : Option (fm) :=
  if (fI u 223 32) < ((fI u 223 33) + x1) then
  (fm_let (sI u 223 32 (fI u 223 32)) (fun u13 => fm_let (sA u13 251 12 0) (fun u14 => jF166_37 fm_N x1 (fI u 223 32) ((fI u 223 33) + x1) 0 u14)))
  else
  (fm_let (sI u 223 32 ((fI u 223 33) + x1)) (fun u1 => fm_let (sA u1 251 12 0) (fun u2 => jF166_37 fm_N x1 (fI u 223 32) ((fI u 223 33) + x1) 0 u2)))
theorem jK166_110 {X : Nat × (Nat → Int32)} {r : fm} (x2 : Int32) (x4 : Int32) (u : fm) (h : jF166_110 x2 x4 u = some r) : ev X 166 110 [some (.inr (.inl (some 223))), none, some (.inl x2), none, some (.inl x4)] [] u ([], r) := by
  unfold jF166_110 at h
  refine ev_aload_n (pc := 110) (fe_166 rfl) rfl ?_
  refine ev_iload_n (pc := 111) (fe_166 rfl) rfl ?_
  refine fm_lt_h h (fun u3 eu3 h => ?_)
  refine ev_putI (pc := 112) (fe_166 rfl) fr_145 t_223 eu3 ?_
  refine ev_aload_n (pc := 115) (fe_166 rfl) rfl ?_
  refine ev_getI (pc := 116) (fe_166 rfl) fr_146 t_223 ?_
  refine ev_iconst (pc := 119) (fe_166 rfl) li_m1 ?_
  refine ev_ic_ne (pc := 120) (fe_166 rfl) (t := 142) rfl h (fun h => ?_) (fun h => ?_)
  refine ev_aload_n (pc := 142) (fe_166 rfl) rfl ?_
  refine ev_getR (a1 := 251) (pc := 143) (fe_166 rfl) fr_137 t_223 rfl ?_
  refine ev_bipush (pc := 146) (fe_166 rfl) lb_12 ?_
  refine ev_iload (pc := 148) (fe_166 rfl) rfl ?_
  refine fm_lt_h h (fun u4 eu4 h => ?_)
  refine ev_iastorek (pc := 150) (fe_166 rfl) t_251 (by decide) rfl eu4 ?_
  exact ev_R (ev_vrt (pc := 151) (fe_166 rfl) rt_166) (by rw [← Option.some.inj h])
  refine ev_aload_n (pc := 123) (fe_166 rfl) rfl ?_
  refine ev_getI (pc := 124) (fe_166 rfl) fr_147 t_223 ?_
  refine ev_aload_n (pc := 127) (fe_166 rfl) rfl ?_
  refine ev_getI (pc := 128) (fe_166 rfl) fr_145 t_223 ?_
  refine ev_ic_ge (pc := 131) (fe_166 rfl) (t := 142) rfl h (fun h => ?_) (fun h => ?_)
  refine ev_aload_n (pc := 142) (fe_166 rfl) rfl ?_
  refine ev_getR (a1 := 251) (pc := 143) (fe_166 rfl) fr_137 t_223 rfl ?_
  refine ev_bipush (pc := 146) (fe_166 rfl) lb_12 ?_
  refine ev_iload (pc := 148) (fe_166 rfl) rfl ?_
  refine fm_lt_h h (fun u5 eu5 h => ?_)
  refine ev_iastorek (pc := 150) (fe_166 rfl) t_251 (by decide) rfl eu5 ?_
  exact ev_R (ev_vrt (pc := 151) (fe_166 rfl) rt_166) (by rw [← Option.some.inj h])
  refine ev_aload_n (pc := 134) (fe_166 rfl) rfl ?_
  refine ev_aload_n (pc := 135) (fe_166 rfl) rfl ?_
  refine ev_getI (pc := 136) (fe_166 rfl) fr_147 t_223 ?_
  refine fm_lt_h h (fun p6 ep6 h => ?_)
  refine ev_callVk (pc := 139) (fe_166 rfl) (z := 157) (na := 2) (ow := 10) cg_166_176 rfl rfl rfl t_223 (m := 0) rfl (jK157 ep6) (st1 := []) rfl ?_
  refine ev_aload_n (pc := 142) (fe_166 rfl) rfl ?_
  refine ev_getR (a1 := 251) (pc := 143) (fe_166 rfl) fr_137 t_223 rfl ?_
  refine ev_bipush (pc := 146) (fe_166 rfl) lb_12 ?_
  refine ev_iload (pc := 148) (fe_166 rfl) rfl ?_
  refine fm_lt_h h (fun u7 eu7 h => ?_)
  refine ev_iastorek (pc := 150) (fe_166 rfl) t_251 (by decide) rfl eu7 ?_
  exact ev_R (ev_vrt (pc := 151) (fe_166 rfl) rt_166) (by rw [← Option.some.inj h])
theorem jK166_68 {X : Nat × (Nat → Int32)} {r : fm} {k37 : Int32 → Int32 → Int32 → Int32 → fm → Option (fm)} (x1 : Int32) (x2 : Int32) (x3 : Int32) (x4 : Int32) (u : fm) (hk37 : ∀ (x1 : Int32) (x2 : Int32) (x3 : Int32) (x4 : Int32) (u : fm), k37 x1 x2 x3 x4 u = some r → ev X 166 37 [some (.inr (.inl (some 223))), some (.inl x1), some (.inl x2), some (.inl x3), some (.inl x4)] [] u ([], r)) (h : jF166_68 k37 x1 x2 x3 x4 u = some r) : ev X 166 68 [some (.inr (.inl (some 223))), some (.inl x1), some (.inl x2), some (.inl x3), some (.inl x4)] [] u ([], r) := by
  unfold jF166_68 at h
  refine ev_iload (pc := 68) (fe_166 rfl) rfl ?_
  refine ev_iconst (pc := 70) (fe_166 rfl) li_3 ?_
  refine ev_ic_ne (pc := 71) (fe_166 rfl) (t := 82) rfl h (fun h => ?_) (fun h => ?_)
  refine ev_aload_n (pc := 82) (fe_166 rfl) rfl ?_
  refine ev_bipush (pc := 83) (fe_166 rfl) lb_13 ?_
  refine ev_bipush (pc := 85) (fe_166 rfl) lb_10 ?_
  refine ev_iload (pc := 87) (fe_166 rfl) rfl ?_
  refine ev_iconst (pc := 89) (fe_166 rfl) li_3 ?_
  refine ev_ic_ge (pc := 90) (fe_166 rfl) (t := 98) rfl h (fun h => ?_) (fun h => ?_)
  refine ev_iconst (pc := 98) (fe_166 rfl) li_0 ?_
  refine ev_imul (pc := 99) (fe_166 rfl) ?_
  refine ev_iadd (pc := 100) (fe_166 rfl) ?_
  refine fm_bd h (fun p8 ep8 h => ?_)
  refine ev_callVk (pc := 101) (fe_166 rfl) (z := 167) (na := 2) (ow := 10) cg_166_184 rfl rfl rfl t_223 (m := 3) rfl (jK167 ep8) (st1 := []) rfl ?_
  refine ev_iinc (pc := 104) (fe_166 rfl) mx_166 rfl rfl li_1 ?_
  refine ev_goto (pc := 107) (fe_166 rfl) (t := 37) rfl ?_
  exact hk37 x1 x2 x3 (x4 + 1) p8 h
  refine ev_iload (pc := 93) (fe_166 rfl) rfl ?_
  refine ev_goto (pc := 95) (fe_166 rfl) (t := 99) rfl ?_
  refine ev_imul (pc := 99) (fe_166 rfl) ?_
  refine ev_iadd (pc := 100) (fe_166 rfl) ?_
  refine fm_bd h (fun p9 ep9 h => ?_)
  refine ev_callVk (pc := 101) (fe_166 rfl) (z := 167) (na := 2) (ow := 10) cg_166_184 rfl rfl rfl t_223 (m := 3) rfl (jK167 ep9) (st1 := []) rfl ?_
  refine ev_iinc (pc := 104) (fe_166 rfl) mx_166 rfl rfl li_1 ?_
  refine ev_goto (pc := 107) (fe_166 rfl) (t := 37) rfl ?_
  exact hk37 x1 x2 x3 (x4 + 1) p9 h
  refine ev_aload_n (pc := 74) (fe_166 rfl) rfl ?_
  refine ev_aload_n (pc := 75) (fe_166 rfl) rfl ?_
  refine ev_getI (pc := 76) (fe_166 rfl) fr_147 t_223 ?_
  refine fm_lt_h h (fun p10 ep10 h => ?_)
  refine ev_callVk (pc := 79) (fe_166 rfl) (z := 157) (na := 2) (ow := 10) cg_166_176 rfl rfl rfl t_223 (m := 0) rfl (jK157 ep10) (st1 := []) rfl ?_
  refine ev_aload_n (pc := 82) (fe_166 rfl) rfl ?_
  refine ev_bipush (pc := 83) (fe_166 rfl) lb_13 ?_
  refine ev_bipush (pc := 85) (fe_166 rfl) lb_10 ?_
  refine ev_iload (pc := 87) (fe_166 rfl) rfl ?_
  refine ev_iconst (pc := 89) (fe_166 rfl) li_3 ?_
  refine ev_ic_ge (pc := 90) (fe_166 rfl) (t := 98) rfl h (fun h => ?_) (fun h => ?_)
  refine ev_iconst (pc := 98) (fe_166 rfl) li_0 ?_
  refine ev_imul (pc := 99) (fe_166 rfl) ?_
  refine ev_iadd (pc := 100) (fe_166 rfl) ?_
  refine fm_bd h (fun p11 ep11 h => ?_)
  refine ev_callVk (pc := 101) (fe_166 rfl) (z := 167) (na := 2) (ow := 10) cg_166_184 rfl rfl rfl t_223 (m := 3) rfl (jK167 ep11) (st1 := []) rfl ?_
  refine ev_iinc (pc := 104) (fe_166 rfl) mx_166 rfl rfl li_1 ?_
  refine ev_goto (pc := 107) (fe_166 rfl) (t := 37) rfl ?_
  exact hk37 x1 x2 x3 (x4 + 1) p11 h
  refine ev_iload (pc := 93) (fe_166 rfl) rfl ?_
  refine ev_goto (pc := 95) (fe_166 rfl) (t := 99) rfl ?_
  refine ev_imul (pc := 99) (fe_166 rfl) ?_
  refine ev_iadd (pc := 100) (fe_166 rfl) ?_
  refine fm_bd h (fun p12 ep12 h => ?_)
  refine ev_callVk (pc := 101) (fe_166 rfl) (z := 167) (na := 2) (ow := 10) cg_166_184 rfl rfl rfl t_223 (m := 3) rfl (jK167 ep12) (st1 := []) rfl ?_
  refine ev_iinc (pc := 104) (fe_166 rfl) mx_166 rfl rfl li_1 ?_
  refine ev_goto (pc := 107) (fe_166 rfl) (t := 37) rfl ?_
  exact hk37 x1 x2 x3 (x4 + 1) p12 h
theorem jK166_37 {X : Nat × (Nat → Int32)} {r : fm} : ∀ (n : Nat) (x1 : Int32) (x2 : Int32) (x3 : Int32) (x4 : Int32) (u : fm), jF166_37 n x1 x2 x3 x4 u = some r → ev X 166 37 [some (.inr (.inl (some 223))), some (.inl x1), some (.inl x2), some (.inl x3), some (.inl x4)] [] u ([], r) := by
  intro n
  induction n with
  | zero =>
    intro _ _ _ _ _ h
    unfold jF166_37 at h
    cases h
  | succ n ih =>
  intro x1 x2 x3 x4 u h
  unfold jF166_37 at h
  refine ev_aload_n (pc := 37) (fe_166 rfl) rfl ?_
  refine ev_getI (pc := 38) (fe_166 rfl) fr_146 t_223 ?_
  refine ev_iconst (pc := 41) (fe_166 rfl) li_m1 ?_
  refine ev_ic_ne (pc := 42) (fe_166 rfl) (t := 110) rfl h (fun h => ?_) (fun h => ?_)
  refine ev_w [true, false, true, false, true] ?_
  exact jK166_110 x2 x4 u h
  refine ev_aload_n (pc := 45) (fe_166 rfl) rfl ?_
  refine ev_getI (pc := 46) (fe_166 rfl) fr_147 t_223 ?_
  refine ev_aload_n (pc := 49) (fe_166 rfl) rfl ?_
  refine ev_getI (pc := 50) (fe_166 rfl) fr_145 t_223 ?_
  refine ev_ic_lt (pc := 53) (fe_166 rfl) (t := 68) rfl h (fun h => ?_) (fun h => ?_)
  exact jK166_68 x1 x2 x3 x4 u (fun x1' x2' x3' x4' u' h => ih x1' x2' x3' x4' u' h) h
  refine ev_iload_n (pc := 56) (fe_166 rfl) rfl ?_
  refine ev_if_le (pc := 57) (fe_166 rfl) (t := 110) rfl h (fun h => ?_) (fun h => ?_)
  refine ev_w [true, false, true, false, true] ?_
  exact jK166_110 x2 x4 u h
  refine ev_aload_n (pc := 60) (fe_166 rfl) rfl ?_
  refine ev_getI (pc := 61) (fe_166 rfl) fr_147 t_223 ?_
  refine ev_iload_n (pc := 64) (fe_166 rfl) rfl ?_
  refine ev_ic_ge (pc := 65) (fe_166 rfl) (t := 110) rfl h (fun h => ?_) (fun h => ?_)
  refine ev_w [true, false, true, false, true] ?_
  exact jK166_110 x2 x4 u h
  exact jK166_68 x1 x2 x3 x4 u (fun x1' x2' x3' x4' u' h => ih x1' x2' x3' x4' u' h) h
theorem jK166 {X : Nat × (Nat → Int32)} {x1 : Int32} {u : fm} {r : fm} (h : jF166 x1 u = some r) : ev X 166 0 [some (.inr (.inl (some 223))), some (.inl x1), none, none, none] [] u ([], r) := by
  unfold jF166 at h
  refine ev_aload_n (pc := 0) (fe_166 rfl) rfl ?_
  refine ev_getI (pc := 1) (fe_166 rfl) fr_145 t_223 ?_
  refine ev_istore_n (pc := 4) (fe_166 rfl) mx_166 rfl ?_
  refine ev_aload_n (pc := 5) (fe_166 rfl) rfl ?_
  refine ev_getI (pc := 6) (fe_166 rfl) fr_147 t_223 ?_
  refine ev_iload_n (pc := 9) (fe_166 rfl) rfl ?_
  refine ev_iadd (pc := 10) (fe_166 rfl) ?_
  refine ev_istore_n (pc := 11) (fe_166 rfl) mx_166 rfl ?_
  refine ev_aload_n (pc := 12) (fe_166 rfl) rfl ?_
  refine ev_iload_n (pc := 13) (fe_166 rfl) rfl ?_
  refine ev_iload_n (pc := 14) (fe_166 rfl) rfl ?_
  refine ev_ic_ge (pc := 15) (fe_166 rfl) (t := 22) rfl h (fun h => ?_) (fun h => ?_)
  refine ev_iload_n (pc := 22) (fe_166 rfl) rfl ?_
  refine fm_lt_h h (fun u1 eu1 h => ?_)
  refine ev_putI (pc := 23) (fe_166 rfl) fr_145 t_223 eu1 ?_
  refine ev_iconst (pc := 26) (fe_166 rfl) li_0 ?_
  refine ev_istore (pc := 27) (fe_166 rfl) mx_166 rfl ?_
  refine ev_aload_n (pc := 29) (fe_166 rfl) rfl ?_
  refine ev_getR (a1 := 251) (pc := 30) (fe_166 rfl) fr_137 t_223 rfl ?_
  refine ev_bipush (pc := 33) (fe_166 rfl) lb_12 ?_
  refine ev_iconst (pc := 35) (fe_166 rfl) li_0 ?_
  refine fm_lt_h h (fun u2 eu2 h => ?_)
  refine ev_iastorek (pc := 36) (fe_166 rfl) t_251 (by decide) rfl eu2 ?_
  exact jK166_37 fm_N x1 (fI u 223 32) ((fI u 223 33) + x1) 0 u2 h
  refine ev_iload_n (pc := 18) (fe_166 rfl) rfl ?_
  refine ev_goto (pc := 19) (fe_166 rfl) (t := 23) rfl ?_
  refine fm_lt_h h (fun u13 eu13 h => ?_)
  refine ev_putI (pc := 23) (fe_166 rfl) fr_145 t_223 eu13 ?_
  refine ev_iconst (pc := 26) (fe_166 rfl) li_0 ?_
  refine ev_istore (pc := 27) (fe_166 rfl) mx_166 rfl ?_
  refine ev_aload_n (pc := 29) (fe_166 rfl) rfl ?_
  refine ev_getR (a1 := 251) (pc := 30) (fe_166 rfl) fr_137 t_223 rfl ?_
  refine ev_bipush (pc := 33) (fe_166 rfl) lb_12 ?_
  refine ev_iconst (pc := 35) (fe_166 rfl) li_0 ?_
  refine fm_lt_h h (fun u14 eu14 h => ?_)
  refine ev_iastorek (pc := 36) (fe_166 rfl) t_251 (by decide) rfl eu14 ?_
  exact jK166_37 fm_N x1 (fI u 223 32) ((fI u 223 33) + x1) 0 u14 h
/-- CallAgentsModel read -/
def jF168_133 (u : fm) : Option (fm) :=
  if (fI u 223 34) = (-1) then
  (if (fI u 223 33) < (fI u 223 32) then
  (if fm_in (fI u 223 33) 500 then if (fA u 253 (Int32.toNatClampNeg (fI u 223 33))) = 10 then
  (Option.bind (jF159 u) (fun p11 => if (fI p11 223 34) = (-1) then
  (Option.bind (jF166 (fA p11 251 12) p11) (fun p12 => some p12))
  else
  (some p11)))
  else
  (Option.bind (jF163 u) (fun p13 => Option.bind (jF159 p13) (fun p14 => if (fI p14 223 34) = (-1) then
  (Option.bind (jF166 (fA p14 251 12) p14) (fun p15 => some p15))
  else
  (some p14)))) else none)
  else
  (Option.bind (jF159 u) (fun p8 => if (fI p8 223 34) = (-1) then
  (Option.bind (jF166 (fA p8 251 12) p8) (fun p9 => some p9))
  else
  (some p8))))
  else
  (Option.bind (jF159 u) (fun p6 => if (fI p6 223 34) = (-1) then
  (Option.bind (jF166 (fA p6 251 12) p6) (fun p7 => some p7))
  else
  (some p6)))
def jF168_109 : Nat → Int32 → fm → Option (fm)
  | 0, _, _ => none
  | n + 1, x1, u =>
  if x1 < 6 then
  (if (fI u 223 34) = (-1) then
  (Option.bind (jF163 u) (fun p16 => jF168_109 n (x1 + 1) p16))
  else
  (jF168_133 u))
  else
  (jF168_133 u)
def jF168_33 : Nat → Int32 → fm → Option (fm)
  | 0, _, _ => none
  | n + 1, x1, u =>
  if x1 < 6 then
  (if fm_in x1 6 then fm_let (sA u 254 (Int32.toNatClampNeg x1) 0) (fun u23 => jF168_33 n (x1 + 1) u23) else none)
  else
  (Option.bind (jF158 0 7 u) (fun p3 => fm_let (sA p3.2 251 0 p3.1) (fun u4 => if (fA u4 251 0) < 3 then
  (if (fI u4 223 34) = (-1) then
  (Option.bind (jF161 0 1 u4) (fun p18 => fm_let (sA p18.2 251 2 p18.1) (fun u19 => Option.bind (jF158 16 1 u19) (fun p20 => Option.bind (jF159 p20.2) (fun p21 => jF168_109 fm_N 0 p21)))))
  else
  (Option.bind (jF159 u4) (fun p17 => jF168_109 fm_N 0 p17)))
  else
  (Option.bind (jF159 u4) (fun p5 => jF168_109 fm_N 0 p5)))))
def jF168_12 : Nat → Int32 → fm → Option (fm)
  | 0, _, _ => none
  | n + 1, x1, u =>
  if x1 < 50 then
  (if fm_in x1 50 then fm_let (sA u 251 (Int32.toNatClampNeg x1) 0) (fun u25 => jF168_12 n (x1 + 1) u25) else none)
  else
  (jF168_33 fm_N 0 u)
def jF168 (u : fm) : Option (fm) :=
  fm_let (sI u 223 33 0) (fun u1 => fm_let (sI u1 223 34 (-1)) (fun u2 => jF168_12 fm_N 0 u2))
theorem jK168_133 {X : Nat × (Nat → Int32)} {r : fm} (u : fm) (h : jF168_133 u = some r) : ev X 168 133 [some (.inr (.inl (some 223))), none] [] u ([], r) := by
  unfold jF168_133 at h
  refine ev_aload_n (pc := 133) (fe_168 rfl) rfl ?_
  refine ev_getI (pc := 134) (fe_168 rfl) fr_146 t_223 ?_
  refine ev_iconst (pc := 137) (fe_168 rfl) li_m1 ?_
  refine ev_ic_ne (pc := 138) (fe_168 rfl) (t := 170) rfl h (fun h => ?_) (fun h => ?_)
  refine ev_aload_n (pc := 170) (fe_168 rfl) rfl ?_
  refine fm_bd h (fun p6 ep6 h => ?_)
  refine ev_callVk (pc := 171) (fe_168 rfl) (z := 159) (na := 1) (ow := 10) cg_168_182 rfl rfl rfl t_223 (m := 0) rfl (jK159 ep6) (st1 := []) rfl ?_
  refine ev_aload_n (pc := 174) (fe_168 rfl) rfl ?_
  refine ev_getI (pc := 175) (fe_168 rfl) fr_146 t_223 ?_
  refine ev_iconst (pc := 178) (fe_168 rfl) li_m1 ?_
  refine ev_ic_ne (pc := 179) (fe_168 rfl) (t := 193) rfl h (fun h => ?_) (fun h => ?_)
  exact ev_R (ev_vrt (pc := 193) (fe_168 rfl) rt_168) (by rw [← Option.some.inj h])
  refine ev_aload_n (pc := 182) (fe_168 rfl) rfl ?_
  refine ev_aload_n (pc := 183) (fe_168 rfl) rfl ?_
  refine ev_getR (a1 := 251) (pc := 184) (fe_168 rfl) fr_137 t_223 rfl ?_
  refine ev_bipush (pc := 187) (fe_168 rfl) lb_12 ?_
  refine ev_ialoadk (pc := 189) (fe_168 rfl) t_251 (by decide) rfl ?_
  refine fm_bd h (fun p7 ep7 h => ?_)
  refine ev_callVk (pc := 190) (fe_168 rfl) (z := 166) (na := 2) (ow := 10) cg_168_186 rfl rfl rfl t_223 (m := 3) rfl (jK166 ep7) (st1 := []) rfl ?_
  exact ev_R (ev_vrt (pc := 193) (fe_168 rfl) rt_168) (by rw [← Option.some.inj h])
  refine ev_aload_n (pc := 141) (fe_168 rfl) rfl ?_
  refine ev_getI (pc := 142) (fe_168 rfl) fr_147 t_223 ?_
  refine ev_aload_n (pc := 145) (fe_168 rfl) rfl ?_
  refine ev_getI (pc := 146) (fe_168 rfl) fr_145 t_223 ?_
  refine ev_ic_ge (pc := 149) (fe_168 rfl) (t := 170) rfl h (fun h => ?_) (fun h => ?_)
  refine ev_aload_n (pc := 170) (fe_168 rfl) rfl ?_
  refine fm_bd h (fun p8 ep8 h => ?_)
  refine ev_callVk (pc := 171) (fe_168 rfl) (z := 159) (na := 1) (ow := 10) cg_168_182 rfl rfl rfl t_223 (m := 0) rfl (jK159 ep8) (st1 := []) rfl ?_
  refine ev_aload_n (pc := 174) (fe_168 rfl) rfl ?_
  refine ev_getI (pc := 175) (fe_168 rfl) fr_146 t_223 ?_
  refine ev_iconst (pc := 178) (fe_168 rfl) li_m1 ?_
  refine ev_ic_ne (pc := 179) (fe_168 rfl) (t := 193) rfl h (fun h => ?_) (fun h => ?_)
  exact ev_R (ev_vrt (pc := 193) (fe_168 rfl) rt_168) (by rw [← Option.some.inj h])
  refine ev_aload_n (pc := 182) (fe_168 rfl) rfl ?_
  refine ev_aload_n (pc := 183) (fe_168 rfl) rfl ?_
  refine ev_getR (a1 := 251) (pc := 184) (fe_168 rfl) fr_137 t_223 rfl ?_
  refine ev_bipush (pc := 187) (fe_168 rfl) lb_12 ?_
  refine ev_ialoadk (pc := 189) (fe_168 rfl) t_251 (by decide) rfl ?_
  refine fm_bd h (fun p9 ep9 h => ?_)
  refine ev_callVk (pc := 190) (fe_168 rfl) (z := 166) (na := 2) (ow := 10) cg_168_186 rfl rfl rfl t_223 (m := 3) rfl (jK166 ep9) (st1 := []) rfl ?_
  exact ev_R (ev_vrt (pc := 193) (fe_168 rfl) rt_168) (by rw [← Option.some.inj h])
  refine ev_aload_n (pc := 152) (fe_168 rfl) rfl ?_
  refine ev_getR (a1 := 253) (pc := 153) (fe_168 rfl) fr_139 t_223 rfl ?_
  refine ev_aload_n (pc := 156) (fe_168 rfl) rfl ?_
  refine ev_getI (pc := 157) (fe_168 rfl) fr_147 t_223 ?_
  refine fm_ob h (fun g10 h => ?_)
  refine ev_iaload (pc := 160) (fe_168 rfl) t_253 g10 ?_
  refine ev_bipush (pc := 161) (fe_168 rfl) lb_10 ?_
  refine ev_ic_eq (pc := 163) (fe_168 rfl) (t := 170) rfl h (fun h => ?_) (fun h => ?_)
  refine ev_aload_n (pc := 170) (fe_168 rfl) rfl ?_
  refine fm_bd h (fun p11 ep11 h => ?_)
  refine ev_callVk (pc := 171) (fe_168 rfl) (z := 159) (na := 1) (ow := 10) cg_168_182 rfl rfl rfl t_223 (m := 0) rfl (jK159 ep11) (st1 := []) rfl ?_
  refine ev_aload_n (pc := 174) (fe_168 rfl) rfl ?_
  refine ev_getI (pc := 175) (fe_168 rfl) fr_146 t_223 ?_
  refine ev_iconst (pc := 178) (fe_168 rfl) li_m1 ?_
  refine ev_ic_ne (pc := 179) (fe_168 rfl) (t := 193) rfl h (fun h => ?_) (fun h => ?_)
  exact ev_R (ev_vrt (pc := 193) (fe_168 rfl) rt_168) (by rw [← Option.some.inj h])
  refine ev_aload_n (pc := 182) (fe_168 rfl) rfl ?_
  refine ev_aload_n (pc := 183) (fe_168 rfl) rfl ?_
  refine ev_getR (a1 := 251) (pc := 184) (fe_168 rfl) fr_137 t_223 rfl ?_
  refine ev_bipush (pc := 187) (fe_168 rfl) lb_12 ?_
  refine ev_ialoadk (pc := 189) (fe_168 rfl) t_251 (by decide) rfl ?_
  refine fm_bd h (fun p12 ep12 h => ?_)
  refine ev_callVk (pc := 190) (fe_168 rfl) (z := 166) (na := 2) (ow := 10) cg_168_186 rfl rfl rfl t_223 (m := 3) rfl (jK166 ep12) (st1 := []) rfl ?_
  exact ev_R (ev_vrt (pc := 193) (fe_168 rfl) rt_168) (by rw [← Option.some.inj h])
  refine ev_aload_n (pc := 166) (fe_168 rfl) rfl ?_
  refine fm_bd h (fun p13 ep13 h => ?_)
  refine ev_callVk (pc := 167) (fe_168 rfl) (z := 163) (na := 1) (ow := 10) cg_168_185 rfl rfl rfl t_223 (m := 3) rfl (jK163 ep13) (st1 := []) rfl ?_
  refine ev_aload_n (pc := 170) (fe_168 rfl) rfl ?_
  refine fm_bd h (fun p14 ep14 h => ?_)
  refine ev_callVk (pc := 171) (fe_168 rfl) (z := 159) (na := 1) (ow := 10) cg_168_182 rfl rfl rfl t_223 (m := 0) rfl (jK159 ep14) (st1 := []) rfl ?_
  refine ev_aload_n (pc := 174) (fe_168 rfl) rfl ?_
  refine ev_getI (pc := 175) (fe_168 rfl) fr_146 t_223 ?_
  refine ev_iconst (pc := 178) (fe_168 rfl) li_m1 ?_
  refine ev_ic_ne (pc := 179) (fe_168 rfl) (t := 193) rfl h (fun h => ?_) (fun h => ?_)
  exact ev_R (ev_vrt (pc := 193) (fe_168 rfl) rt_168) (by rw [← Option.some.inj h])
  refine ev_aload_n (pc := 182) (fe_168 rfl) rfl ?_
  refine ev_aload_n (pc := 183) (fe_168 rfl) rfl ?_
  refine ev_getR (a1 := 251) (pc := 184) (fe_168 rfl) fr_137 t_223 rfl ?_
  refine ev_bipush (pc := 187) (fe_168 rfl) lb_12 ?_
  refine ev_ialoadk (pc := 189) (fe_168 rfl) t_251 (by decide) rfl ?_
  refine fm_bd h (fun p15 ep15 h => ?_)
  refine ev_callVk (pc := 190) (fe_168 rfl) (z := 166) (na := 2) (ow := 10) cg_168_186 rfl rfl rfl t_223 (m := 3) rfl (jK166 ep15) (st1 := []) rfl ?_
  exact ev_R (ev_vrt (pc := 193) (fe_168 rfl) rt_168) (by rw [← Option.some.inj h])
theorem jK168_109 {X : Nat × (Nat → Int32)} {r : fm} : ∀ (n : Nat) (x1 : Int32) (u : fm), jF168_109 n x1 u = some r → ev X 168 109 [some (.inr (.inl (some 223))), some (.inl x1)] [] u ([], r) := by
  intro n
  induction n with
  | zero =>
    intro _ _ h
    unfold jF168_109 at h
    cases h
  | succ n ih =>
  intro x1 u h
  unfold jF168_109 at h
  refine ev_iload_n (pc := 109) (fe_168 rfl) rfl ?_
  refine ev_bipush (pc := 110) (fe_168 rfl) lb_6 ?_
  refine ev_ic_ge (pc := 112) (fe_168 rfl) (t := 133) rfl h (fun h => ?_) (fun h => ?_)
  refine ev_w [true, false] ?_
  exact jK168_133 u h
  refine ev_aload_n (pc := 115) (fe_168 rfl) rfl ?_
  refine ev_getI (pc := 116) (fe_168 rfl) fr_146 t_223 ?_
  refine ev_iconst (pc := 119) (fe_168 rfl) li_m1 ?_
  refine ev_ic_ne (pc := 120) (fe_168 rfl) (t := 133) rfl h (fun h => ?_) (fun h => ?_)
  refine ev_w [true, false] ?_
  exact jK168_133 u h
  refine ev_aload_n (pc := 123) (fe_168 rfl) rfl ?_
  refine fm_bd h (fun p16 ep16 h => ?_)
  refine ev_callVk (pc := 124) (fe_168 rfl) (z := 163) (na := 1) (ow := 10) cg_168_185 rfl rfl rfl t_223 (m := 3) rfl (jK163 ep16) (st1 := []) rfl ?_
  refine ev_iinc (pc := 127) (fe_168 rfl) mx_168 rfl rfl li_1 ?_
  refine ev_goto (pc := 130) (fe_168 rfl) (t := 109) rfl ?_
  exact ih (x1 + 1) p16 h
theorem jK168_33 {X : Nat × (Nat → Int32)} {r : fm} : ∀ (n : Nat) (x1 : Int32) (u : fm), jF168_33 n x1 u = some r → ev X 168 33 [some (.inr (.inl (some 223))), some (.inl x1)] [] u ([], r) := by
  intro n
  induction n with
  | zero =>
    intro _ _ h
    unfold jF168_33 at h
    cases h
  | succ n ih =>
  intro x1 u h
  unfold jF168_33 at h
  refine ev_iload_n (pc := 33) (fe_168 rfl) rfl ?_
  refine ev_bipush (pc := 34) (fe_168 rfl) lb_6 ?_
  refine ev_ic_ge (pc := 36) (fe_168 rfl) (t := 52) rfl h (fun h => ?_) (fun h => ?_)
  refine ev_aload_n (pc := 52) (fe_168 rfl) rfl ?_
  refine ev_getR (a1 := 251) (pc := 53) (fe_168 rfl) fr_137 t_223 rfl ?_
  refine ev_iconst (pc := 56) (fe_168 rfl) li_0 ?_
  refine ev_aload_n (pc := 57) (fe_168 rfl) rfl ?_
  refine ev_iconst (pc := 58) (fe_168 rfl) li_0 ?_
  refine ev_bipush (pc := 59) (fe_168 rfl) lb_7 ?_
  refine fm_bd h (fun p3 ep3 h => ?_)
  refine ev_callVk (pc := 61) (fe_168 rfl) (z := 158) (na := 3) (ow := 10) cg_168_179 rfl rfl rfl t_223 (m := 5) rfl (jK158 ep3) (st1 := [.inl p3.1, .inl 0, .inr (.inl (some 251))]) rfl ?_
  refine fm_lt_h h (fun u4 eu4 h => ?_)
  refine ev_iastorek (pc := 64) (fe_168 rfl) t_251 (by decide) rfl eu4 ?_
  refine ev_aload_n (pc := 65) (fe_168 rfl) rfl ?_
  refine ev_getR (a1 := 251) (pc := 66) (fe_168 rfl) fr_137 t_223 rfl ?_
  refine ev_iconst (pc := 69) (fe_168 rfl) li_0 ?_
  refine ev_ialoadk (pc := 70) (fe_168 rfl) t_251 (by decide) rfl ?_
  refine ev_iconst (pc := 71) (fe_168 rfl) li_3 ?_
  refine ev_ic_ge (pc := 72) (fe_168 rfl) (t := 103) rfl h (fun h => ?_) (fun h => ?_)
  refine ev_aload_n (pc := 103) (fe_168 rfl) rfl ?_
  refine fm_bd h (fun p5 ep5 h => ?_)
  refine ev_callVk (pc := 104) (fe_168 rfl) (z := 159) (na := 1) (ow := 10) cg_168_182 rfl rfl rfl t_223 (m := 0) rfl (jK159 ep5) (st1 := []) rfl ?_
  refine ev_iconst (pc := 107) (fe_168 rfl) li_0 ?_
  refine ev_istore_n (pc := 108) (fe_168 rfl) mx_168 rfl ?_
  exact jK168_109 fm_N 0 p5 h
  refine ev_aload_n (pc := 75) (fe_168 rfl) rfl ?_
  refine ev_getI (pc := 76) (fe_168 rfl) fr_146 t_223 ?_
  refine ev_iconst (pc := 79) (fe_168 rfl) li_m1 ?_
  refine ev_ic_ne (pc := 80) (fe_168 rfl) (t := 103) rfl h (fun h => ?_) (fun h => ?_)
  refine ev_aload_n (pc := 103) (fe_168 rfl) rfl ?_
  refine fm_bd h (fun p17 ep17 h => ?_)
  refine ev_callVk (pc := 104) (fe_168 rfl) (z := 159) (na := 1) (ow := 10) cg_168_182 rfl rfl rfl t_223 (m := 0) rfl (jK159 ep17) (st1 := []) rfl ?_
  refine ev_iconst (pc := 107) (fe_168 rfl) li_0 ?_
  refine ev_istore_n (pc := 108) (fe_168 rfl) mx_168 rfl ?_
  exact jK168_109 fm_N 0 p17 h
  refine ev_aload_n (pc := 83) (fe_168 rfl) rfl ?_
  refine ev_getR (a1 := 251) (pc := 84) (fe_168 rfl) fr_137 t_223 rfl ?_
  refine ev_iconst (pc := 87) (fe_168 rfl) li_2 ?_
  refine ev_aload_n (pc := 88) (fe_168 rfl) rfl ?_
  refine ev_iconst (pc := 89) (fe_168 rfl) li_0 ?_
  refine ev_iconst (pc := 90) (fe_168 rfl) li_1 ?_
  refine fm_bd h (fun p18 ep18 h => ?_)
  refine ev_callVk (pc := 91) (fe_168 rfl) (z := 161) (na := 3) (ow := 10) cg_168_180 rfl rfl rfl t_223 (m := 0) rfl (jK161 ep18) (st1 := [.inl p18.1, .inl 2, .inr (.inl (some 251))]) rfl ?_
  refine fm_lt_h h (fun u19 eu19 h => ?_)
  refine ev_iastorek (pc := 94) (fe_168 rfl) t_251 (by decide) rfl eu19 ?_
  refine ev_aload_n (pc := 95) (fe_168 rfl) rfl ?_
  refine ev_bipush (pc := 96) (fe_168 rfl) lb_16 ?_
  refine ev_iconst (pc := 98) (fe_168 rfl) li_1 ?_
  refine fm_bd h (fun p20 ep20 h => ?_)
  refine ev_callVk (pc := 99) (fe_168 rfl) (z := 158) (na := 3) (ow := 10) cg_168_179 rfl rfl rfl t_223 (m := 5) rfl (jK158 ep20) (st1 := [.inl p20.1]) rfl ?_
  refine ev_pop (pc := 102) (fe_168 rfl) rfl ?_
  refine ev_aload_n (pc := 103) (fe_168 rfl) rfl ?_
  refine fm_bd h (fun p21 ep21 h => ?_)
  refine ev_callVk (pc := 104) (fe_168 rfl) (z := 159) (na := 1) (ow := 10) cg_168_182 rfl rfl rfl t_223 (m := 0) rfl (jK159 ep21) (st1 := []) rfl ?_
  refine ev_iconst (pc := 107) (fe_168 rfl) li_0 ?_
  refine ev_istore_n (pc := 108) (fe_168 rfl) mx_168 rfl ?_
  exact jK168_109 fm_N 0 p21 h
  refine ev_aload_n (pc := 39) (fe_168 rfl) rfl ?_
  refine ev_getR (a1 := 254) (pc := 40) (fe_168 rfl) fr_140 t_223 rfl ?_
  refine ev_iload_n (pc := 43) (fe_168 rfl) rfl ?_
  refine ev_iconst (pc := 44) (fe_168 rfl) li_0 ?_
  refine fm_ob h (fun g22 h => ?_)
  refine fm_lt_h h (fun u23 eu23 h => ?_)
  refine ev_bastore (pc := 45) (fe_168 rfl) t_254 g22 (Or.inl rfl) eu23 ?_
  refine ev_iinc (pc := 46) (fe_168 rfl) mx_168 rfl rfl li_1 ?_
  refine ev_goto (pc := 49) (fe_168 rfl) (t := 33) rfl ?_
  exact ih (x1 + 1) u23 h
theorem jK168_12 {X : Nat × (Nat → Int32)} {r : fm} : ∀ (n : Nat) (x1 : Int32) (u : fm), jF168_12 n x1 u = some r → ev X 168 12 [some (.inr (.inl (some 223))), some (.inl x1)] [] u ([], r) := by
  intro n
  induction n with
  | zero =>
    intro _ _ h
    unfold jF168_12 at h
    cases h
  | succ n ih =>
  intro x1 u h
  unfold jF168_12 at h
  refine ev_iload_n (pc := 12) (fe_168 rfl) rfl ?_
  refine ev_bipush (pc := 13) (fe_168 rfl) lb_50 ?_
  refine ev_ic_ge (pc := 15) (fe_168 rfl) (t := 31) rfl h (fun h => ?_) (fun h => ?_)
  refine ev_iconst (pc := 31) (fe_168 rfl) li_0 ?_
  refine ev_istore_n (pc := 32) (fe_168 rfl) mx_168 rfl ?_
  exact jK168_33 fm_N 0 u h
  refine ev_aload_n (pc := 18) (fe_168 rfl) rfl ?_
  refine ev_getR (a1 := 251) (pc := 19) (fe_168 rfl) fr_137 t_223 rfl ?_
  refine ev_iload_n (pc := 22) (fe_168 rfl) rfl ?_
  refine ev_iconst (pc := 23) (fe_168 rfl) li_0 ?_
  refine fm_ob h (fun g24 h => ?_)
  refine fm_lt_h h (fun u25 eu25 h => ?_)
  refine ev_iastore (pc := 24) (fe_168 rfl) t_251 g24 eu25 ?_
  refine ev_iinc (pc := 25) (fe_168 rfl) mx_168 rfl rfl li_1 ?_
  refine ev_goto (pc := 28) (fe_168 rfl) (t := 12) rfl ?_
  exact ih (x1 + 1) u25 h
theorem jK168 {X : Nat × (Nat → Int32)} {u : fm} {r : fm} (h : jF168 u = some r) : ev X 168 0 [some (.inr (.inl (some 223))), none] [] u ([], r) := by
  unfold jF168 at h
  refine ev_aload_n (pc := 0) (fe_168 rfl) rfl ?_
  refine ev_iconst (pc := 1) (fe_168 rfl) li_0 ?_
  refine fm_lt_h h (fun u1 eu1 h => ?_)
  refine ev_putI (pc := 2) (fe_168 rfl) fr_147 t_223 eu1 ?_
  refine ev_aload_n (pc := 5) (fe_168 rfl) rfl ?_
  refine ev_iconst (pc := 6) (fe_168 rfl) li_m1 ?_
  refine fm_lt_h h (fun u2 eu2 h => ?_)
  refine ev_putI (pc := 7) (fe_168 rfl) fr_146 t_223 eu2 ?_
  refine ev_iconst (pc := 10) (fe_168 rfl) li_0 ?_
  refine ev_istore_n (pc := 11) (fe_168 rfl) mx_168 rfl ?_
  exact jK168_12 fm_N 0 u2 h
/-- CallAgentsModel inject -/
def jF169 (x1 : Int32) (u : fm) : Option (Int32 × fm) :=
  if (jF105 x1) = 0 then
  (some ((-2), u))
  else
  (Option.bind (jF168 u) (fun p2 => fm_let (sI p2 223 32 0) (fun u3 => if (fI u3 223 34) = (-1) then
  (Option.bind (jF123 x1 u3) (fun p4 => some (0, p4)))
  else
  (some ((-10) - (fI u3 223 34), u3)))))
theorem jK169 {X : Nat × (Nat → Int32)} {x1 : Int32} {u : fm} {r : Int32 × fm} (h : jF169 x1 u = some r) : ev X 169 0 [some (.inr (.inl (some 223))), some (.inl x1)] [] u ([.inl r.1], r.2) := by
  unfold jF169 at h
  refine ev_iload_n (pc := 0) (fe_169 rfl) rfl ?_
  refine ev_callSZk (pc := 1) (fe_169 rfl) (z := 105) (na := 1) (ow := 10) cg_169_137 rt_105 rfl (m := 0) rfl (jK105 rfl) (st1 := [.inl (jF105 x1)]) rfl (fun z1 => ?_)
  refine ev_if_ne (pc := 4) (fe_169 rfl) (t := 10) rfl h (fun h => ?_) (fun h => ?_)
  refine ev_aload_n (pc := 10) (fe_169 rfl) rfl ?_
  refine fm_bd h (fun p2 ep2 h => ?_)
  refine ev_callVk (pc := 11) (fe_169 rfl) (z := 168) (na := 1) (ow := 10) cg_169_187 rfl rfl rfl t_223 (m := 1) rfl (jK168 ep2) (st1 := []) rfl ?_
  refine ev_aload_n (pc := 14) (fe_169 rfl) rfl ?_
  refine ev_iconst (pc := 15) (fe_169 rfl) li_0 ?_
  refine fm_lt_h h (fun u3 eu3 h => ?_)
  refine ev_putI (pc := 16) (fe_169 rfl) fr_145 t_223 eu3 ?_
  refine ev_aload_n (pc := 19) (fe_169 rfl) rfl ?_
  refine ev_getI (pc := 20) (fe_169 rfl) fr_146 t_223 ?_
  refine ev_iconst (pc := 23) (fe_169 rfl) li_m1 ?_
  refine ev_ic_eq (pc := 24) (fe_169 rfl) (t := 35) rfl h (fun h => ?_) (fun h => ?_)
  refine ev_aload_n (pc := 35) (fe_169 rfl) rfl ?_
  refine ev_iload_n (pc := 36) (fe_169 rfl) rfl ?_
  refine fm_bd h (fun p4 ep4 h => ?_)
  refine ev_callVk (pc := 37) (fe_169 rfl) (z := 123) (na := 2) (ow := 10) cg_169_154 rfl rfl rfl t_223 (m := 1) rfl (jK123 ep4) (st1 := []) rfl ?_
  refine ev_iconst (pc := 40) (fe_169 rfl) li_0 ?_
  exact ev_R (ev_irt (pc := 41) (fe_169 rfl) rt_169) (by rw [← Option.some.inj h])
  refine ev_bipush (pc := 27) (fe_169 rfl) lb_m10 ?_
  refine ev_aload_n (pc := 29) (fe_169 rfl) rfl ?_
  refine ev_getI (pc := 30) (fe_169 rfl) fr_146 t_223 ?_
  refine ev_isub (pc := 33) (fe_169 rfl) ?_
  exact ev_R (ev_irt (pc := 34) (fe_169 rfl) rt_169) (by rw [← Option.some.inj h])
  refine ev_bipush (pc := 7) (fe_169 rfl) lb_m2 ?_
  exact ev_R (ev_irt (pc := 9) (fe_169 rfl) rt_169) (by rw [← Option.some.inj h])
/-- CallAgentsModel next -/
def jF170 (x1 : Int32) (u : fm) : Option (Int64) :=
  if fm_in x1 2 then if (fG u 248 (Int32.toNatClampNeg x1)) = (-1) then
  (some (fG u 250 (Int32.toNatClampNeg x1)))
  else
  (if (fG u 250 (Int32.toNatClampNeg x1)) = (-1) then
  (some (fG u 248 (Int32.toNatClampNeg x1)))
  else
  (if (fG u 250 (Int32.toNatClampNeg x1)) < (fG u 248 (Int32.toNatClampNeg x1)) then
  (some (fG u 250 (Int32.toNatClampNeg x1)))
  else
  (some (fG u 248 (Int32.toNatClampNeg x1))))) else none
theorem jK170 {X : Nat × (Nat → Int32)} {x1 : Int32} {u : fm} {r : Int64} (h : jF170 x1 u = some r) : ev X 170 0 [some (.inr (.inl (some 223))), some (.inl x1), none, none, none, none] [] u ([.inr (.inr r)], u) := by
  unfold jF170 at h
  refine ev_aload_n (pc := 0) (fe_170 rfl) rfl ?_
  refine ev_getR (a1 := 248) (pc := 1) (fe_170 rfl) fr_134 t_223 rfl ?_
  refine ev_iload_n (pc := 4) (fe_170 rfl) rfl ?_
  refine fm_ob h (fun g1 h => ?_)
  refine ev_laload (pc := 5) (fe_170 rfl) t_248 g1 ?_
  refine ev_lstore_n (pc := 6) (fe_170 rfl) mx_170 rfl ?_
  refine ev_aload_n (pc := 7) (fe_170 rfl) rfl ?_
  refine ev_getR (a1 := 250) (pc := 8) (fe_170 rfl) fr_136 t_223 rfl ?_
  refine ev_iload_n (pc := 11) (fe_170 rfl) rfl ?_
  refine ev_laload (pc := 12) (fe_170 rfl) t_250 g1 ?_
  refine ev_lstore (pc := 13) (fe_170 rfl) mx_170 rfl ?_
  refine ev_lload_n (pc := 15) (fe_170 rfl) rfl ?_
  refine ev_ldc2 (pc := 16) (fe_170 rfl) (c := (-1)) rfl ?_
  refine ev_lcmp (pc := 19) (fe_170 rfl) ?_
  refine ev_if_eq (pc := 20) (fe_170 rfl) (t := 43) rfl (fm_lc_eq.trans h) (fun h => ?_) (fun h => ?_)
  refine ev_lload (pc := 43) (fe_170 rfl) rfl ?_
  exact ev_R (ev_lrt (pc := 45) (fe_170 rfl) rt_170) (by rw [← Option.some.inj h])
  refine ev_lload (pc := 23) (fe_170 rfl) rfl ?_
  refine ev_ldc2 (pc := 25) (fe_170 rfl) (c := (-1)) rfl ?_
  refine ev_lcmp (pc := 28) (fe_170 rfl) ?_
  refine ev_if_eq (pc := 29) (fe_170 rfl) (t := 39) rfl (fm_lc_eq.trans h) (fun h => ?_) (fun h => ?_)
  refine ev_lload_n (pc := 39) (fe_170 rfl) rfl ?_
  refine ev_goto (pc := 40) (fe_170 rfl) (t := 45) rfl ?_
  exact ev_R (ev_lrt (pc := 45) (fe_170 rfl) rt_170) (by rw [← Option.some.inj h])
  refine ev_lload_n (pc := 32) (fe_170 rfl) rfl ?_
  refine ev_lload (pc := 33) (fe_170 rfl) rfl ?_
  refine ev_lcmp (pc := 35) (fe_170 rfl) ?_
  refine ev_if_gt (pc := 36) (fe_170 rfl) (t := 43) rfl (fm_lc_gt.trans h) (fun h => ?_) (fun h => ?_)
  refine ev_lload (pc := 43) (fe_170 rfl) rfl ?_
  exact ev_R (ev_lrt (pc := 45) (fe_170 rfl) rt_170) (by rw [← Option.some.inj h])
  refine ev_lload_n (pc := 39) (fe_170 rfl) rfl ?_
  refine ev_goto (pc := 40) (fe_170 rfl) (t := 45) rfl ?_
  exact ev_R (ev_lrt (pc := 45) (fe_170 rfl) rt_170) (by rw [← Option.some.inj h])
