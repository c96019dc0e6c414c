set_option maxRecDepth 8000
/-- CallAgentsModel fire -/
def jF171_109 (x1 : Int32) (u : fm) : Option (fm) :=
  if fm_in x1 2 then if (fA u 225 (Int32.toNatClampNeg x1)) = 1 then
  (fm_let (sA u 225 (Int32.toNatClampNeg x1) 4) (fun u5 => Option.bind (jF107 x1 u5) (fun p6 => some p6)))
  else
  (fm_let (sA u 225 (Int32.toNatClampNeg x1) 9) (fun u3 => Option.bind (jF107 x1 u3) (fun p4 => some p4))) else none
def jF171 (x1 : Int32) (u : fm) : Option (fm) :=
  if fm_in x1 2 then if (fG u 248 (Int32.toNatClampNeg x1)) = (-1) then
  (jF171_109 x1 u)
  else
  (if (fG u 250 (Int32.toNatClampNeg x1)) < (fG u 248 (Int32.toNatClampNeg x1)) then
  (jF171_109 x1 u)
  else
  (Option.bind (jF109 244 (50 * x1) u) (fun p7 => fm_let (sG p7 249 (Int32.toNatClampNeg x1) ((fG p7 249 (Int32.toNatClampNeg x1)) * 2)) (fun u8 => if (fA u8 225 (Int32.toNatClampNeg x1)) = 1 then
  (fm_let (sG u8 248 (Int32.toNatClampNeg x1) ((fG u8 248 (Int32.toNatClampNeg x1)) + (fG u8 249 (Int32.toNatClampNeg x1)))) (fun u9 => some u9))
  else
  (if 4000 < (fG u8 249 (Int32.toNatClampNeg x1)) then
  (fm_let (sG u8 249 (Int32.toNatClampNeg x1) 4000) (fun u11 => fm_let (sG u11 248 (Int32.toNatClampNeg x1) ((fG u11 248 (Int32.toNatClampNeg x1)) + (fG u11 249 (Int32.toNatClampNeg x1)))) (fun u12 => some u12)))
  else
  (fm_let (sG u8 248 (Int32.toNatClampNeg x1) ((fG u8 248 (Int32.toNatClampNeg x1)) + (fG u8 249 (Int32.toNatClampNeg x1)))) (fun u10 => some u10))))))) else none
theorem jK171_109 {X : Nat × (Nat → Int32)} {r : fm} (x1 : Int32) (u : fm) (h : jF171_109 x1 u = some r) : ev X 171 109 [some (.inr (.inl (some 223))), some (.inl x1)] [] u ([], r) := by
  unfold jF171_109 at h
  refine ev_aload_n (pc := 109) (fe_171 rfl) rfl ?_
  refine ev_getR (a1 := 225) (pc := 110) (fe_171 rfl) fr_111 t_223 rfl ?_
  refine ev_iload_n (pc := 113) (fe_171 rfl) rfl ?_
  refine ev_aload_n (pc := 114) (fe_171 rfl) rfl ?_
  refine ev_getR (a1 := 225) (pc := 115) (fe_171 rfl) fr_111 t_223 rfl ?_
  refine ev_iload_n (pc := 118) (fe_171 rfl) rfl ?_
  refine fm_ob h (fun g2 h => ?_)
  refine ev_iaload (pc := 119) (fe_171 rfl) t_225 g2 ?_
  refine ev_iconst (pc := 120) (fe_171 rfl) li_1 ?_
  refine ev_ic_ne (pc := 121) (fe_171 rfl) (t := 128) rfl h (fun h => ?_) (fun h => ?_)
  refine ev_bipush (pc := 128) (fe_171 rfl) lb_9 ?_
  refine fm_lt_h h (fun u3 eu3 h => ?_)
  refine ev_iastore (pc := 130) (fe_171 rfl) t_225 g2 eu3 ?_
  refine ev_aload_n (pc := 131) (fe_171 rfl) rfl ?_
  refine ev_iload_n (pc := 132) (fe_171 rfl) rfl ?_
  refine fm_bd h (fun p4 ep4 h => ?_)
  refine ev_callVk (pc := 133) (fe_171 rfl) (z := 107) (na := 2) (ow := 10) cg_171_135 rfl rfl rfl t_223 (m := 0) rfl (jK107 ep4) (st1 := []) rfl ?_
  exact ev_R (ev_vrt (pc := 136) (fe_171 rfl) rt_171) (by rw [← Option.some.inj h])
  refine ev_iconst (pc := 124) (fe_171 rfl) li_4 ?_
  refine ev_goto (pc := 125) (fe_171 rfl) (t := 130) rfl ?_
  refine fm_lt_h h (fun u5 eu5 h => ?_)
  refine ev_iastore (pc := 130) (fe_171 rfl) t_225 g2 eu5 ?_
  refine ev_aload_n (pc := 131) (fe_171 rfl) rfl ?_
  refine ev_iload_n (pc := 132) (fe_171 rfl) rfl ?_
  refine fm_bd h (fun p6 ep6 h => ?_)
  refine ev_callVk (pc := 133) (fe_171 rfl) (z := 107) (na := 2) (ow := 10) cg_171_135 rfl rfl rfl t_223 (m := 0) rfl (jK107 ep6) (st1 := []) rfl ?_
  exact ev_R (ev_vrt (pc := 136) (fe_171 rfl) rt_171) (by rw [← Option.some.inj h])
theorem jK171 {X : Nat × (Nat → Int32)} {x1 : Int32} {u : fm} {r : fm} (h : jF171 x1 u = some r) : ev X 171 0 [some (.inr (.inl (some 223))), some (.inl x1)] [] u ([], r) := by
  unfold jF171 at h
  refine ev_aload_n (pc := 0) (fe_171 rfl) rfl ?_
  refine ev_getR (a1 := 248) (pc := 1) (fe_171 rfl) fr_134 t_223 rfl ?_
  refine ev_iload_n (pc := 4) (fe_171 rfl) rfl ?_
  refine fm_ob h (fun g1 h => ?_)
  refine ev_laload (pc := 5) (fe_171 rfl) t_248 g1 ?_
  refine ev_ldc2 (pc := 6) (fe_171 rfl) (c := (-1)) rfl ?_
  refine ev_lcmp (pc := 9) (fe_171 rfl) ?_
  refine ev_if_eq (pc := 10) (fe_171 rfl) (t := 109) rfl (fm_lc_eq.trans h) (fun h => ?_) (fun h => ?_)
  exact jK171_109 x1 u h
  refine ev_aload_n (pc := 13) (fe_171 rfl) rfl ?_
  refine ev_getR (a1 := 248) (pc := 14) (fe_171 rfl) fr_134 t_223 rfl ?_
  refine ev_iload_n (pc := 17) (fe_171 rfl) rfl ?_
  refine ev_laload (pc := 18) (fe_171 rfl) t_248 g1 ?_
  refine ev_aload_n (pc := 19) (fe_171 rfl) rfl ?_
  refine ev_getR (a1 := 250) (pc := 20) (fe_171 rfl) fr_136 t_223 rfl ?_
  refine ev_iload_n (pc := 23) (fe_171 rfl) rfl ?_
  refine ev_laload (pc := 24) (fe_171 rfl) t_250 g1 ?_
  refine ev_lcmp (pc := 25) (fe_171 rfl) ?_
  refine ev_if_gt (pc := 26) (fe_171 rfl) (t := 109) rfl (fm_lc_gt.trans h) (fun h => ?_) (fun h => ?_)
  exact jK171_109 x1 u h
  refine ev_aload_n (pc := 29) (fe_171 rfl) rfl ?_
  refine ev_aload_n (pc := 30) (fe_171 rfl) rfl ?_
  refine ev_getR (a1 := 244) (pc := 31) (fe_171 rfl) fr_130 t_223 rfl ?_
  refine ev_bipush (pc := 34) (fe_171 rfl) lb_50 ?_
  refine ev_iload_n (pc := 36) (fe_171 rfl) rfl ?_
  refine ev_imul (pc := 37) (fe_171 rfl) ?_
  refine fm_bd h (fun p7 ep7 h => ?_)
  refine ev_callVk (pc := 38) (fe_171 rfl) (z := 109) (na := 3) (ow := 10) cg_171_143 rfl rfl rfl t_223 (m := 1) rfl (jK109 t_244 ep7) (st1 := []) rfl ?_
  refine ev_aload_n (pc := 41) (fe_171 rfl) rfl ?_
  refine ev_getR (a1 := 249) (pc := 42) (fe_171 rfl) fr_135 t_223 rfl ?_
  refine ev_iload_n (pc := 45) (fe_171 rfl) rfl ?_
  refine ev_aload_n (pc := 46) (fe_171 rfl) rfl ?_
  refine ev_getR (a1 := 249) (pc := 47) (fe_171 rfl) fr_135 t_223 rfl ?_
  refine ev_iload_n (pc := 50) (fe_171 rfl) rfl ?_
  refine ev_laload (pc := 51) (fe_171 rfl) t_249 g1 ?_
  refine ev_ldc2 (pc := 52) (fe_171 rfl) (c := 2) rfl ?_
  refine ev_lmul (pc := 55) (fe_171 rfl) ?_
  refine fm_lt_h h (fun u8 eu8 h => ?_)
  refine ev_lastore (pc := 56) (fe_171 rfl) t_249 g1 eu8 ?_
  refine ev_aload_n (pc := 57) (fe_171 rfl) rfl ?_
  refine ev_getR (a1 := 225) (pc := 58) (fe_171 rfl) fr_111 t_223 rfl ?_
  refine ev_iload_n (pc := 61) (fe_171 rfl) rfl ?_
  refine ev_iaload (pc := 62) (fe_171 rfl) t_225 g1 ?_
  refine ev_iconst (pc := 63) (fe_171 rfl) li_1 ?_
  refine ev_ic_eq (pc := 64) (fe_171 rfl) (t := 89) rfl h (fun h => ?_) (fun h => ?_)
  refine ev_aload_n (pc := 89) (fe_171 rfl) rfl ?_
  refine ev_getR (a1 := 248) (pc := 90) (fe_171 rfl) fr_134 t_223 rfl ?_
  refine ev_iload_n (pc := 93) (fe_171 rfl) rfl ?_
  refine ev_aload_n (pc := 94) (fe_171 rfl) rfl ?_
  refine ev_getR (a1 := 248) (pc := 95) (fe_171 rfl) fr_134 t_223 rfl ?_
  refine ev_iload_n (pc := 98) (fe_171 rfl) rfl ?_
  refine ev_laload (pc := 99) (fe_171 rfl) t_248 g1 ?_
  refine ev_aload_n (pc := 100) (fe_171 rfl) rfl ?_
  refine ev_getR (a1 := 249) (pc := 101) (fe_171 rfl) fr_135 t_223 rfl ?_
  refine ev_iload_n (pc := 104) (fe_171 rfl) rfl ?_
  refine ev_laload (pc := 105) (fe_171 rfl) t_249 g1 ?_
  refine ev_ladd (pc := 106) (fe_171 rfl) ?_
  refine fm_lt_h h (fun u9 eu9 h => ?_)
  refine ev_lastore (pc := 107) (fe_171 rfl) t_248 g1 eu9 ?_
  exact ev_R (ev_vrt (pc := 108) (fe_171 rfl) rt_171) (by rw [← Option.some.inj h])
  refine ev_aload_n (pc := 67) (fe_171 rfl) rfl ?_
  refine ev_getR (a1 := 249) (pc := 68) (fe_171 rfl) fr_135 t_223 rfl ?_
  refine ev_iload_n (pc := 71) (fe_171 rfl) rfl ?_
  refine ev_laload (pc := 72) (fe_171 rfl) t_249 g1 ?_
  refine ev_ldc2 (pc := 73) (fe_171 rfl) (c := 4000) rfl ?_
  refine ev_lcmp (pc := 76) (fe_171 rfl) ?_
  refine ev_if_le (pc := 77) (fe_171 rfl) (t := 89) rfl (fm_lc_gt.trans h) (fun h => ?_) (fun h => ?_)
  refine ev_aload_n (pc := 89) (fe_171 rfl) rfl ?_
  refine ev_getR (a1 := 248) (pc := 90) (fe_171 rfl) fr_134 t_223 rfl ?_
  refine ev_iload_n (pc := 93) (fe_171 rfl) rfl ?_
  refine ev_aload_n (pc := 94) (fe_171 rfl) rfl ?_
  refine ev_getR (a1 := 248) (pc := 95) (fe_171 rfl) fr_134 t_223 rfl ?_
  refine ev_iload_n (pc := 98) (fe_171 rfl) rfl ?_
  refine ev_laload (pc := 99) (fe_171 rfl) t_248 g1 ?_
  refine ev_aload_n (pc := 100) (fe_171 rfl) rfl ?_
  refine ev_getR (a1 := 249) (pc := 101) (fe_171 rfl) fr_135 t_223 rfl ?_
  refine ev_iload_n (pc := 104) (fe_171 rfl) rfl ?_
  refine ev_laload (pc := 105) (fe_171 rfl) t_249 g1 ?_
  refine ev_ladd (pc := 106) (fe_171 rfl) ?_
  refine fm_lt_h h (fun u10 eu10 h => ?_)
  refine ev_lastore (pc := 107) (fe_171 rfl) t_248 g1 eu10 ?_
  exact ev_R (ev_vrt (pc := 108) (fe_171 rfl) rt_171) (by rw [← Option.some.inj h])
  refine ev_aload_n (pc := 80) (fe_171 rfl) rfl ?_
  refine ev_getR (a1 := 249) (pc := 81) (fe_171 rfl) fr_135 t_223 rfl ?_
  refine ev_iload_n (pc := 84) (fe_171 rfl) rfl ?_
  refine ev_ldc2 (pc := 85) (fe_171 rfl) (c := 4000) rfl ?_
  refine fm_lt_h h (fun u11 eu11 h => ?_)
  refine ev_lastore (pc := 88) (fe_171 rfl) t_249 g1 eu11 ?_
  refine ev_aload_n (pc := 89) (fe_171 rfl) rfl ?_
  refine ev_getR (a1 := 248) (pc := 90) (fe_171 rfl) fr_134 t_223 rfl ?_
  refine ev_iload_n (pc := 93) (fe_171 rfl) rfl ?_
  refine ev_aload_n (pc := 94) (fe_171 rfl) rfl ?_
  refine ev_getR (a1 := 248) (pc := 95) (fe_171 rfl) fr_134 t_223 rfl ?_
  refine ev_iload_n (pc := 98) (fe_171 rfl) rfl ?_
  refine ev_laload (pc := 99) (fe_171 rfl) t_248 g1 ?_
  refine ev_aload_n (pc := 100) (fe_171 rfl) rfl ?_
  refine ev_getR (a1 := 249) (pc := 101) (fe_171 rfl) fr_135 t_223 rfl ?_
  refine ev_iload_n (pc := 104) (fe_171 rfl) rfl ?_
  refine ev_laload (pc := 105) (fe_171 rfl) t_249 g1 ?_
  refine ev_ladd (pc := 106) (fe_171 rfl) ?_
  refine fm_lt_h h (fun u12 eu12 h => ?_)
  refine ev_lastore (pc := 107) (fe_171 rfl) t_248 g1 eu12 ?_
  exact ev_R (ev_vrt (pc := 108) (fe_171 rfl) rt_171) (by rw [← Option.some.inj h])
/-- CallAgentsModel pass -/
def jF172_89 (k25 : Int64 → Int32 → fm → Option (Int32 × fm)) (x2 : Int64) (x9 : Int32) (s0 : Int64) (u : fm) : Option (Int32 × fm) :=
  if s0 = (-1) then
  (k25 x2 0 u)
  else
  (if x2 < s0 then
  (k25 x2 0 u)
  else
  (fm_let (sJ u 223 2 s0) (fun u4 => Option.bind (jF171 x9 u4) (fun p5 => k25 x2 1 p5))))
def jF172_75 (k25 : Int64 → Int32 → fm → Option (Int32 × fm)) (x2 : Int64) (x5 : Int64) (x7 : Int64) (s0 : Int32) (u : fm) : Option (Int32 × fm) :=
  if s0 = 0 then
  (jF172_89 k25 x2 s0 x5 u)
  else
  (jF172_89 k25 x2 s0 x7 u)
def jF172_74 (k25 : Int64 → Int32 → fm → Option (Int32 × fm)) (x2 : Int64) (x5 : Int64) (x7 : Int64) (u : fm) : Option (Int32 × fm) :=
  jF172_75 k25 x2 x5 x7 1 u
def jF172_70 (k25 : Int64 → Int32 → fm → Option (Int32 × fm)) (x2 : Int64) (x5 : Int64) (x7 : Int64) (u : fm) : Option (Int32 × fm) :=
  jF172_75 k25 x2 x5 x7 0 u
def jF172_25 : Nat → Int64 → Int32 → fm → Option (Int32 × fm)
  | 0, _, _, _ => none
  | n + 1, x2, x4, u =>
  if x4 = 0 then
  (fm_let (sJ u 223 2 x2) (fun u1 => some (Int64.toInt32 (fJ u1 223 2), u1)))
  else
  (Option.bind (jF170 0 u) (fun p2 => Option.bind (jF170 1 u) (fun p3 => if p2 = (-1) then
  (jF172_74 (fun x2' x4' u' => jF172_25 n x2' x4' u') x2 p2 p3 u)
  else
  (if p3 = (-1) then
  (jF172_70 (fun x2' x4' u' => jF172_25 n x2' x4' u') x2 p2 p3 u)
  else
  (if p3 < p2 then
  (jF172_74 (fun x2' x4' u' => jF172_25 n x2' x4' u') x2 p2 p3 u)
  else
  (jF172_70 (fun x2' x4' u' => jF172_25 n x2' x4' u') x2 p2 p3 u))))))
def jF172 (x1 : Int32) (u : fm) : Option (Int32 × fm) :=
  if x1 < 1 then
  (some ((-1), u))
  else
  (if 100000 < x1 then
  (some ((-1), u))
  else
  (jF172_25 fm_N ((fJ u 223 2) + (Int32.toInt64 x1)) 1 u))
theorem jK172_89 {X : Nat × (Nat → Int32)} {r : Int32 × fm} {k25 : Int64 → Int32 → fm → Option (Int32 × fm)} (x2 : Int64) (x9 : Int32) (s0 : Int64) (u : fm) (b_x9 : x9 = 0 ∨ x9 = 1) (hk25 : ∀ (x2 : Int64) (x4 : Int32) (u : fm), (x4 = 0 ∨ x4 = 1) → k25 x2 x4 u = some r → ev X 172 25 [some (.inr (.inl (some 223))), none, some (.inr (.inr x2)), none, some (.inl x4), none, none, none, none, none, none, none] [] u ([.inl r.1], r.2)) (h : jF172_89 k25 x2 x9 s0 u = some r) : ev X 172 89 [some (.inr (.inl (some 223))), none, some (.inr (.inr x2)), none, none, none, none, none, none, some (.inl x9), none, none] [.inr (.inr s0)] u ([.inl r.1], r.2) := by
  unfold jF172_89 at h
  refine ev_lstore (pc := 89) (fe_172 rfl) mx_172 rfl ?_
  refine ev_lload (pc := 91) (fe_172 rfl) rfl ?_
  refine ev_ldc2 (pc := 93) (fe_172 rfl) (c := (-1)) rfl ?_
  refine ev_lcmp (pc := 96) (fe_172 rfl) ?_
  refine ev_if_eq (pc := 97) (fe_172 rfl) (t := 111) rfl (fm_lc_eq.trans h) (fun h => ?_) (fun h => ?_)
  refine ev_iconst (pc := 111) (fe_172 rfl) li_0 ?_
  refine ev_istore (pc := 112) (fe_172 rfl) mx_172 rfl ?_
  refine ev_iload (pc := 114) (fe_172 rfl) rfl ?_
  refine ev_ifc (pc := 116) (fe_172 rfl) (t := 131) (t1 := 131) (b := true) rfl (by decide) rfl ?_
  refine ev_goto (pc := 131) (fe_172 rfl) (t := 25) rfl ?_
  refine ev_w [true, true, true, true, true, true, true, true, true, false, false, true] ?_
  exact hk25 x2 0 u (Or.inl rfl) h
  refine ev_lload (pc := 100) (fe_172 rfl) rfl ?_
  refine ev_lload_n (pc := 102) (fe_172 rfl) rfl ?_
  refine ev_lcmp (pc := 103) (fe_172 rfl) ?_
  refine ev_if_gt (pc := 104) (fe_172 rfl) (t := 111) rfl (fm_lc_gt.trans h) (fun h => ?_) (fun h => ?_)
  refine ev_iconst (pc := 111) (fe_172 rfl) li_0 ?_
  refine ev_istore (pc := 112) (fe_172 rfl) mx_172 rfl ?_
  refine ev_iload (pc := 114) (fe_172 rfl) rfl ?_
  refine ev_ifc (pc := 116) (fe_172 rfl) (t := 131) (t1 := 131) (b := true) rfl (by decide) rfl ?_
  refine ev_goto (pc := 131) (fe_172 rfl) (t := 25) rfl ?_
  refine ev_w [true, true, true, true, true, true, true, true, true, false, false, true] ?_
  exact hk25 x2 0 u (Or.inl rfl) h
  refine ev_iconst (pc := 107) (fe_172 rfl) li_1 ?_
  refine ev_goto (pc := 108) (fe_172 rfl) (t := 112) rfl ?_
  refine ev_istore (pc := 112) (fe_172 rfl) mx_172 rfl ?_
  refine ev_iload (pc := 114) (fe_172 rfl) rfl ?_
  refine ev_ifc (pc := 116) (fe_172 rfl) (t := 131) (t1 := 119) (b := false) rfl (by decide) rfl ?_
  refine ev_aload_n (pc := 119) (fe_172 rfl) rfl ?_
  refine ev_lload (pc := 120) (fe_172 rfl) rfl ?_
  refine fm_lt_h h (fun u4 eu4 h => ?_)
  refine ev_putJ (pc := 122) (fe_172 rfl) fr_142 t_223 eu4 ?_
  refine ev_aload_n (pc := 125) (fe_172 rfl) rfl ?_
  refine ev_iload (pc := 126) (fe_172 rfl) rfl ?_
  refine fm_bd h (fun p5 ep5 h => ?_)
  refine ev_callVk (pc := 128) (fe_172 rfl) (z := 171) (na := 2) (ow := 10) cg_172_189 rfl rfl rfl t_223 (m := 0) rfl (jK171 ep5) (st1 := []) rfl ?_
  refine ev_goto (pc := 131) (fe_172 rfl) (t := 25) rfl ?_
  refine ev_w [true, true, true, true, true, true, true, true, true, false, false, true] ?_
  exact hk25 x2 1 p5 (Or.inr rfl) h
theorem jK172_75 {X : Nat × (Nat → Int32)} {r : Int32 × fm} {k25 : Int64 → Int32 → fm → Option (Int32 × fm)} (x2 : Int64) (x5 : Int64) (x7 : Int64) (s0 : Int32) (u : fm) (b_s0 : s0 = 0 ∨ s0 = 1) (hk25 : ∀ (x2 : Int64) (x4 : Int32) (u : fm), (x4 = 0 ∨ x4 = 1) → k25 x2 x4 u = some r → ev X 172 25 [some (.inr (.inl (some 223))), none, some (.inr (.inr x2)), none, some (.inl x4), none, none, none, none, none, none, none] [] u ([.inl r.1], r.2)) (h : jF172_75 k25 x2 x5 x7 s0 u = some r) : ev X 172 75 [some (.inr (.inl (some 223))), none, some (.inr (.inr x2)), none, none, some (.inr (.inr x5)), none, some (.inr (.inr x7)), none, none, none, none] [.inl s0] u ([.inl r.1], r.2) := by
  unfold jF172_75 at h
  refine ev_istore (pc := 75) (fe_172 rfl) mx_172 rfl ?_
  refine ev_iload (pc := 77) (fe_172 rfl) rfl ?_
  refine ev_if_ne (pc := 79) (fe_172 rfl) (t := 87) rfl h (fun h => ?_) (fun h => ?_)
  refine ev_lload (pc := 87) (fe_172 rfl) rfl ?_
  refine ev_w [true, true, true, true, true, false, true, false, true, true, true, true] ?_
  exact jK172_89 x2 s0 x7 u (b_s0) hk25 h
  refine ev_lload (pc := 82) (fe_172 rfl) rfl ?_
  refine ev_goto (pc := 84) (fe_172 rfl) (t := 89) rfl ?_
  refine ev_w [true, true, true, true, true, false, true, false, true, true, true, true] ?_
  exact jK172_89 x2 s0 x5 u (b_s0) hk25 h
theorem jK172_74 {X : Nat × (Nat → Int32)} {r : Int32 × fm} {k25 : Int64 → Int32 → fm → Option (Int32 × fm)} (x2 : Int64) (x5 : Int64) (x7 : Int64) (u : fm) (hk25 : ∀ (x2 : Int64) (x4 : Int32) (u : fm), (x4 = 0 ∨ x4 = 1) → k25 x2 x4 u = some r → ev X 172 25 [some (.inr (.inl (some 223))), none, some (.inr (.inr x2)), none, some (.inl x4), none, none, none, none, none, none, none] [] u ([.inl r.1], r.2)) (h : jF172_74 k25 x2 x5 x7 u = some r) : ev X 172 74 [some (.inr (.inl (some 223))), none, some (.inr (.inr x2)), none, none, some (.inr (.inr x5)), none, some (.inr (.inr x7)), none, none, none, none] [] u ([.inl r.1], r.2) := by
  unfold jF172_74 at h
  refine ev_iconst (pc := 74) (fe_172 rfl) li_1 ?_
  exact jK172_75 x2 x5 x7 1 u (Or.inr rfl) hk25 h
theorem jK172_70 {X : Nat × (Nat → Int32)} {r : Int32 × fm} {k25 : Int64 → Int32 → fm → Option (Int32 × fm)} (x2 : Int64) (x5 : Int64) (x7 : Int64) (u : fm) (hk25 : ∀ (x2 : Int64) (x4 : Int32) (u : fm), (x4 = 0 ∨ x4 = 1) → k25 x2 x4 u = some r → ev X 172 25 [some (.inr (.inl (some 223))), none, some (.inr (.inr x2)), none, some (.inl x4), none, none, none, none, none, none, none] [] u ([.inl r.1], r.2)) (h : jF172_70 k25 x2 x5 x7 u = some r) : ev X 172 70 [some (.inr (.inl (some 223))), none, some (.inr (.inr x2)), none, none, some (.inr (.inr x5)), none, some (.inr (.inr x7)), none, none, none, none] [] u ([.inl r.1], r.2) := by
  unfold jF172_70 at h
  refine ev_iconst (pc := 70) (fe_172 rfl) li_0 ?_
  refine ev_goto (pc := 71) (fe_172 rfl) (t := 75) rfl ?_
  exact jK172_75 x2 x5 x7 0 u (Or.inl rfl) hk25 h
theorem jK172_25 {X : Nat × (Nat → Int32)} {r : Int32 × fm} : ∀ (n : Nat) (x2 : Int64) (x4 : Int32) (u : fm) (b_x4 : x4 = 0 ∨ x4 = 1), jF172_25 n x2 x4 u = some r → ev X 172 25 [some (.inr (.inl (some 223))), none, some (.inr (.inr x2)), none, some (.inl x4), none, none, none, none, none, none, none] [] u ([.inl r.1], r.2) := by
  intro n
  induction n with
  | zero =>
    intro _ _ _ _ h
    unfold jF172_25 at h
    cases h
  | succ n ih =>
  intro x2 x4 u b_x4 h
  unfold jF172_25 at h
  refine ev_iload (pc := 25) (fe_172 rfl) rfl ?_
  refine ev_if_eq (pc := 27) (fe_172 rfl) (t := 134) rfl h (fun h => ?_) (fun h => ?_)
  refine ev_aload_n (pc := 134) (fe_172 rfl) rfl ?_
  refine ev_lload_n (pc := 135) (fe_172 rfl) rfl ?_
  refine fm_lt_h h (fun u1 eu1 h => ?_)
  refine ev_putJ (pc := 136) (fe_172 rfl) fr_142 t_223 eu1 ?_
  refine ev_aload_n (pc := 139) (fe_172 rfl) rfl ?_
  refine ev_getJ (pc := 140) (fe_172 rfl) fr_142 t_223 ?_
  refine ev_l2i (pc := 143) (fe_172 rfl) ?_
  exact ev_R (ev_irt (pc := 144) (fe_172 rfl) rt_172) (by rw [← Option.some.inj h])
  refine ev_aload_n (pc := 30) (fe_172 rfl) rfl ?_
  refine ev_iconst (pc := 31) (fe_172 rfl) li_0 ?_
  refine fm_bd h (fun p2 ep2 h => ?_)
  refine ev_callVk (pc := 32) (fe_172 rfl) (z := 170) (na := 2) (ow := 10) cg_172_188 rfl rfl rfl t_223 (m := 4) rfl (jK170 ep2) (st1 := [.inr (.inr p2)]) rfl ?_
  refine ev_lstore (pc := 35) (fe_172 rfl) mx_172 rfl ?_
  refine ev_aload_n (pc := 37) (fe_172 rfl) rfl ?_
  refine ev_iconst (pc := 38) (fe_172 rfl) li_1 ?_
  refine fm_bd h (fun p3 ep3 h => ?_)
  refine ev_callVk (pc := 39) (fe_172 rfl) (z := 170) (na := 2) (ow := 10) cg_172_188 rfl rfl rfl t_223 (m := 4) rfl (jK170 ep3) (st1 := [.inr (.inr p3)]) rfl ?_
  refine ev_lstore (pc := 42) (fe_172 rfl) mx_172 rfl ?_
  refine ev_lload (pc := 44) (fe_172 rfl) rfl ?_
  refine ev_ldc2 (pc := 46) (fe_172 rfl) (c := (-1)) rfl ?_
  refine ev_lcmp (pc := 49) (fe_172 rfl) ?_
  refine ev_if_eq (pc := 50) (fe_172 rfl) (t := 74) rfl (fm_lc_eq.trans h) (fun h => ?_) (fun h => ?_)
  refine ev_w [true, true, true, true, false, true, true, true, true, true, true, true] ?_
  exact jK172_74 x2 p2 p3 u (fun x2' x4' u' b0 h => ih x2' x4' u' b0 h) h
  refine ev_lload (pc := 53) (fe_172 rfl) rfl ?_
  refine ev_ldc2 (pc := 55) (fe_172 rfl) (c := (-1)) rfl ?_
  refine ev_lcmp (pc := 58) (fe_172 rfl) ?_
  refine ev_if_eq (pc := 59) (fe_172 rfl) (t := 70) rfl (fm_lc_eq.trans h) (fun h => ?_) (fun h => ?_)
  refine ev_w [true, true, true, true, false, true, true, true, true, true, true, true] ?_
  exact jK172_70 x2 p2 p3 u (fun x2' x4' u' b0 h => ih x2' x4' u' b0 h) h
  refine ev_lload (pc := 62) (fe_172 rfl) rfl ?_
  refine ev_lload (pc := 64) (fe_172 rfl) rfl ?_
  refine ev_lcmp (pc := 66) (fe_172 rfl) ?_
  refine ev_if_gt (pc := 67) (fe_172 rfl) (t := 74) rfl (fm_lc_gt.trans h) (fun h => ?_) (fun h => ?_)
  refine ev_w [true, true, true, true, false, true, true, true, true, true, true, true] ?_
  exact jK172_74 x2 p2 p3 u (fun x2' x4' u' b0 h => ih x2' x4' u' b0 h) h
  refine ev_w [true, true, true, true, false, true, true, true, true, true, true, true] ?_
  exact jK172_70 x2 p2 p3 u (fun x2' x4' u' b0 h => ih x2' x4' u' b0 h) h
theorem jK172 {X : Nat × (Nat → Int32)} {x1 : Int32} {u : fm} {r : Int32 × fm} (h : jF172 x1 u = some r) : ev X 172 0 [some (.inr (.inl (some 223))), some (.inl x1), none, none, none, none, none, none, none, none, none, none] [] u ([.inl r.1], r.2) := by
  unfold jF172 at h
  refine ev_iload_n (pc := 0) (fe_172 rfl) rfl ?_
  refine ev_iconst (pc := 1) (fe_172 rfl) li_1 ?_
  refine ev_ic_lt (pc := 2) (fe_172 rfl) (t := 12) rfl h (fun h => ?_) (fun h => ?_)
  refine ev_iconst (pc := 12) (fe_172 rfl) li_m1 ?_
  exact ev_R (ev_irt (pc := 13) (fe_172 rfl) rt_172) (by rw [← Option.some.inj h])
  refine ev_iload_n (pc := 5) (fe_172 rfl) rfl ?_
  refine ev_ldcw (pc := 6) (fe_172 rfl) (c := 100000) rfl ?_
  refine ev_ic_le (pc := 9) (fe_172 rfl) (t := 14) rfl h (fun h => ?_) (fun h => ?_)
  refine ev_aload_n (pc := 14) (fe_172 rfl) rfl ?_
  refine ev_getJ (pc := 15) (fe_172 rfl) fr_142 t_223 ?_
  refine ev_iload_n (pc := 18) (fe_172 rfl) rfl ?_
  refine ev_i2l (pc := 19) (fe_172 rfl) ?_
  refine ev_ladd (pc := 20) (fe_172 rfl) ?_
  refine ev_lstore_n (pc := 21) (fe_172 rfl) mx_172 rfl ?_
  refine ev_iconst (pc := 22) (fe_172 rfl) li_1 ?_
  refine ev_istore (pc := 23) (fe_172 rfl) mx_172 rfl ?_
  refine ev_w [true, false, true, true, true, true, true, true, true, true, true, true] ?_
  exact jK172_25 fm_N ((fJ u 223 2) + (Int32.toInt64 x1)) 1 u (Or.inr rfl) h
  refine ev_iconst (pc := 12) (fe_172 rfl) li_m1 ?_
  exact ev_R (ev_irt (pc := 13) (fe_172 rfl) rt_172) (by rw [← Option.some.inj h])
/-- CallAgentsModel told -/
def jF173 (x1 : Int32) (x2 : Int32) (u : fm) : Option (Int32) :=
  if (jF105 x1) = 0 then
  (some (-1))
  else
  (if x2 = 0 then
  (if fm_in x1 2 then some (fA u 225 (Int32.toNatClampNeg x1)) else none)
  else if x2 = 1 then
  (if fm_in x1 2 then some (fA u 226 (Int32.toNatClampNeg x1)) else none)
  else if x2 = 2 then
  (if fm_in x1 2 then some (fA u 227 (Int32.toNatClampNeg x1)) else none)
  else if x2 = 3 then
  (if fm_in x1 2 then some (fA u 228 (Int32.toNatClampNeg x1)) else none)
  else if x2 = 4 then
  (if fm_in x1 2 then some (fA u 229 (Int32.toNatClampNeg x1)) else none)
  else if x2 = 5 then
  (if fm_in x1 2 then some (fA u 230 (Int32.toNatClampNeg x1)) else none)
  else if x2 = 6 then
  (if fm_in x1 2 then some (fA u 246 (Int32.toNatClampNeg x1)) else none)
  else if x2 = 7 then
  (if fm_in x1 2 then some (fA u 234 (Int32.toNatClampNeg x1)) else none)
  else if x2 = 8 then
  (if fm_in x1 2 then some (fA u 235 (Int32.toNatClampNeg x1)) else none)
  else (some (-1)))
theorem jK173 {X : Nat × (Nat → Int32)} {x1 : Int32} {x2 : Int32} {u : fm} {r : Int32} (h : jF173 x1 x2 u = some r) : ev X 173 0 [some (.inr (.inl (some 223))), some (.inl x1), some (.inl x2)] [] u ([.inl r], u) := by
  unfold jF173 at h
  refine ev_iload_n (pc := 0) (fe_173 rfl) rfl ?_
  refine ev_callSZk (pc := 1) (fe_173 rfl) (z := 105) (na := 1) (ow := 10) cg_173_137 rt_105 rfl (m := 0) rfl (jK105 rfl) (st1 := [.inl (jF105 x1)]) rfl (fun z1 => ?_)
  refine ev_if_ne (pc := 4) (fe_173 rfl) (t := 9) rfl h (fun h => ?_) (fun h => ?_)
  refine ev_iload_n (pc := 9) (fe_173 rfl) rfl ?_
  refine fm_sp h (fun w10_0 h => ?_) (fun w10_0 h => ?_)
  refine ev_swk (pc := 10) (fe_173 rfl) (c := 0) (by rw [w10_0]; decide) (by decide) rfl (t := 60) rfl ?_
  refine ev_aload_n (pc := 60) (fe_173 rfl) rfl ?_
  refine ev_getR (a1 := 225) (pc := 61) (fe_173 rfl) fr_111 t_223 rfl ?_
  refine ev_iload_n (pc := 64) (fe_173 rfl) rfl ?_
  refine fm_ob h (fun g2 h => ?_)
  refine ev_iaload (pc := 65) (fe_173 rfl) t_225 g2 ?_
  exact ev_R (ev_irt (pc := 66) (fe_173 rfl) rt_173) (by rw [← Option.some.inj h])
  refine fm_sp h (fun w10_1 h => ?_) (fun w10_1 h => ?_)
  refine ev_swk (pc := 10) (fe_173 rfl) (c := 1) (by rw [w10_1]; decide) (by decide) rfl (t := 67) rfl ?_
  refine ev_aload_n (pc := 67) (fe_173 rfl) rfl ?_
  refine ev_getR (a1 := 226) (pc := 68) (fe_173 rfl) fr_112 t_223 rfl ?_
  refine ev_iload_n (pc := 71) (fe_173 rfl) rfl ?_
  refine fm_ob h (fun g3 h => ?_)
  refine ev_iaload (pc := 72) (fe_173 rfl) t_226 g3 ?_
  exact ev_R (ev_irt (pc := 73) (fe_173 rfl) rt_173) (by rw [← Option.some.inj h])
  refine fm_sp h (fun w10_2 h => ?_) (fun w10_2 h => ?_)
  refine ev_swk (pc := 10) (fe_173 rfl) (c := 2) (by rw [w10_2]; decide) (by decide) rfl (t := 74) rfl ?_
  refine ev_aload_n (pc := 74) (fe_173 rfl) rfl ?_
  refine ev_getR (a1 := 227) (pc := 75) (fe_173 rfl) fr_113 t_223 rfl ?_
  refine ev_iload_n (pc := 78) (fe_173 rfl) rfl ?_
  refine fm_ob h (fun g4 h => ?_)
  refine ev_iaload (pc := 79) (fe_173 rfl) t_227 g4 ?_
  exact ev_R (ev_irt (pc := 80) (fe_173 rfl) rt_173) (by rw [← Option.some.inj h])
  refine fm_sp h (fun w10_3 h => ?_) (fun w10_3 h => ?_)
  refine ev_swk (pc := 10) (fe_173 rfl) (c := 3) (by rw [w10_3]; decide) (by decide) rfl (t := 81) rfl ?_
  refine ev_aload_n (pc := 81) (fe_173 rfl) rfl ?_
  refine ev_getR (a1 := 228) (pc := 82) (fe_173 rfl) fr_114 t_223 rfl ?_
  refine ev_iload_n (pc := 85) (fe_173 rfl) rfl ?_
  refine fm_ob h (fun g5 h => ?_)
  refine ev_iaload (pc := 86) (fe_173 rfl) t_228 g5 ?_
  exact ev_R (ev_irt (pc := 87) (fe_173 rfl) rt_173) (by rw [← Option.some.inj h])
  refine fm_sp h (fun w10_4 h => ?_) (fun w10_4 h => ?_)
  refine ev_swk (pc := 10) (fe_173 rfl) (c := 4) (by rw [w10_4]; decide) (by decide) rfl (t := 88) rfl ?_
  refine ev_aload_n (pc := 88) (fe_173 rfl) rfl ?_
  refine ev_getR (a1 := 229) (pc := 89) (fe_173 rfl) fr_115 t_223 rfl ?_
  refine ev_iload_n (pc := 92) (fe_173 rfl) rfl ?_
  refine fm_ob h (fun g6 h => ?_)
  refine ev_iaload (pc := 93) (fe_173 rfl) t_229 g6 ?_
  exact ev_R (ev_irt (pc := 94) (fe_173 rfl) rt_173) (by rw [← Option.some.inj h])
  refine fm_sp h (fun w10_5 h => ?_) (fun w10_5 h => ?_)
  refine ev_swk (pc := 10) (fe_173 rfl) (c := 5) (by rw [w10_5]; decide) (by decide) rfl (t := 95) rfl ?_
  refine ev_aload_n (pc := 95) (fe_173 rfl) rfl ?_
  refine ev_getR (a1 := 230) (pc := 96) (fe_173 rfl) fr_116 t_223 rfl ?_
  refine ev_iload_n (pc := 99) (fe_173 rfl) rfl ?_
  refine fm_ob h (fun g7 h => ?_)
  refine ev_iaload (pc := 100) (fe_173 rfl) t_230 g7 ?_
  exact ev_R (ev_irt (pc := 101) (fe_173 rfl) rt_173) (by rw [← Option.some.inj h])
  refine fm_sp h (fun w10_6 h => ?_) (fun w10_6 h => ?_)
  refine ev_swk (pc := 10) (fe_173 rfl) (c := 6) (by rw [w10_6]; decide) (by decide) rfl (t := 102) rfl ?_
  refine ev_aload_n (pc := 102) (fe_173 rfl) rfl ?_
  refine ev_getR (a1 := 246) (pc := 103) (fe_173 rfl) fr_132 t_223 rfl ?_
  refine ev_iload_n (pc := 106) (fe_173 rfl) rfl ?_
  refine fm_ob h (fun g8 h => ?_)
  refine ev_iaload (pc := 107) (fe_173 rfl) t_246 g8 ?_
  exact ev_R (ev_irt (pc := 108) (fe_173 rfl) rt_173) (by rw [← Option.some.inj h])
  refine fm_sp h (fun w10_7 h => ?_) (fun w10_7 h => ?_)
  refine ev_swk (pc := 10) (fe_173 rfl) (c := 7) (by rw [w10_7]; decide) (by decide) rfl (t := 109) rfl ?_
  refine ev_aload_n (pc := 109) (fe_173 rfl) rfl ?_
  refine ev_getR (a1 := 234) (pc := 110) (fe_173 rfl) fr_120 t_223 rfl ?_
  refine ev_iload_n (pc := 113) (fe_173 rfl) rfl ?_
  refine fm_ob h (fun g9 h => ?_)
  refine ev_iaload (pc := 114) (fe_173 rfl) t_234 g9 ?_
  exact ev_R (ev_irt (pc := 115) (fe_173 rfl) rt_173) (by rw [← Option.some.inj h])
  refine fm_sp h (fun w10_8 h => ?_) (fun w10_8 h => ?_)
  refine ev_swk (pc := 10) (fe_173 rfl) (c := 8) (by rw [w10_8]; decide) (by decide) rfl (t := 116) rfl ?_
  refine ev_aload_n (pc := 116) (fe_173 rfl) rfl ?_
  refine ev_getR (a1 := 235) (pc := 117) (fe_173 rfl) fr_121 t_223 rfl ?_
  refine ev_iload_n (pc := 120) (fe_173 rfl) rfl ?_
  refine fm_ob h (fun g10 h => ?_)
  refine ev_iaload (pc := 121) (fe_173 rfl) t_235 g10 ?_
  exact ev_R (ev_irt (pc := 122) (fe_173 rfl) rt_173) (by rw [← Option.some.inj h])
  refine ev_swd (pc := 10) (fe_173 rfl) (t := 123) rfl (fm_swx (lo := 0) (n := 9) (List.forall_mem_cons.mpr ⟨w10_0, List.forall_mem_cons.mpr ⟨w10_1, List.forall_mem_cons.mpr ⟨w10_2, List.forall_mem_cons.mpr ⟨w10_3, List.forall_mem_cons.mpr ⟨w10_4, List.forall_mem_cons.mpr ⟨w10_5, List.forall_mem_cons.mpr ⟨w10_6, List.forall_mem_cons.mpr ⟨w10_7, List.forall_mem_cons.mpr ⟨w10_8, fun _ q => nomatch q⟩⟩⟩⟩⟩⟩⟩⟩⟩)) ?_
  refine ev_iconst (pc := 123) (fe_173 rfl) li_m1 ?_
  exact ev_R (ev_irt (pc := 124) (fe_173 rfl) rt_173) (by rw [← Option.some.inj h])
  refine ev_iconst (pc := 7) (fe_173 rfl) li_m1 ?_
  exact ev_R (ev_irt (pc := 8) (fe_173 rfl) rt_173) (by rw [← Option.some.inj h])
/-- CallAgentsModel line -/
def jF174 (x1 : Int32) (x2 : Int32) (x3 : Int32) (u : fm) : Option (Int32) :=
  if (jF105 x1) = 0 then
  (some (-1))
  else
  (if x2 < 0 then
  (some (-1))
  else
  (if fm_in x1 2 then if x2 < (fA u 246 (Int32.toNatClampNeg x1)) then
  (if x3 < 0 then
  (some (-1))
  else
  (if x3 < 2 then
  (if fm_in (((30 * x1) + (10 * x2)) + x3) 60 then some (fA u 247 (Int32.toNatClampNeg (((30 * x1) + (10 * x2)) + x3))) else none)
  else
  (if fm_in (((30 * x1) + (10 * x2)) + 1) 60 then if (x3 - 2) < (fA u 247 (Int32.toNatClampNeg (((30 * x1) + (10 * x2)) + 1))) then
  (if fm_in (((30 * x1) + (10 * x2)) + x3) 60 then some (fA u 247 (Int32.toNatClampNeg (((30 * x1) + (10 * x2)) + x3))) else none)
  else
  (some (-1)) else none)))
  else
  (some (-1)) else none))
theorem jK174 {X : Nat × (Nat → Int32)} {x1 : Int32} {x2 : Int32} {x3 : Int32} {u : fm} {r : Int32} (h : jF174 x1 x2 x3 u = some r) : ev X 174 0 [some (.inr (.inl (some 223))), some (.inl x1), some (.inl x2), some (.inl x3), none] [] u ([.inl r], u) := by
  unfold jF174 at h
  refine ev_iload_n (pc := 0) (fe_174 rfl) rfl ?_
  refine ev_callSZk (pc := 1) (fe_174 rfl) (z := 105) (na := 1) (ow := 10) cg_174_137 rt_105 rfl (m := 0) rfl (jK105 rfl) (st1 := [.inl (jF105 x1)]) rfl (fun z1 => ?_)
  refine ev_if_eq (pc := 4) (fe_174 rfl) (t := 25) rfl h (fun h => ?_) (fun h => ?_)
  refine ev_iconst (pc := 25) (fe_174 rfl) li_m1 ?_
  exact ev_R (ev_irt (pc := 26) (fe_174 rfl) rt_174) (by rw [← Option.some.inj h])
  refine ev_iload_n (pc := 7) (fe_174 rfl) rfl ?_
  refine ev_if_lt (pc := 8) (fe_174 rfl) (t := 25) rfl h (fun h => ?_) (fun h => ?_)
  refine ev_iconst (pc := 25) (fe_174 rfl) li_m1 ?_
  exact ev_R (ev_irt (pc := 26) (fe_174 rfl) rt_174) (by rw [← Option.some.inj h])
  refine ev_iload_n (pc := 11) (fe_174 rfl) rfl ?_
  refine ev_aload_n (pc := 12) (fe_174 rfl) rfl ?_
  refine ev_getR (a1 := 246) (pc := 13) (fe_174 rfl) fr_132 t_223 rfl ?_
  refine ev_iload_n (pc := 16) (fe_174 rfl) rfl ?_
  refine fm_ob h (fun g2 h => ?_)
  refine ev_iaload (pc := 17) (fe_174 rfl) t_246 g2 ?_
  refine ev_ic_ge (pc := 18) (fe_174 rfl) (t := 25) rfl h (fun h => ?_) (fun h => ?_)
  refine ev_iconst (pc := 25) (fe_174 rfl) li_m1 ?_
  exact ev_R (ev_irt (pc := 26) (fe_174 rfl) rt_174) (by rw [← Option.some.inj h])
  refine ev_iload_n (pc := 21) (fe_174 rfl) rfl ?_
  refine ev_if_ge (pc := 22) (fe_174 rfl) (t := 27) rfl h (fun h => ?_) (fun h => ?_)
  refine ev_bipush (pc := 27) (fe_174 rfl) lb_30 ?_
  refine ev_iload_n (pc := 29) (fe_174 rfl) rfl ?_
  refine ev_imul (pc := 30) (fe_174 rfl) ?_
  refine ev_bipush (pc := 31) (fe_174 rfl) lb_10 ?_
  refine ev_iload_n (pc := 33) (fe_174 rfl) rfl ?_
  refine ev_imul (pc := 34) (fe_174 rfl) ?_
  refine ev_iadd (pc := 35) (fe_174 rfl) ?_
  refine ev_istore (pc := 36) (fe_174 rfl) mx_174 rfl ?_
  refine ev_iload_n (pc := 38) (fe_174 rfl) rfl ?_
  refine ev_iconst (pc := 39) (fe_174 rfl) li_2 ?_
  refine ev_ic_ge (pc := 40) (fe_174 rfl) (t := 53) rfl h (fun h => ?_) (fun h => ?_)
  refine ev_iload_n (pc := 53) (fe_174 rfl) rfl ?_
  refine ev_iconst (pc := 54) (fe_174 rfl) li_2 ?_
  refine ev_isub (pc := 55) (fe_174 rfl) ?_
  refine ev_aload_n (pc := 56) (fe_174 rfl) rfl ?_
  refine ev_getR (a1 := 247) (pc := 57) (fe_174 rfl) fr_133 t_223 rfl ?_
  refine ev_iload (pc := 60) (fe_174 rfl) rfl ?_
  refine ev_iconst (pc := 62) (fe_174 rfl) li_1 ?_
  refine ev_iadd (pc := 63) (fe_174 rfl) ?_
  refine fm_ob h (fun g3 h => ?_)
  refine ev_iaload (pc := 64) (fe_174 rfl) t_247 g3 ?_
  refine ev_ic_ge (pc := 65) (fe_174 rfl) (t := 80) rfl h (fun h => ?_) (fun h => ?_)
  refine ev_iconst (pc := 80) (fe_174 rfl) li_m1 ?_
  exact ev_R (ev_irt (pc := 81) (fe_174 rfl) rt_174) (by rw [← Option.some.inj h])
  refine ev_aload_n (pc := 68) (fe_174 rfl) rfl ?_
  refine ev_getR (a1 := 247) (pc := 69) (fe_174 rfl) fr_133 t_223 rfl ?_
  refine ev_iload (pc := 72) (fe_174 rfl) rfl ?_
  refine ev_iload_n (pc := 74) (fe_174 rfl) rfl ?_
  refine ev_iadd (pc := 75) (fe_174 rfl) ?_
  refine fm_ob h (fun g4 h => ?_)
  refine ev_iaload (pc := 76) (fe_174 rfl) t_247 g4 ?_
  refine ev_goto (pc := 77) (fe_174 rfl) (t := 81) rfl ?_
  exact ev_R (ev_irt (pc := 81) (fe_174 rfl) rt_174) (by rw [← Option.some.inj h])
  refine ev_aload_n (pc := 43) (fe_174 rfl) rfl ?_
  refine ev_getR (a1 := 247) (pc := 44) (fe_174 rfl) fr_133 t_223 rfl ?_
  refine ev_iload (pc := 47) (fe_174 rfl) rfl ?_
  refine ev_iload_n (pc := 49) (fe_174 rfl) rfl ?_
  refine ev_iadd (pc := 50) (fe_174 rfl) ?_
  refine fm_ob h (fun g5 h => ?_)
  refine ev_iaload (pc := 51) (fe_174 rfl) t_247 g5 ?_
  exact ev_R (ev_irt (pc := 52) (fe_174 rfl) rt_174) (by rw [← Option.some.inj h])
  refine ev_iconst (pc := 25) (fe_174 rfl) li_m1 ?_
  exact ev_R (ev_irt (pc := 26) (fe_174 rfl) rt_174) (by rw [← Option.some.inj h])
/-- CallAgentsLaw law -/
def jF175_18 (X : Nat × (Nat → Int32)) : Nat → Int32 → fm → Option (Int32 × fm)
  | 0, _, _ => none
  | n + 1, x3, u =>
  if ((Int32.ofNat X.1) - 4) < x3 then
  (some (1, u))
  else
  (if fm_in x3 X.1 then if ((X.2 (Int32.toNatClampNeg x3)) &&& 15) = 0 then
  (if fm_in (x3 + 1) X.1 then if fm_in (x3 + 2) X.1 then if fm_in (x3 + 3) X.1 then Option.bind (jF86 (X.2 (Int32.toNatClampNeg (x3 + 1))) (X.2 (Int32.toNatClampNeg (x3 + 2))) (X.2 (Int32.toNatClampNeg (x3 + 3))) u) (fun p5 => Option.bind (jF115 (X.2 (Int32.toNatClampNeg (x3 + 1))) (X.2 (Int32.toNatClampNeg (x3 + 2))) (X.2 (Int32.toNatClampNeg (x3 + 3))) p5.2) (fun p6 => jF175_18 X n (x3 + 4) p6.2)) else none else none else none)
  else if ((X.2 (Int32.toNatClampNeg x3)) &&& 15) = 1 then
  (if fm_in (x3 + 1) X.1 then Option.bind (jF87 (X.2 (Int32.toNatClampNeg (x3 + 1))) u) (fun p8 => Option.bind (jF116 (X.2 (Int32.toNatClampNeg (x3 + 1))) p8.2) (fun p10 => jF175_18 X n (x3 + 4) p10.2)) else none)
  else if ((X.2 (Int32.toNatClampNeg x3)) &&& 15) = 2 then
  (if fm_in (x3 + 1) X.1 then Option.bind (jF88 (X.2 (Int32.toNatClampNeg (x3 + 1))) u) (fun p13 => Option.bind (jF120 (X.2 (Int32.toNatClampNeg (x3 + 1))) p13.2) (fun p15 => jF175_18 X n (x3 + 4) p15.2)) else none)
  else if ((X.2 (Int32.toNatClampNeg x3)) &&& 15) = 3 then
  (if fm_in (x3 + 1) X.1 then Option.bind (jF89 (X.2 (Int32.toNatClampNeg (x3 + 1))) u) (fun p18 => Option.bind (jF121 (X.2 (Int32.toNatClampNeg (x3 + 1))) p18.2) (fun p20 => jF175_18 X n (x3 + 4) p20.2)) else none)
  else if ((X.2 (Int32.toNatClampNeg x3)) &&& 15) = 4 then
  (if fm_in (x3 + 1) X.1 then Option.bind (jF90 (X.2 (Int32.toNatClampNeg (x3 + 1))) u) (fun p23 => Option.bind (jF122 (X.2 (Int32.toNatClampNeg (x3 + 1))) p23.2) (fun p25 => jF175_18 X n (x3 + 4) p25.2)) else none)
  else if ((X.2 (Int32.toNatClampNeg x3)) &&& 15) = 5 then
  (if fm_in (x3 + 1) X.1 then Option.bind (jF91 (X.2 (Int32.toNatClampNeg (x3 + 1))) u) (fun p28 => Option.bind (jF130 (X.2 (Int32.toNatClampNeg (x3 + 1))) p28.2) (fun p29 => jF175_18 X n (x3 + 4) p29.2)) else none)
  else if ((X.2 (Int32.toNatClampNeg x3)) &&& 15) = 6 then
  (if fm_in (x3 + 1) X.1 then Option.bind (jF92 (X.2 (Int32.toNatClampNeg (x3 + 1))) u) (fun p31 => Option.bind (jF131 (X.2 (Int32.toNatClampNeg (x3 + 1))) p31.2) (fun p32 => jF175_18 X n (x3 + 4) p32.2)) else none)
  else if ((X.2 (Int32.toNatClampNeg x3)) &&& 15) = 7 then
  (if fm_in (x3 + 1) X.1 then Option.bind (jF93 (X.2 (Int32.toNatClampNeg (x3 + 1))) u) (fun p34 => Option.bind (jF132 (X.2 (Int32.toNatClampNeg (x3 + 1))) p34.2) (fun p35 => jF175_18 X n (x3 + 4) p35.2)) else none)
  else if ((X.2 (Int32.toNatClampNeg x3)) &&& 15) = 8 then
  (jF175_18 X n (x3 + 4) u)
  else if ((X.2 (Int32.toNatClampNeg x3)) &&& 15) = 9 then
  (if fm_in (x3 + 1) X.1 then if fm_in (x3 + 2) X.1 then Option.bind (jF95 (X.2 (Int32.toNatClampNeg (x3 + 1))) (X.2 (Int32.toNatClampNeg (x3 + 2))) u) (fun p38 => Option.bind (jF155 (X.2 (Int32.toNatClampNeg (x3 + 1))) (X.2 (Int32.toNatClampNeg (x3 + 2))) p38.2) (fun p39 => jF175_18 X n (x3 + 4) p39.2)) else none else none)
  else if ((X.2 (Int32.toNatClampNeg x3)) &&& 15) = 10 then
  (if fm_in (x3 + 1) X.1 then Option.bind (jF96 (X.2 (Int32.toNatClampNeg (x3 + 1))) u) (fun p41 => Option.bind (jF156 (X.2 (Int32.toNatClampNeg (x3 + 1))) p41.2) (fun p43 => if p41.1 = p43.1 then
  (jF175_18 X n (x3 + 4) p43.2)
  else
  (some (0, p43.2)))) else none)
  else if ((X.2 (Int32.toNatClampNeg x3)) &&& 15) = 11 then
  (if fm_in (x3 + 1) X.1 then Option.bind (jF97 (X.2 (Int32.toNatClampNeg (x3 + 1))) u) (fun p46 => Option.bind (jF169 (X.2 (Int32.toNatClampNeg (x3 + 1))) p46.2) (fun p47 => jF175_18 X n (x3 + 4) p47.2)) else none)
  else if ((X.2 (Int32.toNatClampNeg x3)) &&& 15) = 12 then
  (if fm_in (x3 + 1) X.1 then Option.bind (jF98 (X.2 (Int32.toNatClampNeg (x3 + 1))) u) (fun p49 => Option.bind (jF172 (X.2 (Int32.toNatClampNeg (x3 + 1))) p49.2) (fun p50 => jF175_18 X n (x3 + 4) p50.2)) else none)
  else if ((X.2 (Int32.toNatClampNeg x3)) &&& 15) = 13 then
  (if fm_in (x3 + 1) X.1 then if fm_in (x3 + 2) X.1 then Option.bind (jF173 (X.2 (Int32.toNatClampNeg (x3 + 1))) (X.2 (Int32.toNatClampNeg (x3 + 2))) u) (fun p53 => jF175_18 X n (x3 + 4) u) else none else none)
  else if ((X.2 (Int32.toNatClampNeg x3)) &&& 15) = 14 then
  (if fm_in (x3 + 1) X.1 then if fm_in (x3 + 2) X.1 then if fm_in (x3 + 3) X.1 then Option.bind (jF100 (X.2 (Int32.toNatClampNeg (x3 + 1))) (X.2 (Int32.toNatClampNeg (x3 + 2))) (X.2 (Int32.toNatClampNeg (x3 + 3))) u) (fun p57 => Option.bind (jF174 (X.2 (Int32.toNatClampNeg (x3 + 1))) (X.2 (Int32.toNatClampNeg (x3 + 2))) (X.2 (Int32.toNatClampNeg (x3 + 3))) u) (fun p58 => jF175_18 X n (x3 + 4) u)) else none else none else none)
  else (jF175_18 X n (x3 + 4) u) else none)
def jF175 (X : Nat × (Nat → Int32)) (u : fm) : Option (Int32 × fm) :=
  jF175_18 X fm_N 0 u
theorem jK175_18 {X : Nat × (Nat → Int32)} {r : Int32 × fm} : ∀ (n : Nat) (x3 : Int32) (u : fm), jF175_18 X n x3 u = some r → ev X 175 18 [some (.inr (.inl (some mm_scr))), some (.inr (.inl (some 0))), some (.inr (.inl (some 223))), some (.inl x3)] [] u ([.inl r.1], r.2) := by
  intro n
  induction n with
  | zero =>
    intro _ _ h
    unfold jF175_18 at h
    cases h
  | succ n ih =>
  intro x3 u h
  unfold jF175_18 at h
  refine ev_iload_n (pc := 18) (fe_175 rfl) rfl ?_
  refine ev_aload_n (pc := 19) (fe_175 rfl) rfl ?_
  refine ev_slen (pc := 20) (fe_175 rfl) ?_
  refine ev_iconst (pc := 21) (fe_175 rfl) li_4 ?_
  refine ev_isub (pc := 22) (fe_175 rfl) ?_
  refine ev_ic_gt (pc := 23) (fe_175 rfl) (t := 509) rfl h (fun h => ?_) (fun h => ?_)
  refine ev_iconst (pc := 509) (fe_175 rfl) li_1 ?_
  exact ev_R (ev_zrt (pc := 510) (fe_175 rfl) rt_175 (Or.inr rfl)) (by rw [← Option.some.inj h])
  refine ev_aload_n (pc := 26) (fe_175 rfl) rfl ?_
  refine ev_iload_n (pc := 27) (fe_175 rfl) rfl ?_
  refine fm_ob h (fun g1 h => ?_)
  refine ev_sload (pc := 28) (fe_175 rfl) g1 ?_
  refine ev_bipush (pc := 29) (fe_175 rfl) lb_15 ?_
  refine ev_iand (pc := 31) (fe_175 rfl) ?_
  refine fm_sp h (fun w32_0 h => ?_) (fun w32_0 h => ?_)
  refine ev_swk (pc := 32) (fe_175 rfl) (c := 0) (by rw [w32_0]; decide) (by decide) rfl (t := 108) rfl ?_
  refine ev_aload_n (pc := 108) (fe_175 rfl) rfl ?_
  refine ev_aload_n (pc := 109) (fe_175 rfl) rfl ?_
  refine ev_iload_n (pc := 110) (fe_175 rfl) rfl ?_
  refine ev_iconst (pc := 111) (fe_175 rfl) li_1 ?_
  refine ev_iadd (pc := 112) (fe_175 rfl) ?_
  refine fm_ob h (fun g2 h => ?_)
  refine ev_sload (pc := 113) (fe_175 rfl) g2 ?_
  refine ev_aload_n (pc := 114) (fe_175 rfl) rfl ?_
  refine ev_iload_n (pc := 115) (fe_175 rfl) rfl ?_
  refine ev_iconst (pc := 116) (fe_175 rfl) li_2 ?_
  refine ev_iadd (pc := 117) (fe_175 rfl) ?_
  refine fm_ob h (fun g3 h => ?_)
  refine ev_sload (pc := 118) (fe_175 rfl) g3 ?_
  refine ev_aload_n (pc := 119) (fe_175 rfl) rfl ?_
  refine ev_iload_n (pc := 120) (fe_175 rfl) rfl ?_
  refine ev_iconst (pc := 121) (fe_175 rfl) li_3 ?_
  refine ev_iadd (pc := 122) (fe_175 rfl) ?_
  refine fm_ob h (fun g4 h => ?_)
  refine ev_sload (pc := 123) (fe_175 rfl) g4 ?_
  refine fm_bd h (fun p5 ep5 h => ?_)
  refine ev_callVk (pc := 124) (fe_175 rfl) (z := 86) (na := 4) (ow := 9) cg_175_192 rfl rfl rfl t_0 (m := 1) rfl (jK86 ep5) (st1 := [.inl p5.1]) rfl ?_
  refine ev_pop (pc := 127) (fe_175 rfl) rfl ?_
  refine ev_aload_n (pc := 128) (fe_175 rfl) rfl ?_
  refine ev_aload_n (pc := 129) (fe_175 rfl) rfl ?_
  refine ev_iload_n (pc := 130) (fe_175 rfl) rfl ?_
  refine ev_iconst (pc := 131) (fe_175 rfl) li_1 ?_
  refine ev_iadd (pc := 132) (fe_175 rfl) ?_
  refine ev_sload (pc := 133) (fe_175 rfl) g2 ?_
  refine ev_aload_n (pc := 134) (fe_175 rfl) rfl ?_
  refine ev_iload_n (pc := 135) (fe_175 rfl) rfl ?_
  refine ev_iconst (pc := 136) (fe_175 rfl) li_2 ?_
  refine ev_iadd (pc := 137) (fe_175 rfl) ?_
  refine ev_sload (pc := 138) (fe_175 rfl) g3 ?_
  refine ev_aload_n (pc := 139) (fe_175 rfl) rfl ?_
  refine ev_iload_n (pc := 140) (fe_175 rfl) rfl ?_
  refine ev_iconst (pc := 141) (fe_175 rfl) li_3 ?_
  refine ev_iadd (pc := 142) (fe_175 rfl) ?_
  refine ev_sload (pc := 143) (fe_175 rfl) g4 ?_
  refine fm_bd h (fun p6 ep6 h => ?_)
  refine ev_callVk (pc := 144) (fe_175 rfl) (z := 115) (na := 4) (ow := 10) cg_175_193 rfl rfl rfl t_223 (m := 1) rfl (jK115 ep6) (st1 := [.inl p6.1]) rfl ?_
  refine ev_pop (pc := 147) (fe_175 rfl) rfl ?_
  refine ev_goto (pc := 148) (fe_175 rfl) (t := 503) rfl ?_
  refine ev_iinc (pc := 503) (fe_175 rfl) mx_175 rfl rfl li_4 ?_
  refine ev_goto (pc := 506) (fe_175 rfl) (t := 18) rfl ?_
  exact ih (x3 + 4) p6.2 h
  refine fm_sp h (fun w32_1 h => ?_) (fun w32_1 h => ?_)
  refine ev_swk (pc := 32) (fe_175 rfl) (c := 1) (by rw [w32_1]; decide) (by decide) rfl (t := 151) rfl ?_
  refine ev_aload_n (pc := 151) (fe_175 rfl) rfl ?_
  refine ev_aload_n (pc := 152) (fe_175 rfl) rfl ?_
  refine ev_iload_n (pc := 153) (fe_175 rfl) rfl ?_
  refine ev_iconst (pc := 154) (fe_175 rfl) li_1 ?_
  refine ev_iadd (pc := 155) (fe_175 rfl) ?_
  refine fm_ob h (fun g7 h => ?_)
  refine ev_sload (pc := 156) (fe_175 rfl) g7 ?_
  refine fm_bd h (fun p8 ep8 h => ?_)
  refine ev_callVZk (pc := 157) (fe_175 rfl) (z := 87) (na := 2) (ow := 9) cg_175_194 rfl rt_87 rfl rfl t_0 (m := 1) rfl (jK87 ep8) (st1 := [.inl p8.1]) rfl (fun z9 => ?_)
  refine ev_pop (pc := 160) (fe_175 rfl) rfl ?_
  refine ev_aload_n (pc := 161) (fe_175 rfl) rfl ?_
  refine ev_aload_n (pc := 162) (fe_175 rfl) rfl ?_
  refine ev_iload_n (pc := 163) (fe_175 rfl) rfl ?_
  refine ev_iconst (pc := 164) (fe_175 rfl) li_1 ?_
  refine ev_iadd (pc := 165) (fe_175 rfl) ?_
  refine ev_sload (pc := 166) (fe_175 rfl) g7 ?_
  refine fm_bd h (fun p10 ep10 h => ?_)
  refine ev_callVZk (pc := 167) (fe_175 rfl) (z := 116) (na := 2) (ow := 10) cg_175_195 rfl rt_116 rfl rfl t_223 (m := 3) rfl (jK116 ep10) (st1 := [.inl p10.1]) rfl (fun z11 => ?_)
  refine ev_pop (pc := 170) (fe_175 rfl) rfl ?_
  refine ev_goto (pc := 171) (fe_175 rfl) (t := 503) rfl ?_
  refine ev_iinc (pc := 503) (fe_175 rfl) mx_175 rfl rfl li_4 ?_
  refine ev_goto (pc := 506) (fe_175 rfl) (t := 18) rfl ?_
  exact ih (x3 + 4) p10.2 h
  refine fm_sp h (fun w32_2 h => ?_) (fun w32_2 h => ?_)
  refine ev_swk (pc := 32) (fe_175 rfl) (c := 2) (by rw [w32_2]; decide) (by decide) rfl (t := 174) rfl ?_
  refine ev_aload_n (pc := 174) (fe_175 rfl) rfl ?_
  refine ev_aload_n (pc := 175) (fe_175 rfl) rfl ?_
  refine ev_iload_n (pc := 176) (fe_175 rfl) rfl ?_
  refine ev_iconst (pc := 177) (fe_175 rfl) li_1 ?_
  refine ev_iadd (pc := 178) (fe_175 rfl) ?_
  refine fm_ob h (fun g12 h => ?_)
  refine ev_sload (pc := 179) (fe_175 rfl) g12 ?_
  refine fm_bd h (fun p13 ep13 h => ?_)
  refine ev_callVZk (pc := 180) (fe_175 rfl) (z := 88) (na := 2) (ow := 9) cg_175_196 rfl rt_88 rfl rfl t_0 (m := 1) rfl (jK88 ep13) (st1 := [.inl p13.1]) rfl (fun z14 => ?_)
  refine ev_pop (pc := 183) (fe_175 rfl) rfl ?_
  refine ev_aload_n (pc := 184) (fe_175 rfl) rfl ?_
  refine ev_aload_n (pc := 185) (fe_175 rfl) rfl ?_
  refine ev_iload_n (pc := 186) (fe_175 rfl) rfl ?_
  refine ev_iconst (pc := 187) (fe_175 rfl) li_1 ?_
  refine ev_iadd (pc := 188) (fe_175 rfl) ?_
  refine ev_sload (pc := 189) (fe_175 rfl) g12 ?_
  refine fm_bd h (fun p15 ep15 h => ?_)
  refine ev_callVZk (pc := 190) (fe_175 rfl) (z := 120) (na := 2) (ow := 10) cg_175_197 rfl rt_120 rfl rfl t_223 (m := 0) rfl (jK120 ep15) (st1 := [.inl p15.1]) rfl (fun z16 => ?_)
  refine ev_pop (pc := 193) (fe_175 rfl) rfl ?_
  refine ev_goto (pc := 194) (fe_175 rfl) (t := 503) rfl ?_
  refine ev_iinc (pc := 503) (fe_175 rfl) mx_175 rfl rfl li_4 ?_
  refine ev_goto (pc := 506) (fe_175 rfl) (t := 18) rfl ?_
  exact ih (x3 + 4) p15.2 h
  refine fm_sp h (fun w32_3 h => ?_) (fun w32_3 h => ?_)
  refine ev_swk (pc := 32) (fe_175 rfl) (c := 3) (by rw [w32_3]; decide) (by decide) rfl (t := 197) rfl ?_
  refine ev_aload_n (pc := 197) (fe_175 rfl) rfl ?_
  refine ev_aload_n (pc := 198) (fe_175 rfl) rfl ?_
  refine ev_iload_n (pc := 199) (fe_175 rfl) rfl ?_
  refine ev_iconst (pc := 200) (fe_175 rfl) li_1 ?_
  refine ev_iadd (pc := 201) (fe_175 rfl) ?_
  refine fm_ob h (fun g17 h => ?_)
  refine ev_sload (pc := 202) (fe_175 rfl) g17 ?_
  refine fm_bd h (fun p18 ep18 h => ?_)
  refine ev_callVZk (pc := 203) (fe_175 rfl) (z := 89) (na := 2) (ow := 9) cg_175_198 rfl rt_89 rfl rfl t_0 (m := 1) rfl (jK89 ep18) (st1 := [.inl p18.1]) rfl (fun z19 => ?_)
  refine ev_pop (pc := 206) (fe_175 rfl) rfl ?_
  refine ev_aload_n (pc := 207) (fe_175 rfl) rfl ?_
  refine ev_aload_n (pc := 208) (fe_175 rfl) rfl ?_
  refine ev_iload_n (pc := 209) (fe_175 rfl) rfl ?_
  refine ev_iconst (pc := 210) (fe_175 rfl) li_1 ?_
  refine ev_iadd (pc := 211) (fe_175 rfl) ?_
  refine ev_sload (pc := 212) (fe_175 rfl) g17 ?_
  refine fm_bd h (fun p20 ep20 h => ?_)
  refine ev_callVZk (pc := 213) (fe_175 rfl) (z := 121) (na := 2) (ow := 10) cg_175_199 rfl rt_121 rfl rfl t_223 (m := 0) rfl (jK121 ep20) (st1 := [.inl p20.1]) rfl (fun z21 => ?_)
  refine ev_pop (pc := 216) (fe_175 rfl) rfl ?_
  refine ev_goto (pc := 217) (fe_175 rfl) (t := 503) rfl ?_
  refine ev_iinc (pc := 503) (fe_175 rfl) mx_175 rfl rfl li_4 ?_
  refine ev_goto (pc := 506) (fe_175 rfl) (t := 18) rfl ?_
  exact ih (x3 + 4) p20.2 h
  refine fm_sp h (fun w32_4 h => ?_) (fun w32_4 h => ?_)
  refine ev_swk (pc := 32) (fe_175 rfl) (c := 4) (by rw [w32_4]; decide) (by decide) rfl (t := 220) rfl ?_
  refine ev_aload_n (pc := 220) (fe_175 rfl) rfl ?_
  refine ev_aload_n (pc := 221) (fe_175 rfl) rfl ?_
  refine ev_iload_n (pc := 222) (fe_175 rfl) rfl ?_
  refine ev_iconst (pc := 223) (fe_175 rfl) li_1 ?_
  refine ev_iadd (pc := 224) (fe_175 rfl) ?_
  refine fm_ob h (fun g22 h => ?_)
  refine ev_sload (pc := 225) (fe_175 rfl) g22 ?_
  refine fm_bd h (fun p23 ep23 h => ?_)
  refine ev_callVZk (pc := 226) (fe_175 rfl) (z := 90) (na := 2) (ow := 9) cg_175_200 rfl rt_90 rfl rfl t_0 (m := 1) rfl (jK90 ep23) (st1 := [.inl p23.1]) rfl (fun z24 => ?_)
  refine ev_pop (pc := 229) (fe_175 rfl) rfl ?_
  refine ev_aload_n (pc := 230) (fe_175 rfl) rfl ?_
  refine ev_aload_n (pc := 231) (fe_175 rfl) rfl ?_
  refine ev_iload_n (pc := 232) (fe_175 rfl) rfl ?_
  refine ev_iconst (pc := 233) (fe_175 rfl) li_1 ?_
  refine ev_iadd (pc := 234) (fe_175 rfl) ?_
  refine ev_sload (pc := 235) (fe_175 rfl) g22 ?_
  refine fm_bd h (fun p25 ep25 h => ?_)
  refine ev_callVZk (pc := 236) (fe_175 rfl) (z := 122) (na := 2) (ow := 10) cg_175_201 rfl rt_122 rfl rfl t_223 (m := 0) rfl (jK122 ep25) (st1 := [.inl p25.1]) rfl (fun z26 => ?_)
  refine ev_pop (pc := 239) (fe_175 rfl) rfl ?_
  refine ev_goto (pc := 240) (fe_175 rfl) (t := 503) rfl ?_
  refine ev_iinc (pc := 503) (fe_175 rfl) mx_175 rfl rfl li_4 ?_
  refine ev_goto (pc := 506) (fe_175 rfl) (t := 18) rfl ?_
  exact ih (x3 + 4) p25.2 h
  refine fm_sp h (fun w32_5 h => ?_) (fun w32_5 h => ?_)
  refine ev_swk (pc := 32) (fe_175 rfl) (c := 5) (by rw [w32_5]; decide) (by decide) rfl (t := 243) rfl ?_
  refine ev_aload_n (pc := 243) (fe_175 rfl) rfl ?_
  refine ev_aload_n (pc := 244) (fe_175 rfl) rfl ?_
  refine ev_iload_n (pc := 245) (fe_175 rfl) rfl ?_
  refine ev_iconst (pc := 246) (fe_175 rfl) li_1 ?_
  refine ev_iadd (pc := 247) (fe_175 rfl) ?_
  refine fm_ob h (fun g27 h => ?_)
  refine ev_sload (pc := 248) (fe_175 rfl) g27 ?_
  refine fm_bd h (fun p28 ep28 h => ?_)
  refine ev_callVk (pc := 249) (fe_175 rfl) (z := 91) (na := 2) (ow := 9) cg_175_202 rfl rfl rfl t_0 (m := 1) rfl (jK91 ep28) (st1 := [.inl p28.1]) rfl ?_
  refine ev_pop (pc := 252) (fe_175 rfl) rfl ?_
  refine ev_aload_n (pc := 253) (fe_175 rfl) rfl ?_
  refine ev_aload_n (pc := 254) (fe_175 rfl) rfl ?_
  refine ev_iload_n (pc := 255) (fe_175 rfl) rfl ?_
  refine ev_iconst (pc := 256) (fe_175 rfl) li_1 ?_
  refine ev_iadd (pc := 257) (fe_175 rfl) ?_
  refine ev_sload (pc := 258) (fe_175 rfl) g27 ?_
  refine fm_bd h (fun p29 ep29 h => ?_)
  refine ev_callVk (pc := 259) (fe_175 rfl) (z := 130) (na := 2) (ow := 10) cg_175_203 rfl rfl rfl t_223 (m := 0) rfl (jK130 ep29) (st1 := [.inl p29.1]) rfl ?_
  refine ev_pop (pc := 262) (fe_175 rfl) rfl ?_
  refine ev_goto (pc := 263) (fe_175 rfl) (t := 503) rfl ?_
  refine ev_iinc (pc := 503) (fe_175 rfl) mx_175 rfl rfl li_4 ?_
  refine ev_goto (pc := 506) (fe_175 rfl) (t := 18) rfl ?_
  exact ih (x3 + 4) p29.2 h
  refine fm_sp h (fun w32_6 h => ?_) (fun w32_6 h => ?_)
  refine ev_swk (pc := 32) (fe_175 rfl) (c := 6) (by rw [w32_6]; decide) (by decide) rfl (t := 266) rfl ?_
  refine ev_aload_n (pc := 266) (fe_175 rfl) rfl ?_
  refine ev_aload_n (pc := 267) (fe_175 rfl) rfl ?_
  refine ev_iload_n (pc := 268) (fe_175 rfl) rfl ?_
  refine ev_iconst (pc := 269) (fe_175 rfl) li_1 ?_
  refine ev_iadd (pc := 270) (fe_175 rfl) ?_
  refine fm_ob h (fun g30 h => ?_)
  refine ev_sload (pc := 271) (fe_175 rfl) g30 ?_
  refine fm_bd h (fun p31 ep31 h => ?_)
  refine ev_callVk (pc := 272) (fe_175 rfl) (z := 92) (na := 2) (ow := 9) cg_175_204 rfl rfl rfl t_0 (m := 1) rfl (jK92 ep31) (st1 := [.inl p31.1]) rfl ?_
  refine ev_pop (pc := 275) (fe_175 rfl) rfl ?_
  refine ev_aload_n (pc := 276) (fe_175 rfl) rfl ?_
  refine ev_aload_n (pc := 277) (fe_175 rfl) rfl ?_
  refine ev_iload_n (pc := 278) (fe_175 rfl) rfl ?_
  refine ev_iconst (pc := 279) (fe_175 rfl) li_1 ?_
  refine ev_iadd (pc := 280) (fe_175 rfl) ?_
  refine ev_sload (pc := 281) (fe_175 rfl) g30 ?_
  refine fm_bd h (fun p32 ep32 h => ?_)
  refine ev_callVk (pc := 282) (fe_175 rfl) (z := 131) (na := 2) (ow := 10) cg_175_205 rfl rfl rfl t_223 (m := 0) rfl (jK131 ep32) (st1 := [.inl p32.1]) rfl ?_
  refine ev_pop (pc := 285) (fe_175 rfl) rfl ?_
  refine ev_goto (pc := 286) (fe_175 rfl) (t := 503) rfl ?_
  refine ev_iinc (pc := 503) (fe_175 rfl) mx_175 rfl rfl li_4 ?_
  refine ev_goto (pc := 506) (fe_175 rfl) (t := 18) rfl ?_
  exact ih (x3 + 4) p32.2 h
  refine fm_sp h (fun w32_7 h => ?_) (fun w32_7 h => ?_)
  refine ev_swk (pc := 32) (fe_175 rfl) (c := 7) (by rw [w32_7]; decide) (by decide) rfl (t := 289) rfl ?_
  refine ev_aload_n (pc := 289) (fe_175 rfl) rfl ?_
  refine ev_aload_n (pc := 290) (fe_175 rfl) rfl ?_
  refine ev_iload_n (pc := 291) (fe_175 rfl) rfl ?_
  refine ev_iconst (pc := 292) (fe_175 rfl) li_1 ?_
  refine ev_iadd (pc := 293) (fe_175 rfl) ?_
  refine fm_ob h (fun g33 h => ?_)
  refine ev_sload (pc := 294) (fe_175 rfl) g33 ?_
  refine fm_bd h (fun p34 ep34 h => ?_)
  refine ev_callVk (pc := 295) (fe_175 rfl) (z := 93) (na := 2) (ow := 9) cg_175_206 rfl rfl rfl t_0 (m := 0) rfl (jK93 ep34) (st1 := [.inl p34.1]) rfl ?_
  refine ev_pop (pc := 298) (fe_175 rfl) rfl ?_
  refine ev_aload_n (pc := 299) (fe_175 rfl) rfl ?_
  refine ev_aload_n (pc := 300) (fe_175 rfl) rfl ?_
  refine ev_iload_n (pc := 301) (fe_175 rfl) rfl ?_
  refine ev_iconst (pc := 302) (fe_175 rfl) li_1 ?_
  refine ev_iadd (pc := 303) (fe_175 rfl) ?_
  refine ev_sload (pc := 304) (fe_175 rfl) g33 ?_
  refine fm_bd h (fun p35 ep35 h => ?_)
  refine ev_callVk (pc := 305) (fe_175 rfl) (z := 132) (na := 2) (ow := 10) cg_175_207 rfl rfl rfl t_223 (m := 0) rfl (jK132 ep35) (st1 := [.inl p35.1]) rfl ?_
  refine ev_pop (pc := 308) (fe_175 rfl) rfl ?_
  refine ev_goto (pc := 309) (fe_175 rfl) (t := 503) rfl ?_
  refine ev_iinc (pc := 503) (fe_175 rfl) mx_175 rfl rfl li_4 ?_
  refine ev_goto (pc := 506) (fe_175 rfl) (t := 18) rfl ?_
  exact ih (x3 + 4) p35.2 h
  refine fm_sp h (fun w32_8 h => ?_) (fun w32_8 h => ?_)
  refine ev_swk (pc := 32) (fe_175 rfl) (c := 8) (by rw [w32_8]; decide) (by decide) rfl (t := 312) rfl ?_
  refine ev_aload_n (pc := 312) (fe_175 rfl) rfl ?_
  refine ev_callVk (pc := 313) (fe_175 rfl) (z := 94) (na := 1) (ow := 9) cg_175_208 rfl rfl rfl t_0 (m := 0) rfl (jK94 rfl) (st1 := [.inl (jF94 u)]) rfl ?_
  refine ev_pop (pc := 316) (fe_175 rfl) rfl ?_
  refine ev_aload_n (pc := 317) (fe_175 rfl) rfl ?_
  refine ev_callVk (pc := 318) (fe_175 rfl) (z := 133) (na := 1) (ow := 10) cg_175_209 rfl rfl rfl t_223 (m := 0) rfl (jK133 rfl) (st1 := [.inl (jF133 u)]) rfl ?_
  refine ev_pop (pc := 321) (fe_175 rfl) rfl ?_
  refine ev_goto (pc := 322) (fe_175 rfl) (t := 503) rfl ?_
  refine ev_iinc (pc := 503) (fe_175 rfl) mx_175 rfl rfl li_4 ?_
  refine ev_goto (pc := 506) (fe_175 rfl) (t := 18) rfl ?_
  exact ih (x3 + 4) u h
  refine fm_sp h (fun w32_9 h => ?_) (fun w32_9 h => ?_)
  refine ev_swk (pc := 32) (fe_175 rfl) (c := 9) (by rw [w32_9]; decide) (by decide) rfl (t := 325) rfl ?_
  refine ev_aload_n (pc := 325) (fe_175 rfl) rfl ?_
  refine ev_aload_n (pc := 326) (fe_175 rfl) rfl ?_
  refine ev_iload_n (pc := 327) (fe_175 rfl) rfl ?_
  refine ev_iconst (pc := 328) (fe_175 rfl) li_1 ?_
  refine ev_iadd (pc := 329) (fe_175 rfl) ?_
  refine fm_ob h (fun g36 h => ?_)
  refine ev_sload (pc := 330) (fe_175 rfl) g36 ?_
  refine ev_aload_n (pc := 331) (fe_175 rfl) rfl ?_
  refine ev_iload_n (pc := 332) (fe_175 rfl) rfl ?_
  refine ev_iconst (pc := 333) (fe_175 rfl) li_2 ?_
  refine ev_iadd (pc := 334) (fe_175 rfl) ?_
  refine fm_ob h (fun g37 h => ?_)
  refine ev_sload (pc := 335) (fe_175 rfl) g37 ?_
  refine fm_bd h (fun p38 ep38 h => ?_)
  refine ev_callVk (pc := 336) (fe_175 rfl) (z := 95) (na := 3) (ow := 9) cg_175_210 rfl rfl rfl t_0 (m := 1) rfl (jK95 ep38) (st1 := [.inl p38.1]) rfl ?_
  refine ev_pop (pc := 339) (fe_175 rfl) rfl ?_
  refine ev_aload_n (pc := 340) (fe_175 rfl) rfl ?_
  refine ev_aload_n (pc := 341) (fe_175 rfl) rfl ?_
  refine ev_iload_n (pc := 342) (fe_175 rfl) rfl ?_
  refine ev_iconst (pc := 343) (fe_175 rfl) li_1 ?_
  refine ev_iadd (pc := 344) (fe_175 rfl) ?_
  refine ev_sload (pc := 345) (fe_175 rfl) g36 ?_
  refine ev_aload_n (pc := 346) (fe_175 rfl) rfl ?_
  refine ev_iload_n (pc := 347) (fe_175 rfl) rfl ?_
  refine ev_iconst (pc := 348) (fe_175 rfl) li_2 ?_
  refine ev_iadd (pc := 349) (fe_175 rfl) ?_
  refine ev_sload (pc := 350) (fe_175 rfl) g37 ?_
  refine fm_bd h (fun p39 ep39 h => ?_)
  refine ev_callVk (pc := 351) (fe_175 rfl) (z := 155) (na := 3) (ow := 10) cg_175_211 rfl rfl rfl t_223 (m := 0) rfl (jK155 ep39) (st1 := [.inl p39.1]) rfl ?_
  refine ev_pop (pc := 354) (fe_175 rfl) rfl ?_
  refine ev_goto (pc := 355) (fe_175 rfl) (t := 503) rfl ?_
  refine ev_iinc (pc := 503) (fe_175 rfl) mx_175 rfl rfl li_4 ?_
  refine ev_goto (pc := 506) (fe_175 rfl) (t := 18) rfl ?_
  exact ih (x3 + 4) p39.2 h
  refine fm_sp h (fun w32_10 h => ?_) (fun w32_10 h => ?_)
  refine ev_swk (pc := 32) (fe_175 rfl) (c := 10) (by rw [w32_10]; decide) (by decide) rfl (t := 358) rfl ?_
  refine ev_aload_n (pc := 358) (fe_175 rfl) rfl ?_
  refine ev_aload_n (pc := 359) (fe_175 rfl) rfl ?_
  refine ev_iload_n (pc := 360) (fe_175 rfl) rfl ?_
  refine ev_iconst (pc := 361) (fe_175 rfl) li_1 ?_
  refine ev_iadd (pc := 362) (fe_175 rfl) ?_
  refine fm_ob h (fun g40 h => ?_)
  refine ev_sload (pc := 363) (fe_175 rfl) g40 ?_
  refine fm_bd h (fun p41 ep41 h => ?_)
  refine ev_callVZk (pc := 364) (fe_175 rfl) (z := 96) (na := 2) (ow := 9) cg_175_212 rfl rt_96 rfl rfl t_0 (m := 1) rfl (jK96 ep41) (st1 := [.inl p41.1]) rfl (fun z42 => ?_)
  refine ev_aload_n (pc := 367) (fe_175 rfl) rfl ?_
  refine ev_aload_n (pc := 368) (fe_175 rfl) rfl ?_
  refine ev_iload_n (pc := 369) (fe_175 rfl) rfl ?_
  refine ev_iconst (pc := 370) (fe_175 rfl) li_1 ?_
  refine ev_iadd (pc := 371) (fe_175 rfl) ?_
  refine ev_sload (pc := 372) (fe_175 rfl) g40 ?_
  refine fm_bd h (fun p43 ep43 h => ?_)
  refine ev_callVZk (pc := 373) (fe_175 rfl) (z := 156) (na := 2) (ow := 10) cg_175_213 rfl rt_156 rfl rfl t_223 (m := 0) rfl (jK156 ep43) (st1 := [.inl p43.1, .inl p41.1]) rfl (fun z44 => ?_)
  refine ev_ic_eq (pc := 376) (fe_175 rfl) (t := 503) rfl h (fun h => ?_) (fun h => ?_)
  refine ev_iinc (pc := 503) (fe_175 rfl) mx_175 rfl rfl li_4 ?_
  refine ev_goto (pc := 506) (fe_175 rfl) (t := 18) rfl ?_
  exact ih (x3 + 4) p43.2 h
  refine ev_iconst (pc := 379) (fe_175 rfl) li_0 ?_
  exact ev_R (ev_zrt (pc := 380) (fe_175 rfl) rt_175 (Or.inl rfl)) (by rw [← Option.some.inj h])
  refine fm_sp h (fun w32_11 h => ?_) (fun w32_11 h => ?_)
  refine ev_swk (pc := 32) (fe_175 rfl) (c := 11) (by rw [w32_11]; decide) (by decide) rfl (t := 381) rfl ?_
  refine ev_aload_n (pc := 381) (fe_175 rfl) rfl ?_
  refine ev_aload_n (pc := 382) (fe_175 rfl) rfl ?_
  refine ev_iload_n (pc := 383) (fe_175 rfl) rfl ?_
  refine ev_iconst (pc := 384) (fe_175 rfl) li_1 ?_
  refine ev_iadd (pc := 385) (fe_175 rfl) ?_
  refine fm_ob h (fun g45 h => ?_)
  refine ev_sload (pc := 386) (fe_175 rfl) g45 ?_
  refine fm_bd h (fun p46 ep46 h => ?_)
  refine ev_callVk (pc := 387) (fe_175 rfl) (z := 97) (na := 2) (ow := 9) cg_175_214 rfl rfl rfl t_0 (m := 2) rfl (jK97 ep46) (st1 := [.inl p46.1]) rfl ?_
  refine ev_pop (pc := 390) (fe_175 rfl) rfl ?_
  refine ev_aload_n (pc := 391) (fe_175 rfl) rfl ?_
  refine ev_aload_n (pc := 392) (fe_175 rfl) rfl ?_
  refine ev_iload_n (pc := 393) (fe_175 rfl) rfl ?_
  refine ev_iconst (pc := 394) (fe_175 rfl) li_1 ?_
  refine ev_iadd (pc := 395) (fe_175 rfl) ?_
  refine ev_sload (pc := 396) (fe_175 rfl) g45 ?_
  refine fm_bd h (fun p47 ep47 h => ?_)
  refine ev_callVk (pc := 397) (fe_175 rfl) (z := 169) (na := 2) (ow := 10) cg_175_215 rfl rfl rfl t_223 (m := 0) rfl (jK169 ep47) (st1 := [.inl p47.1]) rfl ?_
  refine ev_pop (pc := 400) (fe_175 rfl) rfl ?_
  refine ev_goto (pc := 401) (fe_175 rfl) (t := 503) rfl ?_
  refine ev_iinc (pc := 503) (fe_175 rfl) mx_175 rfl rfl li_4 ?_
  refine ev_goto (pc := 506) (fe_175 rfl) (t := 18) rfl ?_
  exact ih (x3 + 4) p47.2 h
  refine fm_sp h (fun w32_12 h => ?_) (fun w32_12 h => ?_)
  refine ev_swk (pc := 32) (fe_175 rfl) (c := 12) (by rw [w32_12]; decide) (by decide) rfl (t := 404) rfl ?_
  refine ev_aload_n (pc := 404) (fe_175 rfl) rfl ?_
  refine ev_aload_n (pc := 405) (fe_175 rfl) rfl ?_
  refine ev_iload_n (pc := 406) (fe_175 rfl) rfl ?_
  refine ev_iconst (pc := 407) (fe_175 rfl) li_1 ?_
  refine ev_iadd (pc := 408) (fe_175 rfl) ?_
  refine fm_ob h (fun g48 h => ?_)
  refine ev_sload (pc := 409) (fe_175 rfl) g48 ?_
  refine fm_bd h (fun p49 ep49 h => ?_)
  refine ev_callVk (pc := 410) (fe_175 rfl) (z := 98) (na := 2) (ow := 9) cg_175_216 rfl rfl rfl t_0 (m := 3) rfl (jK98 ep49) (st1 := [.inl p49.1]) rfl ?_
  refine ev_pop (pc := 413) (fe_175 rfl) rfl ?_
  refine ev_aload_n (pc := 414) (fe_175 rfl) rfl ?_
  refine ev_aload_n (pc := 415) (fe_175 rfl) rfl ?_
  refine ev_iload_n (pc := 416) (fe_175 rfl) rfl ?_
  refine ev_iconst (pc := 417) (fe_175 rfl) li_1 ?_
  refine ev_iadd (pc := 418) (fe_175 rfl) ?_
  refine ev_sload (pc := 419) (fe_175 rfl) g48 ?_
  refine fm_bd h (fun p50 ep50 h => ?_)
  refine ev_callVk (pc := 420) (fe_175 rfl) (z := 172) (na := 2) (ow := 10) cg_175_217 rfl rfl rfl t_223 (m := 10) rfl (jK172 ep50) (st1 := [.inl p50.1]) rfl ?_
  refine ev_pop (pc := 423) (fe_175 rfl) rfl ?_
  refine ev_goto (pc := 424) (fe_175 rfl) (t := 503) rfl ?_
  refine ev_iinc (pc := 503) (fe_175 rfl) mx_175 rfl rfl li_4 ?_
  refine ev_goto (pc := 506) (fe_175 rfl) (t := 18) rfl ?_
  exact ih (x3 + 4) p50.2 h
  refine fm_sp h (fun w32_13 h => ?_) (fun w32_13 h => ?_)
  refine ev_swk (pc := 32) (fe_175 rfl) (c := 13) (by rw [w32_13]; decide) (by decide) rfl (t := 427) rfl ?_
  refine ev_aload_n (pc := 427) (fe_175 rfl) rfl ?_
  refine ev_aload_n (pc := 428) (fe_175 rfl) rfl ?_
  refine ev_iload_n (pc := 429) (fe_175 rfl) rfl ?_
  refine ev_iconst (pc := 430) (fe_175 rfl) li_1 ?_
  refine ev_iadd (pc := 431) (fe_175 rfl) ?_
  refine fm_ob h (fun g51 h => ?_)
  refine ev_sload (pc := 432) (fe_175 rfl) g51 ?_
  refine ev_aload_n (pc := 433) (fe_175 rfl) rfl ?_
  refine ev_iload_n (pc := 434) (fe_175 rfl) rfl ?_
  refine ev_iconst (pc := 435) (fe_175 rfl) li_2 ?_
  refine ev_iadd (pc := 436) (fe_175 rfl) ?_
  refine fm_ob h (fun g52 h => ?_)
  refine ev_sload (pc := 437) (fe_175 rfl) g52 ?_
  refine ev_callVk (pc := 438) (fe_175 rfl) (z := 99) (na := 3) (ow := 9) cg_175_218 rfl rfl rfl t_0 (m := 1) rfl (jK99 rfl) (st1 := [.inl (jF99 (X.2 (Int32.toNatClampNeg (x3 + 1))) (X.2 (Int32.toNatClampNeg (x3 + 2))) u)]) rfl ?_
  refine ev_pop (pc := 441) (fe_175 rfl) rfl ?_
  refine ev_aload_n (pc := 442) (fe_175 rfl) rfl ?_
  refine ev_aload_n (pc := 443) (fe_175 rfl) rfl ?_
  refine ev_iload_n (pc := 444) (fe_175 rfl) rfl ?_
  refine ev_iconst (pc := 445) (fe_175 rfl) li_1 ?_
  refine ev_iadd (pc := 446) (fe_175 rfl) ?_
  refine ev_sload (pc := 447) (fe_175 rfl) g51 ?_
  refine ev_aload_n (pc := 448) (fe_175 rfl) rfl ?_
  refine ev_iload_n (pc := 449) (fe_175 rfl) rfl ?_
  refine ev_iconst (pc := 450) (fe_175 rfl) li_2 ?_
  refine ev_iadd (pc := 451) (fe_175 rfl) ?_
  refine ev_sload (pc := 452) (fe_175 rfl) g52 ?_
  refine fm_bd h (fun p53 ep53 h => ?_)
  refine ev_callVk (pc := 453) (fe_175 rfl) (z := 173) (na := 3) (ow := 10) cg_175_219 rfl rfl rfl t_223 (m := 0) rfl (jK173 ep53) (st1 := [.inl p53]) rfl ?_
  refine ev_pop (pc := 456) (fe_175 rfl) rfl ?_
  refine ev_goto (pc := 457) (fe_175 rfl) (t := 503) rfl ?_
  refine ev_iinc (pc := 503) (fe_175 rfl) mx_175 rfl rfl li_4 ?_
  refine ev_goto (pc := 506) (fe_175 rfl) (t := 18) rfl ?_
  exact ih (x3 + 4) u h
  refine fm_sp h (fun w32_14 h => ?_) (fun w32_14 h => ?_)
  refine ev_swk (pc := 32) (fe_175 rfl) (c := 14) (by rw [w32_14]; decide) (by decide) rfl (t := 460) rfl ?_
  refine ev_aload_n (pc := 460) (fe_175 rfl) rfl ?_
  refine ev_aload_n (pc := 461) (fe_175 rfl) rfl ?_
  refine ev_iload_n (pc := 462) (fe_175 rfl) rfl ?_
  refine ev_iconst (pc := 463) (fe_175 rfl) li_1 ?_
  refine ev_iadd (pc := 464) (fe_175 rfl) ?_
  refine fm_ob h (fun g54 h => ?_)
  refine ev_sload (pc := 465) (fe_175 rfl) g54 ?_
  refine ev_aload_n (pc := 466) (fe_175 rfl) rfl ?_
  refine ev_iload_n (pc := 467) (fe_175 rfl) rfl ?_
  refine ev_iconst (pc := 468) (fe_175 rfl) li_2 ?_
  refine ev_iadd (pc := 469) (fe_175 rfl) ?_
  refine fm_ob h (fun g55 h => ?_)
  refine ev_sload (pc := 470) (fe_175 rfl) g55 ?_
  refine ev_aload_n (pc := 471) (fe_175 rfl) rfl ?_
  refine ev_iload_n (pc := 472) (fe_175 rfl) rfl ?_
  refine ev_iconst (pc := 473) (fe_175 rfl) li_3 ?_
  refine ev_iadd (pc := 474) (fe_175 rfl) ?_
  refine fm_ob h (fun g56 h => ?_)
  refine ev_sload (pc := 475) (fe_175 rfl) g56 ?_
  refine fm_bd h (fun p57 ep57 h => ?_)
  refine ev_callVk (pc := 476) (fe_175 rfl) (z := 100) (na := 4) (ow := 9) cg_175_220 rfl rfl rfl t_0 (m := 1) rfl (jK100 ep57) (st1 := [.inl p57]) rfl ?_
  refine ev_pop (pc := 479) (fe_175 rfl) rfl ?_
  refine ev_aload_n (pc := 480) (fe_175 rfl) rfl ?_
  refine ev_aload_n (pc := 481) (fe_175 rfl) rfl ?_
  refine ev_iload_n (pc := 482) (fe_175 rfl) rfl ?_
  refine ev_iconst (pc := 483) (fe_175 rfl) li_1 ?_
  refine ev_iadd (pc := 484) (fe_175 rfl) ?_
  refine ev_sload (pc := 485) (fe_175 rfl) g54 ?_
  refine ev_aload_n (pc := 486) (fe_175 rfl) rfl ?_
  refine ev_iload_n (pc := 487) (fe_175 rfl) rfl ?_
  refine ev_iconst (pc := 488) (fe_175 rfl) li_2 ?_
  refine ev_iadd (pc := 489) (fe_175 rfl) ?_
  refine ev_sload (pc := 490) (fe_175 rfl) g55 ?_
  refine ev_aload_n (pc := 491) (fe_175 rfl) rfl ?_
  refine ev_iload_n (pc := 492) (fe_175 rfl) rfl ?_
  refine ev_iconst (pc := 493) (fe_175 rfl) li_3 ?_
  refine ev_iadd (pc := 494) (fe_175 rfl) ?_
  refine ev_sload (pc := 495) (fe_175 rfl) g56 ?_
  refine fm_bd h (fun p58 ep58 h => ?_)
  refine ev_callVk (pc := 496) (fe_175 rfl) (z := 174) (na := 4) (ow := 10) cg_175_221 rfl rfl rfl t_223 (m := 1) rfl (jK174 ep58) (st1 := [.inl p58]) rfl ?_
  refine ev_pop (pc := 499) (fe_175 rfl) rfl ?_
  refine ev_goto (pc := 500) (fe_175 rfl) (t := 503) rfl ?_
  refine ev_iinc (pc := 503) (fe_175 rfl) mx_175 rfl rfl li_4 ?_
  refine ev_goto (pc := 506) (fe_175 rfl) (t := 18) rfl ?_
  exact ih (x3 + 4) u h
  refine ev_swd (pc := 32) (fe_175 rfl) (t := 503) rfl (fm_swx (lo := 0) (n := 15) (List.forall_mem_cons.mpr ⟨w32_0, List.forall_mem_cons.mpr ⟨w32_1, List.forall_mem_cons.mpr ⟨w32_2, List.forall_mem_cons.mpr ⟨w32_3, List.forall_mem_cons.mpr ⟨w32_4, List.forall_mem_cons.mpr ⟨w32_5, List.forall_mem_cons.mpr ⟨w32_6, List.forall_mem_cons.mpr ⟨w32_7, List.forall_mem_cons.mpr ⟨w32_8, List.forall_mem_cons.mpr ⟨w32_9, List.forall_mem_cons.mpr ⟨w32_10, List.forall_mem_cons.mpr ⟨w32_11, List.forall_mem_cons.mpr ⟨w32_12, List.forall_mem_cons.mpr ⟨w32_13, List.forall_mem_cons.mpr ⟨w32_14, fun _ q => nomatch q⟩⟩⟩⟩⟩⟩⟩⟩⟩⟩⟩⟩⟩⟩⟩)) ?_
  refine ev_iinc (pc := 503) (fe_175 rfl) mx_175 rfl rfl li_4 ?_
  refine ev_goto (pc := 506) (fe_175 rfl) (t := 18) rfl ?_
  exact ih (x3 + 4) u h
theorem jK175 {X : Nat × (Nat → Int32)} {u : fm} {r : Int32 × fm} (h : jF175 X u = some r) : ev X 175 18 [some (.inr (.inl (some mm_scr))), some (.inr (.inl (some 0))), some (.inr (.inl (some 223))), some (.inl 0)] [] u ([.inl r.1], r.2) := by
  unfold jF175 at h
  exact jK175_18 fm_N 0 u h
