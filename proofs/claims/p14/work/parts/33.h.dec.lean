set_option maxRecDepth 8000
/-- CallAgentsModel fire -/
def jF171_109 (x1 : Int32) (u : fm) : Option (fm) :=
  if fm_in x1 2 then if (fA u 225 (Int32.toNatClampNeg x1)) = 1 then
  (fm_let (sA u 225 (Int32.toNatClampNeg x1) 4) (fun u5 => Option.bind (jF107 x1 u5) (fun p6 => some p6)))
  else
  (fm_let (sA u 225 (Int32.toNatClampNeg x1) 9) (fun u3 => Option.bind (jF107 x1 u3) (fun p4 => some p4))) else none
def jF171 (x1 : Int32) (u : fm) : Option (fm) :=
  if fm_in x1 2 then if (fG u 248 (Int32.toNatClampNeg x1)) = (-1) then
  (jF171_109 x1 u)
  else
  (if (fG u 250 (Int32.toNatClampNeg x1)) < (fG u 248 (Int32.toNatClampNeg x1)) then
  (jF171_109 x1 u)
  else
  (Option.bind (jF109 244 (50 * x1) u) (fun p7 => fm_let (sG p7 249 (Int32.toNatClampNeg x1) ((fG p7 249 (Int32.toNatClampNeg x1)) * 2)) (fun u8 => if (fA u8 225 (Int32.toNatClampNeg x1)) = 1 then
  (fm_let (sG u8 248 (Int32.toNatClampNeg x1) ((fG u8 248 (Int32.toNatClampNeg x1)) + (fG u8 249 (Int32.toNatClampNeg x1)))) (fun u9 => some u9))
  else
  (if 4000 < (fG u8 249 (Int32.toNatClampNeg x1)) then
  (fm_let (sG u8 249 (Int32.toNatClampNeg x1) 4000) (fun u11 => fm_let (sG u11 248 (Int32.toNatClampNeg x1) ((fG u11 248 (Int32.toNatClampNeg x1)) + (fG u11 249 (Int32.toNatClampNeg x1)))) (fun u12 => some u12)))
  else
  (fm_let (sG u8 248 (Int32.toNatClampNeg x1) ((fG u8 248 (Int32.toNatClampNeg x1)) + (fG u8 249 (Int32.toNatClampNeg x1)))) (fun u10 => some u10))))))) else none
theorem jK171_109 {X : Nat × (Nat → Int32)} {r : fm} (x1 : Int32) (u : fm) (h : jF171_109 x1 u = some r) : ev X 171 109 [some (.inr (.inl (some 223))), some (.inl x1)] [] u ([], r) := by
  unfold jF171_109 at h
  refine ev_aload_n (pc := 109) (fe_171 rfl) rfl ?_
  refine ev_getR (a1 := 225) (pc := 110) (fe_171 rfl) fr_111 t_223 rfl ?_
  refine ev_iload_n (pc := 113) (fe_171 rfl) rfl ?_
  refine ev_aload_n (pc := 114) (fe_171 rfl) rfl ?_
  refine ev_getR (a1 := 225) (pc := 115) (fe_171 rfl) fr_111 t_223 rfl ?_
  refine ev_iload_n (pc := 118) (fe_171 rfl) rfl ?_
  refine fm_ob h (fun g2 h => ?_)
  refine ev_iaload (pc := 119) (fe_171 rfl) t_225 g2 ?_
  refine ev_iconst (pc := 120) (fe_171 rfl) li_1 ?_
  refine ev_ic_ne (pc := 121) (fe_171 rfl) (t := 128) rfl h (fun h => ?_) (fun h => ?_)
  refine ev_bipush (pc := 128) (fe_171 rfl) lb_9 ?_
  refine fm_lt_h h (fun u3 eu3 h => ?_)
  refine ev_iastore (pc := 130) (fe_171 rfl) t_225 g2 eu3 ?_
  refine ev_aload_n (pc := 131) (fe_171 rfl) rfl ?_
  refine ev_iload_n (pc := 132) (fe_171 rfl) rfl ?_
  refine fm_bd h (fun p4 ep4 h => ?_)
  refine ev_callVk (pc := 133) (fe_171 rfl) (z := 107) (na := 2) (ow := 10) cg_171_135 rfl rfl rfl t_223 (m := 0) rfl (jK107 ep4) (st1 := []) rfl ?_
  exact ev_R (ev_vrt (pc := 136) (fe_171 rfl) rt_171) (by rw [← Option.some.inj h])
  refine ev_iconst (pc := 124) (fe_171 rfl) li_4 ?_
  refine ev_goto (pc := 125) (fe_171 rfl) (t := 130) rfl ?_
  refine fm_lt_h h (fun u5 eu5 h => ?_)
  refine ev_iastore (pc := 130) (fe_171 rfl) t_225 g2 eu5 ?_
  refine ev_aload_n (pc := 131) (fe_171 rfl) rfl ?_
  refine ev_iload_n (pc := 132) (fe_171 rfl) rfl ?_
  refine fm_bd h (fun p6 ep6 h => ?_)
  refine ev_callVk (pc := 133) (fe_171 rfl) (z := 107) (na := 2) (ow := 10) cg_171_135 rfl rfl rfl t_223 (m := 0) rfl (jK107 ep6) (st1 := []) rfl ?_
  exact ev_R (ev_vrt (pc := 136) (fe_171 rfl) rt_171) (by rw [← Option.some.inj h])
theorem jK171 {X : Nat × (Nat → Int32)} {x1 : Int32} {u : fm} {r : fm} (h : jF171 x1 u = some r) : ev X 171 0 [some (.inr (.inl (some 223))), some (.inl x1)] [] u ([], r) := by
  unfold jF171 at h
  refine ev_aload_n (pc := 0) (fe_171 rfl) rfl ?_
  refine ev_getR (a1 := 248) (pc := 1) (fe_171 rfl) fr_134 t_223 rfl ?_
  refine ev_iload_n (pc := 4) (fe_171 rfl) rfl ?_
  refine fm_ob h (fun g1 h => ?_)
  refine ev_laload (pc := 5) (fe_171 rfl) t_248 g1 ?_
  refine ev_ldc2 (pc := 6) (fe_171 rfl) (c := (-1)) rfl ?_
  refine ev_lcmp (pc := 9) (fe_171 rfl) ?_
  refine ev_if_eq (pc := 10) (fe_171 rfl) (t := 109) rfl (fm_lc_eq.trans h) (fun h => ?_) (fun h => ?_)
  exact jK171_109 x1 u h
  refine ev_aload_n (pc := 13) (fe_171 rfl) rfl ?_
  refine ev_getR (a1 := 248) (pc := 14) (fe_171 rfl) fr_134 t_223 rfl ?_
  refine ev_iload_n (pc := 17) (fe_171 rfl) rfl ?_
  refine ev_laload (pc := 18) (fe_171 rfl) t_248 g1 ?_
  refine ev_aload_n (pc := 19) (fe_171 rfl) rfl ?_
  refine ev_getR (a1 := 250) (pc := 20) (fe_171 rfl) fr_136 t_223 rfl ?_
  refine ev_iload_n (pc := 23) (fe_171 rfl) rfl ?_
  refine ev_laload (pc := 24) (fe_171 rfl) t_250 g1 ?_
  refine ev_lcmp (pc := 25) (fe_171 rfl) ?_
  refine ev_if_gt (pc := 26) (fe_171 rfl) (t := 109) rfl (fm_lc_gt.trans h) (fun h => ?_) (fun h => ?_)
  exact jK171_109 x1 u h
  refine ev_aload_n (pc := 29) (fe_171 rfl) rfl ?_
  refine ev_aload_n (pc := 30) (fe_171 rfl) rfl ?_
  refine ev_getR (a1 := 244) (pc := 31) (fe_171 rfl) fr_130 t_223 rfl ?_
  refine ev_bipush (pc := 34) (fe_171 rfl) lb_50 ?_
  refine ev_iload_n (pc := 36) (fe_171 rfl) rfl ?_
  refine ev_imul (pc := 37) (fe_171 rfl) ?_
  refine fm_bd h (fun p7 ep7 h => ?_)
  refine ev_callVk (pc := 38) (fe_171 rfl) (z := 109) (na := 3) (ow := 10) cg_171_143 rfl rfl rfl t_223 (m := 1) rfl (jK109 t_244 ep7) (st1 := []) rfl ?_
  refine ev_aload_n (pc := 41) (fe_171 rfl) rfl ?_
  refine ev_getR (a1 := 249) (pc := 42) (fe_171 rfl) fr_135 t_223 rfl ?_
  refine ev_iload_n (pc := 45) (fe_171 rfl) rfl ?_
  refine ev_aload_n (pc := 46) (fe_171 rfl) rfl ?_
  refine ev_getR (a1 := 249) (pc := 47) (fe_171 rfl) fr_135 t_223 rfl ?_
  refine ev_iload_n (pc := 50) (fe_171 rfl) rfl ?_
  refine ev_laload (pc := 51) (fe_171 rfl) t_249 g1 ?_
  refine ev_ldc2 (pc := 52) (fe_171 rfl) (c := 2) rfl ?_
  refine ev_lmul (pc := 55) (fe_171 rfl) ?_
  refine fm_lt_h h (fun u8 eu8 h => ?_)
  refine ev_lastore (pc := 56) (fe_171 rfl) t_249 g1 eu8 ?_
  refine ev_aload_n (pc := 57) (fe_171 rfl) rfl ?_
  refine ev_getR (a1 := 225) (pc := 58) (fe_171 rfl) fr_111 t_223 rfl ?_
  refine ev_iload_n (pc := 61) (fe_171 rfl) rfl ?_
  refine ev_iaload (pc := 62) (fe_171 rfl) t_225 g1 ?_
  refine ev_iconst (pc := 63) (fe_171 rfl) li_1 ?_
  refine ev_ic_eq (pc := 64) (fe_171 rfl) (t := 89) rfl h (fun h => ?_) (fun h => ?_)
  refine ev_aload_n (pc := 89) (fe_171 rfl) rfl ?_
  refine ev_getR (a1 := 248) (pc := 90) (fe_171 rfl) fr_134 t_223 rfl ?_
  refine ev_iload_n (pc := 93) (fe_171 rfl) rfl ?_
  refine ev_aload_n (pc := 94) (fe_171 rfl) rfl ?_
  refine ev_getR (a1 := 248) (pc := 95) (fe_171 rfl) fr_134 t_223 rfl ?_
  refine ev_iload_n (pc := 98) (fe_171 rfl) rfl ?_
  refine ev_laload (pc := 99) (fe_171 rfl) t_248 g1 ?_
  refine ev_aload_n (pc := 100) (fe_171 rfl) rfl ?_
  refine ev_getR (a1 := 249) (pc := 101) (fe_171 rfl) fr_135 t_223 rfl ?_
  refine ev_iload_n (pc := 104) (fe_171 rfl) rfl ?_
  refine ev_laload (pc := 105) (fe_171 rfl) t_249 g1 ?_
  refine ev_ladd (pc := 106) (fe_171 rfl) ?_
  refine fm_lt_h h (fun u9 eu9 h => ?_)
  refine ev_lastore (pc := 107) (fe_171 rfl) t_248 g1 eu9 ?_
  exact ev_R (ev_vrt (pc := 108) (fe_171 rfl) rt_171) (by rw [← Option.some.inj h])
  refine ev_aload_n (pc := 67) (fe_171 rfl) rfl ?_
  refine ev_getR (a1 := 249) (pc := 68) (fe_171 rfl) fr_135 t_223 rfl ?_
  refine ev_iload_n (pc := 71) (fe_171 rfl) rfl ?_
  refine ev_laload (pc := 72) (fe_171 rfl) t_249 g1 ?_
  refine ev_ldc2 (pc := 73) (fe_171 rfl) (c := 4000) rfl ?_
  refine ev_lcmp (pc := 76) (fe_171 rfl) ?_
  refine ev_if_le (pc := 77) (fe_171 rfl) (t := 89) rfl (fm_lc_gt.trans h) (fun h => ?_) (fun h => ?_)
  refine ev_aload_n (pc := 89) (fe_171 rfl) rfl ?_
  refine ev_getR (a1 := 248) (pc := 90) (fe_171 rfl) fr_134 t_223 rfl ?_
  refine ev_iload_n (pc := 93) (fe_171 rfl) rfl ?_
  refine ev_aload_n (pc := 94) (fe_171 rfl) rfl ?_
  refine ev_getR (a1 := 248) (pc := 95) (fe_171 rfl) fr_134 t_223 rfl ?_
  refine ev_iload_n (pc := 98) (fe_171 rfl) rfl ?_
  refine ev_laload (pc := 99) (fe_171 rfl) t_248 g1 ?_
  refine ev_aload_n (pc := 100) (fe_171 rfl) rfl ?_
  refine ev_getR (a1 := 249) (pc := 101) (fe_171 rfl) fr_135 t_223 rfl ?_
  refine ev_iload_n (pc := 104) (fe_171 rfl) rfl ?_
  refine ev_laload (pc := 105) (fe_171 rfl) t_249 g1 ?_
  refine ev_ladd (pc := 106) (fe_171 rfl) ?_
  refine fm_lt_h h (fun u10 eu10 h => ?_)
  refine ev_lastore (pc := 107) (fe_171 rfl) t_248 g1 eu10 ?_
  exact ev_R (ev_vrt (pc := 108) (fe_171 rfl) rt_171) (by rw [← Option.some.inj h])
  refine ev_aload_n (pc := 80) (fe_171 rfl) rfl ?_
  refine ev_getR (a1 := 249) (pc := 81) (fe_171 rfl) fr_135 t_223 rfl ?_
  refine ev_iload_n (pc := 84) (fe_171 rfl) rfl ?_
  refine ev_ldc2 (pc := 85) (fe_171 rfl) (c := 4000) rfl ?_
  refine fm_lt_h h (fun u11 eu11 h => ?_)
  refine ev_lastore (pc := 88) (fe_171 rfl) t_249 g1 eu11 ?_
  refine ev_aload_n (pc := 89) (fe_171 rfl) rfl ?_
  refine ev_getR (a1 := 248) (pc := 90) (fe_171 rfl) fr_134 t_223 rfl ?_
  refine ev_iload_n (pc := 93) (fe_171 rfl) rfl ?_
  refine ev_aload_n (pc := 94) (fe_171 rfl) rfl ?_
  refine ev_getR (a1 := 248) (pc := 95) (fe_171 rfl) fr_134 t_223 rfl ?_
  refine ev_iload_n (pc := 98) (fe_171 rfl) rfl ?_
  refine ev_laload (pc := 99) (fe_171 rfl) t_248 g1 ?_
  refine ev_aload_n (pc := 100) (fe_171 rfl) rfl ?_
  refine ev_getR (a1 := 249) (pc := 101) (fe_171 rfl) fr_135 t_223 rfl ?_
  refine ev_iload_n (pc := 104) (fe_171 rfl) rfl ?_
  refine ev_laload (pc := 105) (fe_171 rfl) t_249 g1 ?_
  refine ev_ladd (pc := 106) (fe_171 rfl) ?_
  refine fm_lt_h h (fun u12 eu12 h => ?_)
  refine ev_lastore (pc := 107) (fe_171 rfl) t_248 g1 eu12 ?_
  exact ev_R (ev_vrt (pc := 108) (fe_171 rfl) rt_171) (by rw [← Option.some.inj h])
/-- CallAgentsModel pass -/
def jF172_89 (k25 : Int64 → Int32 → fm → Option (Int32 × fm)) (x2 : Int64) (x9 : Int32) (s0 : Int64) (u : fm) : Option (Int32 × fm) :=
  if s0 = (-1) then
  (k25 x2 0 u)
  else
  (if x2 < s0 then
  (k25 x2 0 u)
  else
  (fm_let (sJ u 223 2 s0) (fun u4 => Option.bind (jF171 x9 u4) (fun p5 => k25 x2 1 p5))))
def jF172_75 (k25 : Int64 → Int32 → fm → Option (Int32 × fm)) (x2 : Int64) (x5 : Int64) (x7 : Int64) (s0 : Int32) (u : fm) : Option (Int32 × fm) :=
  if s0 = 0 then
  (jF172_89 k25 x2 s0 x5 u)
  else
  (jF172_89 k25 x2 s0 x7 u)
def jF172_74 (k25 : Int64 → Int32 → fm → Option (Int32 × fm)) (x2 : Int64) (x5 : Int64) (x7 : Int64) (u : fm) : Option (Int32 × fm) :=
  jF172_75 k25 x2 x5 x7 1 u
def jF172_70 (k25 : Int64 → Int32 → fm → Option (Int32 × fm)) (x2 : Int64) (x5 : Int64) (x7 : Int64) (u : fm) : Option (Int32 × fm) :=
  jF172_75 k25 x2 x5 x7 0 u
def jF172_25 : Nat → Int64 → Int32 → fm → Option (Int32 × fm)
  | 0, _, _, _ => none
  | n + 1, x2, x4, u =>
  if x4 = 0 then
  (fm_let (sJ u 223 2 x2) (fun u1 => some (Int64.toInt32 (fJ u1 223 2), u1)))
  else
  (Option.bind (jF170 0 u) (fun p2 => Option.bind (jF170 1 u) (fun p3 => if p2 = (-1) then
  (jF172_74 (fun x2' x4' u' => jF172_25 n x2' x4' u') x2 p2 p3 u)
  else
  (if p3 = (-1) then
  (jF172_70 (fun x2' x4' u' => jF172_25 n x2' x4' u') x2 p2 p3 u)
  else
  (if p3 < p2 then
  (jF172_74 (fun x2' x4' u' => jF172_25 n x2' x4' u') x2 p2 p3 u)
  else
  (jF172_70 (fun x2' x4' u' => jF172_25 n x2' x4' u') x2 p2 p3 u))))))
def jF172 (x1 : Int32) (u : fm) : Option (Int32 × fm) :=
  if x1 < 1 then
  (some ((-1), u))
  else
  (if 100000 < x1 then
  (some ((-1), u))
  else
  (jF172_25 fm_N ((fJ u 223 2) + (Int32.toInt64 x1)) 1 u))
theorem jK172_89 {X : Nat × (Nat → Int32)} {r : Int32 × fm} {k25 : Int64 → Int32 → fm → Option (Int32 × fm)} (x2 : Int64) (x9 : Int32) (s0 : Int64) (u : fm) (b_x9 : x9 = 0 ∨ x9 = 1) (hk25 : ∀ (x2 : Int64) (x4 : Int32) (u : fm), (x4 = 0 ∨ x4 = 1) → k25 x2 x4 u = some r → ev X 172 25 [some (.inr (.inl (some 223))), none, some (.inr (.inr x2)), none, some (.inl x4), none, none, none, none, none, none, none] [] u ([.inl r.1], r.2)) (h : jF172_89 k25 x2 x9 s0 u = some r) : ev X 172 89 [some (.inr (.inl (some 223))), none, some (.inr (.inr x2)), none, none, none, none, none, none, some (.inl x9), none, none] [.inr (.inr s0)] u ([.inl r.1], r.2) := by
  unfold jF172_89 at h
  refine ev_lstore (pc := 89) (fe_172 rfl) mx_172 rfl ?_
  refine ev_lload (pc := 91) (fe_172 rfl) rfl ?_
  refine ev_ldc2 (pc := 93) (fe_172 rfl) (c := (-1)) rfl ?_
  refine ev_lcmp (pc := 96) (fe_172 rfl) ?_
  refine ev_if_eq (pc := 97) (fe_172 rfl) (t := 111) rfl (fm_lc_eq.trans h) (fun h => ?_) (fun h => ?_)
  refine ev_iconst (pc := 111) (fe_172 rfl) li_0 ?_
  refine ev_istore (pc := 112) (fe_172 rfl) mx_172 rfl ?_
  refine ev_iload (pc := 114) (fe_172 rfl) rfl ?_
  refine ev_ifc (pc := 116) (fe_172 rfl) (t := 131) (t1 := 131) (b := true) rfl (by decide) rfl ?_
  refine ev_goto (pc := 131) (fe_172 rfl) (t := 25) rfl ?_
  refine ev_w [true, true, true, true, true, true, true, true, true, false, false, true] ?_
  exact hk25 x2 0 u (Or.inl rfl) h
  refine ev_lload (pc := 100) (fe_172 rfl) rfl ?_
  refine ev_lload_n (pc := 102) (fe_172 rfl) rfl ?_
  refine ev_lcmp (pc := 103) (fe_172 rfl) ?_
  refine ev_if_gt (pc := 104) (fe_172 rfl) (t := 111) rfl (fm_lc_gt.trans h) (fun h => ?_) (fun h => ?_)
  refine ev_iconst (pc := 111) (fe_172 rfl) li_0 ?_
  refine ev_istore (pc := 112) (fe_172 rfl) mx_172 rfl ?_
  refine ev_iload (pc := 114) (fe_172 rfl) rfl ?_
  refine ev_ifc (pc := 116) (fe_172 rfl) (t := 131) (t1 := 131) (b := true) rfl (by decide) rfl ?_
  refine ev_goto (pc := 131) (fe_172 rfl) (t := 25) rfl ?_
  refine ev_w [true, true, true, true, true, true, true, true, true, false, false, true] ?_
  exact hk25 x2 0 u (Or.inl rfl) h
  refine ev_iconst (pc := 107) (fe_172 rfl) li_1 ?_
  refine ev_goto (pc := 108) (fe_172 rfl) (t := 112) rfl ?_
  refine ev_istore (pc := 112) (fe_172 rfl) mx_172 rfl ?_
  refine ev_iload (pc := 114) (fe_172 rfl) rfl ?_
  refine ev_ifc (pc := 116) (fe_172 rfl) (t := 131) (t1 := 119) (b := false) rfl (by decide) rfl ?_
  refine ev_aload_n (pc := 119) (fe_172 rfl) rfl ?_
  refine ev_lload (pc := 120) (fe_172 rfl) rfl ?_
  refine fm_lt_h h (fun u4 eu4 h => ?_)
  refine ev_putJ (pc := 122) (fe_172 rfl) fr_142 t_223 eu4 ?_
  refine ev_aload_n (pc := 125) (fe_172 rfl) rfl ?_
  refine ev_iload (pc := 126) (fe_172 rfl) rfl ?_
  refine fm_bd h (fun p5 ep5 h => ?_)
  refine ev_callVk (pc := 128) (fe_172 rfl) (z := 171) (na := 2) (ow := 10) cg_172_189 rfl rfl rfl t_223 (m := 0) rfl (jK171 ep5) (st1 := []) rfl ?_
  refine ev_goto (pc := 131) (fe_172 rfl) (t := 25) rfl ?_
  refine ev_w [true, true, true, true, true, true, true, true, true, false, false, true] ?_
  exact hk25 x2 1 p5 (Or.inr rfl) h
theorem jK172_75 {X : Nat × (Nat → Int32)} {r : Int32 × fm} {k25 : Int64 → Int32 → fm → Option (Int32 × fm)} (x2 : Int64) (x5 : Int64) (x7 : Int64) (s0 : Int32) (u : fm) (b_s0 : s0 = 0 ∨ s0 = 1) (hk25 : ∀ (x2 : Int64) (x4 : Int32) (u : fm), (x4 = 0 ∨ x4 = 1) → k25 x2 x4 u = some r → ev X 172 25 [some (.inr (.inl (some 223))), none, some (.inr (.inr x2)), none, some (.inl x4), none, none, none, none, none, none, none] [] u ([.inl r.1], r.2)) (h : jF172_75 k25 x2 x5 x7 s0 u = some r) : ev X 172 75 [some (.inr (.inl (some 223))), none, some (.inr (.inr x2)), none, none, some (.inr (.inr x5)), none, some (.inr (.inr x7)), none, none, none, none] [.inl s0] u ([.inl r.1], r.2) := by
  unfold jF172_75 at h
  refine ev_istore (pc := 75) (fe_172 rfl) mx_172 rfl ?_
  refine ev_iload (pc := 77) (fe_172 rfl) rfl ?_
  refine ev_if_ne (pc := 79) (fe_172 rfl) (t := 87) rfl h (fun h => ?_) (fun h => ?_)
  refine ev_lload (pc := 87) (fe_172 rfl) rfl ?_
  refine ev_w [true, true, true, true, true, false, true, false, true, true, true, true] ?_
  exact jK172_89 x2 s0 x7 u (b_s0) hk25 h
  refine ev_lload (pc := 82) (fe_172 rfl) rfl ?_
  refine ev_goto (pc := 84) (fe_172 rfl) (t := 89) rfl ?_
  refine ev_w [true, true, true, true, true, false, true, false, true, true, true, true] ?_
  exact jK172_89 x2 s0 x5 u (b_s0) hk25 h
theorem jK172_74 {X : Nat × (Nat → Int32)} {r : Int32 × fm} {k25 : Int64 → Int32 → fm → Option (Int32 × fm)} (x2 : Int64) (x5 : Int64) (x7 : Int64) (u : fm) (hk25 : ∀ (x2 : Int64) (x4 : Int32) (u : fm), (x4 = 0 ∨ x4 = 1) → k25 x2 x4 u = some r → ev X 172 25 [some (.inr (.inl (some 223))), none, some (.inr (.inr x2)), none, some (.inl x4), none, none, none, none, none, none, none] [] u ([.inl r.1], r.2)) (h : jF172_74 k25 x2 x5 x7 u = some r) : ev X 172 74 [some (.inr (.inl (some 223))), none, some (.inr (.inr x2)), none, none, some (.inr (.inr x5)), none, some (.inr (.inr x7)), none, none, none, none] [] u ([.inl r.1], r.2) := by
  unfold jF172_74 at h
  refine ev_iconst (pc := 74) (fe_172 rfl) li_1 ?_
  exact jK172_75 x2 x5 x7 1 u (Or.inr rfl) hk25 h
theorem jK172_70 {X : Nat × (Nat → Int32)} {r : Int32 × fm} {k25 : Int64 → Int32 → fm → Option (Int32 × fm)} (x2 : Int64) (x5 : Int64) (x7 : Int64) (u : fm) (hk25 : ∀ (x2 : Int64) (x4 : Int32) (u : fm), (x4 = 0 ∨ x4 = 1) → k25 x2 x4 u = some r → ev X 172 25 [some (.inr (.inl (some 223))), none, some (.inr (.inr x2)), none, some (.inl x4), none, none, none, none, none, none, none] [] u ([.inl r.1], r.2)) (h : jF172_70 k25 x2 x5 x7 u = some r) : ev X 172 70 [some (.inr (.inl (some 223))), none, some (.inr (.inr x2)), none, none, some (.inr (.inr x5)), none, some (.inr (.inr x7)), none, none, none, none] [] u ([.inl r.1], r.2) := by
  unfold jF172_70 at h
  refine ev_iconst (pc := 70) (fe_172 rfl) li_0 ?_
  refine ev_goto (pc := 71) (fe_172 rfl) (t := 75) rfl ?_
  exact jK172_75 x2 x5 x7 0 u (Or.inl rfl) hk25 h
theorem jK172_25 {X : Nat × (Nat → Int32)} {r : Int32 × fm} : ∀ (n : Nat) (x2 : Int64) (x4 : Int32) (u : fm) (b_x4 : x4 = 0 ∨ x4 = 1), jF172_25 n x2 x4 u = some r → ev X 172 25 [some (.inr (.inl (some 223))), none, some (.inr (.inr x2)), none, some (.inl x4), none, none, none, none, none, none, none] [] u ([.inl r.1], r.2) := by
  intro n
  induction n with
  | zero =>
    intro _ _ _ _ h
    unfold jF172_25 at h
    cases h
  | succ n ih =>
  intro x2 x4 u b_x4 h
  unfold jF172_25 at h
  refine ev_iload (pc := 25) (fe_172 rfl) rfl ?_
  refine ev_if_eq (pc := 27) (fe_172 rfl) (t := 134) rfl h (fun h => ?_) (fun h => ?_)
  refine ev_aload_n (pc := 134) (fe_172 rfl) rfl ?_
  refine ev_lload_n (pc := 135) (fe_172 rfl) rfl ?_
  refine fm_lt_h h (fun u1 eu1 h => ?_)
  refine ev_putJ (pc := 136) (fe_172 rfl) fr_142 t_223 eu1 ?_
  refine ev_aload_n (pc := 139) (fe_172 rfl) rfl ?_
  refine ev_getJ (pc := 140) (fe_172 rfl) fr_142 t_223 ?_
  refine ev_l2i (pc := 143) (fe_172 rfl) ?_
  exact ev_R (ev_irt (pc := 144) (fe_172 rfl) rt_172) (by rw [← Option.some.inj h])
  refine ev_aload_n (pc := 30) (fe_172 rfl) rfl ?_
  refine ev_iconst (pc := 31) (fe_172 rfl) li_0 ?_
  refine fm_bd h (fun p2 ep2 h => ?_)
  refine ev_callVk (pc := 32) (fe_172 rfl) (z := 170) (na := 2) (ow := 10) cg_172_188 rfl rfl rfl t_223 (m := 4) rfl (jK170 ep2) (st1 := [.inr (.inr p2)]) rfl ?_
  refine ev_lstore (pc := 35) (fe_172 rfl) mx_172 rfl ?_
  refine ev_aload_n (pc := 37) (fe_172 rfl) rfl ?_
  refine ev_iconst (pc := 38) (fe_172 rfl) li_1 ?_
  refine fm_bd h (fun p3 ep3 h => ?_)
  refine ev_callVk (pc := 39) (fe_172 rfl) (z := 170) (na := 2) (ow := 10) cg_172_188 rfl rfl rfl t_223 (m := 4) rfl (jK170 ep3) (st1 := [.inr (.inr p3)]) rfl ?_
  refine ev_lstore (pc := 42) (fe_172 rfl) mx_172 rfl ?_
  refine ev_lload (pc := 44) (fe_172 rfl) rfl ?_
  refine ev_ldc2 (pc := 46) (fe_172 rfl) (c := (-1)) rfl ?_
  refine ev_lcmp (pc := 49) (fe_172 rfl) ?_
  refine ev_if_eq (pc := 50) (fe_172 rfl) (t := 74) rfl (fm_lc_eq.trans h) (fun h => ?_) (fun h => ?_)
  refine ev_w [true, true, true, true, false, true, true, true, true, true, true, true] ?_
  exact jK172_74 x2 p2 p3 u (fun x2' x4' u' b0 h => ih x2' x4' u' b0 h) h
  refine ev_lload (pc := 53) (fe_172 rfl) rfl ?_
  refine ev_ldc2 (pc := 55) (fe_172 rfl) (c := (-1)) rfl ?_
  refine ev_lcmp (pc := 58) (fe_172 rfl) ?_
  refine ev_if_eq (pc := 59) (fe_172 rfl) (t := 70) rfl (fm_lc_eq.trans h) (fun h => ?_) (fun h => ?_)
  refine ev_w [true, true, true, true, false, true, true, true, true, true, true, true] ?_
  exact jK172_70 x2 p2 p3 u (fun x2' x4' u' b0 h => ih x2' x4' u' b0 h) h
  refine ev_lload (pc := 62) (fe_172 rfl) rfl ?_
  refine ev_lload (pc := 64) (fe_172 rfl) rfl ?_
  refine ev_lcmp (pc := 66) (fe_172 rfl) ?_
  refine ev_if_gt (pc := 67) (fe_172 rfl) (t := 74) rfl (fm_lc_gt.trans h) (fun h => ?_) (fun h => ?_)
  refine ev_w [true, true, true, true, false, true, true, true, true, true, true, true] ?_
  exact jK172_74 x2 p2 p3 u (fun x2' x4' u' b0 h => ih x2' x4' u' b0 h) h
  refine ev_w [true, true, true, true, false, true, true, true, true, true, true, true] ?_
  exact jK172_70 x2 p2 p3 u (fun x2' x4' u' b0 h => ih x2' x4' u' b0 h) h
theorem jK172 {X : Nat × (Nat → Int32)} {x1 : Int32} {u : fm} {r : Int32 × fm} (h : jF172 x1 u = some r) : ev X 172 0 [some (.inr (.inl (some 223))), some (.inl x1), none, none, none, none, none, none, none, none, none, none] [] u ([.inl r.1], r.2) := by
  unfold jF172 at h
  refine ev_iload_n (pc := 0) (fe_172 rfl) rfl ?_
  refine ev_iconst (pc := 1) (fe_172 rfl) li_1 ?_
  refine ev_ic_lt (pc := 2) (fe_172 rfl) (t := 12) rfl h (fun h => ?_) (fun h => ?_)
  refine ev_iconst (pc := 12) (fe_172 rfl) li_m1 ?_
  exact ev_R (ev_irt (pc := 13) (fe_172 rfl) rt_172) (by rw [← Option.some.inj h])
  refine ev_iload_n (pc := 5) (fe_172 rfl) rfl ?_
  refine ev_ldcw (pc := 6) (fe_172 rfl) (c := 100000) rfl ?_
  refine ev_ic_le (pc := 9) (fe_172 rfl) (t := 14) rfl h (fun h => ?_) (fun h => ?_)
  refine ev_aload_n (pc := 14) (fe_172 rfl) rfl ?_
  refine ev_getJ (pc := 15) (fe_172 rfl) fr_142 t_223 ?_
  refine ev_iload_n (pc := 18) (fe_172 rfl) rfl ?_
  refine ev_i2l (pc := 19) (fe_172 rfl) ?_
  refine ev_ladd (pc := 20) (fe_172 rfl) ?_
  refine ev_lstore_n (pc := 21) (fe_172 rfl) mx_172 rfl ?_
  refine ev_iconst (pc := 22) (fe_172 rfl) li_1 ?_
  refine ev_istore (pc := 23) (fe_172 rfl) mx_172 rfl ?_
  refine ev_w [true, false, true, true, true, true, true, true, true, true, true, true] ?_
  exact jK172_25 fm_N ((fJ u 223 2) + (Int32.toInt64 x1)) 1 u (Or.inr rfl) h
  refine ev_iconst (pc := 12) (fe_172 rfl) li_m1 ?_
  exact ev_R (ev_irt (pc := 13) (fe_172 rfl) rt_172) (by rw [← Option.some.inj h])
/-- CallAgentsModel told -/
def jF173 (x1 : Int32) (x2 : Int32) (u : fm) : Option (Int32) :=
  if (jF105 x1) = 0 then
  (some (-1))
  else
  (if x2 = 0 then
  (if fm_in x1 2 then some (fA u 225 (Int32.toNatClampNeg x1)) else none)
  else if x2 = 1 then
  (if fm_in x1 2 then some (fA u 226 (Int32.toNatClampNeg x1)) else none)
  else if x2 = 2 then
  (if fm_in x1 2 then some (fA u 227 (Int32.toNatClampNeg x1)) else none)
  else if x2 = 3 then
  (if fm_in x1 2 then some (fA u 228 (Int32.toNatClampNeg x1)) else none)
  else if x2 = 4 then
  (if fm_in x1 2 then some (fA u 229 (Int32.toNatClampNeg x1)) else none)
  else if x2 = 5 then
  (if fm_in x1 2 then some (fA u 230 (Int32.toNatClampNeg x1)) else none)
  else if x2 = 6 then
  (if fm_in x1 2 then some (fA u 246 (Int32.toNatClampNeg x1)) else none)
  else if x2 = 7 then
  (if fm_in x1 2 then some (fA u 234 (Int32.toNatClampNeg x1)) else none)
  else if x2 = 8 then
  (if fm_in x1 2 then some (fA u 235 (Int32.toNatClampNeg x1)) else none)
  else (some (-1)))
theorem jK173 {X : Nat × (Nat → Int32)} {x1 : Int32} {x2 : Int32} {u : fm} {r : Int32} (h : jF173 x1 x2 u = some r) : ev X 173 0 [some (.inr (.inl (some 223))), some (.inl x1), some (.inl x2)] [] u ([.inl r], u) := by
  unfold jF173 at h
  refine ev_iload_n (pc := 0) (fe_173 rfl) rfl ?_
  refine ev_callSZk (pc := 1) (fe_173 rfl) (z := 105) (na := 1) (ow := 10) cg_173_137 rt_105 rfl (m := 0) rfl (jK105 rfl) (st1 := [.inl (jF105 x1)]) rfl (fun z1 => ?_)
  refine ev_if_ne (pc := 4) (fe_173 rfl) (t := 9) rfl h (fun h => ?_) (fun h => ?_)
  refine ev_iload_n (pc := 9) (fe_173 rfl) rfl ?_
  refine fm_sp h (fun w10_0 h => ?_) (fun w10_0 h => ?_)
  refine ev_swk (pc := 10) (fe_173 rfl) (c := 0) (by rw [w10_0]; decide) (by decide) rfl (t := 60) rfl ?_
  refine ev_aload_n (pc := 60) (fe_173 rfl) rfl ?_
  refine ev_getR (a1 := 225) (pc := 61) (fe_173 rfl) fr_111 t_223 rfl ?_
  refine ev_iload_n (pc := 64) (fe_173 rfl) rfl ?_
  refine fm_ob h (fun g2 h => ?_)
  refine ev_iaload (pc := 65) (fe_173 rfl) t_225 g2 ?_
  exact ev_R (ev_irt (pc := 66) (fe_173 rfl) rt_173) (by rw [← Option.some.inj h])
  refine fm_sp h (fun w10_1 h => ?_) (fun w10_1 h => ?_)
  refine ev_swk (pc := 10) (fe_173 rfl) (c := 1) (by rw [w10_1]; decide) (by decide) rfl (t := 67) rfl ?_
  refine ev_aload_n (pc := 67) (fe_173 rfl) rfl ?_
  refine ev_getR (a1 := 226) (pc := 68) (fe_173 rfl) fr_112 t_223 rfl ?_
  refine ev_iload_n (pc := 71) (fe_173 rfl) rfl ?_
  refine fm_ob h (fun g3 h => ?_)
  refine ev_iaload (pc := 72) (fe_173 rfl) t_226 g3 ?_
  exact ev_R (ev_irt (pc := 73) (fe_173 rfl) rt_173) (by rw [← Option.some.inj h])
  refine fm_sp h (fun w10_2 h => ?_) (fun w10_2 h => ?_)
  refine ev_swk (pc := 10) (fe_173 rfl) (c := 2) (by rw [w10_2]; decide) (by decide) rfl (t := 74) rfl ?_
  refine ev_aload_n (pc := 74) (fe_173 rfl) rfl ?_
  refine ev_getR (a1 := 227) (pc := 75) (fe_173 rfl) fr_113 t_223 rfl ?_
  refine ev_iload_n (pc := 78) (fe_173 rfl) rfl ?_
  refine fm_ob h (fun g4 h => ?_)
  refine ev_iaload (pc := 79) (fe_173 rfl) t_227 g4 ?_
  exact ev_R (ev_irt (pc := 80) (fe_173 rfl) rt_173) (by rw [← Option.some.inj h])
  refine fm_sp h (fun w10_3 h => ?_) (fun w10_3 h => ?_)
  refine ev_swk (pc := 10) (fe_173 rfl) (c := 3) (by rw [w10_3]; decide) (by decide) rfl (t := 81) rfl ?_
  refine ev_aload_n (pc := 81) (fe_173 rfl) rfl ?_
  refine ev_getR (a1 := 228) (pc := 82) (fe_173 rfl) fr_114 t_223 rfl ?_
  refine ev_iload_n (pc := 85) (fe_173 rfl) rfl ?_
  refine fm_ob h (fun g5 h => ?_)
  refine ev_iaload (pc := 86) (fe_173 rfl) t_228 g5 ?_
  exact ev_R (ev_irt (pc := 87) (fe_173 rfl) rt_173) (by rw [← Option.some.inj h])
  refine fm_sp h (fun w10_4 h => ?_) (fun w10_4 h => ?_)
  refine ev_swk (pc := 10) (fe_173 rfl) (c := 4) (by rw [w10_4]; decide) (by decide) rfl (t := 88) rfl ?_
  refine ev_aload_n (pc := 88) (fe_173 rfl) rfl ?_
  refine ev_getR (a1 := 229) (pc := 89) (fe_173 rfl) fr_115 t_223 rfl ?_
  refine ev_iload_n (pc := 92) (fe_173 rfl) rfl ?_
  refine fm_ob h (fun g6 h => ?_)
  refine ev_iaload (pc := 93) (fe_173 rfl) t_229 g6 ?_
  exact ev_R (ev_irt (pc := 94) (fe_173 rfl) rt_173) (by rw [← Option.some.inj h])
  refine fm_sp h (fun w10_5 h => ?_) (fun w10_5 h => ?_)
  refine ev_swk (pc := 10) (fe_173 rfl) (c := 5) (by rw [w10_5]; decide) (by decide) rfl (t := 95) rfl ?_
  refine ev_aload_n (pc := 95) (fe_173 rfl) rfl ?_
  refine ev_getR (a1 := 230) (pc := 96) (fe_173 rfl) fr_116 t_223 rfl ?_
  refine ev_iload_n (pc := 99) (fe_173 rfl) rfl ?_
  refine fm_ob h (fun g7 h => ?_)
  refine ev_iaload (pc := 100) (fe_173 rfl) t_230 g7 ?_
  exact ev_R (ev_irt (pc := 101) (fe_173 rfl) rt_173) (by rw [← Option.some.inj h])
  refine fm_sp h (fun w10_6 h => ?_) (fun w10_6 h => ?_)
  refine ev_swk (pc := 10) (fe_173 rfl) (c := 6) (by rw [w10_6]; decide) (by decide) rfl (t := 102) rfl ?_
  refine ev_aload_n (pc := 102) (fe_173 rfl) rfl ?_
  refine ev_getR (a1 := 246) (pc := 103) (fe_173 rfl) fr_132 t_223 rfl ?_
  refine ev_iload_n (pc := 106) (fe_173 rfl) rfl ?_
  refine fm_ob h (fun g8 h => ?_)
  refine ev_iaload (pc := 107) (fe_173 rfl) t_246 g8 ?_
  exact ev_R (ev_irt (pc := 108) (fe_173 rfl) rt_173) (by rw [← Option.some.inj h])
  refine fm_sp h (fun w10_7 h => ?_) (fun w10_7 h => ?_)
  refine ev_swk (pc := 10) (fe_173 rfl) (c := 7) (by rw [w10_7]; decide) (by decide) rfl (t := 109) rfl ?_
  refine ev_aload_n (pc := 109) (fe_173 rfl) rfl ?_
  refine ev_getR (a1 := 234) (pc := 110) (fe_173 rfl) fr_120 t_223 rfl ?_
  refine ev_iload_n (pc := 113) (fe_173 rfl) rfl ?_
  refine fm_ob h (fun g9 h => ?_)
  refine ev_iaload (pc := 114) (fe_173 rfl) t_234 g9 ?_
  exact ev_R (ev_irt (pc := 115) (fe_173 rfl) rt_173) (by rw [← Option.some.inj h])
  refine fm_sp h (fun w10_8 h => ?_) (fun w10_8 h => ?_)
  refine ev_swk (pc := 10) (fe_173 rfl) (c := 8) (by rw [w10_8]; decide) (by decide) rfl (t := 116) rfl ?_
  refine ev_aload_n (pc := 116) (fe_173 rfl) rfl ?_
  refine ev_getR (a1 := 235) (pc := 117) (fe_173 rfl) fr_121 t_223 rfl ?_
  refine ev_iload_n (pc := 120) (fe_173 rfl) rfl ?_
  refine fm_ob h (fun g10 h => ?_)
  refine ev_iaload (pc := 121) (fe_173 rfl) t_235 g10 ?_
  exact ev_R (ev_irt (pc := 122) (fe_173 rfl) rt_173) (by rw [← Option.some.inj h])
  refine ev_swd (pc := 10) (fe_173 rfl) (t := 123) rfl (fm_swx (lo := 0) (n := 9) (List.forall_mem_cons.mpr ⟨w10_0, List.forall_mem_cons.mpr ⟨w10_1, List.forall_mem_cons.mpr ⟨w10_2, List.forall_mem_cons.mpr ⟨w10_3, List.forall_mem_cons.mpr ⟨w10_4, List.forall_mem_cons.mpr ⟨w10_5, List.forall_mem_cons.mpr ⟨w10_6, List.forall_mem_cons.mpr ⟨w10_7, List.forall_mem_cons.mpr ⟨w10_8, fun _ q => nomatch q⟩⟩⟩⟩⟩⟩⟩⟩⟩)) ?_
  refine ev_iconst (pc := 123) (fe_173 rfl) li_m1 ?_
  exact ev_R (ev_irt (pc := 124) (fe_173 rfl) rt_173) (by rw [← Option.some.inj h])
  refine ev_iconst (pc := 7) (fe_173 rfl) li_m1 ?_
  exact ev_R (ev_irt (pc := 8) (fe_173 rfl) rt_173) (by rw [← Option.some.inj h])
/-- CallAgentsModel line -/
def jF174 (x1 : Int32) (x2 : Int32) (x3 : Int32) (u : fm) : Option (Int32) :=
  if (jF105 x1) = 0 then
  (some (-1))
  else
  (if x2 < 0 then
  (some (-1))
  else
  (if fm_in x1 2 then if x2 < (fA u 246 (Int32.toNatClampNeg x1)) then
  (if x3 < 0 then
  (some (-1))
  else
  (if x3 < 2 then
  (if fm_in (((30 * x1) + (10 * x2)) + x3) 60 then some (fA u 247 (Int32.toNatClampNeg (((30 * x1) + (10 * x2)) + x3))) else none)
  else
  (if fm_in (((30 * x1) + (10 * x2)) + 1) 60 then if (x3 - 2) < (fA u 247 (Int32.toNatClampNeg (((30 * x1) + (10 * x2)) + 1))) then
  (if fm_in (((30 * x1) + (10 * x2)) + x3) 60 then some (fA u 247 (Int32.toNatClampNeg (((30 * x1) + (10 * x2)) + x3))) else none)
  else
  (some (-1)) else none)))
  else
  (some (-1)) else none))
theorem jK174 {X : Nat × (Nat → Int32)} {x1 : Int32} {x2 : Int32} {x3 : Int32} {u : fm} {r : Int32} (h : jF174 x1 x2 x3 u = some r) : ev X 174 0 [some (.inr (.inl (some 223))), some (.inl x1), some (.inl x2), some (.inl x3), none] [] u ([.inl r], u) := by
  unfold jF174 at h
  refine ev_iload_n (pc := 0) (fe_174 rfl) rfl ?_
  refine ev_callSZk (pc := 1) (fe_174 rfl) (z := 105) (na := 1) (ow := 10) cg_174_137 rt_105 rfl (m := 0) rfl (jK105 rfl) (st1 := [.inl (jF105 x1)]) rfl (fun z1 => ?_)
  refine ev_if_eq (pc := 4) (fe_174 rfl) (t := 25) rfl h (fun h => ?_) (fun h => ?_)
  refine ev_iconst (pc := 25) (fe_174 rfl) li_m1 ?_
  exact ev_R (ev_irt (pc := 26) (fe_174 rfl) rt_174) (by rw [← Option.some.inj h])
  refine ev_iload_n (pc := 7) (fe_174 rfl) rfl ?_
  refine ev_if_lt (pc := 8) (fe_174 rfl) (t := 25) rfl h (fun h => ?_) (fun h => ?_)
  refine ev_iconst (pc := 25) (fe_174 rfl) li_m1 ?_
  exact ev_R (ev_irt (pc := 26) (fe_174 rfl) rt_174) (by rw [← Option.some.inj h])
  refine ev_iload_n (pc := 11) (fe_174 rfl) rfl ?_
  refine ev_aload_n (pc := 12) (fe_174 rfl) rfl ?_
  refine ev_getR (a1 := 246) (pc := 13) (fe_174 rfl) fr_132 t_223 rfl ?_
  refine ev_iload_n (pc := 16) (fe_174 rfl) rfl ?_
  refine fm_ob h (fun g2 h => ?_)
  refine ev_iaload (pc := 17) (fe_174 rfl) t_246 g2 ?_
  refine ev_ic_ge (pc := 18) (fe_174 rfl) (t := 25) rfl h (fun h => ?_) (fun h => ?_)
  refine ev_iconst (pc := 25) (fe_174 rfl) li_m1 ?_
  exact ev_R (ev_irt (pc := 26) (fe_174 rfl) rt_174) (by rw [← Option.some.inj h])
  refine ev_iload_n (pc := 21) (fe_174 rfl) rfl ?_
  refine ev_if_ge (pc := 22) (fe_174 rfl) (t := 27) rfl h (fun h => ?_) (fun h => ?_)
  refine ev_bipush (pc := 27) (fe_174 rfl) lb_30 ?_
  refine ev_iload_n (pc := 29) (fe_174 rfl) rfl ?_
  refine ev_imul (pc := 30) (fe_174 rfl) ?_
  refine ev_bipush (pc := 31) (fe_174 rfl) lb_10 ?_
  refine ev_iload_n (pc := 33) (fe_174 rfl) rfl ?_
  refine ev_imul (pc := 34) (fe_174 rfl) ?_
  refine ev_iadd (pc := 35) (fe_174 rfl) ?_
  refine ev_istore (pc := 36) (fe_174 rfl) mx_174 rfl ?_
  refine ev_iload_n (pc := 38) (fe_174 rfl) rfl ?_
  refine ev_iconst (pc := 39) (fe_174 rfl) li_2 ?_
  refine ev_ic_ge (pc := 40) (fe_174 rfl) (t := 53) rfl h (fun h => ?_) (fun h => ?_)
  refine ev_iload_n (pc := 53) (fe_174 rfl) rfl ?_
  refine ev_iconst (pc := 54) (fe_174 rfl) li_2 ?_
  refine ev_isub (pc := 55) (fe_174 rfl) ?_
  refine ev_aload_n (pc := 56) (fe_174 rfl) rfl ?_
  refine ev_getR (a1 := 247) (pc := 57) (fe_174 rfl) fr_133 t_223 rfl ?_
  refine ev_iload (pc := 60) (fe_174 rfl) rfl ?_
  refine ev_iconst (pc := 62) (fe_174 rfl) li_1 ?_
  refine ev_iadd (pc := 63) (fe_174 rfl) ?_
  refine fm_ob h (fun g3 h => ?_)
  refine ev_iaload (pc := 64) (fe_174 rfl) t_247 g3 ?_
  refine ev_ic_ge (pc := 65) (fe_174 rfl) (t := 80) rfl h (fun h => ?_) (fun h => ?_)
  refine ev_iconst (pc := 80) (fe_174 rfl) li_m1 ?_
  exact ev_R (ev_irt (pc := 81) (fe_174 rfl) rt_174) (by rw [← Option.some.inj h])
  refine ev_aload_n (pc := 68) (fe_174 rfl) rfl ?_
  refine ev_getR (a1 := 247) (pc := 69) (fe_174 rfl) fr_133 t_223 rfl ?_
  refine ev_iload (pc := 72) (fe_174 rfl) rfl ?_
  refine ev_iload_n (pc := 74) (fe_174 rfl) rfl ?_
  refine ev_iadd (pc := 75) (fe_174 rfl) ?_
  refine fm_ob h (fun g4 h => ?_)
  refine ev_iaload (pc := 76) (fe_174 rfl) t_247 g4 ?_
  refine ev_goto (pc := 77) (fe_174 rfl) (t := 81) rfl ?_
  exact ev_R (ev_irt (pc := 81) (fe_174 rfl) rt_174) (by rw [← Option.some.inj h])
  refine ev_aload_n (pc := 43) (fe_174 rfl) rfl ?_
  refine ev_getR (a1 := 247) (pc := 44) (fe_174 rfl) fr_133 t_223 rfl ?_
  refine ev_iload (pc := 47) (fe_174 rfl) rfl ?_
  refine ev_iload_n (pc := 49) (fe_174 rfl) rfl ?_
  refine ev_iadd (pc := 50) (fe_174 rfl) ?_
  refine fm_ob h (fun g5 h => ?_)
  refine ev_iaload (pc := 51) (fe_174 rfl) t_247 g5 ?_
  exact ev_R (ev_irt (pc := 52) (fe_174 rfl) rt_174) (by rw [← Option.some.inj h])
  refine ev_iconst (pc := 25) (fe_174 rfl) li_m1 ?_
  exact ev_R (ev_irt (pc := 26) (fe_174 rfl) rt_174) (by rw [← Option.some.inj h])
