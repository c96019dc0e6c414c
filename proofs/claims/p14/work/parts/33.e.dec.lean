set_option maxRecDepth 8000
/-- CallAgentsModel refuse -/
def jF121 (x1 : Int32) (u : fm) : Option (Int32 × fm) :=
  if (jF105 x1) = 0 then
  (some (0, u))
  else
  (if fm_in x1 2 then if (fA u 225 (Int32.toNatClampNeg x1)) = 5 then
  (Option.bind (jF114 x1 5 243 (50 * x1) (fA u 226 (Int32.toNatClampNeg x1)) u) (fun p3 => fm_let (sA p3 225 (Int32.toNatClampNeg x1) 7) (fun u4 => Option.bind (jF108 x1 u4) (fun p5 => Option.bind (jF109 252 0 p5) (fun p6 => some (1, p6))))))
  else
  (some (0, u)) else none)
theorem jK121 {X : Nat × (Nat → Int32)} {x1 : Int32} {u : fm} {r : Int32 × fm} (h : jF121 x1 u = some r) : ev X 121 0 [some (.inr (.inl (some 223))), some (.inl x1)] [] u ([.inl r.1], r.2) := by
  unfold jF121 at h
  refine ev_iload_n (pc := 0) (fe_121 rfl) rfl ?_
  refine ev_callSZk (pc := 1) (fe_121 rfl) (z := 105) (na := 1) (ow := 10) cg_121_137 rt_105 rfl (m := 0) rfl (jK105 rfl) (st1 := [.inl (jF105 x1)]) rfl (fun z1 => ?_)
  refine ev_if_eq (pc := 4) (fe_121 rfl) (t := 17) rfl h (fun h => ?_) (fun h => ?_)
  refine ev_iconst (pc := 17) (fe_121 rfl) li_0 ?_
  exact ev_R (ev_zrt (pc := 18) (fe_121 rfl) rt_121 (Or.inl rfl)) (by rw [← Option.some.inj h])
  refine ev_aload_n (pc := 7) (fe_121 rfl) rfl ?_
  refine ev_getR (a1 := 225) (pc := 8) (fe_121 rfl) fr_111 t_223 rfl ?_
  refine ev_iload_n (pc := 11) (fe_121 rfl) rfl ?_
  refine fm_ob h (fun g2 h => ?_)
  refine ev_iaload (pc := 12) (fe_121 rfl) t_225 g2 ?_
  refine ev_iconst (pc := 13) (fe_121 rfl) li_5 ?_
  refine ev_ic_eq (pc := 14) (fe_121 rfl) (t := 19) rfl h (fun h => ?_) (fun h => ?_)
  refine ev_aload_n (pc := 19) (fe_121 rfl) rfl ?_
  refine ev_iload_n (pc := 20) (fe_121 rfl) rfl ?_
  refine ev_iconst (pc := 21) (fe_121 rfl) li_5 ?_
  refine ev_aload_n (pc := 22) (fe_121 rfl) rfl ?_
  refine ev_getR (a1 := 243) (pc := 23) (fe_121 rfl) fr_129 t_223 rfl ?_
  refine ev_bipush (pc := 26) (fe_121 rfl) lb_50 ?_
  refine ev_iload_n (pc := 28) (fe_121 rfl) rfl ?_
  refine ev_imul (pc := 29) (fe_121 rfl) ?_
  refine ev_aload_n (pc := 30) (fe_121 rfl) rfl ?_
  refine ev_getR (a1 := 226) (pc := 31) (fe_121 rfl) fr_112 t_223 rfl ?_
  refine ev_iload_n (pc := 34) (fe_121 rfl) rfl ?_
  refine ev_iaload (pc := 35) (fe_121 rfl) t_226 g2 ?_
  refine fm_bd h (fun p3 ep3 h => ?_)
  refine ev_callVk (pc := 36) (fe_121 rfl) (z := 114) (na := 6) (ow := 10) cg_121_144 rfl rfl rfl t_223 (m := 1) rfl (jK114 t_243 ep3) (st1 := []) rfl ?_
  refine ev_aload_n (pc := 39) (fe_121 rfl) rfl ?_
  refine ev_getR (a1 := 225) (pc := 40) (fe_121 rfl) fr_111 t_223 rfl ?_
  refine ev_iload_n (pc := 43) (fe_121 rfl) rfl ?_
  refine ev_bipush (pc := 44) (fe_121 rfl) lb_7 ?_
  refine fm_lt_h h (fun u4 eu4 h => ?_)
  refine ev_iastore (pc := 46) (fe_121 rfl) t_225 g2 eu4 ?_
  refine ev_aload_n (pc := 47) (fe_121 rfl) rfl ?_
  refine ev_iload_n (pc := 48) (fe_121 rfl) rfl ?_
  refine fm_bd h (fun p5 ep5 h => ?_)
  refine ev_callVk (pc := 49) (fe_121 rfl) (z := 108) (na := 2) (ow := 10) cg_121_142 rfl rfl rfl t_223 (m := 1) rfl (jK108 ep5) (st1 := []) rfl ?_
  refine ev_aload_n (pc := 52) (fe_121 rfl) rfl ?_
  refine ev_aload_n (pc := 53) (fe_121 rfl) rfl ?_
  refine ev_getR (a1 := 252) (pc := 54) (fe_121 rfl) fr_138 t_223 rfl ?_
  refine ev_iconst (pc := 57) (fe_121 rfl) li_0 ?_
  refine fm_bd h (fun p6 ep6 h => ?_)
  refine ev_callVk (pc := 58) (fe_121 rfl) (z := 109) (na := 3) (ow := 10) cg_121_143 rfl rfl rfl t_223 (m := 1) rfl (jK109 t_252 ep6) (st1 := []) rfl ?_
  refine ev_iconst (pc := 61) (fe_121 rfl) li_1 ?_
  exact ev_R (ev_zrt (pc := 62) (fe_121 rfl) rt_121 (Or.inr rfl)) (by rw [← Option.some.inj h])
  refine ev_iconst (pc := 17) (fe_121 rfl) li_0 ?_
  exact ev_R (ev_zrt (pc := 18) (fe_121 rfl) rt_121 (Or.inl rfl)) (by rw [← Option.some.inj h])
/-- CallAgentsModel hang -/
def jF122 (x1 : Int32) (u : fm) : Option (Int32 × fm) :=
  if (jF105 x1) = 0 then
  (some (0, u))
  else
  (if fm_in x1 2 then if (fA u 225 (Int32.toNatClampNeg x1)) = 3 then
  (fm_let (sA u 229 (Int32.toNatClampNeg x1) ((fA u 229 (Int32.toNatClampNeg x1)) + 1)) (fun u3 => Option.bind (jF112 x1 u3) (fun p4 => Option.bind (jF111 x1 2 p4.1 (fA p4.2 227 (Int32.toNatClampNeg x1)) (fA p4.2 229 (Int32.toNatClampNeg x1)) p4.2) (fun p5 => fm_let (sA p5 225 (Int32.toNatClampNeg x1) 8) (fun u6 => Option.bind (jF108 x1 u6) (fun p7 => Option.bind (jF109 252 0 p7) (fun p8 => some (1, p8))))))))
  else
  (some (0, u)) else none)
theorem jK122 {X : Nat × (Nat → Int32)} {x1 : Int32} {u : fm} {r : Int32 × fm} (h : jF122 x1 u = some r) : ev X 122 0 [some (.inr (.inl (some 223))), some (.inl x1)] [] u ([.inl r.1], r.2) := by
  unfold jF122 at h
  refine ev_iload_n (pc := 0) (fe_122 rfl) rfl ?_
  refine ev_callSZk (pc := 1) (fe_122 rfl) (z := 105) (na := 1) (ow := 10) cg_122_137 rt_105 rfl (m := 0) rfl (jK105 rfl) (st1 := [.inl (jF105 x1)]) rfl (fun z1 => ?_)
  refine ev_if_eq (pc := 4) (fe_122 rfl) (t := 17) rfl h (fun h => ?_) (fun h => ?_)
  refine ev_iconst (pc := 17) (fe_122 rfl) li_0 ?_
  exact ev_R (ev_zrt (pc := 18) (fe_122 rfl) rt_122 (Or.inl rfl)) (by rw [← Option.some.inj h])
  refine ev_aload_n (pc := 7) (fe_122 rfl) rfl ?_
  refine ev_getR (a1 := 225) (pc := 8) (fe_122 rfl) fr_111 t_223 rfl ?_
  refine ev_iload_n (pc := 11) (fe_122 rfl) rfl ?_
  refine fm_ob h (fun g2 h => ?_)
  refine ev_iaload (pc := 12) (fe_122 rfl) t_225 g2 ?_
  refine ev_iconst (pc := 13) (fe_122 rfl) li_3 ?_
  refine ev_ic_eq (pc := 14) (fe_122 rfl) (t := 19) rfl h (fun h => ?_) (fun h => ?_)
  refine ev_aload_n (pc := 19) (fe_122 rfl) rfl ?_
  refine ev_getR (a1 := 229) (pc := 20) (fe_122 rfl) fr_115 t_223 rfl ?_
  refine ev_iload_n (pc := 23) (fe_122 rfl) rfl ?_
  refine ev_dup2 (pc := 24) (fe_122 rfl) rfl rfl ?_
  refine ev_iaload (pc := 25) (fe_122 rfl) t_229 g2 ?_
  refine ev_iconst (pc := 26) (fe_122 rfl) li_1 ?_
  refine ev_iadd (pc := 27) (fe_122 rfl) ?_
  refine fm_lt_h h (fun u3 eu3 h => ?_)
  refine ev_iastore (pc := 28) (fe_122 rfl) t_229 g2 eu3 ?_
  refine ev_aload_n (pc := 29) (fe_122 rfl) rfl ?_
  refine ev_iload_n (pc := 30) (fe_122 rfl) rfl ?_
  refine ev_iconst (pc := 31) (fe_122 rfl) li_2 ?_
  refine ev_aload_n (pc := 32) (fe_122 rfl) rfl ?_
  refine ev_iload_n (pc := 33) (fe_122 rfl) rfl ?_
  refine fm_bd h (fun p4 ep4 h => ?_)
  refine ev_callVk (pc := 34) (fe_122 rfl) (z := 112) (na := 2) (ow := 10) cg_122_140 rfl rfl rfl t_223 (m := 0) rfl (jK112 ep4) (st1 := [.inl p4.1, .inl 2, .inl x1, .inr (.inl (some 223))]) rfl ?_
  refine ev_aload_n (pc := 37) (fe_122 rfl) rfl ?_
  refine ev_getR (a1 := 227) (pc := 38) (fe_122 rfl) fr_113 t_223 rfl ?_
  refine ev_iload_n (pc := 41) (fe_122 rfl) rfl ?_
  refine ev_iaload (pc := 42) (fe_122 rfl) t_227 g2 ?_
  refine ev_aload_n (pc := 43) (fe_122 rfl) rfl ?_
  refine ev_getR (a1 := 229) (pc := 44) (fe_122 rfl) fr_115 t_223 rfl ?_
  refine ev_iload_n (pc := 47) (fe_122 rfl) rfl ?_
  refine ev_iaload (pc := 48) (fe_122 rfl) t_229 g2 ?_
  refine fm_bd h (fun p5 ep5 h => ?_)
  refine ev_callVk (pc := 49) (fe_122 rfl) (z := 111) (na := 6) (ow := 10) cg_122_141 rfl rfl rfl t_223 (m := 1) rfl (jK111 ep5) (st1 := []) rfl ?_
  refine ev_aload_n (pc := 52) (fe_122 rfl) rfl ?_
  refine ev_getR (a1 := 225) (pc := 53) (fe_122 rfl) fr_111 t_223 rfl ?_
  refine ev_iload_n (pc := 56) (fe_122 rfl) rfl ?_
  refine ev_bipush (pc := 57) (fe_122 rfl) lb_8 ?_
  refine fm_lt_h h (fun u6 eu6 h => ?_)
  refine ev_iastore (pc := 59) (fe_122 rfl) t_225 g2 eu6 ?_
  refine ev_aload_n (pc := 60) (fe_122 rfl) rfl ?_
  refine ev_iload_n (pc := 61) (fe_122 rfl) rfl ?_
  refine fm_bd h (fun p7 ep7 h => ?_)
  refine ev_callVk (pc := 62) (fe_122 rfl) (z := 108) (na := 2) (ow := 10) cg_122_142 rfl rfl rfl t_223 (m := 1) rfl (jK108 ep7) (st1 := []) rfl ?_
  refine ev_aload_n (pc := 65) (fe_122 rfl) rfl ?_
  refine ev_aload_n (pc := 66) (fe_122 rfl) rfl ?_
  refine ev_getR (a1 := 252) (pc := 67) (fe_122 rfl) fr_138 t_223 rfl ?_
  refine ev_iconst (pc := 70) (fe_122 rfl) li_0 ?_
  refine fm_bd h (fun p8 ep8 h => ?_)
  refine ev_callVk (pc := 71) (fe_122 rfl) (z := 109) (na := 3) (ow := 10) cg_122_143 rfl rfl rfl t_223 (m := 1) rfl (jK109 t_252 ep8) (st1 := []) rfl ?_
  refine ev_iconst (pc := 74) (fe_122 rfl) li_1 ?_
  exact ev_R (ev_zrt (pc := 75) (fe_122 rfl) rt_122 (Or.inr rfl)) (by rw [← Option.some.inj h])
  refine ev_iconst (pc := 17) (fe_122 rfl) li_0 ?_
  exact ev_R (ev_zrt (pc := 18) (fe_122 rfl) rt_122 (Or.inl rfl)) (by rw [← Option.some.inj h])
/-- CallAgentsModel comeInvite -/
def jF125_234 (x1 : Int32) (u : fm) : Option (Int32 × fm) :=
  Option.bind (jF113 x1 u) (fun p5 => Option.bind (jF114 x1 5 251 0 p5.1 p5.2) (fun p6 => Option.bind (jF109 252 0 p6) (fun p7 => some (1, p7))))
def jF125_198 (x1 : Int32) (x2 : Int32) (s0 : Int32) (u : fm) : Option (Int32 × fm) :=
  if s0 = 0 then
  (jF125_234 x1 u)
  else
  (if x2 = 5 then
  (Option.bind (jF109 244 (50 * x1) u) (fun p8 => some (1, p8)))
  else
  (if x2 = 6 then
  (Option.bind (jF109 244 (50 * x1) u) (fun p9 => some (1, p9)))
  else
  (if x2 = 7 then
  (Option.bind (jF109 244 (50 * x1) u) (fun p10 => some (1, p10)))
  else
  (jF125_234 x1 u))))
def jF125_197 (x1 : Int32) (x2 : Int32) (u : fm) : Option (Int32 × fm) :=
  jF125_198 x1 x2 0 u
def jF125_88 : Nat → Int32 → Int32 → fm → Option (Int32 × fm)
  | 0, _, _, _ => none
  | n + 1, x1, x3, u =>
  if x3 < 50 then
  (if fm_in x3 50 then if fm_in ((50 * x1) + x3) 100 then fm_let (sA u 243 (Int32.toNatClampNeg ((50 * x1) + x3)) (fA u 251 (Int32.toNatClampNeg x3))) (fun u25 => jF125_88 n x1 (x3 + 1) u25) else none else none)
  else
  (if fm_in x1 2 then Option.bind (jF114 x1 3 251 0 (fA u 226 (Int32.toNatClampNeg x1)) u) (fun p19 => Option.bind (jF119 x1 p19) (fun p20 => fm_let (sA p20 225 (Int32.toNatClampNeg x1) 5) (fun u21 => Option.bind (jF109 252 0 u21) (fun p22 => some (1, p22))))) else none)
def jF125 (x1 : Int32) (u : fm) : Option (Int32 × fm) :=
  if fm_in x1 2 then if (fA u 251 8) = (-1) then
  (Option.bind (jF106 x1 u) (fun p2 => if p2 = 0 then
  (if fm_in ((50 * x1) + 4) 100 then if (fA u 251 4) = (fA u 243 (Int32.toNatClampNeg ((50 * x1) + 4))) then
  (if (fA u 251 9) = (fA u 228 (Int32.toNatClampNeg x1)) then
  (jF125_198 x1 (fA u 225 (Int32.toNatClampNeg x1)) 1 u)
  else
  (jF125_197 x1 (fA u 225 (Int32.toNatClampNeg x1)) u))
  else
  (jF125_197 x1 (fA u 225 (Int32.toNatClampNeg x1)) u) else none)
  else
  (fm_let (sA u 246 (Int32.toNatClampNeg x1) 0) (fun u11 => fm_let (sA u11 228 (Int32.toNatClampNeg x1) (fA u11 251 9)) (fun u12 => fm_let (sA u12 227 (Int32.toNatClampNeg x1) (fA u12 251 6)) (fun u13 => Option.bind (jF113 x1 u13) (fun p14 => fm_let (sA p14.2 226 (Int32.toNatClampNeg x1) p14.1) (fun u15 => fm_let (sA u15 239 (Int32.toNatClampNeg x1) 0) (fun u16 => fm_let (sA u16 242 (Int32.toNatClampNeg x1) 0) (fun u17 => jF125_88 fm_N x1 0 u17))))))))))
  else
  (some (0, u)) else none
theorem jK125_234 {X : Nat × (Nat → Int32)} {r : Int32 × fm} (x1 : Int32) (u : fm) (h : jF125_234 x1 u = some r) : ev X 125 234 [some (.inr (.inl (some 223))), some (.inl x1), none, none] [] u ([.inl r.1], r.2) := by
  unfold jF125_234 at h
  refine ev_aload_n (pc := 234) (fe_125 rfl) rfl ?_
  refine ev_iload_n (pc := 235) (fe_125 rfl) rfl ?_
  refine ev_iconst (pc := 236) (fe_125 rfl) li_5 ?_
  refine ev_aload_n (pc := 237) (fe_125 rfl) rfl ?_
  refine ev_getR (a1 := 251) (pc := 238) (fe_125 rfl) fr_137 t_223 rfl ?_
  refine ev_iconst (pc := 241) (fe_125 rfl) li_0 ?_
  refine ev_aload_n (pc := 242) (fe_125 rfl) rfl ?_
  refine ev_iload_n (pc := 243) (fe_125 rfl) rfl ?_
  refine fm_bd h (fun p5 ep5 h => ?_)
  refine ev_callVk (pc := 244) (fe_125 rfl) (z := 113) (na := 2) (ow := 10) cg_125_139 rfl rfl rfl t_223 (m := 0) rfl (jK113 ep5) (st1 := [.inl p5.1, .inl 0, .inr (.inl (some 251)), .inl 5, .inl x1, .inr (.inl (some 223))]) rfl ?_
  refine fm_bd h (fun p6 ep6 h => ?_)
  refine ev_callVk (pc := 247) (fe_125 rfl) (z := 114) (na := 6) (ow := 10) cg_125_144 rfl rfl rfl t_223 (m := 1) rfl (jK114 t_251 ep6) (st1 := []) rfl ?_
  refine ev_aload_n (pc := 250) (fe_125 rfl) rfl ?_
  refine ev_aload_n (pc := 251) (fe_125 rfl) rfl ?_
  refine ev_getR (a1 := 252) (pc := 252) (fe_125 rfl) fr_138 t_223 rfl ?_
  refine ev_iconst (pc := 255) (fe_125 rfl) li_0 ?_
  refine fm_bd h (fun p7 ep7 h => ?_)
  refine ev_callVk (pc := 256) (fe_125 rfl) (z := 109) (na := 3) (ow := 10) cg_125_143 rfl rfl rfl t_223 (m := 1) rfl (jK109 t_252 ep7) (st1 := []) rfl ?_
  refine ev_iconst (pc := 259) (fe_125 rfl) li_1 ?_
  exact ev_R (ev_zrt (pc := 260) (fe_125 rfl) rt_125 (Or.inr rfl)) (by rw [← Option.some.inj h])
theorem jK125_198 {X : Nat × (Nat → Int32)} {r : Int32 × fm} (x1 : Int32) (x2 : Int32) (s0 : Int32) (u : fm) (b_s0 : s0 = 0 ∨ s0 = 1) (h : jF125_198 x1 x2 s0 u = some r) : ev X 125 198 [some (.inr (.inl (some 223))), some (.inl x1), some (.inl x2), none] [.inl s0] u ([.inl r.1], r.2) := by
  unfold jF125_198 at h
  refine ev_istore_n (pc := 198) (fe_125 rfl) mx_125 rfl ?_
  refine ev_iload_n (pc := 199) (fe_125 rfl) rfl ?_
  refine ev_if_eq (pc := 200) (fe_125 rfl) (t := 234) rfl h (fun h => ?_) (fun h => ?_)
  refine ev_w [true, true, false, false] ?_
  exact jK125_234 x1 u h
  refine ev_iload_n (pc := 203) (fe_125 rfl) rfl ?_
  refine ev_iconst (pc := 204) (fe_125 rfl) li_5 ?_
  refine ev_ic_eq (pc := 205) (fe_125 rfl) (t := 220) rfl h (fun h => ?_) (fun h => ?_)
  refine ev_aload_n (pc := 220) (fe_125 rfl) rfl ?_
  refine ev_aload_n (pc := 221) (fe_125 rfl) rfl ?_
  refine ev_getR (a1 := 244) (pc := 222) (fe_125 rfl) fr_130 t_223 rfl ?_
  refine ev_bipush (pc := 225) (fe_125 rfl) lb_50 ?_
  refine ev_iload_n (pc := 227) (fe_125 rfl) rfl ?_
  refine ev_imul (pc := 228) (fe_125 rfl) ?_
  refine fm_bd h (fun p8 ep8 h => ?_)
  refine ev_callVk (pc := 229) (fe_125 rfl) (z := 109) (na := 3) (ow := 10) cg_125_143 rfl rfl rfl t_223 (m := 1) rfl (jK109 t_244 ep8) (st1 := []) rfl ?_
  refine ev_iconst (pc := 232) (fe_125 rfl) li_1 ?_
  exact ev_R (ev_zrt (pc := 233) (fe_125 rfl) rt_125 (Or.inr rfl)) (by rw [← Option.some.inj h])
  refine ev_iload_n (pc := 208) (fe_125 rfl) rfl ?_
  refine ev_bipush (pc := 209) (fe_125 rfl) lb_6 ?_
  refine ev_ic_eq (pc := 211) (fe_125 rfl) (t := 220) rfl h (fun h => ?_) (fun h => ?_)
  refine ev_aload_n (pc := 220) (fe_125 rfl) rfl ?_
  refine ev_aload_n (pc := 221) (fe_125 rfl) rfl ?_
  refine ev_getR (a1 := 244) (pc := 222) (fe_125 rfl) fr_130 t_223 rfl ?_
  refine ev_bipush (pc := 225) (fe_125 rfl) lb_50 ?_
  refine ev_iload_n (pc := 227) (fe_125 rfl) rfl ?_
  refine ev_imul (pc := 228) (fe_125 rfl) ?_
  refine fm_bd h (fun p9 ep9 h => ?_)
  refine ev_callVk (pc := 229) (fe_125 rfl) (z := 109) (na := 3) (ow := 10) cg_125_143 rfl rfl rfl t_223 (m := 1) rfl (jK109 t_244 ep9) (st1 := []) rfl ?_
  refine ev_iconst (pc := 232) (fe_125 rfl) li_1 ?_
  exact ev_R (ev_zrt (pc := 233) (fe_125 rfl) rt_125 (Or.inr rfl)) (by rw [← Option.some.inj h])
  refine ev_iload_n (pc := 214) (fe_125 rfl) rfl ?_
  refine ev_bipush (pc := 215) (fe_125 rfl) lb_7 ?_
  refine ev_ic_ne (pc := 217) (fe_125 rfl) (t := 234) rfl h (fun h => ?_) (fun h => ?_)
  refine ev_w [true, true, false, false] ?_
  exact jK125_234 x1 u h
  refine ev_aload_n (pc := 220) (fe_125 rfl) rfl ?_
  refine ev_aload_n (pc := 221) (fe_125 rfl) rfl ?_
  refine ev_getR (a1 := 244) (pc := 222) (fe_125 rfl) fr_130 t_223 rfl ?_
  refine ev_bipush (pc := 225) (fe_125 rfl) lb_50 ?_
  refine ev_iload_n (pc := 227) (fe_125 rfl) rfl ?_
  refine ev_imul (pc := 228) (fe_125 rfl) ?_
  refine fm_bd h (fun p10 ep10 h => ?_)
  refine ev_callVk (pc := 229) (fe_125 rfl) (z := 109) (na := 3) (ow := 10) cg_125_143 rfl rfl rfl t_223 (m := 1) rfl (jK109 t_244 ep10) (st1 := []) rfl ?_
  refine ev_iconst (pc := 232) (fe_125 rfl) li_1 ?_
  exact ev_R (ev_zrt (pc := 233) (fe_125 rfl) rt_125 (Or.inr rfl)) (by rw [← Option.some.inj h])
theorem jK125_197 {X : Nat × (Nat → Int32)} {r : Int32 × fm} (x1 : Int32) (x2 : Int32) (u : fm) (h : jF125_197 x1 x2 u = some r) : ev X 125 197 [some (.inr (.inl (some 223))), some (.inl x1), some (.inl x2), none] [] u ([.inl r.1], r.2) := by
  unfold jF125_197 at h
  refine ev_iconst (pc := 197) (fe_125 rfl) li_0 ?_
  exact jK125_198 x1 x2 0 u (Or.inl rfl) h
theorem jK125_88 {X : Nat × (Nat → Int32)} {r : Int32 × fm} : ∀ (n : Nat) (x1 : Int32) (x3 : Int32) (u : fm), jF125_88 n x1 x3 u = some r → ev X 125 88 [some (.inr (.inl (some 223))), some (.inl x1), none, some (.inl x3)] [] u ([.inl r.1], r.2) := by
  intro n
  induction n with
  | zero =>
    intro _ _ _ h
    unfold jF125_88 at h
    cases h
  | succ n ih =>
  intro x1 x3 u h
  unfold jF125_88 at h
  refine ev_iload_n (pc := 88) (fe_125 rfl) rfl ?_
  refine ev_bipush (pc := 89) (fe_125 rfl) lb_50 ?_
  refine ev_ic_ge (pc := 91) (fe_125 rfl) (t := 117) rfl h (fun h => ?_) (fun h => ?_)
  refine ev_aload_n (pc := 117) (fe_125 rfl) rfl ?_
  refine ev_iload_n (pc := 118) (fe_125 rfl) rfl ?_
  refine ev_iconst (pc := 119) (fe_125 rfl) li_3 ?_
  refine ev_aload_n (pc := 120) (fe_125 rfl) rfl ?_
  refine ev_getR (a1 := 251) (pc := 121) (fe_125 rfl) fr_137 t_223 rfl ?_
  refine ev_iconst (pc := 124) (fe_125 rfl) li_0 ?_
  refine ev_aload_n (pc := 125) (fe_125 rfl) rfl ?_
  refine ev_getR (a1 := 226) (pc := 126) (fe_125 rfl) fr_112 t_223 rfl ?_
  refine ev_iload_n (pc := 129) (fe_125 rfl) rfl ?_
  refine fm_ob h (fun g18 h => ?_)
  refine ev_iaload (pc := 130) (fe_125 rfl) t_226 g18 ?_
  refine fm_bd h (fun p19 ep19 h => ?_)
  refine ev_callVk (pc := 131) (fe_125 rfl) (z := 114) (na := 6) (ow := 10) cg_125_144 rfl rfl rfl t_223 (m := 1) rfl (jK114 t_251 ep19) (st1 := []) rfl ?_
  refine ev_aload_n (pc := 134) (fe_125 rfl) rfl ?_
  refine ev_iload_n (pc := 135) (fe_125 rfl) rfl ?_
  refine fm_bd h (fun p20 ep20 h => ?_)
  refine ev_callVk (pc := 136) (fe_125 rfl) (z := 119) (na := 2) (ow := 10) cg_125_150 rfl rfl rfl t_223 (m := 1) rfl (jK119 ep20) (st1 := []) rfl ?_
  refine ev_aload_n (pc := 139) (fe_125 rfl) rfl ?_
  refine ev_getR (a1 := 225) (pc := 140) (fe_125 rfl) fr_111 t_223 rfl ?_
  refine ev_iload_n (pc := 143) (fe_125 rfl) rfl ?_
  refine ev_iconst (pc := 144) (fe_125 rfl) li_5 ?_
  refine fm_lt_h h (fun u21 eu21 h => ?_)
  refine ev_iastore (pc := 145) (fe_125 rfl) t_225 g18 eu21 ?_
  refine ev_aload_n (pc := 146) (fe_125 rfl) rfl ?_
  refine ev_aload_n (pc := 147) (fe_125 rfl) rfl ?_
  refine ev_getR (a1 := 252) (pc := 148) (fe_125 rfl) fr_138 t_223 rfl ?_
  refine ev_iconst (pc := 151) (fe_125 rfl) li_0 ?_
  refine fm_bd h (fun p22 ep22 h => ?_)
  refine ev_callVk (pc := 152) (fe_125 rfl) (z := 109) (na := 3) (ow := 10) cg_125_143 rfl rfl rfl t_223 (m := 1) rfl (jK109 t_252 ep22) (st1 := []) rfl ?_
  refine ev_iconst (pc := 155) (fe_125 rfl) li_1 ?_
  exact ev_R (ev_zrt (pc := 156) (fe_125 rfl) rt_125 (Or.inr rfl)) (by rw [← Option.some.inj h])
  refine ev_aload_n (pc := 94) (fe_125 rfl) rfl ?_
  refine ev_getR (a1 := 243) (pc := 95) (fe_125 rfl) fr_129 t_223 rfl ?_
  refine ev_bipush (pc := 98) (fe_125 rfl) lb_50 ?_
  refine ev_iload_n (pc := 100) (fe_125 rfl) rfl ?_
  refine ev_imul (pc := 101) (fe_125 rfl) ?_
  refine ev_iload_n (pc := 102) (fe_125 rfl) rfl ?_
  refine ev_iadd (pc := 103) (fe_125 rfl) ?_
  refine ev_aload_n (pc := 104) (fe_125 rfl) rfl ?_
  refine ev_getR (a1 := 251) (pc := 105) (fe_125 rfl) fr_137 t_223 rfl ?_
  refine ev_iload_n (pc := 108) (fe_125 rfl) rfl ?_
  refine fm_ob h (fun g23 h => ?_)
  refine ev_iaload (pc := 109) (fe_125 rfl) t_251 g23 ?_
  refine fm_ob h (fun g24 h => ?_)
  refine fm_lt_h h (fun u25 eu25 h => ?_)
  refine ev_iastore (pc := 110) (fe_125 rfl) t_243 g24 eu25 ?_
  refine ev_iinc (pc := 111) (fe_125 rfl) mx_125 rfl rfl li_1 ?_
  refine ev_goto (pc := 114) (fe_125 rfl) (t := 88) rfl ?_
  exact ih x1 (x3 + 1) u25 h
theorem jK125 {X : Nat × (Nat → Int32)} {x1 : Int32} {u : fm} {r : Int32 × fm} (h : jF125 x1 u = some r) : ev X 125 0 [some (.inr (.inl (some 223))), some (.inl x1), none, none] [] u ([.inl r.1], r.2) := by
  unfold jF125 at h
  refine ev_aload_n (pc := 0) (fe_125 rfl) rfl ?_
  refine ev_getR (a1 := 225) (pc := 1) (fe_125 rfl) fr_111 t_223 rfl ?_
  refine ev_iload_n (pc := 4) (fe_125 rfl) rfl ?_
  refine fm_ob h (fun g1 h => ?_)
  refine ev_iaload (pc := 5) (fe_125 rfl) t_225 g1 ?_
  refine ev_istore_n (pc := 6) (fe_125 rfl) mx_125 rfl ?_
  refine ev_aload_n (pc := 7) (fe_125 rfl) rfl ?_
  refine ev_getR (a1 := 251) (pc := 8) (fe_125 rfl) fr_137 t_223 rfl ?_
  refine ev_bipush (pc := 11) (fe_125 rfl) lb_8 ?_
  refine ev_ialoadk (pc := 13) (fe_125 rfl) t_251 (by decide) rfl ?_
  refine ev_iconst (pc := 14) (fe_125 rfl) li_m1 ?_
  refine ev_ic_eq (pc := 15) (fe_125 rfl) (t := 20) rfl h (fun h => ?_) (fun h => ?_)
  refine ev_aload_n (pc := 20) (fe_125 rfl) rfl ?_
  refine ev_iload_n (pc := 21) (fe_125 rfl) rfl ?_
  refine fm_bd h (fun p2 ep2 h => ?_)
  refine ev_callVZk (pc := 22) (fe_125 rfl) (z := 106) (na := 2) (ow := 10) cg_125_138 rfl rt_106 rfl rfl t_223 (m := 0) rfl (jK106 ep2) (st1 := [.inl p2]) rfl (fun z3 => ?_)
  refine ev_if_eq (pc := 25) (fe_125 rfl) (t := 157) rfl h (fun h => ?_) (fun h => ?_)
  refine ev_aload_n (pc := 157) (fe_125 rfl) rfl ?_
  refine ev_getR (a1 := 251) (pc := 158) (fe_125 rfl) fr_137 t_223 rfl ?_
  refine ev_iconst (pc := 161) (fe_125 rfl) li_4 ?_
  refine ev_ialoadk (pc := 162) (fe_125 rfl) t_251 (by decide) rfl ?_
  refine ev_aload_n (pc := 163) (fe_125 rfl) rfl ?_
  refine ev_getR (a1 := 243) (pc := 164) (fe_125 rfl) fr_129 t_223 rfl ?_
  refine ev_bipush (pc := 167) (fe_125 rfl) lb_50 ?_
  refine ev_iload_n (pc := 169) (fe_125 rfl) rfl ?_
  refine ev_imul (pc := 170) (fe_125 rfl) ?_
  refine ev_iconst (pc := 171) (fe_125 rfl) li_4 ?_
  refine ev_iadd (pc := 172) (fe_125 rfl) ?_
  refine fm_ob h (fun g4 h => ?_)
  refine ev_iaload (pc := 173) (fe_125 rfl) t_243 g4 ?_
  refine ev_ic_ne (pc := 174) (fe_125 rfl) (t := 197) rfl h (fun h => ?_) (fun h => ?_)
  exact jK125_197 x1 (fA u 225 (Int32.toNatClampNeg x1)) u h
  refine ev_aload_n (pc := 177) (fe_125 rfl) rfl ?_
  refine ev_getR (a1 := 251) (pc := 178) (fe_125 rfl) fr_137 t_223 rfl ?_
  refine ev_bipush (pc := 181) (fe_125 rfl) lb_9 ?_
  refine ev_ialoadk (pc := 183) (fe_125 rfl) t_251 (by decide) rfl ?_
  refine ev_aload_n (pc := 184) (fe_125 rfl) rfl ?_
  refine ev_getR (a1 := 228) (pc := 185) (fe_125 rfl) fr_114 t_223 rfl ?_
  refine ev_iload_n (pc := 188) (fe_125 rfl) rfl ?_
  refine ev_iaload (pc := 189) (fe_125 rfl) t_228 g1 ?_
  refine ev_ic_ne (pc := 190) (fe_125 rfl) (t := 197) rfl h (fun h => ?_) (fun h => ?_)
  exact jK125_197 x1 (fA u 225 (Int32.toNatClampNeg x1)) u h
  refine ev_iconst (pc := 193) (fe_125 rfl) li_1 ?_
  refine ev_goto (pc := 194) (fe_125 rfl) (t := 198) rfl ?_
  exact jK125_198 x1 (fA u 225 (Int32.toNatClampNeg x1)) 1 u (Or.inr rfl) h
  refine ev_aload_n (pc := 28) (fe_125 rfl) rfl ?_
  refine ev_getR (a1 := 246) (pc := 29) (fe_125 rfl) fr_132 t_223 rfl ?_
  refine ev_iload_n (pc := 32) (fe_125 rfl) rfl ?_
  refine ev_iconst (pc := 33) (fe_125 rfl) li_0 ?_
  refine fm_lt_h h (fun u11 eu11 h => ?_)
  refine ev_iastore (pc := 34) (fe_125 rfl) t_246 g1 eu11 ?_
  refine ev_aload_n (pc := 35) (fe_125 rfl) rfl ?_
  refine ev_getR (a1 := 228) (pc := 36) (fe_125 rfl) fr_114 t_223 rfl ?_
  refine ev_iload_n (pc := 39) (fe_125 rfl) rfl ?_
  refine ev_aload_n (pc := 40) (fe_125 rfl) rfl ?_
  refine ev_getR (a1 := 251) (pc := 41) (fe_125 rfl) fr_137 t_223 rfl ?_
  refine ev_bipush (pc := 44) (fe_125 rfl) lb_9 ?_
  refine ev_ialoadk (pc := 46) (fe_125 rfl) t_251 (by decide) rfl ?_
  refine fm_lt_h h (fun u12 eu12 h => ?_)
  refine ev_iastore (pc := 47) (fe_125 rfl) t_228 g1 eu12 ?_
  refine ev_aload_n (pc := 48) (fe_125 rfl) rfl ?_
  refine ev_getR (a1 := 227) (pc := 49) (fe_125 rfl) fr_113 t_223 rfl ?_
  refine ev_iload_n (pc := 52) (fe_125 rfl) rfl ?_
  refine ev_aload_n (pc := 53) (fe_125 rfl) rfl ?_
  refine ev_getR (a1 := 251) (pc := 54) (fe_125 rfl) fr_137 t_223 rfl ?_
  refine ev_bipush (pc := 57) (fe_125 rfl) lb_6 ?_
  refine ev_ialoadk (pc := 59) (fe_125 rfl) t_251 (by decide) rfl ?_
  refine fm_lt_h h (fun u13 eu13 h => ?_)
  refine ev_iastore (pc := 60) (fe_125 rfl) t_227 g1 eu13 ?_
  refine ev_aload_n (pc := 61) (fe_125 rfl) rfl ?_
  refine ev_getR (a1 := 226) (pc := 62) (fe_125 rfl) fr_112 t_223 rfl ?_
  refine ev_iload_n (pc := 65) (fe_125 rfl) rfl ?_
  refine ev_aload_n (pc := 66) (fe_125 rfl) rfl ?_
  refine ev_iload_n (pc := 67) (fe_125 rfl) rfl ?_
  refine fm_bd h (fun p14 ep14 h => ?_)
  refine ev_callVk (pc := 68) (fe_125 rfl) (z := 113) (na := 2) (ow := 10) cg_125_139 rfl rfl rfl t_223 (m := 0) rfl (jK113 ep14) (st1 := [.inl p14.1, .inl x1, .inr (.inl (some 226))]) rfl ?_
  refine fm_lt_h h (fun u15 eu15 h => ?_)
  refine ev_iastore (pc := 71) (fe_125 rfl) t_226 g1 eu15 ?_
  refine ev_aload_n (pc := 72) (fe_125 rfl) rfl ?_
  refine ev_getR (a1 := 239) (pc := 73) (fe_125 rfl) fr_125 t_223 rfl ?_
  refine ev_iload_n (pc := 76) (fe_125 rfl) rfl ?_
  refine ev_iconst (pc := 77) (fe_125 rfl) li_0 ?_
  refine fm_lt_h h (fun u16 eu16 h => ?_)
  refine ev_bastore (pc := 78) (fe_125 rfl) t_239 g1 (Or.inl rfl) eu16 ?_
  refine ev_aload_n (pc := 79) (fe_125 rfl) rfl ?_
  refine ev_getR (a1 := 242) (pc := 80) (fe_125 rfl) fr_128 t_223 rfl ?_
  refine ev_iload_n (pc := 83) (fe_125 rfl) rfl ?_
  refine ev_iconst (pc := 84) (fe_125 rfl) li_0 ?_
  refine fm_lt_h h (fun u17 eu17 h => ?_)
  refine ev_bastore (pc := 85) (fe_125 rfl) t_242 g1 (Or.inl rfl) eu17 ?_
  refine ev_iconst (pc := 86) (fe_125 rfl) li_0 ?_
  refine ev_istore_n (pc := 87) (fe_125 rfl) mx_125 rfl ?_
  refine ev_w [true, true, false, true] ?_
  exact jK125_88 fm_N x1 0 u17 h
  refine ev_iconst (pc := 18) (fe_125 rfl) li_0 ?_
  exact ev_R (ev_zrt (pc := 19) (fe_125 rfl) rt_125 (Or.inl rfl)) (by rw [← Option.some.inj h])
/-- CallAgentsModel comeRequest -/
def jF124_274 (x1 : Int32) (u : fm) : Option (Int32 × fm) :=
  Option.bind (jF114 x1 6 251 0 (fA u 251 8) u) (fun p2 => Option.bind (jF109 252 0 p2) (fun p3 => some (1, p3)))
def jF124_241 (x1 : Int32) (u : fm) : Option (Int32 × fm) :=
  if fm_in x1 2 then Option.bind (jF114 x1 4 251 0 (fA u 226 (Int32.toNatClampNeg x1)) u) (fun p5 => fm_let (sA p5 225 (Int32.toNatClampNeg x1) 9) (fun u6 => Option.bind (jF107 x1 u6) (fun p7 => Option.bind (jF109 252 0 p7) (fun p8 => some (1, p8))))) else none
def jF124_219 (x1 : Int32) (x2 : Int32) (s0 : Int32) (u : fm) : Option (Int32 × fm) :=
  if s0 = 0 then
  (jF124_274 x1 u)
  else
  (if x2 = 3 then
  (jF124_241 x1 u)
  else
  (if x2 = 6 then
  (jF124_241 x1 u)
  else
  (if x2 = 8 then
  (jF124_241 x1 u)
  else
  (jF124_274 x1 u))))
def jF124_218 (x1 : Int32) (x2 : Int32) (u : fm) : Option (Int32 × fm) :=
  jF124_219 x1 x2 0 u
def jF124_141 (x1 : Int32) (x2 : Int32) (u : fm) : Option (Int32 × fm) :=
  if x2 = 6 then
  (if fm_in x1 2 then fm_let (sA u 225 (Int32.toNatClampNeg x1) 3) (fun u13 => Option.bind (jF107 x1 u13) (fun p14 => some (1, p14))) else none)
  else
  (if fm_in x1 2 then fm_let (sA u 225 (Int32.toNatClampNeg x1) 9) (fun u10 => Option.bind (jF107 x1 u10) (fun p11 => some (1, p11))) else none)
def jF124_122 (x1 : Int32) (x2 : Int32) (s0 : Int32) (u : fm) : Option (Int32 × fm) :=
  if s0 = 0 then
  (some (0, u))
  else
  (if x2 = 6 then
  (jF124_141 x1 x2 u)
  else
  (if x2 = 7 then
  (jF124_141 x1 x2 u)
  else
  (some (0, u))))
def jF124_121 (x1 : Int32) (x2 : Int32) (u : fm) : Option (Int32 × fm) :=
  jF124_122 x1 x2 0 u
def jF124 (x1 : Int32) (u : fm) : Option (Int32 × fm) :=
  if (fA u 251 2) = x1 then
  (if (fA u 251 7) = x1 then
  (if (fA u 251 3) = (1 - x1) then
  (if (fA u 251 5) = (1 - x1) then
  (if (fA u 251 0) = 0 then
  (Option.bind (jF125 x1 u) (fun p16 => some (p16.1, p16.2)))
  else
  (if fm_in x1 2 then if (fA u 251 0) = 1 then
  (if (fA u 251 9) = (fA u 228 (Int32.toNatClampNeg x1)) then
  (if fm_in ((50 * x1) + 10) 100 then if (fA u 251 10) = (fA u 243 (Int32.toNatClampNeg ((50 * x1) + 10))) then
  (jF124_122 x1 (fA u 225 (Int32.toNatClampNeg x1)) 1 u)
  else
  (jF124_121 x1 (fA u 225 (Int32.toNatClampNeg x1)) u) else none)
  else
  (jF124_121 x1 (fA u 225 (Int32.toNatClampNeg x1)) u))
  else
  (if (fA u 251 9) = (fA u 228 (Int32.toNatClampNeg x1)) then
  (if (fA u 251 6) = (fA u 227 (Int32.toNatClampNeg x1)) then
  (if (fA u 251 8) = (fA u 226 (Int32.toNatClampNeg x1)) then
  (jF124_219 x1 (fA u 225 (Int32.toNatClampNeg x1)) 1 u)
  else
  (jF124_218 x1 (fA u 225 (Int32.toNatClampNeg x1)) u))
  else
  (jF124_218 x1 (fA u 225 (Int32.toNatClampNeg x1)) u))
  else
  (jF124_218 x1 (fA u 225 (Int32.toNatClampNeg x1)) u)) else none))
  else
  (some (0, u)))
  else
  (some (0, u)))
  else
  (some (0, u)))
  else
  (some (0, u))
theorem jK124_274 {X : Nat × (Nat → Int32)} {r : Int32 × fm} (x1 : Int32) (u : fm) (h : jF124_274 x1 u = some r) : ev X 124 274 [some (.inr (.inl (some 223))), some (.inl x1), none, none] [] u ([.inl r.1], r.2) := by
  unfold jF124_274 at h
  refine ev_aload_n (pc := 274) (fe_124 rfl) rfl ?_
  refine ev_iload_n (pc := 275) (fe_124 rfl) rfl ?_
  refine ev_bipush (pc := 276) (fe_124 rfl) lb_6 ?_
  refine ev_aload_n (pc := 278) (fe_124 rfl) rfl ?_
  refine ev_getR (a1 := 251) (pc := 279) (fe_124 rfl) fr_137 t_223 rfl ?_
  refine ev_iconst (pc := 282) (fe_124 rfl) li_0 ?_
  refine ev_aload_n (pc := 283) (fe_124 rfl) rfl ?_
  refine ev_getR (a1 := 251) (pc := 284) (fe_124 rfl) fr_137 t_223 rfl ?_
  refine ev_bipush (pc := 287) (fe_124 rfl) lb_8 ?_
  refine ev_ialoadk (pc := 289) (fe_124 rfl) t_251 (by decide) rfl ?_
  refine fm_bd h (fun p2 ep2 h => ?_)
  refine ev_callVk (pc := 290) (fe_124 rfl) (z := 114) (na := 6) (ow := 10) cg_124_144 rfl rfl rfl t_223 (m := 1) rfl (jK114 t_251 ep2) (st1 := []) rfl ?_
  refine ev_aload_n (pc := 293) (fe_124 rfl) rfl ?_
  refine ev_aload_n (pc := 294) (fe_124 rfl) rfl ?_
  refine ev_getR (a1 := 252) (pc := 295) (fe_124 rfl) fr_138 t_223 rfl ?_
  refine ev_iconst (pc := 298) (fe_124 rfl) li_0 ?_
  refine fm_bd h (fun p3 ep3 h => ?_)
  refine ev_callVk (pc := 299) (fe_124 rfl) (z := 109) (na := 3) (ow := 10) cg_124_143 rfl rfl rfl t_223 (m := 1) rfl (jK109 t_252 ep3) (st1 := []) rfl ?_
  refine ev_iconst (pc := 302) (fe_124 rfl) li_1 ?_
  exact ev_R (ev_zrt (pc := 303) (fe_124 rfl) rt_124 (Or.inr rfl)) (by rw [← Option.some.inj h])
theorem jK124_241 {X : Nat × (Nat → Int32)} {r : Int32 × fm} (x1 : Int32) (u : fm) (h : jF124_241 x1 u = some r) : ev X 124 241 [some (.inr (.inl (some 223))), some (.inl x1), none, none] [] u ([.inl r.1], r.2) := by
  unfold jF124_241 at h
  refine ev_aload_n (pc := 241) (fe_124 rfl) rfl ?_
  refine ev_iload_n (pc := 242) (fe_124 rfl) rfl ?_
  refine ev_iconst (pc := 243) (fe_124 rfl) li_4 ?_
  refine ev_aload_n (pc := 244) (fe_124 rfl) rfl ?_
  refine ev_getR (a1 := 251) (pc := 245) (fe_124 rfl) fr_137 t_223 rfl ?_
  refine ev_iconst (pc := 248) (fe_124 rfl) li_0 ?_
  refine ev_aload_n (pc := 249) (fe_124 rfl) rfl ?_
  refine ev_getR (a1 := 226) (pc := 250) (fe_124 rfl) fr_112 t_223 rfl ?_
  refine ev_iload_n (pc := 253) (fe_124 rfl) rfl ?_
  refine fm_ob h (fun g4 h => ?_)
  refine ev_iaload (pc := 254) (fe_124 rfl) t_226 g4 ?_
  refine fm_bd h (fun p5 ep5 h => ?_)
  refine ev_callVk (pc := 255) (fe_124 rfl) (z := 114) (na := 6) (ow := 10) cg_124_144 rfl rfl rfl t_223 (m := 1) rfl (jK114 t_251 ep5) (st1 := []) rfl ?_
  refine ev_aload_n (pc := 258) (fe_124 rfl) rfl ?_
  refine ev_getR (a1 := 225) (pc := 259) (fe_124 rfl) fr_111 t_223 rfl ?_
  refine ev_iload_n (pc := 262) (fe_124 rfl) rfl ?_
  refine ev_bipush (pc := 263) (fe_124 rfl) lb_9 ?_
  refine fm_lt_h h (fun u6 eu6 h => ?_)
  refine ev_iastore (pc := 265) (fe_124 rfl) t_225 g4 eu6 ?_
  refine ev_aload_n (pc := 266) (fe_124 rfl) rfl ?_
  refine ev_iload_n (pc := 267) (fe_124 rfl) rfl ?_
  refine fm_bd h (fun p7 ep7 h => ?_)
  refine ev_callVk (pc := 268) (fe_124 rfl) (z := 107) (na := 2) (ow := 10) cg_124_135 rfl rfl rfl t_223 (m := 0) rfl (jK107 ep7) (st1 := []) rfl ?_
  refine ev_goto (pc := 271) (fe_124 rfl) (t := 293) rfl ?_
  refine ev_aload_n (pc := 293) (fe_124 rfl) rfl ?_
  refine ev_aload_n (pc := 294) (fe_124 rfl) rfl ?_
  refine ev_getR (a1 := 252) (pc := 295) (fe_124 rfl) fr_138 t_223 rfl ?_
  refine ev_iconst (pc := 298) (fe_124 rfl) li_0 ?_
  refine fm_bd h (fun p8 ep8 h => ?_)
  refine ev_callVk (pc := 299) (fe_124 rfl) (z := 109) (na := 3) (ow := 10) cg_124_143 rfl rfl rfl t_223 (m := 1) rfl (jK109 t_252 ep8) (st1 := []) rfl ?_
  refine ev_iconst (pc := 302) (fe_124 rfl) li_1 ?_
  exact ev_R (ev_zrt (pc := 303) (fe_124 rfl) rt_124 (Or.inr rfl)) (by rw [← Option.some.inj h])
theorem jK124_219 {X : Nat × (Nat → Int32)} {r : Int32 × fm} (x1 : Int32) (x2 : Int32) (s0 : Int32) (u : fm) (b_s0 : s0 = 0 ∨ s0 = 1) (h : jF124_219 x1 x2 s0 u = some r) : ev X 124 219 [some (.inr (.inl (some 223))), some (.inl x1), some (.inl x2), none] [.inl s0] u ([.inl r.1], r.2) := by
  unfold jF124_219 at h
  refine ev_istore_n (pc := 219) (fe_124 rfl) mx_124 rfl ?_
  refine ev_iload_n (pc := 220) (fe_124 rfl) rfl ?_
  refine ev_if_eq (pc := 221) (fe_124 rfl) (t := 274) rfl h (fun h => ?_) (fun h => ?_)
  refine ev_w [true, true, false, false] ?_
  exact jK124_274 x1 u h
  refine ev_iload_n (pc := 224) (fe_124 rfl) rfl ?_
  refine ev_iconst (pc := 225) (fe_124 rfl) li_3 ?_
  refine ev_ic_eq (pc := 226) (fe_124 rfl) (t := 241) rfl h (fun h => ?_) (fun h => ?_)
  refine ev_w [true, true, false, false] ?_
  exact jK124_241 x1 u h
  refine ev_iload_n (pc := 229) (fe_124 rfl) rfl ?_
  refine ev_bipush (pc := 230) (fe_124 rfl) lb_6 ?_
  refine ev_ic_eq (pc := 232) (fe_124 rfl) (t := 241) rfl h (fun h => ?_) (fun h => ?_)
  refine ev_w [true, true, false, false] ?_
  exact jK124_241 x1 u h
  refine ev_iload_n (pc := 235) (fe_124 rfl) rfl ?_
  refine ev_bipush (pc := 236) (fe_124 rfl) lb_8 ?_
  refine ev_ic_ne (pc := 238) (fe_124 rfl) (t := 274) rfl h (fun h => ?_) (fun h => ?_)
  refine ev_w [true, true, false, false] ?_
  exact jK124_274 x1 u h
  refine ev_w [true, true, false, false] ?_
  exact jK124_241 x1 u h
theorem jK124_218 {X : Nat × (Nat → Int32)} {r : Int32 × fm} (x1 : Int32) (x2 : Int32) (u : fm) (h : jF124_218 x1 x2 u = some r) : ev X 124 218 [some (.inr (.inl (some 223))), some (.inl x1), some (.inl x2), none] [] u ([.inl r.1], r.2) := by
  unfold jF124_218 at h
  refine ev_iconst (pc := 218) (fe_124 rfl) li_0 ?_
  exact jK124_219 x1 x2 0 u (Or.inl rfl) h
theorem jK124_141 {X : Nat × (Nat → Int32)} {r : Int32 × fm} (x1 : Int32) (x2 : Int32) (u : fm) (h : jF124_141 x1 x2 u = some r) : ev X 124 141 [some (.inr (.inl (some 223))), some (.inl x1), some (.inl x2), none] [] u ([.inl r.1], r.2) := by
  unfold jF124_141 at h
  refine ev_aload_n (pc := 141) (fe_124 rfl) rfl ?_
  refine ev_getR (a1 := 225) (pc := 142) (fe_124 rfl) fr_111 t_223 rfl ?_
  refine ev_iload_n (pc := 145) (fe_124 rfl) rfl ?_
  refine ev_iload_n (pc := 146) (fe_124 rfl) rfl ?_
  refine ev_bipush (pc := 147) (fe_124 rfl) lb_6 ?_
  refine ev_ic_ne (pc := 149) (fe_124 rfl) (t := 156) rfl h (fun h => ?_) (fun h => ?_)
  refine ev_bipush (pc := 156) (fe_124 rfl) lb_9 ?_
  refine fm_ob h (fun g9 h => ?_)
  refine fm_lt_h h (fun u10 eu10 h => ?_)
  refine ev_iastore (pc := 158) (fe_124 rfl) t_225 g9 eu10 ?_
  refine ev_aload_n (pc := 159) (fe_124 rfl) rfl ?_
  refine ev_iload_n (pc := 160) (fe_124 rfl) rfl ?_
  refine fm_bd h (fun p11 ep11 h => ?_)
  refine ev_callVk (pc := 161) (fe_124 rfl) (z := 107) (na := 2) (ow := 10) cg_124_135 rfl rfl rfl t_223 (m := 0) rfl (jK107 ep11) (st1 := []) rfl ?_
  refine ev_iconst (pc := 164) (fe_124 rfl) li_1 ?_
  exact ev_R (ev_zrt (pc := 165) (fe_124 rfl) rt_124 (Or.inr rfl)) (by rw [← Option.some.inj h])
  refine ev_iconst (pc := 152) (fe_124 rfl) li_3 ?_
  refine ev_goto (pc := 153) (fe_124 rfl) (t := 158) rfl ?_
  refine fm_ob h (fun g12 h => ?_)
  refine fm_lt_h h (fun u13 eu13 h => ?_)
  refine ev_iastore (pc := 158) (fe_124 rfl) t_225 g12 eu13 ?_
  refine ev_aload_n (pc := 159) (fe_124 rfl) rfl ?_
  refine ev_iload_n (pc := 160) (fe_124 rfl) rfl ?_
  refine fm_bd h (fun p14 ep14 h => ?_)
  refine ev_callVk (pc := 161) (fe_124 rfl) (z := 107) (na := 2) (ow := 10) cg_124_135 rfl rfl rfl t_223 (m := 0) rfl (jK107 ep14) (st1 := []) rfl ?_
  refine ev_iconst (pc := 164) (fe_124 rfl) li_1 ?_
  exact ev_R (ev_zrt (pc := 165) (fe_124 rfl) rt_124 (Or.inr rfl)) (by rw [← Option.some.inj h])
theorem jK124_122 {X : Nat × (Nat → Int32)} {r : Int32 × fm} (x1 : Int32) (x2 : Int32) (s0 : Int32) (u : fm) (b_s0 : s0 = 0 ∨ s0 = 1) (h : jF124_122 x1 x2 s0 u = some r) : ev X 124 122 [some (.inr (.inl (some 223))), some (.inl x1), some (.inl x2), none] [.inl s0] u ([.inl r.1], r.2) := by
  unfold jF124_122 at h
  refine ev_istore_n (pc := 122) (fe_124 rfl) mx_124 rfl ?_
  refine ev_iload_n (pc := 123) (fe_124 rfl) rfl ?_
  refine ev_if_eq (pc := 124) (fe_124 rfl) (t := 139) rfl h (fun h => ?_) (fun h => ?_)
  refine ev_iconst (pc := 139) (fe_124 rfl) li_0 ?_
  exact ev_R (ev_zrt (pc := 140) (fe_124 rfl) rt_124 (Or.inl rfl)) (by rw [← Option.some.inj h])
  refine ev_iload_n (pc := 127) (fe_124 rfl) rfl ?_
  refine ev_bipush (pc := 128) (fe_124 rfl) lb_6 ?_
  refine ev_ic_eq (pc := 130) (fe_124 rfl) (t := 141) rfl h (fun h => ?_) (fun h => ?_)
  refine ev_w [true, true, true, false] ?_
  exact jK124_141 x1 x2 u h
  refine ev_iload_n (pc := 133) (fe_124 rfl) rfl ?_
  refine ev_bipush (pc := 134) (fe_124 rfl) lb_7 ?_
  refine ev_ic_eq (pc := 136) (fe_124 rfl) (t := 141) rfl h (fun h => ?_) (fun h => ?_)
  refine ev_w [true, true, true, false] ?_
  exact jK124_141 x1 x2 u h
  refine ev_iconst (pc := 139) (fe_124 rfl) li_0 ?_
  exact ev_R (ev_zrt (pc := 140) (fe_124 rfl) rt_124 (Or.inl rfl)) (by rw [← Option.some.inj h])
theorem jK124_121 {X : Nat × (Nat → Int32)} {r : Int32 × fm} (x1 : Int32) (x2 : Int32) (u : fm) (h : jF124_121 x1 x2 u = some r) : ev X 124 121 [some (.inr (.inl (some 223))), some (.inl x1), some (.inl x2), none] [] u ([.inl r.1], r.2) := by
  unfold jF124_121 at h
  refine ev_iconst (pc := 121) (fe_124 rfl) li_0 ?_
  exact jK124_122 x1 x2 0 u (Or.inl rfl) h
theorem jK124 {X : Nat × (Nat → Int32)} {x1 : Int32} {u : fm} {r : Int32 × fm} (h : jF124 x1 u = some r) : ev X 124 0 [some (.inr (.inl (some 223))), some (.inl x1), none, none] [] u ([.inl r.1], r.2) := by
  unfold jF124 at h
  refine ev_aload_n (pc := 0) (fe_124 rfl) rfl ?_
  refine ev_getR (a1 := 251) (pc := 1) (fe_124 rfl) fr_137 t_223 rfl ?_
  refine ev_iconst (pc := 4) (fe_124 rfl) li_2 ?_
  refine ev_ialoadk (pc := 5) (fe_124 rfl) t_251 (by decide) rfl ?_
  refine ev_iload_n (pc := 6) (fe_124 rfl) rfl ?_
  refine ev_ic_ne (pc := 7) (fe_124 rfl) (t := 45) rfl h (fun h => ?_) (fun h => ?_)
  refine ev_iconst (pc := 45) (fe_124 rfl) li_0 ?_
  exact ev_R (ev_zrt (pc := 46) (fe_124 rfl) rt_124 (Or.inl rfl)) (by rw [← Option.some.inj h])
  refine ev_aload_n (pc := 10) (fe_124 rfl) rfl ?_
  refine ev_getR (a1 := 251) (pc := 11) (fe_124 rfl) fr_137 t_223 rfl ?_
  refine ev_bipush (pc := 14) (fe_124 rfl) lb_7 ?_
  refine ev_ialoadk (pc := 16) (fe_124 rfl) t_251 (by decide) rfl ?_
  refine ev_iload_n (pc := 17) (fe_124 rfl) rfl ?_
  refine ev_ic_ne (pc := 18) (fe_124 rfl) (t := 45) rfl h (fun h => ?_) (fun h => ?_)
  refine ev_iconst (pc := 45) (fe_124 rfl) li_0 ?_
  exact ev_R (ev_zrt (pc := 46) (fe_124 rfl) rt_124 (Or.inl rfl)) (by rw [← Option.some.inj h])
  refine ev_aload_n (pc := 21) (fe_124 rfl) rfl ?_
  refine ev_getR (a1 := 251) (pc := 22) (fe_124 rfl) fr_137 t_223 rfl ?_
  refine ev_iconst (pc := 25) (fe_124 rfl) li_3 ?_
  refine ev_ialoadk (pc := 26) (fe_124 rfl) t_251 (by decide) rfl ?_
  refine ev_iconst (pc := 27) (fe_124 rfl) li_1 ?_
  refine ev_iload_n (pc := 28) (fe_124 rfl) rfl ?_
  refine ev_isub (pc := 29) (fe_124 rfl) ?_
  refine ev_ic_ne (pc := 30) (fe_124 rfl) (t := 45) rfl h (fun h => ?_) (fun h => ?_)
  refine ev_iconst (pc := 45) (fe_124 rfl) li_0 ?_
  exact ev_R (ev_zrt (pc := 46) (fe_124 rfl) rt_124 (Or.inl rfl)) (by rw [← Option.some.inj h])
  refine ev_aload_n (pc := 33) (fe_124 rfl) rfl ?_
  refine ev_getR (a1 := 251) (pc := 34) (fe_124 rfl) fr_137 t_223 rfl ?_
  refine ev_iconst (pc := 37) (fe_124 rfl) li_5 ?_
  refine ev_ialoadk (pc := 38) (fe_124 rfl) t_251 (by decide) rfl ?_
  refine ev_iconst (pc := 39) (fe_124 rfl) li_1 ?_
  refine ev_iload_n (pc := 40) (fe_124 rfl) rfl ?_
  refine ev_isub (pc := 41) (fe_124 rfl) ?_
  refine ev_ic_eq (pc := 42) (fe_124 rfl) (t := 47) rfl h (fun h => ?_) (fun h => ?_)
  refine ev_aload_n (pc := 47) (fe_124 rfl) rfl ?_
  refine ev_getR (a1 := 251) (pc := 48) (fe_124 rfl) fr_137 t_223 rfl ?_
  refine ev_iconst (pc := 51) (fe_124 rfl) li_0 ?_
  refine ev_ialoadk (pc := 52) (fe_124 rfl) t_251 (by decide) rfl ?_
  refine ev_if_ne (pc := 53) (fe_124 rfl) (t := 62) rfl h (fun h => ?_) (fun h => ?_)
  refine ev_aload_n (pc := 62) (fe_124 rfl) rfl ?_
  refine ev_getR (a1 := 225) (pc := 63) (fe_124 rfl) fr_111 t_223 rfl ?_
  refine ev_iload_n (pc := 66) (fe_124 rfl) rfl ?_
  refine fm_ob h (fun g1 h => ?_)
  refine ev_iaload (pc := 67) (fe_124 rfl) t_225 g1 ?_
  refine ev_istore_n (pc := 68) (fe_124 rfl) mx_124 rfl ?_
  refine ev_aload_n (pc := 69) (fe_124 rfl) rfl ?_
  refine ev_getR (a1 := 251) (pc := 70) (fe_124 rfl) fr_137 t_223 rfl ?_
  refine ev_iconst (pc := 73) (fe_124 rfl) li_0 ?_
  refine ev_ialoadk (pc := 74) (fe_124 rfl) t_251 (by decide) rfl ?_
  refine ev_iconst (pc := 75) (fe_124 rfl) li_1 ?_
  refine ev_ic_ne (pc := 76) (fe_124 rfl) (t := 166) rfl h (fun h => ?_) (fun h => ?_)
  refine ev_aload_n (pc := 166) (fe_124 rfl) rfl ?_
  refine ev_getR (a1 := 251) (pc := 167) (fe_124 rfl) fr_137 t_223 rfl ?_
  refine ev_bipush (pc := 170) (fe_124 rfl) lb_9 ?_
  refine ev_ialoadk (pc := 172) (fe_124 rfl) t_251 (by decide) rfl ?_
  refine ev_aload_n (pc := 173) (fe_124 rfl) rfl ?_
  refine ev_getR (a1 := 228) (pc := 174) (fe_124 rfl) fr_114 t_223 rfl ?_
  refine ev_iload_n (pc := 177) (fe_124 rfl) rfl ?_
  refine ev_iaload (pc := 178) (fe_124 rfl) t_228 g1 ?_
  refine ev_ic_ne (pc := 179) (fe_124 rfl) (t := 218) rfl h (fun h => ?_) (fun h => ?_)
  exact jK124_218 x1 (fA u 225 (Int32.toNatClampNeg x1)) u h
  refine ev_aload_n (pc := 182) (fe_124 rfl) rfl ?_
  refine ev_getR (a1 := 251) (pc := 183) (fe_124 rfl) fr_137 t_223 rfl ?_
  refine ev_bipush (pc := 186) (fe_124 rfl) lb_6 ?_
  refine ev_ialoadk (pc := 188) (fe_124 rfl) t_251 (by decide) rfl ?_
  refine ev_aload_n (pc := 189) (fe_124 rfl) rfl ?_
  refine ev_getR (a1 := 227) (pc := 190) (fe_124 rfl) fr_113 t_223 rfl ?_
  refine ev_iload_n (pc := 193) (fe_124 rfl) rfl ?_
  refine ev_iaload (pc := 194) (fe_124 rfl) t_227 g1 ?_
  refine ev_ic_ne (pc := 195) (fe_124 rfl) (t := 218) rfl h (fun h => ?_) (fun h => ?_)
  exact jK124_218 x1 (fA u 225 (Int32.toNatClampNeg x1)) u h
  refine ev_aload_n (pc := 198) (fe_124 rfl) rfl ?_
  refine ev_getR (a1 := 251) (pc := 199) (fe_124 rfl) fr_137 t_223 rfl ?_
  refine ev_bipush (pc := 202) (fe_124 rfl) lb_8 ?_
  refine ev_ialoadk (pc := 204) (fe_124 rfl) t_251 (by decide) rfl ?_
  refine ev_aload_n (pc := 205) (fe_124 rfl) rfl ?_
  refine ev_getR (a1 := 226) (pc := 206) (fe_124 rfl) fr_112 t_223 rfl ?_
  refine ev_iload_n (pc := 209) (fe_124 rfl) rfl ?_
  refine ev_iaload (pc := 210) (fe_124 rfl) t_226 g1 ?_
  refine ev_ic_ne (pc := 211) (fe_124 rfl) (t := 218) rfl h (fun h => ?_) (fun h => ?_)
  exact jK124_218 x1 (fA u 225 (Int32.toNatClampNeg x1)) u h
  refine ev_iconst (pc := 214) (fe_124 rfl) li_1 ?_
  refine ev_goto (pc := 215) (fe_124 rfl) (t := 219) rfl ?_
  exact jK124_219 x1 (fA u 225 (Int32.toNatClampNeg x1)) 1 u (Or.inr rfl) h
  refine ev_aload_n (pc := 79) (fe_124 rfl) rfl ?_
  refine ev_getR (a1 := 251) (pc := 80) (fe_124 rfl) fr_137 t_223 rfl ?_
  refine ev_bipush (pc := 83) (fe_124 rfl) lb_9 ?_
  refine ev_ialoadk (pc := 85) (fe_124 rfl) t_251 (by decide) rfl ?_
  refine ev_aload_n (pc := 86) (fe_124 rfl) rfl ?_
  refine ev_getR (a1 := 228) (pc := 87) (fe_124 rfl) fr_114 t_223 rfl ?_
  refine ev_iload_n (pc := 90) (fe_124 rfl) rfl ?_
  refine ev_iaload (pc := 91) (fe_124 rfl) t_228 g1 ?_
  refine ev_ic_ne (pc := 92) (fe_124 rfl) (t := 121) rfl h (fun h => ?_) (fun h => ?_)
  exact jK124_121 x1 (fA u 225 (Int32.toNatClampNeg x1)) u h
  refine ev_aload_n (pc := 95) (fe_124 rfl) rfl ?_
  refine ev_getR (a1 := 251) (pc := 96) (fe_124 rfl) fr_137 t_223 rfl ?_
  refine ev_bipush (pc := 99) (fe_124 rfl) lb_10 ?_
  refine ev_ialoadk (pc := 101) (fe_124 rfl) t_251 (by decide) rfl ?_
  refine ev_aload_n (pc := 102) (fe_124 rfl) rfl ?_
  refine ev_getR (a1 := 243) (pc := 103) (fe_124 rfl) fr_129 t_223 rfl ?_
  refine ev_bipush (pc := 106) (fe_124 rfl) lb_50 ?_
  refine ev_iload_n (pc := 108) (fe_124 rfl) rfl ?_
  refine ev_imul (pc := 109) (fe_124 rfl) ?_
  refine ev_bipush (pc := 110) (fe_124 rfl) lb_10 ?_
  refine ev_iadd (pc := 112) (fe_124 rfl) ?_
  refine fm_ob h (fun g15 h => ?_)
  refine ev_iaload (pc := 113) (fe_124 rfl) t_243 g15 ?_
  refine ev_ic_ne (pc := 114) (fe_124 rfl) (t := 121) rfl h (fun h => ?_) (fun h => ?_)
  exact jK124_121 x1 (fA u 225 (Int32.toNatClampNeg x1)) u h
  refine ev_iconst (pc := 117) (fe_124 rfl) li_1 ?_
  refine ev_goto (pc := 118) (fe_124 rfl) (t := 122) rfl ?_
  exact jK124_122 x1 (fA u 225 (Int32.toNatClampNeg x1)) 1 u (Or.inr rfl) h
  refine ev_aload_n (pc := 56) (fe_124 rfl) rfl ?_
  refine ev_iload_n (pc := 57) (fe_124 rfl) rfl ?_
  refine fm_bd h (fun p16 ep16 h => ?_)
  refine ev_callVZk (pc := 58) (fe_124 rfl) (z := 125) (na := 2) (ow := 10) cg_124_149 rfl rt_125 rfl rfl t_223 (m := 2) rfl (jK125 ep16) (st1 := [.inl p16.1]) rfl (fun z17 => ?_)
  exact ev_R (ev_zrt (pc := 61) (fe_124 rfl) rt_124 (z17)) (by rw [← Option.some.inj h])
  refine ev_iconst (pc := 45) (fe_124 rfl) li_0 ?_
  exact ev_R (ev_zrt (pc := 46) (fe_124 rfl) rt_124 (Or.inl rfl)) (by rw [← Option.some.inj h])
/-- CallAgentsModel sendAck -/
def jF126_17 : Nat → Int32 → Int32 → fm → Option (fm)
  | 0, _, _, _ => none
  | n + 1, x1, x4, u =>
  if x4 < 50 then
  (if fm_in x4 50 then if fm_in ((50 * x1) + x4) 100 then fm_let (sA u 245 (Int32.toNatClampNeg ((50 * x1) + x4)) (fA u 252 (Int32.toNatClampNeg x4))) (fun u8 => jF126_17 n x1 (x4 + 1) u8) else none else none)
  else
  (if fm_in x1 2 then fm_let (sA u 242 (Int32.toNatClampNeg x1) 1) (fun u4 => Option.bind (jF109 252 0 u4) (fun p5 => some p5)) else none)
def jF126 (x1 : Int32) (x2 : Int32) (x3 : Int32) (u : fm) : Option (fm) :=
  if fm_in x1 2 then Option.bind (jF111 x1 1 x2 x3 (fA u 240 (Int32.toNatClampNeg x1)) u) (fun p2 => jF126_17 fm_N x1 0 p2) else none
theorem jK126_17 {X : Nat × (Nat → Int32)} {r : fm} : ∀ (n : Nat) (x1 : Int32) (x4 : Int32) (u : fm), jF126_17 n x1 x4 u = some r → ev X 126 17 [some (.inr (.inl (some 223))), some (.inl x1), none, none, some (.inl x4)] [] u ([], r) := by
  intro n
  induction n with
  | zero =>
    intro _ _ _ h
    unfold jF126_17 at h
    cases h
  | succ n ih =>
  intro x1 x4 u h
  unfold jF126_17 at h
  refine ev_iload (pc := 17) (fe_126 rfl) rfl ?_
  refine ev_bipush (pc := 19) (fe_126 rfl) lb_50 ?_
  refine ev_ic_ge (pc := 21) (fe_126 rfl) (t := 49) rfl h (fun h => ?_) (fun h => ?_)
  refine ev_aload_n (pc := 49) (fe_126 rfl) rfl ?_
  refine ev_getR (a1 := 242) (pc := 50) (fe_126 rfl) fr_128 t_223 rfl ?_
  refine ev_iload_n (pc := 53) (fe_126 rfl) rfl ?_
  refine ev_iconst (pc := 54) (fe_126 rfl) li_1 ?_
  refine fm_ob h (fun g3 h => ?_)
  refine fm_lt_h h (fun u4 eu4 h => ?_)
  refine ev_bastore (pc := 55) (fe_126 rfl) t_242 g3 (Or.inr rfl) eu4 ?_
  refine ev_aload_n (pc := 56) (fe_126 rfl) rfl ?_
  refine ev_aload_n (pc := 57) (fe_126 rfl) rfl ?_
  refine ev_getR (a1 := 252) (pc := 58) (fe_126 rfl) fr_138 t_223 rfl ?_
  refine ev_iconst (pc := 61) (fe_126 rfl) li_0 ?_
  refine fm_bd h (fun p5 ep5 h => ?_)
  refine ev_callVk (pc := 62) (fe_126 rfl) (z := 109) (na := 3) (ow := 10) cg_126_143 rfl rfl rfl t_223 (m := 1) rfl (jK109 t_252 ep5) (st1 := []) rfl ?_
  exact ev_R (ev_vrt (pc := 65) (fe_126 rfl) rt_126) (by rw [← Option.some.inj h])
  refine ev_aload_n (pc := 24) (fe_126 rfl) rfl ?_
  refine ev_getR (a1 := 245) (pc := 25) (fe_126 rfl) fr_131 t_223 rfl ?_
  refine ev_bipush (pc := 28) (fe_126 rfl) lb_50 ?_
  refine ev_iload_n (pc := 30) (fe_126 rfl) rfl ?_
  refine ev_imul (pc := 31) (fe_126 rfl) ?_
  refine ev_iload (pc := 32) (fe_126 rfl) rfl ?_
  refine ev_iadd (pc := 34) (fe_126 rfl) ?_
  refine ev_aload_n (pc := 35) (fe_126 rfl) rfl ?_
  refine ev_getR (a1 := 252) (pc := 36) (fe_126 rfl) fr_138 t_223 rfl ?_
  refine ev_iload (pc := 39) (fe_126 rfl) rfl ?_
  refine fm_ob h (fun g6 h => ?_)
  refine ev_iaload (pc := 41) (fe_126 rfl) t_252 g6 ?_
  refine fm_ob h (fun g7 h => ?_)
  refine fm_lt_h h (fun u8 eu8 h => ?_)
  refine ev_iastore (pc := 42) (fe_126 rfl) t_245 g7 eu8 ?_
  refine ev_iinc (pc := 43) (fe_126 rfl) mx_126 rfl rfl li_1 ?_
  refine ev_goto (pc := 46) (fe_126 rfl) (t := 17) rfl ?_
  exact ih x1 (x4 + 1) u8 h
theorem jK126 {X : Nat × (Nat → Int32)} {x1 : Int32} {x2 : Int32} {x3 : Int32} {u : fm} {r : fm} (h : jF126 x1 x2 x3 u = some r) : ev X 126 0 [some (.inr (.inl (some 223))), some (.inl x1), some (.inl x2), some (.inl x3), none] [] u ([], r) := by
  unfold jF126 at h
  refine ev_aload_n (pc := 0) (fe_126 rfl) rfl ?_
  refine ev_iload_n (pc := 1) (fe_126 rfl) rfl ?_
  refine ev_iconst (pc := 2) (fe_126 rfl) li_1 ?_
  refine ev_iload_n (pc := 3) (fe_126 rfl) rfl ?_
  refine ev_iload_n (pc := 4) (fe_126 rfl) rfl ?_
  refine ev_aload_n (pc := 5) (fe_126 rfl) rfl ?_
  refine ev_getR (a1 := 240) (pc := 6) (fe_126 rfl) fr_126 t_223 rfl ?_
  refine ev_iload_n (pc := 9) (fe_126 rfl) rfl ?_
  refine fm_ob h (fun g1 h => ?_)
  refine ev_iaload (pc := 10) (fe_126 rfl) t_240 g1 ?_
  refine fm_bd h (fun p2 ep2 h => ?_)
  refine ev_callVk (pc := 11) (fe_126 rfl) (z := 111) (na := 6) (ow := 10) cg_126_141 rfl rfl rfl t_223 (m := 1) rfl (jK111 ep2) (st1 := []) rfl ?_
  refine ev_iconst (pc := 14) (fe_126 rfl) li_0 ?_
  refine ev_istore (pc := 15) (fe_126 rfl) mx_126 rfl ?_
  refine ev_w [true, true, false, false, true] ?_
  exact jK126_17 fm_N x1 0 p2 h
/-- CallAgentsModel comeResponse -/
def jF127_534 (x1 : Int32) (x2 : Int32) (x8 : Int32) (s0 : Int32) (u : fm) : Option (Int32 × fm) :=
  if x8 = 0 then
  (some (0, u))
  else
  (if s0 = 0 then
  (some (0, u))
  else
  (if x2 = 8 then
  (if fm_in x1 2 then fm_let (sA u 225 (Int32.toNatClampNeg x1) 9) (fun u4 => Option.bind (jF107 x1 u4) (fun p5 => some (1, p5))) else none)
  else
  (some (0, u))))
def jF127_533 (x1 : Int32) (x2 : Int32) (x8 : Int32) (u : fm) : Option (Int32 × fm) :=
  jF127_534 x1 x2 x8 0 u
def jF127_469 (x1 : Int32) (x2 : Int32) (s0 : Int32) (u : fm) : Option (Int32 × fm) :=
  if (fA u 251 11) = 2 then
  (if fm_in x1 2 then if (fA u 251 4) = (fA u 230 (Int32.toNatClampNeg x1)) then
  (if (fA u 251 9) = (fA u 228 (Int32.toNatClampNeg x1)) then
  (if (fA u 251 10) = (fA u 229 (Int32.toNatClampNeg x1)) then
  (jF127_534 x1 x2 s0 1 u)
  else
  (jF127_533 x1 x2 s0 u))
  else
  (jF127_533 x1 x2 s0 u))
  else
  (jF127_533 x1 x2 s0 u) else none)
  else
  (jF127_533 x1 x2 s0 u)
def jF127_464 (x1 : Int32) (x2 : Int32) (u : fm) : Option (Int32 × fm) :=
  jF127_469 x1 x2 1 u
def jF127_443 (x1 : Int32) (x2 : Int32) (u : fm) : Option (Int32 × fm) :=
  if (fA u 251 0) = 4 then
  (jF127_464 x1 x2 u)
  else
  (if (fA u 251 0) = 6 then
  (jF127_464 x1 x2 u)
  else
  (jF127_469 x1 x2 0 u))
def jF127_400 (x1 : Int32) (x2 : Int32) (x7 : Int32) (u : fm) : Option (Int32 × fm) :=
  if (fA u 251 0) = 5 then
  (if x7 = 0 then
  (jF127_443 x1 x2 u)
  else
  (if x2 = 4 then
  (if fm_in x1 2 then if (fm_b01 (fA u 242 (Int32.toNatClampNeg x1))) = 0 then
  (jF127_443 x1 x2 u)
  else
  (Option.bind (jF109 245 (50 * x1) u) (fun p8 => some (1, p8))) else none)
  else
  (jF127_443 x1 x2 u)))
  else
  (jF127_443 x1 x2 u)
def jF127_349 (x1 : Int32) (x2 : Int32) (x3 : Int32) (x7 : Int32) (u : fm) : Option (Int32 × fm) :=
  if (fA u 251 0) = 5 then
  (if x7 = 0 then
  (jF127_400 x1 x2 x7 u)
  else
  (if x3 = 0 then
  (jF127_400 x1 x2 x7 u)
  else
  (if fm_in x1 2 then fm_let (sA u 225 (Int32.toNatClampNeg x1) 4) (fun u10 => Option.bind (jF107 x1 u10) (fun p11 => Option.bind (jF126 x1 (fA p11 241 (Int32.toNatClampNeg x1)) (fA p11 251 8) p11) (fun p12 => some (1, p12)))) else none)))
  else
  (jF127_400 x1 x2 x7 u)
def jF127_290 (x1 : Int32) (x2 : Int32) (x3 : Int32) (x6 : Int32) (x7 : Int32) (u : fm) : Option (Int32 × fm) :=
  if (fA u 251 0) = 4 then
  (if x6 = 0 then
  (jF127_349 x1 x2 x3 x7 u)
  else
  (if x2 = 3 then
  (if fm_in x1 2 then if (fm_b01 (fA u 239 (Int32.toNatClampNeg x1))) = 0 then
  (jF127_349 x1 x2 x3 x7 u)
  else
  (if (fA u 251 8) = (fA u 227 (Int32.toNatClampNeg x1)) then
  (Option.bind (jF109 245 (50 * x1) u) (fun p14 => some (1, p14)))
  else
  (jF127_349 x1 x2 x3 x7 u)) else none)
  else
  (jF127_349 x1 x2 x3 x7 u)))
  else
  (jF127_349 x1 x2 x3 x7 u)
def jF127_219 (x1 : Int32) (x2 : Int32) (x3 : Int32) (x6 : Int32) (x7 : Int32) (u : fm) : Option (Int32 × fm) :=
  if (fA u 251 0) = 4 then
  (if x6 = 0 then
  (jF127_290 x1 x2 x3 x6 x7 u)
  else
  (if x3 = 0 then
  (jF127_290 x1 x2 x3 x6 x7 u)
  else
  (if fm_in x1 2 then fm_let (sA u 227 (Int32.toNatClampNeg x1) (fA u 251 8)) (fun u16 => Option.bind (jF118 x1 251 u16) (fun p17 => fm_let (sA p17 225 (Int32.toNatClampNeg x1) 3) (fun u18 => Option.bind (jF107 x1 u18) (fun p19 => Option.bind (jF112 x1 p19) (fun p20 => Option.bind (jF126 x1 p20.1 (fA p20.2 227 (Int32.toNatClampNeg x1)) p20.2) (fun p21 => some (1, p21))))))) else none)))
  else
  (jF127_290 x1 x2 x3 x6 x7 u)
def jF127_183 (x1 : Int32) (x2 : Int32) (x3 : Int32) (x6 : Int32) (s0 : Int32) (u : fm) : Option (Int32 × fm) :=
  if (fA u 251 0) = 3 then
  (if x2 = 1 then
  (if s0 = 0 then
  (jF127_219 x1 x2 x3 x6 s0 u)
  else
  (if fm_in x1 2 then fm_let (sA u 225 (Int32.toNatClampNeg x1) 2) (fun u23 => Option.bind (jF107 x1 u23) (fun p24 => some (1, p24))) else none))
  else
  (jF127_219 x1 x2 x3 x6 s0 u))
  else
  (jF127_219 x1 x2 x3 x6 s0 u)
def jF127_182 (x1 : Int32) (x2 : Int32) (x3 : Int32) (x6 : Int32) (u : fm) : Option (Int32 × fm) :=
  jF127_183 x1 x2 x3 x6 0 u
def jF127_156 (x1 : Int32) (x2 : Int32) (x3 : Int32) (x5 : Int32) (s0 : Int32) (u : fm) : Option (Int32 × fm) :=
  if x5 = 0 then
  (jF127_182 x1 x2 x3 s0 u)
  else
  (if fm_in x1 2 then if (fA u 251 4) = (fA u 241 (Int32.toNatClampNeg x1)) then
  (jF127_183 x1 x2 x3 s0 1 u)
  else
  (jF127_182 x1 x2 x3 s0 u) else none)
def jF127_155 (x1 : Int32) (x2 : Int32) (x3 : Int32) (x5 : Int32) (u : fm) : Option (Int32 × fm) :=
  jF127_156 x1 x2 x3 x5 0 u
def jF127_133 (x1 : Int32) (x2 : Int32) (x3 : Int32) (s0 : Int32) (u : fm) : Option (Int32 × fm) :=
  if s0 = 0 then
  (jF127_155 x1 x2 x3 s0 u)
  else
  (if (fA u 251 8) = (-1) then
  (jF127_155 x1 x2 x3 s0 u)
  else
  (jF127_156 x1 x2 x3 s0 1 u))
def jF127_132 (x1 : Int32) (x2 : Int32) (x3 : Int32) (u : fm) : Option (Int32 × fm) :=
  jF127_133 x1 x2 x3 0 u
def jF127_111 (x1 : Int32) (x2 : Int32) (x3 : Int32) (s0 : Int32) (u : fm) : Option (Int32 × fm) :=
  if s0 = 0 then
  (jF127_132 x1 x2 x3 u)
  else
  (if (fA u 251 11) = 0 then
  (jF127_133 x1 x2 x3 1 u)
  else
  (jF127_132 x1 x2 x3 u))
def jF127_110 (x1 : Int32) (x2 : Int32) (x3 : Int32) (u : fm) : Option (Int32 × fm) :=
  jF127_111 x1 x2 x3 0 u
def jF127_57 (x1 : Int32) (x2 : Int32) (s0 : Int32) (u : fm) : Option (Int32 × fm) :=
  if fm_in x1 2 then if (fA u 251 9) = (fA u 228 (Int32.toNatClampNeg x1)) then
  (if (fA u 251 10) = (fA u 240 (Int32.toNatClampNeg x1)) then
  (if (fA u 251 6) = (fA u 226 (Int32.toNatClampNeg x1)) then
  (jF127_111 x1 x2 s0 1 u)
  else
  (jF127_110 x1 x2 s0 u))
  else
  (jF127_110 x1 x2 s0 u))
  else
  (jF127_110 x1 x2 s0 u) else none
def jF127_52 (x1 : Int32) (x2 : Int32) (u : fm) : Option (Int32 × fm) :=
  jF127_57 x1 x2 1 u
def jF127 (x1 : Int32) (u : fm) : Option (Int32 × fm) :=
  if (fA u 251 3) = x1 then
  (if (fA u 251 5) = x1 then
  (if (fA u 251 7) = (1 - x1) then
  (if fm_in x1 2 then if (fA u 225 (Int32.toNatClampNeg x1)) = 1 then
  (jF127_52 x1 (fA u 225 (Int32.toNatClampNeg x1)) u)
  else
  (if (fA u 225 (Int32.toNatClampNeg x1)) = 2 then
  (jF127_52 x1 (fA u 225 (Int32.toNatClampNeg x1)) u)
  else
  (jF127_57 x1 (fA u 225 (Int32.toNatClampNeg x1)) 0 u)) else none)
  else
  (some (0, u)))
  else
  (some (0, u)))
  else
  (some (0, u))
theorem jK127_534 {X : Nat × (Nat → Int32)} {r : Int32 × fm} (x1 : Int32) (x2 : Int32) (x8 : Int32) (s0 : Int32) (u : fm) (b_x8 : x8 = 0 ∨ x8 = 1) (b_s0 : s0 = 0 ∨ s0 = 1) (h : jF127_534 x1 x2 x8 s0 u = some r) : ev X 127 534 [some (.inr (.inl (some 223))), some (.inl x1), some (.inl x2), none, none, none, none, none, some (.inl x8), none] [.inl s0] u ([.inl r.1], r.2) := by
  unfold jF127_534 at h
  refine ev_istore (pc := 534) (fe_127 rfl) mx_127 rfl ?_
  refine ev_iload (pc := 536) (fe_127 rfl) rfl ?_
  refine ev_if_eq (pc := 538) (fe_127 rfl) (t := 567) rfl h (fun h => ?_) (fun h => ?_)
  refine ev_iconst (pc := 567) (fe_127 rfl) li_0 ?_
  exact ev_R (ev_zrt (pc := 568) (fe_127 rfl) rt_127 (Or.inl rfl)) (by rw [← Option.some.inj h])
  refine ev_iload (pc := 541) (fe_127 rfl) rfl ?_
  refine ev_if_eq (pc := 543) (fe_127 rfl) (t := 567) rfl h (fun h => ?_) (fun h => ?_)
  refine ev_iconst (pc := 567) (fe_127 rfl) li_0 ?_
  exact ev_R (ev_zrt (pc := 568) (fe_127 rfl) rt_127 (Or.inl rfl)) (by rw [← Option.some.inj h])
  refine ev_iload_n (pc := 546) (fe_127 rfl) rfl ?_
  refine ev_bipush (pc := 547) (fe_127 rfl) lb_8 ?_
  refine ev_ic_ne (pc := 549) (fe_127 rfl) (t := 567) rfl h (fun h => ?_) (fun h => ?_)
  refine ev_iconst (pc := 567) (fe_127 rfl) li_0 ?_
  exact ev_R (ev_zrt (pc := 568) (fe_127 rfl) rt_127 (Or.inl rfl)) (by rw [← Option.some.inj h])
  refine ev_aload_n (pc := 552) (fe_127 rfl) rfl ?_
  refine ev_getR (a1 := 225) (pc := 553) (fe_127 rfl) fr_111 t_223 rfl ?_
  refine ev_iload_n (pc := 556) (fe_127 rfl) rfl ?_
  refine ev_bipush (pc := 557) (fe_127 rfl) lb_9 ?_
  refine fm_ob h (fun g3 h => ?_)
  refine fm_lt_h h (fun u4 eu4 h => ?_)
  refine ev_iastore (pc := 559) (fe_127 rfl) t_225 g3 eu4 ?_
  refine ev_aload_n (pc := 560) (fe_127 rfl) rfl ?_
  refine ev_iload_n (pc := 561) (fe_127 rfl) rfl ?_
  refine fm_bd h (fun p5 ep5 h => ?_)
  refine ev_callVk (pc := 562) (fe_127 rfl) (z := 107) (na := 2) (ow := 10) cg_127_135 rfl rfl rfl t_223 (m := 0) rfl (jK107 ep5) (st1 := []) rfl ?_
  refine ev_iconst (pc := 565) (fe_127 rfl) li_1 ?_
  exact ev_R (ev_zrt (pc := 566) (fe_127 rfl) rt_127 (Or.inr rfl)) (by rw [← Option.some.inj h])
theorem jK127_533 {X : Nat × (Nat → Int32)} {r : Int32 × fm} (x1 : Int32) (x2 : Int32) (x8 : Int32) (u : fm) (b_x8 : x8 = 0 ∨ x8 = 1) (h : jF127_533 x1 x2 x8 u = some r) : ev X 127 533 [some (.inr (.inl (some 223))), some (.inl x1), some (.inl x2), none, none, none, none, none, some (.inl x8), none] [] u ([.inl r.1], r.2) := by
  unfold jF127_533 at h
  refine ev_iconst (pc := 533) (fe_127 rfl) li_0 ?_
  exact jK127_534 x1 x2 x8 0 u (b_x8) (Or.inl rfl) h
theorem jK127_469 {X : Nat × (Nat → Int32)} {r : Int32 × fm} (x1 : Int32) (x2 : Int32) (s0 : Int32) (u : fm) (b_s0 : s0 = 0 ∨ s0 = 1) (h : jF127_469 x1 x2 s0 u = some r) : ev X 127 469 [some (.inr (.inl (some 223))), some (.inl x1), some (.inl x2), none, none, none, none, none, none, none] [.inl s0] u ([.inl r.1], r.2) := by
  unfold jF127_469 at h
  refine ev_istore (pc := 469) (fe_127 rfl) mx_127 rfl ?_
  refine ev_aload_n (pc := 471) (fe_127 rfl) rfl ?_
  refine ev_getR (a1 := 251) (pc := 472) (fe_127 rfl) fr_137 t_223 rfl ?_
  refine ev_bipush (pc := 475) (fe_127 rfl) lb_11 ?_
  refine ev_ialoadk (pc := 477) (fe_127 rfl) t_251 (by decide) rfl ?_
  refine ev_iconst (pc := 478) (fe_127 rfl) li_2 ?_
  refine ev_ic_ne (pc := 479) (fe_127 rfl) (t := 533) rfl h (fun h => ?_) (fun h => ?_)
  exact jK127_533 x1 x2 s0 u (b_s0) h
  refine ev_aload_n (pc := 482) (fe_127 rfl) rfl ?_
  refine ev_getR (a1 := 251) (pc := 483) (fe_127 rfl) fr_137 t_223 rfl ?_
  refine ev_iconst (pc := 486) (fe_127 rfl) li_4 ?_
  refine ev_ialoadk (pc := 487) (fe_127 rfl) t_251 (by decide) rfl ?_
  refine ev_aload_n (pc := 488) (fe_127 rfl) rfl ?_
  refine ev_getR (a1 := 230) (pc := 489) (fe_127 rfl) fr_116 t_223 rfl ?_
  refine ev_iload_n (pc := 492) (fe_127 rfl) rfl ?_
  refine fm_ob h (fun g6 h => ?_)
  refine ev_iaload (pc := 493) (fe_127 rfl) t_230 g6 ?_
  refine ev_ic_ne (pc := 494) (fe_127 rfl) (t := 533) rfl h (fun h => ?_) (fun h => ?_)
  exact jK127_533 x1 x2 s0 u (b_s0) h
  refine ev_aload_n (pc := 497) (fe_127 rfl) rfl ?_
  refine ev_getR (a1 := 251) (pc := 498) (fe_127 rfl) fr_137 t_223 rfl ?_
  refine ev_bipush (pc := 501) (fe_127 rfl) lb_9 ?_
  refine ev_ialoadk (pc := 503) (fe_127 rfl) t_251 (by decide) rfl ?_
  refine ev_aload_n (pc := 504) (fe_127 rfl) rfl ?_
  refine ev_getR (a1 := 228) (pc := 505) (fe_127 rfl) fr_114 t_223 rfl ?_
  refine ev_iload_n (pc := 508) (fe_127 rfl) rfl ?_
  refine ev_iaload (pc := 509) (fe_127 rfl) t_228 g6 ?_
  refine ev_ic_ne (pc := 510) (fe_127 rfl) (t := 533) rfl h (fun h => ?_) (fun h => ?_)
  exact jK127_533 x1 x2 s0 u (b_s0) h
  refine ev_aload_n (pc := 513) (fe_127 rfl) rfl ?_
  refine ev_getR (a1 := 251) (pc := 514) (fe_127 rfl) fr_137 t_223 rfl ?_
  refine ev_bipush (pc := 517) (fe_127 rfl) lb_10 ?_
  refine ev_ialoadk (pc := 519) (fe_127 rfl) t_251 (by decide) rfl ?_
  refine ev_aload_n (pc := 520) (fe_127 rfl) rfl ?_
  refine ev_getR (a1 := 229) (pc := 521) (fe_127 rfl) fr_115 t_223 rfl ?_
  refine ev_iload_n (pc := 524) (fe_127 rfl) rfl ?_
  refine ev_iaload (pc := 525) (fe_127 rfl) t_229 g6 ?_
  refine ev_ic_ne (pc := 526) (fe_127 rfl) (t := 533) rfl h (fun h => ?_) (fun h => ?_)
  exact jK127_533 x1 x2 s0 u (b_s0) h
  refine ev_iconst (pc := 529) (fe_127 rfl) li_1 ?_
  refine ev_goto (pc := 530) (fe_127 rfl) (t := 534) rfl ?_
  exact jK127_534 x1 x2 s0 1 u (b_s0) (Or.inr rfl) h
theorem jK127_464 {X : Nat × (Nat → Int32)} {r : Int32 × fm} (x1 : Int32) (x2 : Int32) (u : fm) (h : jF127_464 x1 x2 u = some r) : ev X 127 464 [some (.inr (.inl (some 223))), some (.inl x1), some (.inl x2), none, none, none, none, none, none, none] [] u ([.inl r.1], r.2) := by
  unfold jF127_464 at h
  refine ev_iconst (pc := 464) (fe_127 rfl) li_1 ?_
  refine ev_goto (pc := 465) (fe_127 rfl) (t := 469) rfl ?_
  exact jK127_469 x1 x2 1 u (Or.inr rfl) h
theorem jK127_443 {X : Nat × (Nat → Int32)} {r : Int32 × fm} (x1 : Int32) (x2 : Int32) (u : fm) (h : jF127_443 x1 x2 u = some r) : ev X 127 443 [some (.inr (.inl (some 223))), some (.inl x1), some (.inl x2), none, none, none, none, none, none, none] [] u ([.inl r.1], r.2) := by
  unfold jF127_443 at h
  refine ev_aload_n (pc := 443) (fe_127 rfl) rfl ?_
  refine ev_getR (a1 := 251) (pc := 444) (fe_127 rfl) fr_137 t_223 rfl ?_
  refine ev_iconst (pc := 447) (fe_127 rfl) li_0 ?_
  refine ev_ialoadk (pc := 448) (fe_127 rfl) t_251 (by decide) rfl ?_
  refine ev_iconst (pc := 449) (fe_127 rfl) li_4 ?_
  refine ev_ic_eq (pc := 450) (fe_127 rfl) (t := 464) rfl h (fun h => ?_) (fun h => ?_)
  exact jK127_464 x1 x2 u h
  refine ev_aload_n (pc := 453) (fe_127 rfl) rfl ?_
  refine ev_getR (a1 := 251) (pc := 454) (fe_127 rfl) fr_137 t_223 rfl ?_
  refine ev_iconst (pc := 457) (fe_127 rfl) li_0 ?_
  refine ev_ialoadk (pc := 458) (fe_127 rfl) t_251 (by decide) rfl ?_
  refine ev_bipush (pc := 459) (fe_127 rfl) lb_6 ?_
  refine ev_ic_ne (pc := 461) (fe_127 rfl) (t := 468) rfl h (fun h => ?_) (fun h => ?_)
  refine ev_iconst (pc := 468) (fe_127 rfl) li_0 ?_
  exact jK127_469 x1 x2 0 u (Or.inl rfl) h
  exact jK127_464 x1 x2 u h
theorem jK127_400 {X : Nat × (Nat → Int32)} {r : Int32 × fm} (x1 : Int32) (x2 : Int32) (x7 : Int32) (u : fm) (b_x7 : x7 = 0 ∨ x7 = 1) (h : jF127_400 x1 x2 x7 u = some r) : ev X 127 400 [some (.inr (.inl (some 223))), some (.inl x1), some (.inl x2), none, none, none, none, some (.inl x7), none, none] [] u ([.inl r.1], r.2) := by
  unfold jF127_400 at h
  refine ev_aload_n (pc := 400) (fe_127 rfl) rfl ?_
  refine ev_getR (a1 := 251) (pc := 401) (fe_127 rfl) fr_137 t_223 rfl ?_
  refine ev_iconst (pc := 404) (fe_127 rfl) li_0 ?_
  refine ev_ialoadk (pc := 405) (fe_127 rfl) t_251 (by decide) rfl ?_
  refine ev_iconst (pc := 406) (fe_127 rfl) li_5 ?_
  refine ev_ic_ne (pc := 407) (fe_127 rfl) (t := 443) rfl h (fun h => ?_) (fun h => ?_)
  refine ev_w [true, true, true, true, true, true, true, false, true, true] ?_
  exact jK127_443 x1 x2 u h
  refine ev_iload (pc := 410) (fe_127 rfl) rfl ?_
  refine ev_if_eq (pc := 412) (fe_127 rfl) (t := 443) rfl h (fun h => ?_) (fun h => ?_)
  refine ev_w [true, true, true, true, true, true, true, false, true, true] ?_
  exact jK127_443 x1 x2 u h
  refine ev_iload_n (pc := 415) (fe_127 rfl) rfl ?_
  refine ev_iconst (pc := 416) (fe_127 rfl) li_4 ?_
  refine ev_ic_ne (pc := 417) (fe_127 rfl) (t := 443) rfl h (fun h => ?_) (fun h => ?_)
  refine ev_w [true, true, true, true, true, true, true, false, true, true] ?_
  exact jK127_443 x1 x2 u h
  refine ev_aload_n (pc := 420) (fe_127 rfl) rfl ?_
  refine ev_getR (a1 := 242) (pc := 421) (fe_127 rfl) fr_128 t_223 rfl ?_
  refine ev_iload_n (pc := 424) (fe_127 rfl) rfl ?_
  refine fm_ob h (fun g7 h => ?_)
  refine ev_baload (pc := 425) (fe_127 rfl) t_242 g7 ?_
  refine ev_if_eq (pc := 426) (fe_127 rfl) (t := 443) rfl h (fun h => ?_) (fun h => ?_)
  refine ev_w [true, true, true, true, true, true, true, false, true, true] ?_
  exact jK127_443 x1 x2 u h
  refine ev_aload_n (pc := 429) (fe_127 rfl) rfl ?_
  refine ev_aload_n (pc := 430) (fe_127 rfl) rfl ?_
  refine ev_getR (a1 := 245) (pc := 431) (fe_127 rfl) fr_131 t_223 rfl ?_
  refine ev_bipush (pc := 434) (fe_127 rfl) lb_50 ?_
  refine ev_iload_n (pc := 436) (fe_127 rfl) rfl ?_
  refine ev_imul (pc := 437) (fe_127 rfl) ?_
  refine fm_bd h (fun p8 ep8 h => ?_)
  refine ev_callVk (pc := 438) (fe_127 rfl) (z := 109) (na := 3) (ow := 10) cg_127_143 rfl rfl rfl t_223 (m := 1) rfl (jK109 t_245 ep8) (st1 := []) rfl ?_
  refine ev_iconst (pc := 441) (fe_127 rfl) li_1 ?_
  exact ev_R (ev_zrt (pc := 442) (fe_127 rfl) rt_127 (Or.inr rfl)) (by rw [← Option.some.inj h])
theorem jK127_349 {X : Nat × (Nat → Int32)} {r : Int32 × fm} (x1 : Int32) (x2 : Int32) (x3 : Int32) (x7 : Int32) (u : fm) (b_x3 : x3 = 0 ∨ x3 = 1) (b_x7 : x7 = 0 ∨ x7 = 1) (h : jF127_349 x1 x2 x3 x7 u = some r) : ev X 127 349 [some (.inr (.inl (some 223))), some (.inl x1), some (.inl x2), some (.inl x3), none, none, none, some (.inl x7), none, none] [] u ([.inl r.1], r.2) := by
  unfold jF127_349 at h
  refine ev_aload_n (pc := 349) (fe_127 rfl) rfl ?_
  refine ev_getR (a1 := 251) (pc := 350) (fe_127 rfl) fr_137 t_223 rfl ?_
  refine ev_iconst (pc := 353) (fe_127 rfl) li_0 ?_
  refine ev_ialoadk (pc := 354) (fe_127 rfl) t_251 (by decide) rfl ?_
  refine ev_iconst (pc := 355) (fe_127 rfl) li_5 ?_
  refine ev_ic_ne (pc := 356) (fe_127 rfl) (t := 400) rfl h (fun h => ?_) (fun h => ?_)
  refine ev_w [true, true, true, false, true, true, true, true, true, true] ?_
  exact jK127_400 x1 x2 x7 u (b_x7) h
  refine ev_iload (pc := 359) (fe_127 rfl) rfl ?_
  refine ev_if_eq (pc := 361) (fe_127 rfl) (t := 400) rfl h (fun h => ?_) (fun h => ?_)
  refine ev_w [true, true, true, false, true, true, true, true, true, true] ?_
  exact jK127_400 x1 x2 x7 u (b_x7) h
  refine ev_iload_n (pc := 364) (fe_127 rfl) rfl ?_
  refine ev_if_eq (pc := 365) (fe_127 rfl) (t := 400) rfl h (fun h => ?_) (fun h => ?_)
  refine ev_w [true, true, true, false, true, true, true, true, true, true] ?_
  exact jK127_400 x1 x2 x7 u (b_x7) h
  refine ev_aload_n (pc := 368) (fe_127 rfl) rfl ?_
  refine ev_getR (a1 := 225) (pc := 369) (fe_127 rfl) fr_111 t_223 rfl ?_
  refine ev_iload_n (pc := 372) (fe_127 rfl) rfl ?_
  refine ev_iconst (pc := 373) (fe_127 rfl) li_4 ?_
  refine fm_ob h (fun g9 h => ?_)
  refine fm_lt_h h (fun u10 eu10 h => ?_)
  refine ev_iastore (pc := 374) (fe_127 rfl) t_225 g9 eu10 ?_
  refine ev_aload_n (pc := 375) (fe_127 rfl) rfl ?_
  refine ev_iload_n (pc := 376) (fe_127 rfl) rfl ?_
  refine fm_bd h (fun p11 ep11 h => ?_)
  refine ev_callVk (pc := 377) (fe_127 rfl) (z := 107) (na := 2) (ow := 10) cg_127_135 rfl rfl rfl t_223 (m := 0) rfl (jK107 ep11) (st1 := []) rfl ?_
  refine ev_aload_n (pc := 380) (fe_127 rfl) rfl ?_
  refine ev_iload_n (pc := 381) (fe_127 rfl) rfl ?_
  refine ev_aload_n (pc := 382) (fe_127 rfl) rfl ?_
  refine ev_getR (a1 := 241) (pc := 383) (fe_127 rfl) fr_127 t_223 rfl ?_
  refine ev_iload_n (pc := 386) (fe_127 rfl) rfl ?_
  refine ev_iaload (pc := 387) (fe_127 rfl) t_241 g9 ?_
  refine ev_aload_n (pc := 388) (fe_127 rfl) rfl ?_
  refine ev_getR (a1 := 251) (pc := 389) (fe_127 rfl) fr_137 t_223 rfl ?_
  refine ev_bipush (pc := 392) (fe_127 rfl) lb_8 ?_
  refine ev_ialoadk (pc := 394) (fe_127 rfl) t_251 (by decide) rfl ?_
  refine fm_bd h (fun p12 ep12 h => ?_)
  refine ev_callVk (pc := 395) (fe_127 rfl) (z := 126) (na := 4) (ow := 10) cg_127_151 rfl rfl rfl t_223 (m := 1) rfl (jK126 ep12) (st1 := []) rfl ?_
  refine ev_iconst (pc := 398) (fe_127 rfl) li_1 ?_
  exact ev_R (ev_zrt (pc := 399) (fe_127 rfl) rt_127 (Or.inr rfl)) (by rw [← Option.some.inj h])
theorem jK127_290 {X : Nat × (Nat → Int32)} {r : Int32 × fm} (x1 : Int32) (x2 : Int32) (x3 : Int32) (x6 : Int32) (x7 : Int32) (u : fm) (b_x3 : x3 = 0 ∨ x3 = 1) (b_x6 : x6 = 0 ∨ x6 = 1) (b_x7 : x7 = 0 ∨ x7 = 1) (h : jF127_290 x1 x2 x3 x6 x7 u = some r) : ev X 127 290 [some (.inr (.inl (some 223))), some (.inl x1), some (.inl x2), some (.inl x3), none, none, some (.inl x6), some (.inl x7), none, none] [] u ([.inl r.1], r.2) := by
  unfold jF127_290 at h
  refine ev_aload_n (pc := 290) (fe_127 rfl) rfl ?_
  refine ev_getR (a1 := 251) (pc := 291) (fe_127 rfl) fr_137 t_223 rfl ?_
  refine ev_iconst (pc := 294) (fe_127 rfl) li_0 ?_
  refine ev_ialoadk (pc := 295) (fe_127 rfl) t_251 (by decide) rfl ?_
  refine ev_iconst (pc := 296) (fe_127 rfl) li_4 ?_
  refine ev_ic_ne (pc := 297) (fe_127 rfl) (t := 349) rfl h (fun h => ?_) (fun h => ?_)
  refine ev_w [true, true, true, true, true, true, false, true, true, true] ?_
  exact jK127_349 x1 x2 x3 x7 u (b_x3) (b_x7) h
  refine ev_iload (pc := 300) (fe_127 rfl) rfl ?_
  refine ev_if_eq (pc := 302) (fe_127 rfl) (t := 349) rfl h (fun h => ?_) (fun h => ?_)
  refine ev_w [true, true, true, true, true, true, false, true, true, true] ?_
  exact jK127_349 x1 x2 x3 x7 u (b_x3) (b_x7) h
  refine ev_iload_n (pc := 305) (fe_127 rfl) rfl ?_
  refine ev_iconst (pc := 306) (fe_127 rfl) li_3 ?_
  refine ev_ic_ne (pc := 307) (fe_127 rfl) (t := 349) rfl h (fun h => ?_) (fun h => ?_)
  refine ev_w [true, true, true, true, true, true, false, true, true, true] ?_
  exact jK127_349 x1 x2 x3 x7 u (b_x3) (b_x7) h
  refine ev_aload_n (pc := 310) (fe_127 rfl) rfl ?_
  refine ev_getR (a1 := 239) (pc := 311) (fe_127 rfl) fr_125 t_223 rfl ?_
  refine ev_iload_n (pc := 314) (fe_127 rfl) rfl ?_
  refine fm_ob h (fun g13 h => ?_)
  refine ev_baload (pc := 315) (fe_127 rfl) t_239 g13 ?_
  refine ev_if_eq (pc := 316) (fe_127 rfl) (t := 349) rfl h (fun h => ?_) (fun h => ?_)
  refine ev_w [true, true, true, true, true, true, false, true, true, true] ?_
  exact jK127_349 x1 x2 x3 x7 u (b_x3) (b_x7) h
  refine ev_aload_n (pc := 319) (fe_127 rfl) rfl ?_
  refine ev_getR (a1 := 251) (pc := 320) (fe_127 rfl) fr_137 t_223 rfl ?_
  refine ev_bipush (pc := 323) (fe_127 rfl) lb_8 ?_
  refine ev_ialoadk (pc := 325) (fe_127 rfl) t_251 (by decide) rfl ?_
  refine ev_aload_n (pc := 326) (fe_127 rfl) rfl ?_
  refine ev_getR (a1 := 227) (pc := 327) (fe_127 rfl) fr_113 t_223 rfl ?_
  refine ev_iload_n (pc := 330) (fe_127 rfl) rfl ?_
  refine ev_iaload (pc := 331) (fe_127 rfl) t_227 g13 ?_
  refine ev_ic_ne (pc := 332) (fe_127 rfl) (t := 349) rfl h (fun h => ?_) (fun h => ?_)
  refine ev_w [true, true, true, true, true, true, false, true, true, true] ?_
  exact jK127_349 x1 x2 x3 x7 u (b_x3) (b_x7) h
  refine ev_aload_n (pc := 335) (fe_127 rfl) rfl ?_
  refine ev_aload_n (pc := 336) (fe_127 rfl) rfl ?_
  refine ev_getR (a1 := 245) (pc := 337) (fe_127 rfl) fr_131 t_223 rfl ?_
  refine ev_bipush (pc := 340) (fe_127 rfl) lb_50 ?_
  refine ev_iload_n (pc := 342) (fe_127 rfl) rfl ?_
  refine ev_imul (pc := 343) (fe_127 rfl) ?_
  refine fm_bd h (fun p14 ep14 h => ?_)
  refine ev_callVk (pc := 344) (fe_127 rfl) (z := 109) (na := 3) (ow := 10) cg_127_143 rfl rfl rfl t_223 (m := 1) rfl (jK109 t_245 ep14) (st1 := []) rfl ?_
  refine ev_iconst (pc := 347) (fe_127 rfl) li_1 ?_
  exact ev_R (ev_zrt (pc := 348) (fe_127 rfl) rt_127 (Or.inr rfl)) (by rw [← Option.some.inj h])
theorem jK127_219 {X : Nat × (Nat → Int32)} {r : Int32 × fm} (x1 : Int32) (x2 : Int32) (x3 : Int32) (x6 : Int32) (x7 : Int32) (u : fm) (b_x3 : x3 = 0 ∨ x3 = 1) (b_x6 : x6 = 0 ∨ x6 = 1) (b_x7 : x7 = 0 ∨ x7 = 1) (h : jF127_219 x1 x2 x3 x6 x7 u = some r) : ev X 127 219 [some (.inr (.inl (some 223))), some (.inl x1), some (.inl x2), some (.inl x3), none, none, some (.inl x6), some (.inl x7), none, none] [] u ([.inl r.1], r.2) := by
  unfold jF127_219 at h
  refine ev_aload_n (pc := 219) (fe_127 rfl) rfl ?_
  refine ev_getR (a1 := 251) (pc := 220) (fe_127 rfl) fr_137 t_223 rfl ?_
  refine ev_iconst (pc := 223) (fe_127 rfl) li_0 ?_
  refine ev_ialoadk (pc := 224) (fe_127 rfl) t_251 (by decide) rfl ?_
  refine ev_iconst (pc := 225) (fe_127 rfl) li_4 ?_
  refine ev_ic_ne (pc := 226) (fe_127 rfl) (t := 290) rfl h (fun h => ?_) (fun h => ?_)
  exact jK127_290 x1 x2 x3 x6 x7 u (b_x3) (b_x6) (b_x7) h
  refine ev_iload (pc := 229) (fe_127 rfl) rfl ?_
  refine ev_if_eq (pc := 231) (fe_127 rfl) (t := 290) rfl h (fun h => ?_) (fun h => ?_)
  exact jK127_290 x1 x2 x3 x6 x7 u (b_x3) (b_x6) (b_x7) h
  refine ev_iload_n (pc := 234) (fe_127 rfl) rfl ?_
  refine ev_if_eq (pc := 235) (fe_127 rfl) (t := 290) rfl h (fun h => ?_) (fun h => ?_)
  exact jK127_290 x1 x2 x3 x6 x7 u (b_x3) (b_x6) (b_x7) h
  refine ev_aload_n (pc := 238) (fe_127 rfl) rfl ?_
  refine ev_getR (a1 := 227) (pc := 239) (fe_127 rfl) fr_113 t_223 rfl ?_
  refine ev_iload_n (pc := 242) (fe_127 rfl) rfl ?_
  refine ev_aload_n (pc := 243) (fe_127 rfl) rfl ?_
  refine ev_getR (a1 := 251) (pc := 244) (fe_127 rfl) fr_137 t_223 rfl ?_
  refine ev_bipush (pc := 247) (fe_127 rfl) lb_8 ?_
  refine ev_ialoadk (pc := 249) (fe_127 rfl) t_251 (by decide) rfl ?_
  refine fm_ob h (fun g15 h => ?_)
  refine fm_lt_h h (fun u16 eu16 h => ?_)
  refine ev_iastore (pc := 250) (fe_127 rfl) t_227 g15 eu16 ?_
  refine ev_aload_n (pc := 251) (fe_127 rfl) rfl ?_
  refine ev_iload_n (pc := 252) (fe_127 rfl) rfl ?_
  refine ev_aload_n (pc := 253) (fe_127 rfl) rfl ?_
  refine ev_getR (a1 := 251) (pc := 254) (fe_127 rfl) fr_137 t_223 rfl ?_
  refine fm_bd h (fun p17 ep17 h => ?_)
  refine ev_callVk (pc := 257) (fe_127 rfl) (z := 118) (na := 3) (ow := 10) cg_127_146 rfl rfl rfl t_223 (m := 1) rfl (jK118 t_251 ep17) (st1 := []) rfl ?_
  refine ev_aload_n (pc := 260) (fe_127 rfl) rfl ?_
  refine ev_getR (a1 := 225) (pc := 261) (fe_127 rfl) fr_111 t_223 rfl ?_
  refine ev_iload_n (pc := 264) (fe_127 rfl) rfl ?_
  refine ev_iconst (pc := 265) (fe_127 rfl) li_3 ?_
  refine fm_lt_h h (fun u18 eu18 h => ?_)
  refine ev_iastore (pc := 266) (fe_127 rfl) t_225 g15 eu18 ?_
  refine ev_aload_n (pc := 267) (fe_127 rfl) rfl ?_
  refine ev_iload_n (pc := 268) (fe_127 rfl) rfl ?_
  refine fm_bd h (fun p19 ep19 h => ?_)
  refine ev_callVk (pc := 269) (fe_127 rfl) (z := 107) (na := 2) (ow := 10) cg_127_135 rfl rfl rfl t_223 (m := 0) rfl (jK107 ep19) (st1 := []) rfl ?_
  refine ev_aload_n (pc := 272) (fe_127 rfl) rfl ?_
  refine ev_iload_n (pc := 273) (fe_127 rfl) rfl ?_
  refine ev_aload_n (pc := 274) (fe_127 rfl) rfl ?_
  refine ev_iload_n (pc := 275) (fe_127 rfl) rfl ?_
  refine fm_bd h (fun p20 ep20 h => ?_)
  refine ev_callVk (pc := 276) (fe_127 rfl) (z := 112) (na := 2) (ow := 10) cg_127_140 rfl rfl rfl t_223 (m := 0) rfl (jK112 ep20) (st1 := [.inl p20.1, .inl x1, .inr (.inl (some 223))]) rfl ?_
  refine ev_aload_n (pc := 279) (fe_127 rfl) rfl ?_
  refine ev_getR (a1 := 227) (pc := 280) (fe_127 rfl) fr_113 t_223 rfl ?_
  refine ev_iload_n (pc := 283) (fe_127 rfl) rfl ?_
  refine ev_iaload (pc := 284) (fe_127 rfl) t_227 g15 ?_
  refine fm_bd h (fun p21 ep21 h => ?_)
  refine ev_callVk (pc := 285) (fe_127 rfl) (z := 126) (na := 4) (ow := 10) cg_127_151 rfl rfl rfl t_223 (m := 1) rfl (jK126 ep21) (st1 := []) rfl ?_
  refine ev_iconst (pc := 288) (fe_127 rfl) li_1 ?_
  exact ev_R (ev_zrt (pc := 289) (fe_127 rfl) rt_127 (Or.inr rfl)) (by rw [← Option.some.inj h])
theorem jK127_183 {X : Nat × (Nat → Int32)} {r : Int32 × fm} (x1 : Int32) (x2 : Int32) (x3 : Int32) (x6 : Int32) (s0 : Int32) (u : fm) (b_x3 : x3 = 0 ∨ x3 = 1) (b_x6 : x6 = 0 ∨ x6 = 1) (b_s0 : s0 = 0 ∨ s0 = 1) (h : jF127_183 x1 x2 x3 x6 s0 u = some r) : ev X 127 183 [some (.inr (.inl (some 223))), some (.inl x1), some (.inl x2), some (.inl x3), none, none, some (.inl x6), none, none, none] [.inl s0] u ([.inl r.1], r.2) := by
  unfold jF127_183 at h
  refine ev_istore (pc := 183) (fe_127 rfl) mx_127 rfl ?_
  refine ev_aload_n (pc := 185) (fe_127 rfl) rfl ?_
  refine ev_getR (a1 := 251) (pc := 186) (fe_127 rfl) fr_137 t_223 rfl ?_
  refine ev_iconst (pc := 189) (fe_127 rfl) li_0 ?_
  refine ev_ialoadk (pc := 190) (fe_127 rfl) t_251 (by decide) rfl ?_
  refine ev_iconst (pc := 191) (fe_127 rfl) li_3 ?_
  refine ev_ic_ne (pc := 192) (fe_127 rfl) (t := 219) rfl h (fun h => ?_) (fun h => ?_)
  exact jK127_219 x1 x2 x3 x6 s0 u (b_x3) (b_x6) (b_s0) h
  refine ev_iload_n (pc := 195) (fe_127 rfl) rfl ?_
  refine ev_iconst (pc := 196) (fe_127 rfl) li_1 ?_
  refine ev_ic_ne (pc := 197) (fe_127 rfl) (t := 219) rfl h (fun h => ?_) (fun h => ?_)
  exact jK127_219 x1 x2 x3 x6 s0 u (b_x3) (b_x6) (b_s0) h
  refine ev_iload (pc := 200) (fe_127 rfl) rfl ?_
  refine ev_if_eq (pc := 202) (fe_127 rfl) (t := 219) rfl h (fun h => ?_) (fun h => ?_)
  exact jK127_219 x1 x2 x3 x6 s0 u (b_x3) (b_x6) (b_s0) h
  refine ev_aload_n (pc := 205) (fe_127 rfl) rfl ?_
  refine ev_getR (a1 := 225) (pc := 206) (fe_127 rfl) fr_111 t_223 rfl ?_
  refine ev_iload_n (pc := 209) (fe_127 rfl) rfl ?_
  refine ev_iconst (pc := 210) (fe_127 rfl) li_2 ?_
  refine fm_ob h (fun g22 h => ?_)
  refine fm_lt_h h (fun u23 eu23 h => ?_)
  refine ev_iastore (pc := 211) (fe_127 rfl) t_225 g22 eu23 ?_
  refine ev_aload_n (pc := 212) (fe_127 rfl) rfl ?_
  refine ev_iload_n (pc := 213) (fe_127 rfl) rfl ?_
  refine fm_bd h (fun p24 ep24 h => ?_)
  refine ev_callVk (pc := 214) (fe_127 rfl) (z := 107) (na := 2) (ow := 10) cg_127_135 rfl rfl rfl t_223 (m := 0) rfl (jK107 ep24) (st1 := []) rfl ?_
  refine ev_iconst (pc := 217) (fe_127 rfl) li_1 ?_
  exact ev_R (ev_zrt (pc := 218) (fe_127 rfl) rt_127 (Or.inr rfl)) (by rw [← Option.some.inj h])
theorem jK127_182 {X : Nat × (Nat → Int32)} {r : Int32 × fm} (x1 : Int32) (x2 : Int32) (x3 : Int32) (x6 : Int32) (u : fm) (b_x3 : x3 = 0 ∨ x3 = 1) (b_x6 : x6 = 0 ∨ x6 = 1) (h : jF127_182 x1 x2 x3 x6 u = some r) : ev X 127 182 [some (.inr (.inl (some 223))), some (.inl x1), some (.inl x2), some (.inl x3), none, none, some (.inl x6), none, none, none] [] u ([.inl r.1], r.2) := by
  unfold jF127_182 at h
  refine ev_iconst (pc := 182) (fe_127 rfl) li_0 ?_
  exact jK127_183 x1 x2 x3 x6 0 u (b_x3) (b_x6) (Or.inl rfl) h
theorem jK127_156 {X : Nat × (Nat → Int32)} {r : Int32 × fm} (x1 : Int32) (x2 : Int32) (x3 : Int32) (x5 : Int32) (s0 : Int32) (u : fm) (b_x3 : x3 = 0 ∨ x3 = 1) (b_x5 : x5 = 0 ∨ x5 = 1) (b_s0 : s0 = 0 ∨ s0 = 1) (h : jF127_156 x1 x2 x3 x5 s0 u = some r) : ev X 127 156 [some (.inr (.inl (some 223))), some (.inl x1), some (.inl x2), some (.inl x3), none, some (.inl x5), none, none, none, none] [.inl s0] u ([.inl r.1], r.2) := by
  unfold jF127_156 at h
  refine ev_istore (pc := 156) (fe_127 rfl) mx_127 rfl ?_
  refine ev_iload (pc := 158) (fe_127 rfl) rfl ?_
  refine ev_if_eq (pc := 160) (fe_127 rfl) (t := 182) rfl h (fun h => ?_) (fun h => ?_)
  refine ev_w [true, true, true, true, true, false, true, true, true, true] ?_
  exact jK127_182 x1 x2 x3 s0 u (b_x3) (b_s0) h
  refine ev_aload_n (pc := 163) (fe_127 rfl) rfl ?_
  refine ev_getR (a1 := 251) (pc := 164) (fe_127 rfl) fr_137 t_223 rfl ?_
  refine ev_iconst (pc := 167) (fe_127 rfl) li_4 ?_
  refine ev_ialoadk (pc := 168) (fe_127 rfl) t_251 (by decide) rfl ?_
  refine ev_aload_n (pc := 169) (fe_127 rfl) rfl ?_
  refine ev_getR (a1 := 241) (pc := 170) (fe_127 rfl) fr_127 t_223 rfl ?_
  refine ev_iload_n (pc := 173) (fe_127 rfl) rfl ?_
  refine fm_ob h (fun g25 h => ?_)
  refine ev_iaload (pc := 174) (fe_127 rfl) t_241 g25 ?_
  refine ev_ic_ne (pc := 175) (fe_127 rfl) (t := 182) rfl h (fun h => ?_) (fun h => ?_)
  refine ev_w [true, true, true, true, true, false, true, true, true, true] ?_
  exact jK127_182 x1 x2 x3 s0 u (b_x3) (b_s0) h
  refine ev_iconst (pc := 178) (fe_127 rfl) li_1 ?_
  refine ev_goto (pc := 179) (fe_127 rfl) (t := 183) rfl ?_
  refine ev_w [true, true, true, true, true, false, true, true, true, true] ?_
  exact jK127_183 x1 x2 x3 s0 1 u (b_x3) (b_s0) (Or.inr rfl) h
theorem jK127_155 {X : Nat × (Nat → Int32)} {r : Int32 × fm} (x1 : Int32) (x2 : Int32) (x3 : Int32) (x5 : Int32) (u : fm) (b_x3 : x3 = 0 ∨ x3 = 1) (b_x5 : x5 = 0 ∨ x5 = 1) (h : jF127_155 x1 x2 x3 x5 u = some r) : ev X 127 155 [some (.inr (.inl (some 223))), some (.inl x1), some (.inl x2), some (.inl x3), none, some (.inl x5), none, none, none, none] [] u ([.inl r.1], r.2) := by
  unfold jF127_155 at h
  refine ev_iconst (pc := 155) (fe_127 rfl) li_0 ?_
  exact jK127_156 x1 x2 x3 x5 0 u (b_x3) (b_x5) (Or.inl rfl) h
theorem jK127_133 {X : Nat × (Nat → Int32)} {r : Int32 × fm} (x1 : Int32) (x2 : Int32) (x3 : Int32) (s0 : Int32) (u : fm) (b_x3 : x3 = 0 ∨ x3 = 1) (b_s0 : s0 = 0 ∨ s0 = 1) (h : jF127_133 x1 x2 x3 s0 u = some r) : ev X 127 133 [some (.inr (.inl (some 223))), some (.inl x1), some (.inl x2), some (.inl x3), none, none, none, none, none, none] [.inl s0] u ([.inl r.1], r.2) := by
  unfold jF127_133 at h
  refine ev_istore (pc := 133) (fe_127 rfl) mx_127 rfl ?_
  refine ev_iload (pc := 135) (fe_127 rfl) rfl ?_
  refine ev_if_eq (pc := 137) (fe_127 rfl) (t := 155) rfl h (fun h => ?_) (fun h => ?_)
  exact jK127_155 x1 x2 x3 s0 u (b_x3) (b_s0) h
  refine ev_aload_n (pc := 140) (fe_127 rfl) rfl ?_
  refine ev_getR (a1 := 251) (pc := 141) (fe_127 rfl) fr_137 t_223 rfl ?_
  refine ev_bipush (pc := 144) (fe_127 rfl) lb_8 ?_
  refine ev_ialoadk (pc := 146) (fe_127 rfl) t_251 (by decide) rfl ?_
  refine ev_iconst (pc := 147) (fe_127 rfl) li_m1 ?_
  refine ev_ic_eq (pc := 148) (fe_127 rfl) (t := 155) rfl h (fun h => ?_) (fun h => ?_)
  exact jK127_155 x1 x2 x3 s0 u (b_x3) (b_s0) h
  refine ev_iconst (pc := 151) (fe_127 rfl) li_1 ?_
  refine ev_goto (pc := 152) (fe_127 rfl) (t := 156) rfl ?_
  exact jK127_156 x1 x2 x3 s0 1 u (b_x3) (b_s0) (Or.inr rfl) h
theorem jK127_132 {X : Nat × (Nat → Int32)} {r : Int32 × fm} (x1 : Int32) (x2 : Int32) (x3 : Int32) (u : fm) (b_x3 : x3 = 0 ∨ x3 = 1) (h : jF127_132 x1 x2 x3 u = some r) : ev X 127 132 [some (.inr (.inl (some 223))), some (.inl x1), some (.inl x2), some (.inl x3), none, none, none, none, none, none] [] u ([.inl r.1], r.2) := by
  unfold jF127_132 at h
  refine ev_iconst (pc := 132) (fe_127 rfl) li_0 ?_
  exact jK127_133 x1 x2 x3 0 u (b_x3) (Or.inl rfl) h
theorem jK127_111 {X : Nat × (Nat → Int32)} {r : Int32 × fm} (x1 : Int32) (x2 : Int32) (x3 : Int32) (s0 : Int32) (u : fm) (b_x3 : x3 = 0 ∨ x3 = 1) (b_s0 : s0 = 0 ∨ s0 = 1) (h : jF127_111 x1 x2 x3 s0 u = some r) : ev X 127 111 [some (.inr (.inl (some 223))), some (.inl x1), some (.inl x2), some (.inl x3), none, none, none, none, none, none] [.inl s0] u ([.inl r.1], r.2) := by
  unfold jF127_111 at h
  refine ev_istore (pc := 111) (fe_127 rfl) mx_127 rfl ?_
  refine ev_iload (pc := 113) (fe_127 rfl) rfl ?_
  refine ev_if_eq (pc := 115) (fe_127 rfl) (t := 132) rfl h (fun h => ?_) (fun h => ?_)
  refine ev_w [true, true, true, true, false, true, true, true, true, true] ?_
  exact jK127_132 x1 x2 x3 u (b_x3) h
  refine ev_aload_n (pc := 118) (fe_127 rfl) rfl ?_
  refine ev_getR (a1 := 251) (pc := 119) (fe_127 rfl) fr_137 t_223 rfl ?_
  refine ev_bipush (pc := 122) (fe_127 rfl) lb_11 ?_
  refine ev_ialoadk (pc := 124) (fe_127 rfl) t_251 (by decide) rfl ?_
  refine ev_if_ne (pc := 125) (fe_127 rfl) (t := 132) rfl h (fun h => ?_) (fun h => ?_)
  refine ev_w [true, true, true, true, false, true, true, true, true, true] ?_
  exact jK127_132 x1 x2 x3 u (b_x3) h
  refine ev_iconst (pc := 128) (fe_127 rfl) li_1 ?_
  refine ev_goto (pc := 129) (fe_127 rfl) (t := 133) rfl ?_
  refine ev_w [true, true, true, true, false, true, true, true, true, true] ?_
  exact jK127_133 x1 x2 x3 1 u (b_x3) (Or.inr rfl) h
theorem jK127_110 {X : Nat × (Nat → Int32)} {r : Int32 × fm} (x1 : Int32) (x2 : Int32) (x3 : Int32) (u : fm) (b_x3 : x3 = 0 ∨ x3 = 1) (h : jF127_110 x1 x2 x3 u = some r) : ev X 127 110 [some (.inr (.inl (some 223))), some (.inl x1), some (.inl x2), some (.inl x3), none, none, none, none, none, none] [] u ([.inl r.1], r.2) := by
  unfold jF127_110 at h
  refine ev_iconst (pc := 110) (fe_127 rfl) li_0 ?_
  exact jK127_111 x1 x2 x3 0 u (b_x3) (Or.inl rfl) h
theorem jK127_57 {X : Nat × (Nat → Int32)} {r : Int32 × fm} (x1 : Int32) (x2 : Int32) (s0 : Int32) (u : fm) (b_s0 : s0 = 0 ∨ s0 = 1) (h : jF127_57 x1 x2 s0 u = some r) : ev X 127 57 [some (.inr (.inl (some 223))), some (.inl x1), some (.inl x2), none, none, none, none, none, none, none] [.inl s0] u ([.inl r.1], r.2) := by
  unfold jF127_57 at h
  refine ev_istore_n (pc := 57) (fe_127 rfl) mx_127 rfl ?_
  refine ev_aload_n (pc := 58) (fe_127 rfl) rfl ?_
  refine ev_getR (a1 := 251) (pc := 59) (fe_127 rfl) fr_137 t_223 rfl ?_
  refine ev_bipush (pc := 62) (fe_127 rfl) lb_9 ?_
  refine ev_ialoadk (pc := 64) (fe_127 rfl) t_251 (by decide) rfl ?_
  refine ev_aload_n (pc := 65) (fe_127 rfl) rfl ?_
  refine ev_getR (a1 := 228) (pc := 66) (fe_127 rfl) fr_114 t_223 rfl ?_
  refine ev_iload_n (pc := 69) (fe_127 rfl) rfl ?_
  refine fm_ob h (fun g2 h => ?_)
  refine ev_iaload (pc := 70) (fe_127 rfl) t_228 g2 ?_
  refine ev_ic_ne (pc := 71) (fe_127 rfl) (t := 110) rfl h (fun h => ?_) (fun h => ?_)
  exact jK127_110 x1 x2 s0 u (b_s0) h
  refine ev_aload_n (pc := 74) (fe_127 rfl) rfl ?_
  refine ev_getR (a1 := 251) (pc := 75) (fe_127 rfl) fr_137 t_223 rfl ?_
  refine ev_bipush (pc := 78) (fe_127 rfl) lb_10 ?_
  refine ev_ialoadk (pc := 80) (fe_127 rfl) t_251 (by decide) rfl ?_
  refine ev_aload_n (pc := 81) (fe_127 rfl) rfl ?_
  refine ev_getR (a1 := 240) (pc := 82) (fe_127 rfl) fr_126 t_223 rfl ?_
  refine ev_iload_n (pc := 85) (fe_127 rfl) rfl ?_
  refine ev_iaload (pc := 86) (fe_127 rfl) t_240 g2 ?_
  refine ev_ic_ne (pc := 87) (fe_127 rfl) (t := 110) rfl h (fun h => ?_) (fun h => ?_)
  exact jK127_110 x1 x2 s0 u (b_s0) h
  refine ev_aload_n (pc := 90) (fe_127 rfl) rfl ?_
  refine ev_getR (a1 := 251) (pc := 91) (fe_127 rfl) fr_137 t_223 rfl ?_
  refine ev_bipush (pc := 94) (fe_127 rfl) lb_6 ?_
  refine ev_ialoadk (pc := 96) (fe_127 rfl) t_251 (by decide) rfl ?_
  refine ev_aload_n (pc := 97) (fe_127 rfl) rfl ?_
  refine ev_getR (a1 := 226) (pc := 98) (fe_127 rfl) fr_112 t_223 rfl ?_
  refine ev_iload_n (pc := 101) (fe_127 rfl) rfl ?_
  refine ev_iaload (pc := 102) (fe_127 rfl) t_226 g2 ?_
  refine ev_ic_ne (pc := 103) (fe_127 rfl) (t := 110) rfl h (fun h => ?_) (fun h => ?_)
  exact jK127_110 x1 x2 s0 u (b_s0) h
  refine ev_iconst (pc := 106) (fe_127 rfl) li_1 ?_
  refine ev_goto (pc := 107) (fe_127 rfl) (t := 111) rfl ?_
  exact jK127_111 x1 x2 s0 1 u (b_s0) (Or.inr rfl) h
theorem jK127_52 {X : Nat × (Nat → Int32)} {r : Int32 × fm} (x1 : Int32) (x2 : Int32) (u : fm) (h : jF127_52 x1 x2 u = some r) : ev X 127 52 [some (.inr (.inl (some 223))), some (.inl x1), some (.inl x2), none, none, none, none, none, none, none] [] u ([.inl r.1], r.2) := by
  unfold jF127_52 at h
  refine ev_iconst (pc := 52) (fe_127 rfl) li_1 ?_
  refine ev_goto (pc := 53) (fe_127 rfl) (t := 57) rfl ?_
  exact jK127_57 x1 x2 1 u (Or.inr rfl) h
theorem jK127 {X : Nat × (Nat → Int32)} {x1 : Int32} {u : fm} {r : Int32 × fm} (h : jF127 x1 u = some r) : ev X 127 0 [some (.inr (.inl (some 223))), some (.inl x1), none, none, none, none, none, none, none, none] [] u ([.inl r.1], r.2) := by
  unfold jF127 at h
  refine ev_aload_n (pc := 0) (fe_127 rfl) rfl ?_
  refine ev_getR (a1 := 251) (pc := 1) (fe_127 rfl) fr_137 t_223 rfl ?_
  refine ev_iconst (pc := 4) (fe_127 rfl) li_3 ?_
  refine ev_ialoadk (pc := 5) (fe_127 rfl) t_251 (by decide) rfl ?_
  refine ev_iload_n (pc := 6) (fe_127 rfl) rfl ?_
  refine ev_ic_ne (pc := 7) (fe_127 rfl) (t := 33) rfl h (fun h => ?_) (fun h => ?_)
  refine ev_iconst (pc := 33) (fe_127 rfl) li_0 ?_
  exact ev_R (ev_zrt (pc := 34) (fe_127 rfl) rt_127 (Or.inl rfl)) (by rw [← Option.some.inj h])
  refine ev_aload_n (pc := 10) (fe_127 rfl) rfl ?_
  refine ev_getR (a1 := 251) (pc := 11) (fe_127 rfl) fr_137 t_223 rfl ?_
  refine ev_iconst (pc := 14) (fe_127 rfl) li_5 ?_
  refine ev_ialoadk (pc := 15) (fe_127 rfl) t_251 (by decide) rfl ?_
  refine ev_iload_n (pc := 16) (fe_127 rfl) rfl ?_
  refine ev_ic_ne (pc := 17) (fe_127 rfl) (t := 33) rfl h (fun h => ?_) (fun h => ?_)
  refine ev_iconst (pc := 33) (fe_127 rfl) li_0 ?_
  exact ev_R (ev_zrt (pc := 34) (fe_127 rfl) rt_127 (Or.inl rfl)) (by rw [← Option.some.inj h])
  refine ev_aload_n (pc := 20) (fe_127 rfl) rfl ?_
  refine ev_getR (a1 := 251) (pc := 21) (fe_127 rfl) fr_137 t_223 rfl ?_
  refine ev_bipush (pc := 24) (fe_127 rfl) lb_7 ?_
  refine ev_ialoadk (pc := 26) (fe_127 rfl) t_251 (by decide) rfl ?_
  refine ev_iconst (pc := 27) (fe_127 rfl) li_1 ?_
  refine ev_iload_n (pc := 28) (fe_127 rfl) rfl ?_
  refine ev_isub (pc := 29) (fe_127 rfl) ?_
  refine ev_ic_eq (pc := 30) (fe_127 rfl) (t := 35) rfl h (fun h => ?_) (fun h => ?_)
  refine ev_aload_n (pc := 35) (fe_127 rfl) rfl ?_
  refine ev_getR (a1 := 225) (pc := 36) (fe_127 rfl) fr_111 t_223 rfl ?_
  refine ev_iload_n (pc := 39) (fe_127 rfl) rfl ?_
  refine fm_ob h (fun g1 h => ?_)
  refine ev_iaload (pc := 40) (fe_127 rfl) t_225 g1 ?_
  refine ev_istore_n (pc := 41) (fe_127 rfl) mx_127 rfl ?_
  refine ev_iload_n (pc := 42) (fe_127 rfl) rfl ?_
  refine ev_iconst (pc := 43) (fe_127 rfl) li_1 ?_
  refine ev_ic_eq (pc := 44) (fe_127 rfl) (t := 52) rfl h (fun h => ?_) (fun h => ?_)
  exact jK127_52 x1 (fA u 225 (Int32.toNatClampNeg x1)) u h
  refine ev_iload_n (pc := 47) (fe_127 rfl) rfl ?_
  refine ev_iconst (pc := 48) (fe_127 rfl) li_2 ?_
  refine ev_ic_ne (pc := 49) (fe_127 rfl) (t := 56) rfl h (fun h => ?_) (fun h => ?_)
  refine ev_iconst (pc := 56) (fe_127 rfl) li_0 ?_
  exact jK127_57 x1 (fA u 225 (Int32.toNatClampNeg x1)) 0 u (Or.inl rfl) h
  exact jK127_52 x1 (fA u 225 (Int32.toNatClampNeg x1)) u h
  refine ev_iconst (pc := 33) (fe_127 rfl) li_0 ?_
  exact ev_R (ev_zrt (pc := 34) (fe_127 rfl) rt_127 (Or.inl rfl)) (by rw [← Option.some.inj h])
/-- CallAgentsModel come -/
def jF123 (x1 : Int32) (u : fm) : Option (fm) :=
  if (fA u 251 0) < 3 then
  (Option.bind (jF124 x1 u) (fun p5 => if p5.1 = 0 then
  (if fm_in x1 2 then fm_let (sA p5.2 235 (Int32.toNatClampNeg x1) ((fA p5.2 235 (Int32.toNatClampNeg x1)) + 1)) (fun u8 => some u8) else none)
  else
  (some p5.2)))
  else
  (Option.bind (jF127 x1 u) (fun p1 => if p1.1 = 0 then
  (if fm_in x1 2 then fm_let (sA p1.2 235 (Int32.toNatClampNeg x1) ((fA p1.2 235 (Int32.toNatClampNeg x1)) + 1)) (fun u4 => some u4) else none)
  else
  (some p1.2)))
theorem jK123 {X : Nat × (Nat → Int32)} {x1 : Int32} {u : fm} {r : fm} (h : jF123 x1 u = some r) : ev X 123 0 [some (.inr (.inl (some 223))), some (.inl x1), none] [] u ([], r) := by
  unfold jF123 at h
  refine ev_aload_n (pc := 0) (fe_123 rfl) rfl ?_
  refine ev_getR (a1 := 251) (pc := 1) (fe_123 rfl) fr_137 t_223 rfl ?_
  refine ev_iconst (pc := 4) (fe_123 rfl) li_0 ?_
  refine ev_ialoadk (pc := 5) (fe_123 rfl) t_251 (by decide) rfl ?_
  refine ev_iconst (pc := 6) (fe_123 rfl) li_3 ?_
  refine ev_ic_ge (pc := 7) (fe_123 rfl) (t := 18) rfl h (fun h => ?_) (fun h => ?_)
  refine ev_aload_n (pc := 18) (fe_123 rfl) rfl ?_
  refine ev_iload_n (pc := 19) (fe_123 rfl) rfl ?_
  refine fm_bd h (fun p1 ep1 h => ?_)
  refine ev_callVZk (pc := 20) (fe_123 rfl) (z := 127) (na := 2) (ow := 10) cg_123_148 rfl rt_127 rfl rfl t_223 (m := 8) rfl (jK127 ep1) (st1 := [.inl p1.1]) rfl (fun z2 => ?_)
  refine ev_istore_n (pc := 23) (fe_123 rfl) mx_123 rfl ?_
  refine ev_iload_n (pc := 24) (fe_123 rfl) rfl ?_
  refine ev_if_ne (pc := 25) (fe_123 rfl) (t := 38) rfl h (fun h => ?_) (fun h => ?_)
  exact ev_R (ev_vrt (pc := 38) (fe_123 rfl) rt_123) (by rw [← Option.some.inj h])
  refine ev_aload_n (pc := 28) (fe_123 rfl) rfl ?_
  refine ev_getR (a1 := 235) (pc := 29) (fe_123 rfl) fr_121 t_223 rfl ?_
  refine ev_iload_n (pc := 32) (fe_123 rfl) rfl ?_
  refine ev_dup2 (pc := 33) (fe_123 rfl) rfl rfl ?_
  refine fm_ob h (fun g3 h => ?_)
  refine ev_iaload (pc := 34) (fe_123 rfl) t_235 g3 ?_
  refine ev_iconst (pc := 35) (fe_123 rfl) li_1 ?_
  refine ev_iadd (pc := 36) (fe_123 rfl) ?_
  refine fm_lt_h h (fun u4 eu4 h => ?_)
  refine ev_iastore (pc := 37) (fe_123 rfl) t_235 g3 eu4 ?_
  exact ev_R (ev_vrt (pc := 38) (fe_123 rfl) rt_123) (by rw [← Option.some.inj h])
  refine ev_aload_n (pc := 10) (fe_123 rfl) rfl ?_
  refine ev_iload_n (pc := 11) (fe_123 rfl) rfl ?_
  refine fm_bd h (fun p5 ep5 h => ?_)
  refine ev_callVZk (pc := 12) (fe_123 rfl) (z := 124) (na := 2) (ow := 10) cg_123_147 rfl rt_124 rfl rfl t_223 (m := 2) rfl (jK124 ep5) (st1 := [.inl p5.1]) rfl (fun z6 => ?_)
  refine ev_goto (pc := 15) (fe_123 rfl) (t := 23) rfl ?_
  refine ev_istore_n (pc := 23) (fe_123 rfl) mx_123 rfl ?_
  refine ev_iload_n (pc := 24) (fe_123 rfl) rfl ?_
  refine ev_if_ne (pc := 25) (fe_123 rfl) (t := 38) rfl h (fun h => ?_) (fun h => ?_)
  exact ev_R (ev_vrt (pc := 38) (fe_123 rfl) rt_123) (by rw [← Option.some.inj h])
  refine ev_aload_n (pc := 28) (fe_123 rfl) rfl ?_
  refine ev_getR (a1 := 235) (pc := 29) (fe_123 rfl) fr_121 t_223 rfl ?_
  refine ev_iload_n (pc := 32) (fe_123 rfl) rfl ?_
  refine ev_dup2 (pc := 33) (fe_123 rfl) rfl rfl ?_
  refine fm_ob h (fun g7 h => ?_)
  refine ev_iaload (pc := 34) (fe_123 rfl) t_235 g7 ?_
  refine ev_iconst (pc := 35) (fe_123 rfl) li_1 ?_
  refine ev_iadd (pc := 36) (fe_123 rfl) ?_
  refine fm_lt_h h (fun u8 eu8 h => ?_)
  refine ev_iastore (pc := 37) (fe_123 rfl) t_235 g7 eu8 ?_
  exact ev_R (ev_vrt (pc := 38) (fe_123 rfl) rt_123) (by rw [← Option.some.inj h])
/-- CallAgentsModel take -/
def jF128_2 : Nat → Int32 → Int32 → fm → Option (fm)
  | 0, _, _, _ => none
  | n + 1, x1, x2, u =>
  if x2 < 50 then
  (if fm_in ((50 * x1) + x2) 3050 then if fm_in x2 50 then fm_let (sA u 251 (Int32.toNatClampNeg x2) (fA u 224 (Int32.toNatClampNeg ((50 * x1) + x2)))) (fun u3 => jF128_2 n x1 (x2 + 1) u3) else none else none)
  else
  (some u)
def jF128 (x1 : Int32) (u : fm) : Option (fm) :=
  jF128_2 fm_N x1 0 u
theorem jK128_2 {X : Nat × (Nat → Int32)} {r : fm} : ∀ (n : Nat) (x1 : Int32) (x2 : Int32) (u : fm), jF128_2 n x1 x2 u = some r → ev X 128 2 [some (.inr (.inl (some 223))), some (.inl x1), some (.inl x2)] [] u ([], r) := by
  intro n
  induction n with
  | zero =>
    intro _ _ _ h
    unfold jF128_2 at h
    cases h
  | succ n ih =>
  intro x1 x2 u h
  unfold jF128_2 at h
  refine ev_iload_n (pc := 2) (fe_128 rfl) rfl ?_
  refine ev_bipush (pc := 3) (fe_128 rfl) lb_50 ?_
  refine ev_ic_ge (pc := 5) (fe_128 rfl) (t := 31) rfl h (fun h => ?_) (fun h => ?_)
  exact ev_R (ev_vrt (pc := 31) (fe_128 rfl) rt_128) (by rw [← Option.some.inj h])
  refine ev_aload_n (pc := 8) (fe_128 rfl) rfl ?_
  refine ev_getR (a1 := 251) (pc := 9) (fe_128 rfl) fr_137 t_223 rfl ?_
  refine ev_iload_n (pc := 12) (fe_128 rfl) rfl ?_
  refine ev_aload_n (pc := 13) (fe_128 rfl) rfl ?_
  refine ev_getR (a1 := 224) (pc := 14) (fe_128 rfl) fr_110 t_223 rfl ?_
  refine ev_bipush (pc := 17) (fe_128 rfl) lb_50 ?_
  refine ev_iload_n (pc := 19) (fe_128 rfl) rfl ?_
  refine ev_imul (pc := 20) (fe_128 rfl) ?_
  refine ev_iload_n (pc := 21) (fe_128 rfl) rfl ?_
  refine ev_iadd (pc := 22) (fe_128 rfl) ?_
  refine fm_ob h (fun g1 h => ?_)
  refine ev_iaload (pc := 23) (fe_128 rfl) t_224 g1 ?_
  refine fm_ob h (fun g2 h => ?_)
  refine fm_lt_h h (fun u3 eu3 h => ?_)
  refine ev_iastore (pc := 24) (fe_128 rfl) t_251 g2 eu3 ?_
  refine ev_iinc (pc := 25) (fe_128 rfl) mx_128 rfl rfl li_1 ?_
  refine ev_goto (pc := 28) (fe_128 rfl) (t := 2) rfl ?_
  exact ih x1 (x2 + 1) u3 h
theorem jK128 {X : Nat × (Nat → Int32)} {x1 : Int32} {u : fm} {r : fm} (h : jF128 x1 u = some r) : ev X 128 0 [some (.inr (.inl (some 223))), some (.inl x1), none] [] u ([], r) := by
  unfold jF128 at h
  refine ev_iconst (pc := 0) (fe_128 rfl) li_0 ?_
  refine ev_istore_n (pc := 1) (fe_128 rfl) mx_128 rfl ?_
  exact jK128_2 fm_N x1 0 u h
/-- CallAgentsModel flies -/
def jF129 (x1 : Int32) (u : fm) : Int32 :=
  if x1 < 0 then
  (0)
  else
  (if x1 < (fI u 223 1) then
  (1)
  else
  (0))
theorem jK129 {X : Nat × (Nat → Int32)} {x1 : Int32} {u : fm} {r : Int32} (h : jF129 x1 u = r) : ev X 129 0 [some (.inr (.inl (some 223))), some (.inl x1)] [] u ([.inl r], u) := by
  unfold jF129 at h
  refine ev_iload_n (pc := 0) (fe_129 rfl) rfl ?_
  refine ev_if_lt (pc := 1) (fe_129 rfl) (t := 16) rfl h (fun h => ?_) (fun h => ?_)
  refine ev_iconst (pc := 16) (fe_129 rfl) li_0 ?_
  exact ev_R (ev_zrt (pc := 17) (fe_129 rfl) rt_129 (Or.inl rfl)) (by rw [← h])
  refine ev_iload_n (pc := 4) (fe_129 rfl) rfl ?_
  refine ev_aload_n (pc := 5) (fe_129 rfl) rfl ?_
  refine ev_getI (pc := 6) (fe_129 rfl) fr_143 t_223 ?_
  refine ev_ic_ge (pc := 9) (fe_129 rfl) (t := 16) rfl h (fun h => ?_) (fun h => ?_)
  refine ev_iconst (pc := 16) (fe_129 rfl) li_0 ?_
  exact ev_R (ev_zrt (pc := 17) (fe_129 rfl) rt_129 (Or.inl rfl)) (by rw [← h])
  refine ev_iconst (pc := 12) (fe_129 rfl) li_1 ?_
  refine ev_goto (pc := 13) (fe_129 rfl) (t := 17) rfl ?_
  exact ev_R (ev_zrt (pc := 17) (fe_129 rfl) rt_129 (Or.inr rfl)) (by rw [← h])
/-- CallAgentsModel bring -/
def jF130 (x1 : Int32) (u : fm) : Option (Int32 × fm) :=
  if (jF129 x1 u) = 0 then
  (some ((-1), u))
  else
  (Option.bind (jF128 x1 u) (fun p2 => Option.bind (jF110 x1 p2) (fun p3 => Option.bind (jF123 (fA p3 251 1) p3) (fun p4 => some (fI p4 223 1, p4)))))
theorem jK130 {X : Nat × (Nat → Int32)} {x1 : Int32} {u : fm} {r : Int32 × fm} (h : jF130 x1 u = some r) : ev X 130 0 [some (.inr (.inl (some 223))), some (.inl x1)] [] u ([.inl r.1], r.2) := by
  unfold jF130 at h
  refine ev_aload_n (pc := 0) (fe_130 rfl) rfl ?_
  refine ev_iload_n (pc := 1) (fe_130 rfl) rfl ?_
  refine ev_callVZk (pc := 2) (fe_130 rfl) (z := 129) (na := 2) (ow := 10) cg_130_152 rfl rt_129 rfl rfl t_223 (m := 0) rfl (jK129 rfl) (st1 := [.inl (jF129 x1 u)]) rfl (fun z1 => ?_)
  refine ev_if_ne (pc := 5) (fe_130 rfl) (t := 10) rfl h (fun h => ?_) (fun h => ?_)
  refine ev_aload_n (pc := 10) (fe_130 rfl) rfl ?_
  refine ev_iload_n (pc := 11) (fe_130 rfl) rfl ?_
  refine fm_bd h (fun p2 ep2 h => ?_)
  refine ev_callVk (pc := 12) (fe_130 rfl) (z := 128) (na := 2) (ow := 10) cg_130_153 rfl rfl rfl t_223 (m := 1) rfl (jK128 ep2) (st1 := []) rfl ?_
  refine ev_aload_n (pc := 15) (fe_130 rfl) rfl ?_
  refine ev_iload_n (pc := 16) (fe_130 rfl) rfl ?_
  refine fm_bd h (fun p3 ep3 h => ?_)
  refine ev_callVk (pc := 17) (fe_130 rfl) (z := 110) (na := 2) (ow := 10) cg_130_136 rfl rfl rfl t_223 (m := 1) rfl (jK110 ep3) (st1 := []) rfl ?_
  refine ev_aload_n (pc := 20) (fe_130 rfl) rfl ?_
  refine ev_aload_n (pc := 21) (fe_130 rfl) rfl ?_
  refine ev_getR (a1 := 251) (pc := 22) (fe_130 rfl) fr_137 t_223 rfl ?_
  refine ev_iconst (pc := 25) (fe_130 rfl) li_1 ?_
  refine ev_ialoadk (pc := 26) (fe_130 rfl) t_251 (by decide) rfl ?_
  refine fm_bd h (fun p4 ep4 h => ?_)
  refine ev_callVk (pc := 27) (fe_130 rfl) (z := 123) (na := 2) (ow := 10) cg_130_154 rfl rfl rfl t_223 (m := 1) rfl (jK123 ep4) (st1 := []) rfl ?_
  refine ev_aload_n (pc := 30) (fe_130 rfl) rfl ?_
  refine ev_getI (pc := 31) (fe_130 rfl) fr_143 t_223 ?_
  exact ev_R (ev_irt (pc := 34) (fe_130 rfl) rt_130) (by rw [← Option.some.inj h])
  refine ev_iconst (pc := 8) (fe_130 rfl) li_m1 ?_
  exact ev_R (ev_irt (pc := 9) (fe_130 rfl) rt_130) (by rw [← Option.some.inj h])
/-- CallAgentsModel twice -/
def jF131 (x1 : Int32) (u : fm) : Option (Int32 × fm) :=
  if (jF129 x1 u) = 0 then
  (some ((-1), u))
  else
  (Option.bind (jF128 x1 u) (fun p2 => Option.bind (jF123 (fA p2 251 1) p2) (fun p3 => some (fI p3 223 1, p3))))
theorem jK131 {X : Nat × (Nat → Int32)} {x1 : Int32} {u : fm} {r : Int32 × fm} (h : jF131 x1 u = some r) : ev X 131 0 [some (.inr (.inl (some 223))), some (.inl x1)] [] u ([.inl r.1], r.2) := by
  unfold jF131 at h
  refine ev_aload_n (pc := 0) (fe_131 rfl) rfl ?_
  refine ev_iload_n (pc := 1) (fe_131 rfl) rfl ?_
  refine ev_callVZk (pc := 2) (fe_131 rfl) (z := 129) (na := 2) (ow := 10) cg_131_152 rfl rt_129 rfl rfl t_223 (m := 0) rfl (jK129 rfl) (st1 := [.inl (jF129 x1 u)]) rfl (fun z1 => ?_)
  refine ev_if_ne (pc := 5) (fe_131 rfl) (t := 10) rfl h (fun h => ?_) (fun h => ?_)
  refine ev_aload_n (pc := 10) (fe_131 rfl) rfl ?_
  refine ev_iload_n (pc := 11) (fe_131 rfl) rfl ?_
  refine fm_bd h (fun p2 ep2 h => ?_)
  refine ev_callVk (pc := 12) (fe_131 rfl) (z := 128) (na := 2) (ow := 10) cg_131_153 rfl rfl rfl t_223 (m := 1) rfl (jK128 ep2) (st1 := []) rfl ?_
  refine ev_aload_n (pc := 15) (fe_131 rfl) rfl ?_
  refine ev_aload_n (pc := 16) (fe_131 rfl) rfl ?_
  refine ev_getR (a1 := 251) (pc := 17) (fe_131 rfl) fr_137 t_223 rfl ?_
  refine ev_iconst (pc := 20) (fe_131 rfl) li_1 ?_
  refine ev_ialoadk (pc := 21) (fe_131 rfl) t_251 (by decide) rfl ?_
  refine fm_bd h (fun p3 ep3 h => ?_)
  refine ev_callVk (pc := 22) (fe_131 rfl) (z := 123) (na := 2) (ow := 10) cg_131_154 rfl rfl rfl t_223 (m := 1) rfl (jK123 ep3) (st1 := []) rfl ?_
  refine ev_aload_n (pc := 25) (fe_131 rfl) rfl ?_
  refine ev_getI (pc := 26) (fe_131 rfl) fr_143 t_223 ?_
  exact ev_R (ev_irt (pc := 29) (fe_131 rfl) rt_131) (by rw [← Option.some.inj h])
  refine ev_iconst (pc := 8) (fe_131 rfl) li_m1 ?_
  exact ev_R (ev_irt (pc := 9) (fe_131 rfl) rt_131) (by rw [← Option.some.inj h])
/-- CallAgentsModel lose -/
def jF132 (x1 : Int32) (u : fm) : Option (Int32 × fm) :=
  if (jF129 x1 u) = 0 then
  (some ((-1), u))
  else
  (Option.bind (jF110 x1 u) (fun p2 => some (fI p2 223 1, p2)))
theorem jK132 {X : Nat × (Nat → Int32)} {x1 : Int32} {u : fm} {r : Int32 × fm} (h : jF132 x1 u = some r) : ev X 132 0 [some (.inr (.inl (some 223))), some (.inl x1)] [] u ([.inl r.1], r.2) := by
  unfold jF132 at h
  refine ev_aload_n (pc := 0) (fe_132 rfl) rfl ?_
  refine ev_iload_n (pc := 1) (fe_132 rfl) rfl ?_
  refine ev_callVZk (pc := 2) (fe_132 rfl) (z := 129) (na := 2) (ow := 10) cg_132_152 rfl rt_129 rfl rfl t_223 (m := 0) rfl (jK129 rfl) (st1 := [.inl (jF129 x1 u)]) rfl (fun z1 => ?_)
  refine ev_if_ne (pc := 5) (fe_132 rfl) (t := 10) rfl h (fun h => ?_) (fun h => ?_)
  refine ev_aload_n (pc := 10) (fe_132 rfl) rfl ?_
  refine ev_iload_n (pc := 11) (fe_132 rfl) rfl ?_
  refine fm_bd h (fun p2 ep2 h => ?_)
  refine ev_callVk (pc := 12) (fe_132 rfl) (z := 110) (na := 2) (ow := 10) cg_132_136 rfl rfl rfl t_223 (m := 1) rfl (jK110 ep2) (st1 := []) rfl ?_
  refine ev_aload_n (pc := 15) (fe_132 rfl) rfl ?_
  refine ev_getI (pc := 16) (fe_132 rfl) fr_143 t_223 ?_
  exact ev_R (ev_irt (pc := 19) (fe_132 rfl) rt_132) (by rw [← Option.some.inj h])
  refine ev_iconst (pc := 8) (fe_132 rfl) li_m1 ?_
  exact ev_R (ev_irt (pc := 9) (fe_132 rfl) rt_132) (by rw [← Option.some.inj h])
/-- CallAgentsModel flying -/
def jF133 (u : fm) : Int32 :=
  fI u 223 1
theorem jK133 {X : Nat × (Nat → Int32)} {u : fm} {r : Int32} (h : jF133 u = r) : ev X 133 0 [some (.inr (.inl (some 223)))] [] u ([.inl r], u) := by
  unfold jF133 at h
  refine ev_aload_n (pc := 0) (fe_133 rfl) rfl ?_
  refine ev_getI (pc := 1) (fe_133 rfl) fr_143 t_223 ?_
  exact ev_R (ev_irt (pc := 4) (fe_133 rfl) rt_133) (by rw [← h])
/-- CallAgentsModel write -/
def jF134 (x1 : Int32) (u : fm) : Option (fm) :=
  if fm_in (fI u 223 37) 500 then fm_let (sA u 255 (Int32.toNatClampNeg (fI u 223 37)) x1) (fun u2 => fm_let (sI u2 223 37 ((fI u2 223 37) + 1)) (fun u3 => some u3)) else none
theorem jK134 {X : Nat × (Nat → Int32)} {x1 : Int32} {u : fm} {r : fm} (h : jF134 x1 u = some r) : ev X 134 0 [some (.inr (.inl (some 223))), some (.inl x1)] [] u ([], r) := by
  unfold jF134 at h
  refine ev_aload_n (pc := 0) (fe_134 rfl) rfl ?_
  refine ev_getR (a1 := 255) (pc := 1) (fe_134 rfl) fr_141 t_223 rfl ?_
  refine ev_aload_n (pc := 4) (fe_134 rfl) rfl ?_
  refine ev_getI (pc := 5) (fe_134 rfl) fr_144 t_223 ?_
  refine ev_iload_n (pc := 8) (fe_134 rfl) rfl ?_
  refine fm_ob h (fun g1 h => ?_)
  refine fm_lt_h h (fun u2 eu2 h => ?_)
  refine ev_iastore (pc := 9) (fe_134 rfl) t_255 g1 eu2 ?_
  refine ev_aload_n (pc := 10) (fe_134 rfl) rfl ?_
  refine ev_dup (pc := 11) (fe_134 rfl) rfl ?_
  refine ev_getI (pc := 12) (fe_134 rfl) fr_144 t_223 ?_
  refine ev_iconst (pc := 15) (fe_134 rfl) li_1 ?_
  refine ev_iadd (pc := 16) (fe_134 rfl) ?_
  refine fm_lt_h h (fun u3 eu3 h => ?_)
  refine ev_putI (pc := 17) (fe_134 rfl) fr_144 t_223 eu3 ?_
  exact ev_R (ev_vrt (pc := 20) (fe_134 rfl) rt_134) (by rw [← Option.some.inj h])
/-- CallAgentsModel writeNumber -/
def jF135_18 : Nat → Int32 → Int32 → fm → Option (fm)
  | 0, _, _, _ => none
  | n + 1, x1, x2, u =>
  if 0 < x2 then
  (if x2 = 0 then none else Option.bind (jF134 (48 + (fm_rem (x1 / x2) 10)) u) (fun p3 => jF135_18 n x1 (x2 / 10) p3))
  else
  (some u)
def jF135_2 : Nat → Int32 → Int32 → fm → Option (fm)
  | 0, _, _, _ => none
  | n + 1, x1, x2, u =>
  if x2 = 0 then none else if 9 < (x1 / x2) then
  (jF135_2 n x1 (x2 * 10) u)
  else
  (jF135_18 fm_N x1 x2 u)
def jF135 (x1 : Int32) (u : fm) : Option (fm) :=
  jF135_2 fm_N x1 1 u
theorem jK135_18 {X : Nat × (Nat → Int32)} {r : fm} : ∀ (n : Nat) (x1 : Int32) (x2 : Int32) (u : fm), jF135_18 n x1 x2 u = some r → ev X 135 18 [some (.inr (.inl (some 223))), some (.inl x1), some (.inl x2)] [] u ([], r) := by
  intro n
  induction n with
  | zero =>
    intro _ _ _ h
    unfold jF135_18 at h
    cases h
  | succ n ih =>
  intro x1 x2 u h
  unfold jF135_18 at h
  refine ev_iload_n (pc := 18) (fe_135 rfl) rfl ?_
  refine ev_if_le (pc := 19) (fe_135 rfl) (t := 43) rfl h (fun h => ?_) (fun h => ?_)
  exact ev_R (ev_vrt (pc := 43) (fe_135 rfl) rt_135) (by rw [← Option.some.inj h])
  refine ev_aload_n (pc := 22) (fe_135 rfl) rfl ?_
  refine ev_bipush (pc := 23) (fe_135 rfl) lb_48 ?_
  refine ev_iload_n (pc := 25) (fe_135 rfl) rfl ?_
  refine ev_iload_n (pc := 26) (fe_135 rfl) rfl ?_
  refine fm_nb h (fun g2 h => ?_)
  refine ev_idiv (pc := 27) (fe_135 rfl) g2 ?_
  refine ev_bipush (pc := 28) (fe_135 rfl) lb_10 ?_
  refine ev_irem (pc := 30) (fe_135 rfl) (by decide) ?_
  refine ev_iadd (pc := 31) (fe_135 rfl) ?_
  refine fm_bd h (fun p3 ep3 h => ?_)
  refine ev_callVk (pc := 32) (fe_135 rfl) (z := 134) (na := 2) (ow := 10) cg_135_155 rfl rfl rfl t_223 (m := 0) rfl (jK134 ep3) (st1 := []) rfl ?_
  refine ev_iload_n (pc := 35) (fe_135 rfl) rfl ?_
  refine ev_bipush (pc := 36) (fe_135 rfl) lb_10 ?_
  refine ev_idiv (pc := 38) (fe_135 rfl) (by decide) ?_
  refine ev_istore_n (pc := 39) (fe_135 rfl) mx_135 rfl ?_
  refine ev_goto (pc := 40) (fe_135 rfl) (t := 18) rfl ?_
  exact ih x1 (x2 / 10) p3 h
theorem jK135_2 {X : Nat × (Nat → Int32)} {r : fm} : ∀ (n : Nat) (x1 : Int32) (x2 : Int32) (u : fm), jF135_2 n x1 x2 u = some r → ev X 135 2 [some (.inr (.inl (some 223))), some (.inl x1), some (.inl x2)] [] u ([], r) := by
  intro n
  induction n with
  | zero =>
    intro _ _ _ h
    unfold jF135_2 at h
    cases h
  | succ n ih =>
  intro x1 x2 u h
  unfold jF135_2 at h
  refine ev_iload_n (pc := 2) (fe_135 rfl) rfl ?_
  refine ev_iload_n (pc := 3) (fe_135 rfl) rfl ?_
  refine fm_nb h (fun g1 h => ?_)
  refine ev_idiv (pc := 4) (fe_135 rfl) g1 ?_
  refine ev_bipush (pc := 5) (fe_135 rfl) lb_9 ?_
  refine ev_ic_le (pc := 7) (fe_135 rfl) (t := 18) rfl h (fun h => ?_) (fun h => ?_)
  exact jK135_18 fm_N x1 x2 u h
  refine ev_iload_n (pc := 10) (fe_135 rfl) rfl ?_
  refine ev_bipush (pc := 11) (fe_135 rfl) lb_10 ?_
  refine ev_imul (pc := 13) (fe_135 rfl) ?_
  refine ev_istore_n (pc := 14) (fe_135 rfl) mx_135 rfl ?_
  refine ev_goto (pc := 15) (fe_135 rfl) (t := 2) rfl ?_
  exact ih x1 (x2 * 10) u h
theorem jK135 {X : Nat × (Nat → Int32)} {x1 : Int32} {u : fm} {r : fm} (h : jF135 x1 u = some r) : ev X 135 0 [some (.inr (.inl (some 223))), some (.inl x1), none] [] u ([], r) := by
  unfold jF135 at h
  refine ev_iconst (pc := 0) (fe_135 rfl) li_1 ?_
  refine ev_istore_n (pc := 1) (fe_135 rfl) mx_135 rfl ?_
  exact jK135_2 fm_N x1 1 u h
