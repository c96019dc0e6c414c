set_option maxRecDepth 8000
/-- CallAgentsLaw law -/
def jF175_18 (X : Nat × (Nat → Int32)) : Nat → Int32 → fm → Option (Int32 × fm)
  | 0, _, _ => none
  | n + 1, x3, u =>
  if ((Int32.ofNat X.1) - 4) < x3 then
  (some (1, u))
  else
  (if fm_in x3 X.1 then if ((X.2 (Int32.toNatClampNeg x3)) &&& 15) = 0 then
  (if fm_in (x3 + 1) X.1 then if fm_in (x3 + 2) X.1 then if fm_in (x3 + 3) X.1 then Option.bind (jF86 (X.2 (Int32.toNatClampNeg (x3 + 1))) (X.2 (Int32.toNatClampNeg (x3 + 2))) (X.2 (Int32.toNatClampNeg (x3 + 3))) u) (fun p5 => Option.bind (jF115 (X.2 (Int32.toNatClampNeg (x3 + 1))) (X.2 (Int32.toNatClampNeg (x3 + 2))) (X.2 (Int32.toNatClampNeg (x3 + 3))) p5.2) (fun p6 => if p5.1 = p6.1 then
  (jF175_18 X n (x3 + 4) p6.2)
  else
  (some (0, p6.2)))) else none else none else none)
  else if ((X.2 (Int32.toNatClampNeg x3)) &&& 15) = 1 then
  (if fm_in (x3 + 1) X.1 then Option.bind (jF87 (X.2 (Int32.toNatClampNeg (x3 + 1))) u) (fun p8 => Option.bind (jF116 (X.2 (Int32.toNatClampNeg (x3 + 1))) p8.2) (fun p10 => jF175_18 X n (x3 + 4) p10.2)) else none)
  else if ((X.2 (Int32.toNatClampNeg x3)) &&& 15) = 2 then
  (if fm_in (x3 + 1) X.1 then Option.bind (jF88 (X.2 (Int32.toNatClampNeg (x3 + 1))) u) (fun p13 => Option.bind (jF120 (X.2 (Int32.toNatClampNeg (x3 + 1))) p13.2) (fun p15 => jF175_18 X n (x3 + 4) p15.2)) else none)
  else if ((X.2 (Int32.toNatClampNeg x3)) &&& 15) = 3 then
  (if fm_in (x3 + 1) X.1 then Option.bind (jF89 (X.2 (Int32.toNatClampNeg (x3 + 1))) u) (fun p18 => Option.bind (jF121 (X.2 (Int32.toNatClampNeg (x3 + 1))) p18.2) (fun p20 => jF175_18 X n (x3 + 4) p20.2)) else none)
  else if ((X.2 (Int32.toNatClampNeg x3)) &&& 15) = 4 then
  (if fm_in (x3 + 1) X.1 then Option.bind (jF90 (X.2 (Int32.toNatClampNeg (x3 + 1))) u) (fun p23 => Option.bind (jF122 (X.2 (Int32.toNatClampNeg (x3 + 1))) p23.2) (fun p25 => jF175_18 X n (x3 + 4) p25.2)) else none)
  else if ((X.2 (Int32.toNatClampNeg x3)) &&& 15) = 5 then
  (if fm_in (x3 + 1) X.1 then Option.bind (jF91 (X.2 (Int32.toNatClampNeg (x3 + 1))) u) (fun p28 => Option.bind (jF130 (X.2 (Int32.toNatClampNeg (x3 + 1))) p28.2) (fun p29 => jF175_18 X n (x3 + 4) p29.2)) else none)
  else if ((X.2 (Int32.toNatClampNeg x3)) &&& 15) = 6 then
  (if fm_in (x3 + 1) X.1 then Option.bind (jF92 (X.2 (Int32.toNatClampNeg (x3 + 1))) u) (fun p31 => Option.bind (jF131 (X.2 (Int32.toNatClampNeg (x3 + 1))) p31.2) (fun p32 => jF175_18 X n (x3 + 4) p32.2)) else none)
  else if ((X.2 (Int32.toNatClampNeg x3)) &&& 15) = 7 then
  (if fm_in (x3 + 1) X.1 then Option.bind (jF93 (X.2 (Int32.toNatClampNeg (x3 + 1))) u) (fun p34 => Option.bind (jF132 (X.2 (Int32.toNatClampNeg (x3 + 1))) p34.2) (fun p35 => jF175_18 X n (x3 + 4) p35.2)) else none)
  else if ((X.2 (Int32.toNatClampNeg x3)) &&& 15) = 8 then
  (jF175_18 X n (x3 + 4) u)
  else if ((X.2 (Int32.toNatClampNeg x3)) &&& 15) = 9 then
  (if fm_in (x3 + 1) X.1 then if fm_in (x3 + 2) X.1 then Option.bind (jF95 (X.2 (Int32.toNatClampNeg (x3 + 1))) (X.2 (Int32.toNatClampNeg (x3 + 2))) u) (fun p38 => Option.bind (jF155 (X.2 (Int32.toNatClampNeg (x3 + 1))) (X.2 (Int32.toNatClampNeg (x3 + 2))) p38.2) (fun p39 => jF175_18 X n (x3 + 4) p39.2)) else none else none)
  else if ((X.2 (Int32.toNatClampNeg x3)) &&& 15) = 10 then
  (if fm_in (x3 + 1) X.1 then Option.bind (jF96 (X.2 (Int32.toNatClampNeg (x3 + 1))) u) (fun p41 => Option.bind (jF156 (X.2 (Int32.toNatClampNeg (x3 + 1))) p41.2) (fun p43 => jF175_18 X n (x3 + 4) p43.2)) else none)
  else if ((X.2 (Int32.toNatClampNeg x3)) &&& 15) = 11 then
  (if fm_in (x3 + 1) X.1 then Option.bind (jF97 (X.2 (Int32.toNatClampNeg (x3 + 1))) u) (fun p46 => Option.bind (jF169 (X.2 (Int32.toNatClampNeg (x3 + 1))) p46.2) (fun p47 => jF175_18 X n (x3 + 4) p47.2)) else none)
  else if ((X.2 (Int32.toNatClampNeg x3)) &&& 15) = 12 then
  (if fm_in (x3 + 1) X.1 then Option.bind (jF98 (X.2 (Int32.toNatClampNeg (x3 + 1))) u) (fun p49 => Option.bind (jF172 (X.2 (Int32.toNatClampNeg (x3 + 1))) p49.2) (fun p50 => jF175_18 X n (x3 + 4) p50.2)) else none)
  else if ((X.2 (Int32.toNatClampNeg x3)) &&& 15) = 13 then
  (if fm_in (x3 + 1) X.1 then if fm_in (x3 + 2) X.1 then Option.bind (jF173 (X.2 (Int32.toNatClampNeg (x3 + 1))) (X.2 (Int32.toNatClampNeg (x3 + 2))) u) (fun p53 => jF175_18 X n (x3 + 4) u) else none else none)
  else if ((X.2 (Int32.toNatClampNeg x3)) &&& 15) = 14 then
  (if fm_in (x3 + 1) X.1 then if fm_in (x3 + 2) X.1 then if fm_in (x3 + 3) X.1 then Option.bind (jF100 (X.2 (Int32.toNatClampNeg (x3 + 1))) (X.2 (Int32.toNatClampNeg (x3 + 2))) (X.2 (Int32.toNatClampNeg (x3 + 3))) u) (fun p57 => Option.bind (jF174 (X.2 (Int32.toNatClampNeg (x3 + 1))) (X.2 (Int32.toNatClampNeg (x3 + 2))) (X.2 (Int32.toNatClampNeg (x3 + 3))) u) (fun p58 => jF175_18 X n (x3 + 4) u)) else none else none else none)
  else (jF175_18 X n (x3 + 4) u) else none)
def jF175 (X : Nat × (Nat → Int32)) (u : fm) : Option (Int32 × fm) :=
  jF175_18 X fm_N 0 u
theorem jK175_18 {X : Nat × (Nat → Int32)} {r : Int32 × fm} : ∀ (n : Nat) (x3 : Int32) (u : fm), jF175_18 X n x3 u = some r → ev X 175 18 [some (.inr (.inl (some mm_scr))), some (.inr (.inl (some 0))), some (.inr (.inl (some 223))), some (.inl x3)] [] u ([.inl r.1], r.2) := by
  intro n
  induction n with
  | zero =>
    intro _ _ h
    unfold jF175_18 at h
    cases h
  | succ n ih =>
  intro x3 u h
  unfold jF175_18 at h
  refine ev_iload_n (pc := 18) (fe_175 rfl) rfl ?_
  refine ev_aload_n (pc := 19) (fe_175 rfl) rfl ?_
  refine ev_slen (pc := 20) (fe_175 rfl) ?_
  refine ev_iconst (pc := 21) (fe_175 rfl) li_4 ?_
  refine ev_isub (pc := 22) (fe_175 rfl) ?_
  refine ev_ic_gt (pc := 23) (fe_175 rfl) (t := 509) rfl h (fun h => ?_) (fun h => ?_)
  refine ev_iconst (pc := 509) (fe_175 rfl) li_1 ?_
  exact ev_R (ev_zrt (pc := 510) (fe_175 rfl) rt_175 (Or.inr rfl)) (by rw [← Option.some.inj h])
  refine ev_aload_n (pc := 26) (fe_175 rfl) rfl ?_
  refine ev_iload_n (pc := 27) (fe_175 rfl) rfl ?_
  refine fm_ob h (fun g1 h => ?_)
  refine ev_sload (pc := 28) (fe_175 rfl) g1 ?_
  refine ev_bipush (pc := 29) (fe_175 rfl) lb_15 ?_
  refine ev_iand (pc := 31) (fe_175 rfl) ?_
  refine fm_sp h (fun w32_0 h => ?_) (fun w32_0 h => ?_)
  refine ev_swk (pc := 32) (fe_175 rfl) (c := 0) (by rw [w32_0]; decide) (by decide) rfl (t := 108) rfl ?_
  refine ev_aload_n (pc := 108) (fe_175 rfl) rfl ?_
  refine ev_aload_n (pc := 109) (fe_175 rfl) rfl ?_
  refine ev_iload_n (pc := 110) (fe_175 rfl) rfl ?_
  refine ev_iconst (pc := 111) (fe_175 rfl) li_1 ?_
  refine ev_iadd (pc := 112) (fe_175 rfl) ?_
  refine fm_ob h (fun g2 h => ?_)
  refine ev_sload (pc := 113) (fe_175 rfl) g2 ?_
  refine ev_aload_n (pc := 114) (fe_175 rfl) rfl ?_
  refine ev_iload_n (pc := 115) (fe_175 rfl) rfl ?_
  refine ev_iconst (pc := 116) (fe_175 rfl) li_2 ?_
  refine ev_iadd (pc := 117) (fe_175 rfl) ?_
  refine fm_ob h (fun g3 h => ?_)
  refine ev_sload (pc := 118) (fe_175 rfl) g3 ?_
  refine ev_aload_n (pc := 119) (fe_175 rfl) rfl ?_
  refine ev_iload_n (pc := 120) (fe_175 rfl) rfl ?_
  refine ev_iconst (pc := 121) (fe_175 rfl) li_3 ?_
  refine ev_iadd (pc := 122) (fe_175 rfl) ?_
  refine fm_ob h (fun g4 h => ?_)
  refine ev_sload (pc := 123) (fe_175 rfl) g4 ?_
  refine fm_bd h (fun p5 ep5 h => ?_)
  refine ev_callVk (pc := 124) (fe_175 rfl) (z := 86) (na := 4) (ow := 9) cg_175_192 rfl rfl rfl t_0 (m := 1) rfl (jK86 ep5) (st1 := [.inl p5.1]) rfl ?_
  refine ev_aload_n (pc := 127) (fe_175 rfl) rfl ?_
  refine ev_aload_n (pc := 128) (fe_175 rfl) rfl ?_
  refine ev_iload_n (pc := 129) (fe_175 rfl) rfl ?_
  refine ev_iconst (pc := 130) (fe_175 rfl) li_1 ?_
  refine ev_iadd (pc := 131) (fe_175 rfl) ?_
  refine ev_sload (pc := 132) (fe_175 rfl) g2 ?_
  refine ev_aload_n (pc := 133) (fe_175 rfl) rfl ?_
  refine ev_iload_n (pc := 134) (fe_175 rfl) rfl ?_
  refine ev_iconst (pc := 135) (fe_175 rfl) li_2 ?_
  refine ev_iadd (pc := 136) (fe_175 rfl) ?_
  refine ev_sload (pc := 137) (fe_175 rfl) g3 ?_
  refine ev_aload_n (pc := 138) (fe_175 rfl) rfl ?_
  refine ev_iload_n (pc := 139) (fe_175 rfl) rfl ?_
  refine ev_iconst (pc := 140) (fe_175 rfl) li_3 ?_
  refine ev_iadd (pc := 141) (fe_175 rfl) ?_
  refine ev_sload (pc := 142) (fe_175 rfl) g4 ?_
  refine fm_bd h (fun p6 ep6 h => ?_)
  refine ev_callVk (pc := 143) (fe_175 rfl) (z := 115) (na := 4) (ow := 10) cg_175_193 rfl rfl rfl t_223 (m := 1) rfl (jK115 ep6) (st1 := [.inl p6.1, .inl p5.1]) rfl ?_
  refine ev_ic_eq (pc := 146) (fe_175 rfl) (t := 503) rfl h (fun h => ?_) (fun h => ?_)
  refine ev_iinc (pc := 503) (fe_175 rfl) mx_175 rfl rfl li_4 ?_
  refine ev_goto (pc := 506) (fe_175 rfl) (t := 18) rfl ?_
  exact ih (x3 + 4) p6.2 h
  refine ev_iconst (pc := 149) (fe_175 rfl) li_0 ?_
  exact ev_R (ev_zrt (pc := 150) (fe_175 rfl) rt_175 (Or.inl rfl)) (by rw [← Option.some.inj h])
  refine fm_sp h (fun w32_1 h => ?_) (fun w32_1 h => ?_)
  refine ev_swk (pc := 32) (fe_175 rfl) (c := 1) (by rw [w32_1]; decide) (by decide) rfl (t := 151) rfl ?_
  refine ev_aload_n (pc := 151) (fe_175 rfl) rfl ?_
  refine ev_aload_n (pc := 152) (fe_175 rfl) rfl ?_
  refine ev_iload_n (pc := 153) (fe_175 rfl) rfl ?_
  refine ev_iconst (pc := 154) (fe_175 rfl) li_1 ?_
  refine ev_iadd (pc := 155) (fe_175 rfl) ?_
  refine fm_ob h (fun g7 h => ?_)
  refine ev_sload (pc := 156) (fe_175 rfl) g7 ?_
  refine fm_bd h (fun p8 ep8 h => ?_)
  refine ev_callVZk (pc := 157) (fe_175 rfl) (z := 87) (na := 2) (ow := 9) cg_175_194 rfl rt_87 rfl rfl t_0 (m := 1) rfl (jK87 ep8) (st1 := [.inl p8.1]) rfl (fun z9 => ?_)
  refine ev_pop (pc := 160) (fe_175 rfl) rfl ?_
  refine ev_aload_n (pc := 161) (fe_175 rfl) rfl ?_
  refine ev_aload_n (pc := 162) (fe_175 rfl) rfl ?_
  refine ev_iload_n (pc := 163) (fe_175 rfl) rfl ?_
  refine ev_iconst (pc := 164) (fe_175 rfl) li_1 ?_
  refine ev_iadd (pc := 165) (fe_175 rfl) ?_
  refine ev_sload (pc := 166) (fe_175 rfl) g7 ?_
  refine fm_bd h (fun p10 ep10 h => ?_)
  refine ev_callVZk (pc := 167) (fe_175 rfl) (z := 116) (na := 2) (ow := 10) cg_175_195 rfl rt_116 rfl rfl t_223 (m := 3) rfl (jK116 ep10) (st1 := [.inl p10.1]) rfl (fun z11 => ?_)
  refine ev_pop (pc := 170) (fe_175 rfl) rfl ?_
  refine ev_goto (pc := 171) (fe_175 rfl) (t := 503) rfl ?_
  refine ev_iinc (pc := 503) (fe_175 rfl) mx_175 rfl rfl li_4 ?_
  refine ev_goto (pc := 506) (fe_175 rfl) (t := 18) rfl ?_
  exact ih (x3 + 4) p10.2 h
  refine fm_sp h (fun w32_2 h => ?_) (fun w32_2 h => ?_)
  refine ev_swk (pc := 32) (fe_175 rfl) (c := 2) (by rw [w32_2]; decide) (by decide) rfl (t := 174) rfl ?_
  refine ev_aload_n (pc := 174) (fe_175 rfl) rfl ?_
  refine ev_aload_n (pc := 175) (fe_175 rfl) rfl ?_
  refine ev_iload_n (pc := 176) (fe_175 rfl) rfl ?_
  refine ev_iconst (pc := 177) (fe_175 rfl) li_1 ?_
  refine ev_iadd (pc := 178) (fe_175 rfl) ?_
  refine fm_ob h (fun g12 h => ?_)
  refine ev_sload (pc := 179) (fe_175 rfl) g12 ?_
  refine fm_bd h (fun p13 ep13 h => ?_)
  refine ev_callVZk (pc := 180) (fe_175 rfl) (z := 88) (na := 2) (ow := 9) cg_175_196 rfl rt_88 rfl rfl t_0 (m := 1) rfl (jK88 ep13) (st1 := [.inl p13.1]) rfl (fun z14 => ?_)
  refine ev_pop (pc := 183) (fe_175 rfl) rfl ?_
  refine ev_aload_n (pc := 184) (fe_175 rfl) rfl ?_
  refine ev_aload_n (pc := 185) (fe_175 rfl) rfl ?_
  refine ev_iload_n (pc := 186) (fe_175 rfl) rfl ?_
  refine ev_iconst (pc := 187) (fe_175 rfl) li_1 ?_
  refine ev_iadd (pc := 188) (fe_175 rfl) ?_
  refine ev_sload (pc := 189) (fe_175 rfl) g12 ?_
  refine fm_bd h (fun p15 ep15 h => ?_)
  refine ev_callVZk (pc := 190) (fe_175 rfl) (z := 120) (na := 2) (ow := 10) cg_175_197 rfl rt_120 rfl rfl t_223 (m := 0) rfl (jK120 ep15) (st1 := [.inl p15.1]) rfl (fun z16 => ?_)
  refine ev_pop (pc := 193) (fe_175 rfl) rfl ?_
  refine ev_goto (pc := 194) (fe_175 rfl) (t := 503) rfl ?_
  refine ev_iinc (pc := 503) (fe_175 rfl) mx_175 rfl rfl li_4 ?_
  refine ev_goto (pc := 506) (fe_175 rfl) (t := 18) rfl ?_
  exact ih (x3 + 4) p15.2 h
  refine fm_sp h (fun w32_3 h => ?_) (fun w32_3 h => ?_)
  refine ev_swk (pc := 32) (fe_175 rfl) (c := 3) (by rw [w32_3]; decide) (by decide) rfl (t := 197) rfl ?_
  refine ev_aload_n (pc := 197) (fe_175 rfl) rfl ?_
  refine ev_aload_n (pc := 198) (fe_175 rfl) rfl ?_
  refine ev_iload_n (pc := 199) (fe_175 rfl) rfl ?_
  refine ev_iconst (pc := 200) (fe_175 rfl) li_1 ?_
  refine ev_iadd (pc := 201) (fe_175 rfl) ?_
  refine fm_ob h (fun g17 h => ?_)
  refine ev_sload (pc := 202) (fe_175 rfl) g17 ?_
  refine fm_bd h (fun p18 ep18 h => ?_)
  refine ev_callVZk (pc := 203) (fe_175 rfl) (z := 89) (na := 2) (ow := 9) cg_175_198 rfl rt_89 rfl rfl t_0 (m := 1) rfl (jK89 ep18) (st1 := [.inl p18.1]) rfl (fun z19 => ?_)
  refine ev_pop (pc := 206) (fe_175 rfl) rfl ?_
  refine ev_aload_n (pc := 207) (fe_175 rfl) rfl ?_
  refine ev_aload_n (pc := 208) (fe_175 rfl) rfl ?_
  refine ev_iload_n (pc := 209) (fe_175 rfl) rfl ?_
  refine ev_iconst (pc := 210) (fe_175 rfl) li_1 ?_
  refine ev_iadd (pc := 211) (fe_175 rfl) ?_
  refine ev_sload (pc := 212) (fe_175 rfl) g17 ?_
  refine fm_bd h (fun p20 ep20 h => ?_)
  refine ev_callVZk (pc := 213) (fe_175 rfl) (z := 121) (na := 2) (ow := 10) cg_175_199 rfl rt_121 rfl rfl t_223 (m := 0) rfl (jK121 ep20) (st1 := [.inl p20.1]) rfl (fun z21 => ?_)
  refine ev_pop (pc := 216) (fe_175 rfl) rfl ?_
  refine ev_goto (pc := 217) (fe_175 rfl) (t := 503) rfl ?_
  refine ev_iinc (pc := 503) (fe_175 rfl) mx_175 rfl rfl li_4 ?_
  refine ev_goto (pc := 506) (fe_175 rfl) (t := 18) rfl ?_
  exact ih (x3 + 4) p20.2 h
  refine fm_sp h (fun w32_4 h => ?_) (fun w32_4 h => ?_)
  refine ev_swk (pc := 32) (fe_175 rfl) (c := 4) (by rw [w32_4]; decide) (by decide) rfl (t := 220) rfl ?_
  refine ev_aload_n (pc := 220) (fe_175 rfl) rfl ?_
  refine ev_aload_n (pc := 221) (fe_175 rfl) rfl ?_
  refine ev_iload_n (pc := 222) (fe_175 rfl) rfl ?_
  refine ev_iconst (pc := 223) (fe_175 rfl) li_1 ?_
  refine ev_iadd (pc := 224) (fe_175 rfl) ?_
  refine fm_ob h (fun g22 h => ?_)
  refine ev_sload (pc := 225) (fe_175 rfl) g22 ?_
  refine fm_bd h (fun p23 ep23 h => ?_)
  refine ev_callVZk (pc := 226) (fe_175 rfl) (z := 90) (na := 2) (ow := 9) cg_175_200 rfl rt_90 rfl rfl t_0 (m := 1) rfl (jK90 ep23) (st1 := [.inl p23.1]) rfl (fun z24 => ?_)
  refine ev_pop (pc := 229) (fe_175 rfl) rfl ?_
  refine ev_aload_n (pc := 230) (fe_175 rfl) rfl ?_
  refine ev_aload_n (pc := 231) (fe_175 rfl) rfl ?_
  refine ev_iload_n (pc := 232) (fe_175 rfl) rfl ?_
  refine ev_iconst (pc := 233) (fe_175 rfl) li_1 ?_
  refine ev_iadd (pc := 234) (fe_175 rfl) ?_
  refine ev_sload (pc := 235) (fe_175 rfl) g22 ?_
  refine fm_bd h (fun p25 ep25 h => ?_)
  refine ev_callVZk (pc := 236) (fe_175 rfl) (z := 122) (na := 2) (ow := 10) cg_175_201 rfl rt_122 rfl rfl t_223 (m := 0) rfl (jK122 ep25) (st1 := [.inl p25.1]) rfl (fun z26 => ?_)
  refine ev_pop (pc := 239) (fe_175 rfl) rfl ?_
  refine ev_goto (pc := 240) (fe_175 rfl) (t := 503) rfl ?_
  refine ev_iinc (pc := 503) (fe_175 rfl) mx_175 rfl rfl li_4 ?_
  refine ev_goto (pc := 506) (fe_175 rfl) (t := 18) rfl ?_
  exact ih (x3 + 4) p25.2 h
  refine fm_sp h (fun w32_5 h => ?_) (fun w32_5 h => ?_)
  refine ev_swk (pc := 32) (fe_175 rfl) (c := 5) (by rw [w32_5]; decide) (by decide) rfl (t := 243) rfl ?_
  refine ev_aload_n (pc := 243) (fe_175 rfl) rfl ?_
  refine ev_aload_n (pc := 244) (fe_175 rfl) rfl ?_
  refine ev_iload_n (pc := 245) (fe_175 rfl) rfl ?_
  refine ev_iconst (pc := 246) (fe_175 rfl) li_1 ?_
  refine ev_iadd (pc := 247) (fe_175 rfl) ?_
  refine fm_ob h (fun g27 h => ?_)
  refine ev_sload (pc := 248) (fe_175 rfl) g27 ?_
  refine fm_bd h (fun p28 ep28 h => ?_)
  refine ev_callVk (pc := 249) (fe_175 rfl) (z := 91) (na := 2) (ow := 9) cg_175_202 rfl rfl rfl t_0 (m := 1) rfl (jK91 ep28) (st1 := [.inl p28.1]) rfl ?_
  refine ev_pop (pc := 252) (fe_175 rfl) rfl ?_
  refine ev_aload_n (pc := 253) (fe_175 rfl) rfl ?_
  refine ev_aload_n (pc := 254) (fe_175 rfl) rfl ?_
  refine ev_iload_n (pc := 255) (fe_175 rfl) rfl ?_
  refine ev_iconst (pc := 256) (fe_175 rfl) li_1 ?_
  refine ev_iadd (pc := 257) (fe_175 rfl) ?_
  refine ev_sload (pc := 258) (fe_175 rfl) g27 ?_
  refine fm_bd h (fun p29 ep29 h => ?_)
  refine ev_callVk (pc := 259) (fe_175 rfl) (z := 130) (na := 2) (ow := 10) cg_175_203 rfl rfl rfl t_223 (m := 0) rfl (jK130 ep29) (st1 := [.inl p29.1]) rfl ?_
  refine ev_pop (pc := 262) (fe_175 rfl) rfl ?_
  refine ev_goto (pc := 263) (fe_175 rfl) (t := 503) rfl ?_
  refine ev_iinc (pc := 503) (fe_175 rfl) mx_175 rfl rfl li_4 ?_
  refine ev_goto (pc := 506) (fe_175 rfl) (t := 18) rfl ?_
  exact ih (x3 + 4) p29.2 h
  refine fm_sp h (fun w32_6 h => ?_) (fun w32_6 h => ?_)
  refine ev_swk (pc := 32) (fe_175 rfl) (c := 6) (by rw [w32_6]; decide) (by decide) rfl (t := 266) rfl ?_
  refine ev_aload_n (pc := 266) (fe_175 rfl) rfl ?_
  refine ev_aload_n (pc := 267) (fe_175 rfl) rfl ?_
  refine ev_iload_n (pc := 268) (fe_175 rfl) rfl ?_
  refine ev_iconst (pc := 269) (fe_175 rfl) li_1 ?_
  refine ev_iadd (pc := 270) (fe_175 rfl) ?_
  refine fm_ob h (fun g30 h => ?_)
  refine ev_sload (pc := 271) (fe_175 rfl) g30 ?_
  refine fm_bd h (fun p31 ep31 h => ?_)
  refine ev_callVk (pc := 272) (fe_175 rfl) (z := 92) (na := 2) (ow := 9) cg_175_204 rfl rfl rfl t_0 (m := 1) rfl (jK92 ep31) (st1 := [.inl p31.1]) rfl ?_
  refine ev_pop (pc := 275) (fe_175 rfl) rfl ?_
  refine ev_aload_n (pc := 276) (fe_175 rfl) rfl ?_
  refine ev_aload_n (pc := 277) (fe_175 rfl) rfl ?_
  refine ev_iload_n (pc := 278) (fe_175 rfl) rfl ?_
  refine ev_iconst (pc := 279) (fe_175 rfl) li_1 ?_
  refine ev_iadd (pc := 280) (fe_175 rfl) ?_
  refine ev_sload (pc := 281) (fe_175 rfl) g30 ?_
  refine fm_bd h (fun p32 ep32 h => ?_)
  refine ev_callVk (pc := 282) (fe_175 rfl) (z := 131) (na := 2) (ow := 10) cg_175_205 rfl rfl rfl t_223 (m := 0) rfl (jK131 ep32) (st1 := [.inl p32.1]) rfl ?_
  refine ev_pop (pc := 285) (fe_175 rfl) rfl ?_
  refine ev_goto (pc := 286) (fe_175 rfl) (t := 503) rfl ?_
  refine ev_iinc (pc := 503) (fe_175 rfl) mx_175 rfl rfl li_4 ?_
  refine ev_goto (pc := 506) (fe_175 rfl) (t := 18) rfl ?_
  exact ih (x3 + 4) p32.2 h
  refine fm_sp h (fun w32_7 h => ?_) (fun w32_7 h => ?_)
  refine ev_swk (pc := 32) (fe_175 rfl) (c := 7) (by rw [w32_7]; decide) (by decide) rfl (t := 289) rfl ?_
  refine ev_aload_n (pc := 289) (fe_175 rfl) rfl ?_
  refine ev_aload_n (pc := 290) (fe_175 rfl) rfl ?_
  refine ev_iload_n (pc := 291) (fe_175 rfl) rfl ?_
  refine ev_iconst (pc := 292) (fe_175 rfl) li_1 ?_
  refine ev_iadd (pc := 293) (fe_175 rfl) ?_
  refine fm_ob h (fun g33 h => ?_)
  refine ev_sload (pc := 294) (fe_175 rfl) g33 ?_
  refine fm_bd h (fun p34 ep34 h => ?_)
  refine ev_callVk (pc := 295) (fe_175 rfl) (z := 93) (na := 2) (ow := 9) cg_175_206 rfl rfl rfl t_0 (m := 0) rfl (jK93 ep34) (st1 := [.inl p34.1]) rfl ?_
  refine ev_pop (pc := 298) (fe_175 rfl) rfl ?_
  refine ev_aload_n (pc := 299) (fe_175 rfl) rfl ?_
  refine ev_aload_n (pc := 300) (fe_175 rfl) rfl ?_
  refine ev_iload_n (pc := 301) (fe_175 rfl) rfl ?_
  refine ev_iconst (pc := 302) (fe_175 rfl) li_1 ?_
  refine ev_iadd (pc := 303) (fe_175 rfl) ?_
  refine ev_sload (pc := 304) (fe_175 rfl) g33 ?_
  refine fm_bd h (fun p35 ep35 h => ?_)
  refine ev_callVk (pc := 305) (fe_175 rfl) (z := 132) (na := 2) (ow := 10) cg_175_207 rfl rfl rfl t_223 (m := 0) rfl (jK132 ep35) (st1 := [.inl p35.1]) rfl ?_
  refine ev_pop (pc := 308) (fe_175 rfl) rfl ?_
  refine ev_goto (pc := 309) (fe_175 rfl) (t := 503) rfl ?_
  refine ev_iinc (pc := 503) (fe_175 rfl) mx_175 rfl rfl li_4 ?_
  refine ev_goto (pc := 506) (fe_175 rfl) (t := 18) rfl ?_
  exact ih (x3 + 4) p35.2 h
  refine fm_sp h (fun w32_8 h => ?_) (fun w32_8 h => ?_)
  refine ev_swk (pc := 32) (fe_175 rfl) (c := 8) (by rw [w32_8]; decide) (by decide) rfl (t := 312) rfl ?_
  refine ev_aload_n (pc := 312) (fe_175 rfl) rfl ?_
  refine ev_callVk (pc := 313) (fe_175 rfl) (z := 94) (na := 1) (ow := 9) cg_175_208 rfl rfl rfl t_0 (m := 0) rfl (jK94 rfl) (st1 := [.inl (jF94 u)]) rfl ?_
  refine ev_pop (pc := 316) (fe_175 rfl) rfl ?_
  refine ev_aload_n (pc := 317) (fe_175 rfl) rfl ?_
  refine ev_callVk (pc := 318) (fe_175 rfl) (z := 133) (na := 1) (ow := 10) cg_175_209 rfl rfl rfl t_223 (m := 0) rfl (jK133 rfl) (st1 := [.inl (jF133 u)]) rfl ?_
  refine ev_pop (pc := 321) (fe_175 rfl) rfl ?_
  refine ev_goto (pc := 322) (fe_175 rfl) (t := 503) rfl ?_
  refine ev_iinc (pc := 503) (fe_175 rfl) mx_175 rfl rfl li_4 ?_
  refine ev_goto (pc := 506) (fe_175 rfl) (t := 18) rfl ?_
  exact ih (x3 + 4) u h
  refine fm_sp h (fun w32_9 h => ?_) (fun w32_9 h => ?_)
  refine ev_swk (pc := 32) (fe_175 rfl) (c := 9) (by rw [w32_9]; decide) (by decide) rfl (t := 325) rfl ?_
  refine ev_aload_n (pc := 325) (fe_175 rfl) rfl ?_
  refine ev_aload_n (pc := 326) (fe_175 rfl) rfl ?_
  refine ev_iload_n (pc := 327) (fe_175 rfl) rfl ?_
  refine ev_iconst (pc := 328) (fe_175 rfl) li_1 ?_
  refine ev_iadd (pc := 329) (fe_175 rfl) ?_
  refine fm_ob h (fun g36 h => ?_)
  refine ev_sload (pc := 330) (fe_175 rfl) g36 ?_
  refine ev_aload_n (pc := 331) (fe_175 rfl) rfl ?_
  refine ev_iload_n (pc := 332) (fe_175 rfl) rfl ?_
  refine ev_iconst (pc := 333) (fe_175 rfl) li_2 ?_
  refine ev_iadd (pc := 334) (fe_175 rfl) ?_
  refine fm_ob h (fun g37 h => ?_)
  refine ev_sload (pc := 335) (fe_175 rfl) g37 ?_
  refine fm_bd h (fun p38 ep38 h => ?_)
  refine ev_callVk (pc := 336) (fe_175 rfl) (z := 95) (na := 3) (ow := 9) cg_175_210 rfl rfl rfl t_0 (m := 1) rfl (jK95 ep38) (st1 := [.inl p38.1]) rfl ?_
  refine ev_pop (pc := 339) (fe_175 rfl) rfl ?_
  refine ev_aload_n (pc := 340) (fe_175 rfl) rfl ?_
  refine ev_aload_n (pc := 341) (fe_175 rfl) rfl ?_
  refine ev_iload_n (pc := 342) (fe_175 rfl) rfl ?_
  refine ev_iconst (pc := 343) (fe_175 rfl) li_1 ?_
  refine ev_iadd (pc := 344) (fe_175 rfl) ?_
  refine ev_sload (pc := 345) (fe_175 rfl) g36 ?_
  refine ev_aload_n (pc := 346) (fe_175 rfl) rfl ?_
  refine ev_iload_n (pc := 347) (fe_175 rfl) rfl ?_
  refine ev_iconst (pc := 348) (fe_175 rfl) li_2 ?_
  refine ev_iadd (pc := 349) (fe_175 rfl) ?_
  refine ev_sload (pc := 350) (fe_175 rfl) g37 ?_
  refine fm_bd h (fun p39 ep39 h => ?_)
  refine ev_callVk (pc := 351) (fe_175 rfl) (z := 155) (na := 3) (ow := 10) cg_175_211 rfl rfl rfl t_223 (m := 0) rfl (jK155 ep39) (st1 := [.inl p39.1]) rfl ?_
  refine ev_pop (pc := 354) (fe_175 rfl) rfl ?_
  refine ev_goto (pc := 355) (fe_175 rfl) (t := 503) rfl ?_
  refine ev_iinc (pc := 503) (fe_175 rfl) mx_175 rfl rfl li_4 ?_
  refine ev_goto (pc := 506) (fe_175 rfl) (t := 18) rfl ?_
  exact ih (x3 + 4) p39.2 h
  refine fm_sp h (fun w32_10 h => ?_) (fun w32_10 h => ?_)
  refine ev_swk (pc := 32) (fe_175 rfl) (c := 10) (by rw [w32_10]; decide) (by decide) rfl (t := 358) rfl ?_
  refine ev_aload_n (pc := 358) (fe_175 rfl) rfl ?_
  refine ev_aload_n (pc := 359) (fe_175 rfl) rfl ?_
  refine ev_iload_n (pc := 360) (fe_175 rfl) rfl ?_
  refine ev_iconst (pc := 361) (fe_175 rfl) li_1 ?_
  refine ev_iadd (pc := 362) (fe_175 rfl) ?_
  refine fm_ob h (fun g40 h => ?_)
  refine ev_sload (pc := 363) (fe_175 rfl) g40 ?_
  refine fm_bd h (fun p41 ep41 h => ?_)
  refine ev_callVZk (pc := 364) (fe_175 rfl) (z := 96) (na := 2) (ow := 9) cg_175_212 rfl rt_96 rfl rfl t_0 (m := 1) rfl (jK96 ep41) (st1 := [.inl p41.1]) rfl (fun z42 => ?_)
  refine ev_pop (pc := 367) (fe_175 rfl) rfl ?_
  refine ev_aload_n (pc := 368) (fe_175 rfl) rfl ?_
  refine ev_aload_n (pc := 369) (fe_175 rfl) rfl ?_
  refine ev_iload_n (pc := 370) (fe_175 rfl) rfl ?_
  refine ev_iconst (pc := 371) (fe_175 rfl) li_1 ?_
  refine ev_iadd (pc := 372) (fe_175 rfl) ?_
  refine ev_sload (pc := 373) (fe_175 rfl) g40 ?_
  refine fm_bd h (fun p43 ep43 h => ?_)
  refine ev_callVZk (pc := 374) (fe_175 rfl) (z := 156) (na := 2) (ow := 10) cg_175_213 rfl rt_156 rfl rfl t_223 (m := 0) rfl (jK156 ep43) (st1 := [.inl p43.1]) rfl (fun z44 => ?_)
  refine ev_pop (pc := 377) (fe_175 rfl) rfl ?_
  refine ev_goto (pc := 378) (fe_175 rfl) (t := 503) rfl ?_
  refine ev_iinc (pc := 503) (fe_175 rfl) mx_175 rfl rfl li_4 ?_
  refine ev_goto (pc := 506) (fe_175 rfl) (t := 18) rfl ?_
  exact ih (x3 + 4) p43.2 h
  refine fm_sp h (fun w32_11 h => ?_) (fun w32_11 h => ?_)
  refine ev_swk (pc := 32) (fe_175 rfl) (c := 11) (by rw [w32_11]; decide) (by decide) rfl (t := 381) rfl ?_
  refine ev_aload_n (pc := 381) (fe_175 rfl) rfl ?_
  refine ev_aload_n (pc := 382) (fe_175 rfl) rfl ?_
  refine ev_iload_n (pc := 383) (fe_175 rfl) rfl ?_
  refine ev_iconst (pc := 384) (fe_175 rfl) li_1 ?_
  refine ev_iadd (pc := 385) (fe_175 rfl) ?_
  refine fm_ob h (fun g45 h => ?_)
  refine ev_sload (pc := 386) (fe_175 rfl) g45 ?_
  refine fm_bd h (fun p46 ep46 h => ?_)
  refine ev_callVk (pc := 387) (fe_175 rfl) (z := 97) (na := 2) (ow := 9) cg_175_214 rfl rfl rfl t_0 (m := 2) rfl (jK97 ep46) (st1 := [.inl p46.1]) rfl ?_
  refine ev_pop (pc := 390) (fe_175 rfl) rfl ?_
  refine ev_aload_n (pc := 391) (fe_175 rfl) rfl ?_
  refine ev_aload_n (pc := 392) (fe_175 rfl) rfl ?_
  refine ev_iload_n (pc := 393) (fe_175 rfl) rfl ?_
  refine ev_iconst (pc := 394) (fe_175 rfl) li_1 ?_
  refine ev_iadd (pc := 395) (fe_175 rfl) ?_
  refine ev_sload (pc := 396) (fe_175 rfl) g45 ?_
  refine fm_bd h (fun p47 ep47 h => ?_)
  refine ev_callVk (pc := 397) (fe_175 rfl) (z := 169) (na := 2) (ow := 10) cg_175_215 rfl rfl rfl t_223 (m := 0) rfl (jK169 ep47) (st1 := [.inl p47.1]) rfl ?_
  refine ev_pop (pc := 400) (fe_175 rfl) rfl ?_
  refine ev_goto (pc := 401) (fe_175 rfl) (t := 503) rfl ?_
  refine ev_iinc (pc := 503) (fe_175 rfl) mx_175 rfl rfl li_4 ?_
  refine ev_goto (pc := 506) (fe_175 rfl) (t := 18) rfl ?_
  exact ih (x3 + 4) p47.2 h
  refine fm_sp h (fun w32_12 h => ?_) (fun w32_12 h => ?_)
  refine ev_swk (pc := 32) (fe_175 rfl) (c := 12) (by rw [w32_12]; decide) (by decide) rfl (t := 404) rfl ?_
  refine ev_aload_n (pc := 404) (fe_175 rfl) rfl ?_
  refine ev_aload_n (pc := 405) (fe_175 rfl) rfl ?_
  refine ev_iload_n (pc := 406) (fe_175 rfl) rfl ?_
  refine ev_iconst (pc := 407) (fe_175 rfl) li_1 ?_
  refine ev_iadd (pc := 408) (fe_175 rfl) ?_
  refine fm_ob h (fun g48 h => ?_)
  refine ev_sload (pc := 409) (fe_175 rfl) g48 ?_
  refine fm_bd h (fun p49 ep49 h => ?_)
  refine ev_callVk (pc := 410) (fe_175 rfl) (z := 98) (na := 2) (ow := 9) cg_175_216 rfl rfl rfl t_0 (m := 3) rfl (jK98 ep49) (st1 := [.inl p49.1]) rfl ?_
  refine ev_pop (pc := 413) (fe_175 rfl) rfl ?_
  refine ev_aload_n (pc := 414) (fe_175 rfl) rfl ?_
  refine ev_aload_n (pc := 415) (fe_175 rfl) rfl ?_
  refine ev_iload_n (pc := 416) (fe_175 rfl) rfl ?_
  refine ev_iconst (pc := 417) (fe_175 rfl) li_1 ?_
  refine ev_iadd (pc := 418) (fe_175 rfl) ?_
  refine ev_sload (pc := 419) (fe_175 rfl) g48 ?_
  refine fm_bd h (fun p50 ep50 h => ?_)
  refine ev_callVk (pc := 420) (fe_175 rfl) (z := 172) (na := 2) (ow := 10) cg_175_217 rfl rfl rfl t_223 (m := 10) rfl (jK172 ep50) (st1 := [.inl p50.1]) rfl ?_
  refine ev_pop (pc := 423) (fe_175 rfl) rfl ?_
  refine ev_goto (pc := 424) (fe_175 rfl) (t := 503) rfl ?_
  refine ev_iinc (pc := 503) (fe_175 rfl) mx_175 rfl rfl li_4 ?_
  refine ev_goto (pc := 506) (fe_175 rfl) (t := 18) rfl ?_
  exact ih (x3 + 4) p50.2 h
  refine fm_sp h (fun w32_13 h => ?_) (fun w32_13 h => ?_)
  refine ev_swk (pc := 32) (fe_175 rfl) (c := 13) (by rw [w32_13]; decide) (by decide) rfl (t := 427) rfl ?_
  refine ev_aload_n (pc := 427) (fe_175 rfl) rfl ?_
  refine ev_aload_n (pc := 428) (fe_175 rfl) rfl ?_
  refine ev_iload_n (pc := 429) (fe_175 rfl) rfl ?_
  refine ev_iconst (pc := 430) (fe_175 rfl) li_1 ?_
  refine ev_iadd (pc := 431) (fe_175 rfl) ?_
  refine fm_ob h (fun g51 h => ?_)
  refine ev_sload (pc := 432) (fe_175 rfl) g51 ?_
  refine ev_aload_n (pc := 433) (fe_175 rfl) rfl ?_
  refine ev_iload_n (pc := 434) (fe_175 rfl) rfl ?_
  refine ev_iconst (pc := 435) (fe_175 rfl) li_2 ?_
  refine ev_iadd (pc := 436) (fe_175 rfl) ?_
  refine fm_ob h (fun g52 h => ?_)
  refine ev_sload (pc := 437) (fe_175 rfl) g52 ?_
  refine ev_callVk (pc := 438) (fe_175 rfl) (z := 99) (na := 3) (ow := 9) cg_175_218 rfl rfl rfl t_0 (m := 1) rfl (jK99 rfl) (st1 := [.inl (jF99 (X.2 (Int32.toNatClampNeg (x3 + 1))) (X.2 (Int32.toNatClampNeg (x3 + 2))) u)]) rfl ?_
  refine ev_pop (pc := 441) (fe_175 rfl) rfl ?_
  refine ev_aload_n (pc := 442) (fe_175 rfl) rfl ?_
  refine ev_aload_n (pc := 443) (fe_175 rfl) rfl ?_
  refine ev_iload_n (pc := 444) (fe_175 rfl) rfl ?_
  refine ev_iconst (pc := 445) (fe_175 rfl) li_1 ?_
  refine ev_iadd (pc := 446) (fe_175 rfl) ?_
  refine ev_sload (pc := 447) (fe_175 rfl) g51 ?_
  refine ev_aload_n (pc := 448) (fe_175 rfl) rfl ?_
  refine ev_iload_n (pc := 449) (fe_175 rfl) rfl ?_
  refine ev_iconst (pc := 450) (fe_175 rfl) li_2 ?_
  refine ev_iadd (pc := 451) (fe_175 rfl) ?_
  refine ev_sload (pc := 452) (fe_175 rfl) g52 ?_
  refine fm_bd h (fun p53 ep53 h => ?_)
  refine ev_callVk (pc := 453) (fe_175 rfl) (z := 173) (na := 3) (ow := 10) cg_175_219 rfl rfl rfl t_223 (m := 0) rfl (jK173 ep53) (st1 := [.inl p53]) rfl ?_
  refine ev_pop (pc := 456) (fe_175 rfl) rfl ?_
  refine ev_goto (pc := 457) (fe_175 rfl) (t := 503) rfl ?_
  refine ev_iinc (pc := 503) (fe_175 rfl) mx_175 rfl rfl li_4 ?_
  refine ev_goto (pc := 506) (fe_175 rfl) (t := 18) rfl ?_
  exact ih (x3 + 4) u h
  refine fm_sp h (fun w32_14 h => ?_) (fun w32_14 h => ?_)
  refine ev_swk (pc := 32) (fe_175 rfl) (c := 14) (by rw [w32_14]; decide) (by decide) rfl (t := 460) rfl ?_
  refine ev_aload_n (pc := 460) (fe_175 rfl) rfl ?_
  refine ev_aload_n (pc := 461) (fe_175 rfl) rfl ?_
  refine ev_iload_n (pc := 462) (fe_175 rfl) rfl ?_
  refine ev_iconst (pc := 463) (fe_175 rfl) li_1 ?_
  refine ev_iadd (pc := 464) (fe_175 rfl) ?_
  refine fm_ob h (fun g54 h => ?_)
  refine ev_sload (pc := 465) (fe_175 rfl) g54 ?_
  refine ev_aload_n (pc := 466) (fe_175 rfl) rfl ?_
  refine ev_iload_n (pc := 467) (fe_175 rfl) rfl ?_
  refine ev_iconst (pc := 468) (fe_175 rfl) li_2 ?_
  refine ev_iadd (pc := 469) (fe_175 rfl) ?_
  refine fm_ob h (fun g55 h => ?_)
  refine ev_sload (pc := 470) (fe_175 rfl) g55 ?_
  refine ev_aload_n (pc := 471) (fe_175 rfl) rfl ?_
  refine ev_iload_n (pc := 472) (fe_175 rfl) rfl ?_
  refine ev_iconst (pc := 473) (fe_175 rfl) li_3 ?_
  refine ev_iadd (pc := 474) (fe_175 rfl) ?_
  refine fm_ob h (fun g56 h => ?_)
  refine ev_sload (pc := 475) (fe_175 rfl) g56 ?_
  refine fm_bd h (fun p57 ep57 h => ?_)
  refine ev_callVk (pc := 476) (fe_175 rfl) (z := 100) (na := 4) (ow := 9) cg_175_220 rfl rfl rfl t_0 (m := 1) rfl (jK100 ep57) (st1 := [.inl p57]) rfl ?_
  refine ev_pop (pc := 479) (fe_175 rfl) rfl ?_
  refine ev_aload_n (pc := 480) (fe_175 rfl) rfl ?_
  refine ev_aload_n (pc := 481) (fe_175 rfl) rfl ?_
  refine ev_iload_n (pc := 482) (fe_175 rfl) rfl ?_
  refine ev_iconst (pc := 483) (fe_175 rfl) li_1 ?_
  refine ev_iadd (pc := 484) (fe_175 rfl) ?_
  refine ev_sload (pc := 485) (fe_175 rfl) g54 ?_
  refine ev_aload_n (pc := 486) (fe_175 rfl) rfl ?_
  refine ev_iload_n (pc := 487) (fe_175 rfl) rfl ?_
  refine ev_iconst (pc := 488) (fe_175 rfl) li_2 ?_
  refine ev_iadd (pc := 489) (fe_175 rfl) ?_
  refine ev_sload (pc := 490) (fe_175 rfl) g55 ?_
  refine ev_aload_n (pc := 491) (fe_175 rfl) rfl ?_
  refine ev_iload_n (pc := 492) (fe_175 rfl) rfl ?_
  refine ev_iconst (pc := 493) (fe_175 rfl) li_3 ?_
  refine ev_iadd (pc := 494) (fe_175 rfl) ?_
  refine ev_sload (pc := 495) (fe_175 rfl) g56 ?_
  refine fm_bd h (fun p58 ep58 h => ?_)
  refine ev_callVk (pc := 496) (fe_175 rfl) (z := 174) (na := 4) (ow := 10) cg_175_221 rfl rfl rfl t_223 (m := 1) rfl (jK174 ep58) (st1 := [.inl p58]) rfl ?_
  refine ev_pop (pc := 499) (fe_175 rfl) rfl ?_
  refine ev_goto (pc := 500) (fe_175 rfl) (t := 503) rfl ?_
  refine ev_iinc (pc := 503) (fe_175 rfl) mx_175 rfl rfl li_4 ?_
  refine ev_goto (pc := 506) (fe_175 rfl) (t := 18) rfl ?_
  exact ih (x3 + 4) u h
  refine ev_swd (pc := 32) (fe_175 rfl) (t := 503) rfl (fm_swx (lo := 0) (n := 15) (List.forall_mem_cons.mpr ⟨w32_0, List.forall_mem_cons.mpr ⟨w32_1, List.forall_mem_cons.mpr ⟨w32_2, List.forall_mem_cons.mpr ⟨w32_3, List.forall_mem_cons.mpr ⟨w32_4, List.forall_mem_cons.mpr ⟨w32_5, List.forall_mem_cons.mpr ⟨w32_6, List.forall_mem_cons.mpr ⟨w32_7, List.forall_mem_cons.mpr ⟨w32_8, List.forall_mem_cons.mpr ⟨w32_9, List.forall_mem_cons.mpr ⟨w32_10, List.forall_mem_cons.mpr ⟨w32_11, List.forall_mem_cons.mpr ⟨w32_12, List.forall_mem_cons.mpr ⟨w32_13, List.forall_mem_cons.mpr ⟨w32_14, fun _ q => nomatch q⟩⟩⟩⟩⟩⟩⟩⟩⟩⟩⟩⟩⟩⟩⟩)) ?_
  refine ev_iinc (pc := 503) (fe_175 rfl) mx_175 rfl rfl li_4 ?_
  refine ev_goto (pc := 506) (fe_175 rfl) (t := 18) rfl ?_
  exact ih (x3 + 4) u h
theorem jK175 {X : Nat × (Nat → Int32)} {u : fm} {r : Int32 × fm} (h : jF175 X u = some r) : ev X 175 18 [some (.inr (.inl (some mm_scr))), some (.inr (.inl (some 0))), some (.inr (.inl (some 223))), some (.inl 0)] [] u ([.inl r.1], r.2) := by
  unfold jF175 at h
  exact jK175_18 fm_N 0 u h
