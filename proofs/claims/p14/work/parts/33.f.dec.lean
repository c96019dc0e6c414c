set_option maxRecDepth 8000
/-- CallAgentsModel four -/
def jF138 (x0 : Int32) (x1 : Int32) (x2 : Int32) (x3 : Int32) (x4 : Int32) : Int32 :=
  if x0 = 0 then
  (x1)
  else
  (if x0 = 1 then
  (x2)
  else
  (if x0 = 2 then
  (x3)
  else
  (if x0 = 3 then
  (x4)
  else
  (0))))
theorem jK138 {X : Nat × (Nat → Int32)} {x0 : Int32} {x1 : Int32} {x2 : Int32} {x3 : Int32} {x4 : Int32} {u : fm} {r : Int32} (h : jF138 x0 x1 x2 x3 x4 = r) : ev X 138 0 [some (.inl x0), some (.inl x1), some (.inl x2), some (.inl x3), some (.inl x4)] [] u ([.inl r], u) := by
  unfold jF138 at h
  refine ev_iload_n (pc := 0) (fe_138 rfl) rfl ?_
  refine ev_if_ne (pc := 1) (fe_138 rfl) (t := 8) rfl h (fun h => ?_) (fun h => ?_)
  refine ev_iload_n (pc := 8) (fe_138 rfl) rfl ?_
  refine ev_iconst (pc := 9) (fe_138 rfl) li_1 ?_
  refine ev_ic_ne (pc := 10) (fe_138 rfl) (t := 17) rfl h (fun h => ?_) (fun h => ?_)
  refine ev_iload_n (pc := 17) (fe_138 rfl) rfl ?_
  refine ev_iconst (pc := 18) (fe_138 rfl) li_2 ?_
  refine ev_ic_ne (pc := 19) (fe_138 rfl) (t := 26) rfl h (fun h => ?_) (fun h => ?_)
  refine ev_iload_n (pc := 26) (fe_138 rfl) rfl ?_
  refine ev_iconst (pc := 27) (fe_138 rfl) li_3 ?_
  refine ev_ic_ne (pc := 28) (fe_138 rfl) (t := 36) rfl h (fun h => ?_) (fun h => ?_)
  refine ev_iconst (pc := 36) (fe_138 rfl) li_0 ?_
  exact ev_R (ev_irt (pc := 37) (fe_138 rfl) rt_138) (by rw [← h])
  refine ev_iload (pc := 31) (fe_138 rfl) rfl ?_
  refine ev_goto (pc := 33) (fe_138 rfl) (t := 37) rfl ?_
  exact ev_R (ev_irt (pc := 37) (fe_138 rfl) rt_138) (by rw [← h])
  refine ev_iload_n (pc := 22) (fe_138 rfl) rfl ?_
  refine ev_goto (pc := 23) (fe_138 rfl) (t := 37) rfl ?_
  exact ev_R (ev_irt (pc := 37) (fe_138 rfl) rt_138) (by rw [← h])
  refine ev_iload_n (pc := 13) (fe_138 rfl) rfl ?_
  refine ev_goto (pc := 14) (fe_138 rfl) (t := 37) rfl ?_
  exact ev_R (ev_irt (pc := 37) (fe_138 rfl) rt_138) (by rw [← h])
  refine ev_iload_n (pc := 4) (fe_138 rfl) rfl ?_
  refine ev_goto (pc := 5) (fe_138 rfl) (t := 37) rfl ?_
  exact ev_R (ev_irt (pc := 37) (fe_138 rfl) rt_138) (by rw [← h])
/-- CallAgentsModel sip -/
def jF139 (x0 : Int32) : Int32 :=
  if x0 = 0 then
  (32)
  else
  (jF138 (x0 - 1) 115 105 112 58)
theorem jK139 {X : Nat × (Nat → Int32)} {x0 : Int32} {u : fm} {r : Int32} (h : jF139 x0 = r) : ev X 139 0 [some (.inl x0)] [] u ([.inl r], u) := by
  unfold jF139 at h
  refine ev_iload_n (pc := 0) (fe_139 rfl) rfl ?_
  refine ev_if_ne (pc := 1) (fe_139 rfl) (t := 9) rfl h (fun h => ?_) (fun h => ?_)
  refine ev_iload_n (pc := 9) (fe_139 rfl) rfl ?_
  refine ev_iconst (pc := 10) (fe_139 rfl) li_1 ?_
  refine ev_isub (pc := 11) (fe_139 rfl) ?_
  refine ev_bipush (pc := 12) (fe_139 rfl) lb_115 ?_
  refine ev_bipush (pc := 14) (fe_139 rfl) lb_105 ?_
  refine ev_bipush (pc := 16) (fe_139 rfl) lb_112 ?_
  refine ev_bipush (pc := 18) (fe_139 rfl) lb_58 ?_
  refine ev_callSk (pc := 20) (fe_139 rfl) (z := 138) (na := 5) (ow := 10) cg_139_161 rfl (m := 0) rfl (jK138 rfl) (st1 := [.inl (jF138 (x0 - 1) 115 105 112 58)]) rfl ?_
  exact ev_R (ev_irt (pc := 23) (fe_139 rfl) rt_139) (by rw [← h])
  refine ev_bipush (pc := 4) (fe_139 rfl) lb_32 ?_
  refine ev_goto (pc := 6) (fe_139 rfl) (t := 23) rfl ?_
  exact ev_R (ev_irt (pc := 23) (fe_139 rfl) rt_139) (by rw [← h])
/-- CallAgentsModel row6 -/
def jF137_57 (x0 : Int32) (x7 : Int32) (s0 : Int32) : Int32 :=
  if x0 < 6 then
  (s0)
  else
  (if x7 = 0 then
  (jF139 (x0 - 6))
  else
  (0))
def jF137 (x0 : Int32) (x1 : Int32) (x2 : Int32) (x3 : Int32) (x4 : Int32) (x5 : Int32) (x6 : Int32) (x7 : Int32) : Int32 :=
  if x0 = 0 then
  (jF137_57 x0 x7 x1)
  else
  (if x0 = 1 then
  (jF137_57 x0 x7 x2)
  else
  (if x0 = 2 then
  (jF137_57 x0 x7 x3)
  else
  (if x0 = 3 then
  (jF137_57 x0 x7 x4)
  else
  (if x0 = 4 then
  (jF137_57 x0 x7 x5)
  else
  (if x0 = 5 then
  (jF137_57 x0 x7 x6)
  else
  (jF137_57 x0 x7 0))))))
theorem jK137_57 {X : Nat × (Nat → Int32)} {u : fm} {r : Int32} (x0 : Int32) (x7 : Int32) (s0 : Int32) (h : jF137_57 x0 x7 s0 = r) : ev X 137 57 [some (.inl x0), none, none, none, none, none, none, some (.inl x7), none] [.inl s0] u ([.inl r], u) := by
  unfold jF137_57 at h
  refine ev_istore (pc := 57) (fe_137 rfl) mx_137 rfl ?_
  refine ev_iload_n (pc := 59) (fe_137 rfl) rfl ?_
  refine ev_bipush (pc := 60) (fe_137 rfl) lb_6 ?_
  refine ev_ic_ge (pc := 62) (fe_137 rfl) (t := 70) rfl h (fun h => ?_) (fun h => ?_)
  refine ev_iload (pc := 70) (fe_137 rfl) rfl ?_
  refine ev_if_ne (pc := 72) (fe_137 rfl) (t := 85) rfl h (fun h => ?_) (fun h => ?_)
  refine ev_iconst (pc := 85) (fe_137 rfl) li_0 ?_
  exact ev_R (ev_irt (pc := 86) (fe_137 rfl) rt_137) (by rw [← h])
  refine ev_iload_n (pc := 75) (fe_137 rfl) rfl ?_
  refine ev_bipush (pc := 76) (fe_137 rfl) lb_6 ?_
  refine ev_isub (pc := 78) (fe_137 rfl) ?_
  refine ev_callSk (pc := 79) (fe_137 rfl) (z := 139) (na := 1) (ow := 10) cg_137_157 rfl (m := 0) rfl (jK139 rfl) (st1 := [.inl (jF139 (x0 - 6))]) rfl ?_
  refine ev_goto (pc := 82) (fe_137 rfl) (t := 86) rfl ?_
  exact ev_R (ev_irt (pc := 86) (fe_137 rfl) rt_137) (by rw [← h])
  refine ev_iload (pc := 65) (fe_137 rfl) rfl ?_
  refine ev_goto (pc := 67) (fe_137 rfl) (t := 86) rfl ?_
  exact ev_R (ev_irt (pc := 86) (fe_137 rfl) rt_137) (by rw [← h])
theorem jK137 {X : Nat × (Nat → Int32)} {x0 : Int32} {x1 : Int32} {x2 : Int32} {x3 : Int32} {x4 : Int32} {x5 : Int32} {x6 : Int32} {x7 : Int32} {u : fm} {r : Int32} (h : jF137 x0 x1 x2 x3 x4 x5 x6 x7 = r) : ev X 137 0 [some (.inl x0), some (.inl x1), some (.inl x2), some (.inl x3), some (.inl x4), some (.inl x5), some (.inl x6), some (.inl x7), none] [] u ([.inl r], u) := by
  unfold jF137 at h
  refine ev_iload_n (pc := 0) (fe_137 rfl) rfl ?_
  refine ev_if_ne (pc := 1) (fe_137 rfl) (t := 8) rfl h (fun h => ?_) (fun h => ?_)
  refine ev_iload_n (pc := 8) (fe_137 rfl) rfl ?_
  refine ev_iconst (pc := 9) (fe_137 rfl) li_1 ?_
  refine ev_ic_ne (pc := 10) (fe_137 rfl) (t := 17) rfl h (fun h => ?_) (fun h => ?_)
  refine ev_iload_n (pc := 17) (fe_137 rfl) rfl ?_
  refine ev_iconst (pc := 18) (fe_137 rfl) li_2 ?_
  refine ev_ic_ne (pc := 19) (fe_137 rfl) (t := 26) rfl h (fun h => ?_) (fun h => ?_)
  refine ev_iload_n (pc := 26) (fe_137 rfl) rfl ?_
  refine ev_iconst (pc := 27) (fe_137 rfl) li_3 ?_
  refine ev_ic_ne (pc := 28) (fe_137 rfl) (t := 36) rfl h (fun h => ?_) (fun h => ?_)
  refine ev_iload_n (pc := 36) (fe_137 rfl) rfl ?_
  refine ev_iconst (pc := 37) (fe_137 rfl) li_4 ?_
  refine ev_ic_ne (pc := 38) (fe_137 rfl) (t := 46) rfl h (fun h => ?_) (fun h => ?_)
  refine ev_iload_n (pc := 46) (fe_137 rfl) rfl ?_
  refine ev_iconst (pc := 47) (fe_137 rfl) li_5 ?_
  refine ev_ic_ne (pc := 48) (fe_137 rfl) (t := 56) rfl h (fun h => ?_) (fun h => ?_)
  refine ev_iconst (pc := 56) (fe_137 rfl) li_0 ?_
  refine ev_w [true, false, false, false, false, false, false, true, true] ?_
  exact jK137_57 x0 x7 0 h
  refine ev_iload (pc := 51) (fe_137 rfl) rfl ?_
  refine ev_goto (pc := 53) (fe_137 rfl) (t := 57) rfl ?_
  refine ev_w [true, false, false, false, false, false, false, true, true] ?_
  exact jK137_57 x0 x7 x6 h
  refine ev_iload (pc := 41) (fe_137 rfl) rfl ?_
  refine ev_goto (pc := 43) (fe_137 rfl) (t := 57) rfl ?_
  refine ev_w [true, false, false, false, false, false, false, true, true] ?_
  exact jK137_57 x0 x7 x5 h
  refine ev_iload (pc := 31) (fe_137 rfl) rfl ?_
  refine ev_goto (pc := 33) (fe_137 rfl) (t := 57) rfl ?_
  refine ev_w [true, false, false, false, false, false, false, true, true] ?_
  exact jK137_57 x0 x7 x4 h
  refine ev_iload_n (pc := 22) (fe_137 rfl) rfl ?_
  refine ev_goto (pc := 23) (fe_137 rfl) (t := 57) rfl ?_
  refine ev_w [true, false, false, false, false, false, false, true, true] ?_
  exact jK137_57 x0 x7 x3 h
  refine ev_iload_n (pc := 13) (fe_137 rfl) rfl ?_
  refine ev_goto (pc := 14) (fe_137 rfl) (t := 57) rfl ?_
  refine ev_w [true, false, false, false, false, false, false, true, true] ?_
  exact jK137_57 x0 x7 x2 h
  refine ev_iload_n (pc := 4) (fe_137 rfl) rfl ?_
  refine ev_goto (pc := 5) (fe_137 rfl) (t := 57) rfl ?_
  refine ev_w [true, false, false, false, false, false, false, true, true] ?_
  exact jK137_57 x0 x7 x1 h
/-- CallAgentsModel version -/
def jF140 (x0 : Int32) : Int32 :=
  if x0 < 4 then
  (jF138 x0 83 73 80 47)
  else
  (jF138 (x0 - 4) 50 46 48 32)
theorem jK140 {X : Nat × (Nat → Int32)} {x0 : Int32} {u : fm} {r : Int32} (h : jF140 x0 = r) : ev X 140 0 [some (.inl x0)] [] u ([.inl r], u) := by
  unfold jF140 at h
  refine ev_iload_n (pc := 0) (fe_140 rfl) rfl ?_
  refine ev_iconst (pc := 1) (fe_140 rfl) li_4 ?_
  refine ev_ic_ge (pc := 2) (fe_140 rfl) (t := 20) rfl h (fun h => ?_) (fun h => ?_)
  refine ev_iload_n (pc := 20) (fe_140 rfl) rfl ?_
  refine ev_iconst (pc := 21) (fe_140 rfl) li_4 ?_
  refine ev_isub (pc := 22) (fe_140 rfl) ?_
  refine ev_bipush (pc := 23) (fe_140 rfl) lb_50 ?_
  refine ev_bipush (pc := 25) (fe_140 rfl) lb_46 ?_
  refine ev_bipush (pc := 27) (fe_140 rfl) lb_48 ?_
  refine ev_bipush (pc := 29) (fe_140 rfl) lb_32 ?_
  refine ev_callSk (pc := 31) (fe_140 rfl) (z := 138) (na := 5) (ow := 10) cg_140_161 rfl (m := 0) rfl (jK138 rfl) (st1 := [.inl (jF138 (x0 - 4) 50 46 48 32)]) rfl ?_
  exact ev_R (ev_irt (pc := 34) (fe_140 rfl) rt_140) (by rw [← h])
  refine ev_iload_n (pc := 5) (fe_140 rfl) rfl ?_
  refine ev_bipush (pc := 6) (fe_140 rfl) lb_83 ?_
  refine ev_bipush (pc := 8) (fe_140 rfl) lb_73 ?_
  refine ev_bipush (pc := 10) (fe_140 rfl) lb_80 ?_
  refine ev_bipush (pc := 12) (fe_140 rfl) lb_47 ?_
  refine ev_callSk (pc := 14) (fe_140 rfl) (z := 138) (na := 5) (ow := 10) cg_140_161 rfl (m := 0) rfl (jK138 rfl) (st1 := [.inl (jF138 x0 83 73 80 47)]) rfl ?_
  refine ev_goto (pc := 17) (fe_140 rfl) (t := 34) rfl ?_
  exact ev_R (ev_irt (pc := 34) (fe_140 rfl) rt_140) (by rw [← h])
/-- CallAgentsModel code -/
def jF141 (x0 : Int32) (x1 : Int32) (x2 : Int32) (x3 : Int32) : Int32 :=
  jF138 x0 x1 x2 x3 32
theorem jK141 {X : Nat × (Nat → Int32)} {x0 : Int32} {x1 : Int32} {x2 : Int32} {x3 : Int32} {u : fm} {r : Int32} (h : jF141 x0 x1 x2 x3 = r) : ev X 141 0 [some (.inl x0), some (.inl x1), some (.inl x2), some (.inl x3)] [] u ([.inl r], u) := by
  unfold jF141 at h
  refine ev_iload_n (pc := 0) (fe_141 rfl) rfl ?_
  refine ev_iload_n (pc := 1) (fe_141 rfl) rfl ?_
  refine ev_iload_n (pc := 2) (fe_141 rfl) rfl ?_
  refine ev_iload_n (pc := 3) (fe_141 rfl) rfl ?_
  refine ev_bipush (pc := 4) (fe_141 rfl) lb_32 ?_
  refine ev_callSk (pc := 6) (fe_141 rfl) (z := 138) (na := 5) (ow := 10) cg_141_161 rfl (m := 0) rfl (jK138 rfl) (st1 := [.inl (jF138 x0 x1 x2 x3 32)]) rfl ?_
  exact ev_R (ev_irt (pc := 9) (fe_141 rfl) rt_141) (by rw [← h])
/-- CallAgentsModel ringing -/
def jF142 (x0 : Int32) : Int32 :=
  if x0 < 4 then
  (jF138 x0 82 105 110 103)
  else
  (if x0 = 4 then
  (105)
  else
  (if x0 = 5 then
  (110)
  else
  (if x0 = 6 then
  (103)
  else
  (0))))
theorem jK142 {X : Nat × (Nat → Int32)} {x0 : Int32} {u : fm} {r : Int32} (h : jF142 x0 = r) : ev X 142 0 [some (.inl x0)] [] u ([.inl r], u) := by
  unfold jF142 at h
  refine ev_iload_n (pc := 0) (fe_142 rfl) rfl ?_
  refine ev_iconst (pc := 1) (fe_142 rfl) li_4 ?_
  refine ev_ic_ge (pc := 2) (fe_142 rfl) (t := 20) rfl h (fun h => ?_) (fun h => ?_)
  refine ev_iload_n (pc := 20) (fe_142 rfl) rfl ?_
  refine ev_iconst (pc := 21) (fe_142 rfl) li_4 ?_
  refine ev_ic_ne (pc := 22) (fe_142 rfl) (t := 30) rfl h (fun h => ?_) (fun h => ?_)
  refine ev_iload_n (pc := 30) (fe_142 rfl) rfl ?_
  refine ev_iconst (pc := 31) (fe_142 rfl) li_5 ?_
  refine ev_ic_ne (pc := 32) (fe_142 rfl) (t := 40) rfl h (fun h => ?_) (fun h => ?_)
  refine ev_iload_n (pc := 40) (fe_142 rfl) rfl ?_
  refine ev_bipush (pc := 41) (fe_142 rfl) lb_6 ?_
  refine ev_ic_ne (pc := 43) (fe_142 rfl) (t := 51) rfl h (fun h => ?_) (fun h => ?_)
  refine ev_iconst (pc := 51) (fe_142 rfl) li_0 ?_
  exact ev_R (ev_irt (pc := 52) (fe_142 rfl) rt_142) (by rw [← h])
  refine ev_bipush (pc := 46) (fe_142 rfl) lb_103 ?_
  refine ev_goto (pc := 48) (fe_142 rfl) (t := 52) rfl ?_
  exact ev_R (ev_irt (pc := 52) (fe_142 rfl) rt_142) (by rw [← h])
  refine ev_bipush (pc := 35) (fe_142 rfl) lb_110 ?_
  refine ev_goto (pc := 37) (fe_142 rfl) (t := 52) rfl ?_
  exact ev_R (ev_irt (pc := 52) (fe_142 rfl) rt_142) (by rw [← h])
  refine ev_bipush (pc := 25) (fe_142 rfl) lb_105 ?_
  refine ev_goto (pc := 27) (fe_142 rfl) (t := 52) rfl ?_
  exact ev_R (ev_irt (pc := 52) (fe_142 rfl) rt_142) (by rw [← h])
  refine ev_iload_n (pc := 5) (fe_142 rfl) rfl ?_
  refine ev_bipush (pc := 6) (fe_142 rfl) lb_82 ?_
  refine ev_bipush (pc := 8) (fe_142 rfl) lb_105 ?_
  refine ev_bipush (pc := 10) (fe_142 rfl) lb_110 ?_
  refine ev_bipush (pc := 12) (fe_142 rfl) lb_103 ?_
  refine ev_callSk (pc := 14) (fe_142 rfl) (z := 138) (na := 5) (ow := 10) cg_142_161 rfl (m := 0) rfl (jK138 rfl) (st1 := [.inl (jF138 x0 82 105 110 103)]) rfl ?_
  refine ev_goto (pc := 17) (fe_142 rfl) (t := 52) rfl ?_
  exact ev_R (ev_irt (pc := 52) (fe_142 rfl) rt_142) (by rw [← h])
/-- CallAgentsModel via -/
def jF143 (x0 : Int32) : Int32 :=
  if x0 < 4 then
  (jF138 x0 86 105 97 58)
  else
  (if x0 = 4 then
  (32)
  else
  (if x0 < 12 then
  (jF140 (x0 - 5))
  else
  (if x0 = 12 then
  (47)
  else
  (jF138 (x0 - 13) 85 68 80 32))))
theorem jK143 {X : Nat × (Nat → Int32)} {x0 : Int32} {u : fm} {r : Int32} (h : jF143 x0 = r) : ev X 143 0 [some (.inl x0)] [] u ([.inl r], u) := by
  unfold jF143 at h
  refine ev_iload_n (pc := 0) (fe_143 rfl) rfl ?_
  refine ev_iconst (pc := 1) (fe_143 rfl) li_4 ?_
  refine ev_ic_ge (pc := 2) (fe_143 rfl) (t := 18) rfl h (fun h => ?_) (fun h => ?_)
  refine ev_iload_n (pc := 18) (fe_143 rfl) rfl ?_
  refine ev_iconst (pc := 19) (fe_143 rfl) li_4 ?_
  refine ev_ic_ne (pc := 20) (fe_143 rfl) (t := 26) rfl h (fun h => ?_) (fun h => ?_)
  refine ev_iload_n (pc := 26) (fe_143 rfl) rfl ?_
  refine ev_bipush (pc := 27) (fe_143 rfl) lb_12 ?_
  refine ev_ic_ge (pc := 29) (fe_143 rfl) (t := 39) rfl h (fun h => ?_) (fun h => ?_)
  refine ev_iload_n (pc := 39) (fe_143 rfl) rfl ?_
  refine ev_bipush (pc := 40) (fe_143 rfl) lb_12 ?_
  refine ev_ic_ne (pc := 42) (fe_143 rfl) (t := 50) rfl h (fun h => ?_) (fun h => ?_)
  refine ev_iload_n (pc := 50) (fe_143 rfl) rfl ?_
  refine ev_bipush (pc := 51) (fe_143 rfl) lb_13 ?_
  refine ev_isub (pc := 53) (fe_143 rfl) ?_
  refine ev_bipush (pc := 54) (fe_143 rfl) lb_85 ?_
  refine ev_bipush (pc := 56) (fe_143 rfl) lb_68 ?_
  refine ev_bipush (pc := 58) (fe_143 rfl) lb_80 ?_
  refine ev_bipush (pc := 60) (fe_143 rfl) lb_32 ?_
  refine ev_callSk (pc := 62) (fe_143 rfl) (z := 138) (na := 5) (ow := 10) cg_143_161 rfl (m := 0) rfl (jK138 rfl) (st1 := [.inl (jF138 (x0 - 13) 85 68 80 32)]) rfl ?_
  exact ev_R (ev_irt (pc := 65) (fe_143 rfl) rt_143) (by rw [← h])
  refine ev_bipush (pc := 45) (fe_143 rfl) lb_47 ?_
  refine ev_goto (pc := 47) (fe_143 rfl) (t := 65) rfl ?_
  exact ev_R (ev_irt (pc := 65) (fe_143 rfl) rt_143) (by rw [← h])
  refine ev_iload_n (pc := 32) (fe_143 rfl) rfl ?_
  refine ev_iconst (pc := 33) (fe_143 rfl) li_5 ?_
  refine ev_isub (pc := 34) (fe_143 rfl) ?_
  refine ev_callSk (pc := 35) (fe_143 rfl) (z := 140) (na := 1) (ow := 10) cg_143_158 rfl (m := 0) rfl (jK140 rfl) (st1 := [.inl (jF140 (x0 - 5))]) rfl ?_
  exact ev_R (ev_irt (pc := 38) (fe_143 rfl) rt_143) (by rw [← h])
  refine ev_bipush (pc := 23) (fe_143 rfl) lb_32 ?_
  exact ev_R (ev_irt (pc := 25) (fe_143 rfl) rt_143) (by rw [← h])
  refine ev_iload_n (pc := 5) (fe_143 rfl) rfl ?_
  refine ev_bipush (pc := 6) (fe_143 rfl) lb_86 ?_
  refine ev_bipush (pc := 8) (fe_143 rfl) lb_105 ?_
  refine ev_bipush (pc := 10) (fe_143 rfl) lb_97 ?_
  refine ev_bipush (pc := 12) (fe_143 rfl) lb_58 ?_
  refine ev_callSk (pc := 14) (fe_143 rfl) (z := 138) (na := 5) (ow := 10) cg_143_161 rfl (m := 0) rfl (jK138 rfl) (st1 := [.inl (jF138 x0 86 105 97 58)]) rfl ?_
  exact ev_R (ev_irt (pc := 17) (fe_143 rfl) rt_143) (by rw [← h])
/-- CallAgentsModel address -/
def jF144 (x0 : Int32) : Int32 :=
  if x0 = 0 then
  (58)
  else
  (if x0 = 1 then
  (32)
  else
  (if x0 = 2 then
  (60)
  else
  (jF138 (x0 - 3) 115 105 112 58)))
theorem jK144 {X : Nat × (Nat → Int32)} {x0 : Int32} {u : fm} {r : Int32} (h : jF144 x0 = r) : ev X 144 0 [some (.inl x0)] [] u ([.inl r], u) := by
  unfold jF144 at h
  refine ev_iload_n (pc := 0) (fe_144 rfl) rfl ?_
  refine ev_if_ne (pc := 1) (fe_144 rfl) (t := 9) rfl h (fun h => ?_) (fun h => ?_)
  refine ev_iload_n (pc := 9) (fe_144 rfl) rfl ?_
  refine ev_iconst (pc := 10) (fe_144 rfl) li_1 ?_
  refine ev_ic_ne (pc := 11) (fe_144 rfl) (t := 19) rfl h (fun h => ?_) (fun h => ?_)
  refine ev_iload_n (pc := 19) (fe_144 rfl) rfl ?_
  refine ev_iconst (pc := 20) (fe_144 rfl) li_2 ?_
  refine ev_ic_ne (pc := 21) (fe_144 rfl) (t := 29) rfl h (fun h => ?_) (fun h => ?_)
  refine ev_iload_n (pc := 29) (fe_144 rfl) rfl ?_
  refine ev_iconst (pc := 30) (fe_144 rfl) li_3 ?_
  refine ev_isub (pc := 31) (fe_144 rfl) ?_
  refine ev_bipush (pc := 32) (fe_144 rfl) lb_115 ?_
  refine ev_bipush (pc := 34) (fe_144 rfl) lb_105 ?_
  refine ev_bipush (pc := 36) (fe_144 rfl) lb_112 ?_
  refine ev_bipush (pc := 38) (fe_144 rfl) lb_58 ?_
  refine ev_callSk (pc := 40) (fe_144 rfl) (z := 138) (na := 5) (ow := 10) cg_144_161 rfl (m := 0) rfl (jK138 rfl) (st1 := [.inl (jF138 (x0 - 3) 115 105 112 58)]) rfl ?_
  exact ev_R (ev_irt (pc := 43) (fe_144 rfl) rt_144) (by rw [← h])
  refine ev_bipush (pc := 24) (fe_144 rfl) lb_60 ?_
  refine ev_goto (pc := 26) (fe_144 rfl) (t := 43) rfl ?_
  exact ev_R (ev_irt (pc := 43) (fe_144 rfl) rt_144) (by rw [← h])
  refine ev_bipush (pc := 14) (fe_144 rfl) lb_32 ?_
  refine ev_goto (pc := 16) (fe_144 rfl) (t := 43) rfl ?_
  exact ev_R (ev_irt (pc := 43) (fe_144 rfl) rt_144) (by rw [← h])
  refine ev_bipush (pc := 4) (fe_144 rfl) lb_58 ?_
  refine ev_goto (pc := 6) (fe_144 rfl) (t := 43) rfl ?_
  exact ev_R (ev_irt (pc := 43) (fe_144 rfl) rt_144) (by rw [← h])
/-- CallAgentsModel contentLength -/
def jF145 (x0 : Int32) : Int32 :=
  if x0 < 8 then
  (if x0 < 4 then
  (jF138 x0 67 111 110 116)
  else
  (jF138 (x0 - 4) 101 110 116 45))
  else
  (if x0 < 12 then
  (jF138 (x0 - 8) 76 101 110 103)
  else
  (jF138 (x0 - 12) 116 104 58 32))
theorem jK145 {X : Nat × (Nat → Int32)} {x0 : Int32} {u : fm} {r : Int32} (h : jF145 x0 = r) : ev X 145 0 [some (.inl x0)] [] u ([.inl r], u) := by
  unfold jF145 at h
  refine ev_iload_n (pc := 0) (fe_145 rfl) rfl ?_
  refine ev_bipush (pc := 1) (fe_145 rfl) lb_8 ?_
  refine ev_ic_ge (pc := 3) (fe_145 rfl) (t := 41) rfl h (fun h => ?_) (fun h => ?_)
  refine ev_iload_n (pc := 41) (fe_145 rfl) rfl ?_
  refine ev_bipush (pc := 42) (fe_145 rfl) lb_12 ?_
  refine ev_ic_ge (pc := 44) (fe_145 rfl) (t := 65) rfl h (fun h => ?_) (fun h => ?_)
  refine ev_iload_n (pc := 65) (fe_145 rfl) rfl ?_
  refine ev_bipush (pc := 66) (fe_145 rfl) lb_12 ?_
  refine ev_isub (pc := 68) (fe_145 rfl) ?_
  refine ev_bipush (pc := 69) (fe_145 rfl) lb_116 ?_
  refine ev_bipush (pc := 71) (fe_145 rfl) lb_104 ?_
  refine ev_bipush (pc := 73) (fe_145 rfl) lb_58 ?_
  refine ev_bipush (pc := 75) (fe_145 rfl) lb_32 ?_
  refine ev_callSk (pc := 77) (fe_145 rfl) (z := 138) (na := 5) (ow := 10) cg_145_161 rfl (m := 0) rfl (jK138 rfl) (st1 := [.inl (jF138 (x0 - 12) 116 104 58 32)]) rfl ?_
  exact ev_R (ev_irt (pc := 80) (fe_145 rfl) rt_145) (by rw [← h])
  refine ev_iload_n (pc := 47) (fe_145 rfl) rfl ?_
  refine ev_bipush (pc := 48) (fe_145 rfl) lb_8 ?_
  refine ev_isub (pc := 50) (fe_145 rfl) ?_
  refine ev_bipush (pc := 51) (fe_145 rfl) lb_76 ?_
  refine ev_bipush (pc := 53) (fe_145 rfl) lb_101 ?_
  refine ev_bipush (pc := 55) (fe_145 rfl) lb_110 ?_
  refine ev_bipush (pc := 57) (fe_145 rfl) lb_103 ?_
  refine ev_callSk (pc := 59) (fe_145 rfl) (z := 138) (na := 5) (ow := 10) cg_145_161 rfl (m := 0) rfl (jK138 rfl) (st1 := [.inl (jF138 (x0 - 8) 76 101 110 103)]) rfl ?_
  refine ev_goto (pc := 62) (fe_145 rfl) (t := 80) rfl ?_
  exact ev_R (ev_irt (pc := 80) (fe_145 rfl) rt_145) (by rw [← h])
  refine ev_iload_n (pc := 6) (fe_145 rfl) rfl ?_
  refine ev_iconst (pc := 7) (fe_145 rfl) li_4 ?_
  refine ev_ic_ge (pc := 8) (fe_145 rfl) (t := 26) rfl h (fun h => ?_) (fun h => ?_)
  refine ev_iload_n (pc := 26) (fe_145 rfl) rfl ?_
  refine ev_iconst (pc := 27) (fe_145 rfl) li_4 ?_
  refine ev_isub (pc := 28) (fe_145 rfl) ?_
  refine ev_bipush (pc := 29) (fe_145 rfl) lb_101 ?_
  refine ev_bipush (pc := 31) (fe_145 rfl) lb_110 ?_
  refine ev_bipush (pc := 33) (fe_145 rfl) lb_116 ?_
  refine ev_bipush (pc := 35) (fe_145 rfl) lb_45 ?_
  refine ev_callSk (pc := 37) (fe_145 rfl) (z := 138) (na := 5) (ow := 10) cg_145_161 rfl (m := 0) rfl (jK138 rfl) (st1 := [.inl (jF138 (x0 - 4) 101 110 116 45)]) rfl ?_
  exact ev_R (ev_irt (pc := 40) (fe_145 rfl) rt_145) (by rw [← h])
  refine ev_iload_n (pc := 11) (fe_145 rfl) rfl ?_
  refine ev_bipush (pc := 12) (fe_145 rfl) lb_67 ?_
  refine ev_bipush (pc := 14) (fe_145 rfl) lb_111 ?_
  refine ev_bipush (pc := 16) (fe_145 rfl) lb_110 ?_
  refine ev_bipush (pc := 18) (fe_145 rfl) lb_116 ?_
  refine ev_callSk (pc := 20) (fe_145 rfl) (z := 138) (na := 5) (ow := 10) cg_145_161 rfl (m := 0) rfl (jK138 rfl) (st1 := [.inl (jF138 x0 67 111 110 116)]) rfl ?_
  refine ev_goto (pc := 23) (fe_145 rfl) (t := 40) rfl ?_
  exact ev_R (ev_irt (pc := 40) (fe_145 rfl) rt_145) (by rw [← h])
/-- CallAgentsModel branchWord -/
def jF146 (x0 : Int32) : Int32 :=
  if x0 < 4 then
  (jF138 x0 59 98 114 97)
  else
  (jF138 (x0 - 4) 110 99 104 61)
theorem jK146 {X : Nat × (Nat → Int32)} {x0 : Int32} {u : fm} {r : Int32} (h : jF146 x0 = r) : ev X 146 0 [some (.inl x0)] [] u ([.inl r], u) := by
  unfold jF146 at h
  refine ev_iload_n (pc := 0) (fe_146 rfl) rfl ?_
  refine ev_iconst (pc := 1) (fe_146 rfl) li_4 ?_
  refine ev_ic_ge (pc := 2) (fe_146 rfl) (t := 20) rfl h (fun h => ?_) (fun h => ?_)
  refine ev_iload_n (pc := 20) (fe_146 rfl) rfl ?_
  refine ev_iconst (pc := 21) (fe_146 rfl) li_4 ?_
  refine ev_isub (pc := 22) (fe_146 rfl) ?_
  refine ev_bipush (pc := 23) (fe_146 rfl) lb_110 ?_
  refine ev_bipush (pc := 25) (fe_146 rfl) lb_99 ?_
  refine ev_bipush (pc := 27) (fe_146 rfl) lb_104 ?_
  refine ev_bipush (pc := 29) (fe_146 rfl) lb_61 ?_
  refine ev_callSk (pc := 31) (fe_146 rfl) (z := 138) (na := 5) (ow := 10) cg_146_161 rfl (m := 0) rfl (jK138 rfl) (st1 := [.inl (jF138 (x0 - 4) 110 99 104 61)]) rfl ?_
  exact ev_R (ev_irt (pc := 34) (fe_146 rfl) rt_146) (by rw [← h])
  refine ev_iload_n (pc := 5) (fe_146 rfl) rfl ?_
  refine ev_bipush (pc := 6) (fe_146 rfl) lb_59 ?_
  refine ev_bipush (pc := 8) (fe_146 rfl) lb_98 ?_
  refine ev_bipush (pc := 10) (fe_146 rfl) lb_114 ?_
  refine ev_bipush (pc := 12) (fe_146 rfl) lb_97 ?_
  refine ev_callSk (pc := 14) (fe_146 rfl) (z := 138) (na := 5) (ow := 10) cg_146_161 rfl (m := 0) rfl (jK138 rfl) (st1 := [.inl (jF138 x0 59 98 114 97)]) rfl ?_
  refine ev_goto (pc := 17) (fe_146 rfl) (t := 34) rfl ?_
  exact ev_R (ev_irt (pc := 34) (fe_146 rfl) rt_146) (by rw [← h])
/-- CallAgentsModel cookie -/
def jF147 (x0 : Int32) : Int32 :=
  if x0 < 4 then
  (jF138 x0 122 57 104 71)
  else
  (if x0 = 4 then
  (52)
  else
  (if x0 = 5 then
  (98)
  else
  (if x0 = 6 then
  (75)
  else
  (0))))
theorem jK147 {X : Nat × (Nat → Int32)} {x0 : Int32} {u : fm} {r : Int32} (h : jF147 x0 = r) : ev X 147 0 [some (.inl x0)] [] u ([.inl r], u) := by
  unfold jF147 at h
  refine ev_iload_n (pc := 0) (fe_147 rfl) rfl ?_
  refine ev_iconst (pc := 1) (fe_147 rfl) li_4 ?_
  refine ev_ic_ge (pc := 2) (fe_147 rfl) (t := 20) rfl h (fun h => ?_) (fun h => ?_)
  refine ev_iload_n (pc := 20) (fe_147 rfl) rfl ?_
  refine ev_iconst (pc := 21) (fe_147 rfl) li_4 ?_
  refine ev_ic_ne (pc := 22) (fe_147 rfl) (t := 30) rfl h (fun h => ?_) (fun h => ?_)
  refine ev_iload_n (pc := 30) (fe_147 rfl) rfl ?_
  refine ev_iconst (pc := 31) (fe_147 rfl) li_5 ?_
  refine ev_ic_ne (pc := 32) (fe_147 rfl) (t := 40) rfl h (fun h => ?_) (fun h => ?_)
  refine ev_iload_n (pc := 40) (fe_147 rfl) rfl ?_
  refine ev_bipush (pc := 41) (fe_147 rfl) lb_6 ?_
  refine ev_ic_ne (pc := 43) (fe_147 rfl) (t := 51) rfl h (fun h => ?_) (fun h => ?_)
  refine ev_iconst (pc := 51) (fe_147 rfl) li_0 ?_
  exact ev_R (ev_irt (pc := 52) (fe_147 rfl) rt_147) (by rw [← h])
  refine ev_bipush (pc := 46) (fe_147 rfl) lb_75 ?_
  refine ev_goto (pc := 48) (fe_147 rfl) (t := 52) rfl ?_
  exact ev_R (ev_irt (pc := 52) (fe_147 rfl) rt_147) (by rw [← h])
  refine ev_bipush (pc := 35) (fe_147 rfl) lb_98 ?_
  refine ev_goto (pc := 37) (fe_147 rfl) (t := 52) rfl ?_
  exact ev_R (ev_irt (pc := 52) (fe_147 rfl) rt_147) (by rw [← h])
  refine ev_bipush (pc := 25) (fe_147 rfl) lb_52 ?_
  refine ev_goto (pc := 27) (fe_147 rfl) (t := 52) rfl ?_
  exact ev_R (ev_irt (pc := 52) (fe_147 rfl) rt_147) (by rw [← h])
  refine ev_iload_n (pc := 5) (fe_147 rfl) rfl ?_
  refine ev_bipush (pc := 6) (fe_147 rfl) lb_122 ?_
  refine ev_bipush (pc := 8) (fe_147 rfl) lb_57 ?_
  refine ev_bipush (pc := 10) (fe_147 rfl) lb_104 ?_
  refine ev_bipush (pc := 12) (fe_147 rfl) lb_71 ?_
  refine ev_callSk (pc := 14) (fe_147 rfl) (z := 138) (na := 5) (ow := 10) cg_147_161 rfl (m := 0) rfl (jK138 rfl) (st1 := [.inl (jF138 x0 122 57 104 71)]) rfl ?_
  refine ev_goto (pc := 17) (fe_147 rfl) (t := 52) rfl ?_
  exact ev_R (ev_irt (pc := 52) (fe_147 rfl) rt_147) (by rw [← h])
/-- CallAgentsModel tagWord -/
def jF148 (x0 : Int32) : Int32 :=
  if x0 = 0 then
  (59)
  else
  (jF138 (x0 - 1) 116 97 103 61)
theorem jK148 {X : Nat × (Nat → Int32)} {x0 : Int32} {u : fm} {r : Int32} (h : jF148 x0 = r) : ev X 148 0 [some (.inl x0)] [] u ([.inl r], u) := by
  unfold jF148 at h
  refine ev_iload_n (pc := 0) (fe_148 rfl) rfl ?_
  refine ev_if_ne (pc := 1) (fe_148 rfl) (t := 9) rfl h (fun h => ?_) (fun h => ?_)
  refine ev_iload_n (pc := 9) (fe_148 rfl) rfl ?_
  refine ev_iconst (pc := 10) (fe_148 rfl) li_1 ?_
  refine ev_isub (pc := 11) (fe_148 rfl) ?_
  refine ev_bipush (pc := 12) (fe_148 rfl) lb_116 ?_
  refine ev_bipush (pc := 14) (fe_148 rfl) lb_97 ?_
  refine ev_bipush (pc := 16) (fe_148 rfl) lb_103 ?_
  refine ev_bipush (pc := 18) (fe_148 rfl) lb_61 ?_
  refine ev_callSk (pc := 20) (fe_148 rfl) (z := 138) (na := 5) (ow := 10) cg_148_161 rfl (m := 0) rfl (jK138 rfl) (st1 := [.inl (jF138 (x0 - 1) 116 97 103 61)]) rfl ?_
  exact ev_R (ev_irt (pc := 23) (fe_148 rfl) rt_148) (by rw [← h])
  refine ev_bipush (pc := 4) (fe_148 rfl) lb_59 ?_
  refine ev_goto (pc := 6) (fe_148 rfl) (t := 23) rfl ?_
  exact ev_R (ev_irt (pc := 23) (fe_148 rfl) rt_148) (by rw [← h])
/-- CallAgentsModel letter -/
def jF136 (x0 : Int32) (x1 : Int32) : Int32 :=
  if x0 = 0 then
  (jF137 x1 73 78 86 73 84 69 x0)
  else if x0 = 1 then
  (if x1 = 0 then
  (65)
  else
  (if x1 = 1 then
  (67)
  else
  (if x1 = 2 then
  (75)
  else
  (jF139 (x1 - 3)))))
  else if x0 = 2 then
  (if x1 = 0 then
  (66)
  else
  (if x1 = 1 then
  (89)
  else
  (if x1 = 2 then
  (69)
  else
  (jF139 (x1 - 3)))))
  else if x0 = 3 then
  (if x1 < 8 then
  (jF140 x1)
  else
  (if x1 < 12 then
  (jF141 (x1 - 8) 49 56 48)
  else
  (jF142 (x1 - 12))))
  else if x0 = 4 then
  (if x1 < 8 then
  (jF140 x1)
  else
  (if x1 < 12 then
  (jF141 (x1 - 8) 50 48 48)
  else
  (if x1 = 12 then
  (79)
  else
  (if x1 = 13 then
  (75)
  else
  (0)))))
  else if x0 = 5 then
  (if x1 < 8 then
  (jF140 x1)
  else
  (if x1 < 12 then
  (jF141 (x1 - 8) 52 56 54)
  else
  (jF138 (x1 - 12) 66 117 115 121)))
  else if x0 = 6 then
  (if x1 < 8 then
  (jF140 x1)
  else
  (if x1 < 12 then
  (jF141 (x1 - 8) 52 56 49)
  else
  (jF138 (x1 - 12) 71 111 110 101)))
  else if x0 = 7 then
  (jF143 x1)
  else if x0 = 8 then
  (if x1 < 4 then
  (jF138 x1 70 114 111 109)
  else
  (jF144 (x1 - 4)))
  else if x0 = 9 then
  (if x1 = 0 then
  (84)
  else
  (if x1 = 1 then
  (111)
  else
  (jF144 (x1 - 2))))
  else if x0 = 10 then
  (if x1 < 4 then
  (jF138 x1 67 97 108 108)
  else
  (if x1 < 8 then
  (jF138 (x1 - 4) 45 73 68 58)
  else
  (if x1 = 8 then
  (32)
  else
  (0))))
  else if x0 = 11 then
  (if x1 < 4 then
  (jF138 x1 67 83 101 113)
  else
  (if x1 = 4 then
  (58)
  else
  (if x1 = 5 then
  (32)
  else
  (0))))
  else if x0 = 12 then
  (jF145 x1)
  else if x0 = 13 then
  (jF137 x1 73 78 86 73 84 69 x0)
  else if x0 = 14 then
  (if x1 = 0 then
  (65)
  else
  (if x1 = 1 then
  (67)
  else
  (if x1 = 2 then
  (75)
  else
  (0))))
  else if x0 = 15 then
  (if x1 = 0 then
  (66)
  else
  (if x1 = 1 then
  (89)
  else
  (if x1 = 2 then
  (69)
  else
  (0))))
  else if x0 = 16 then
  (if x1 = 0 then
  (32)
  else
  (if x1 < 8 then
  (jF140 (x1 - 1))
  else
  (0)))
  else if x0 = 17 then
  (if x1 < 8 then
  (jF146 x1)
  else
  (if x1 < 15 then
  (jF147 (x1 - 8))
  else
  (0)))
  else (if x1 = 0 then
  (62)
  else
  (jF148 (x1 - 1)))
theorem jK136 {X : Nat × (Nat → Int32)} {x0 : Int32} {x1 : Int32} {u : fm} {r : Int32} (h : jF136 x0 x1 = r) : ev X 136 0 [some (.inl x0), some (.inl x1)] [] u ([.inl r], u) := by
  unfold jF136 at h
  refine ev_iload_n (pc := 0) (fe_136 rfl) rfl ?_
  refine fm_sp h (fun w1_0 h => ?_) (fun w1_0 h => ?_)
  refine ev_swk (pc := 1) (fe_136 rfl) (c := 0) (by rw [w1_0]; decide) (by decide) rfl (t := 88) rfl ?_
  refine ev_iload_n (pc := 88) (fe_136 rfl) rfl ?_
  refine ev_bipush (pc := 89) (fe_136 rfl) lb_73 ?_
  refine ev_bipush (pc := 91) (fe_136 rfl) lb_78 ?_
  refine ev_bipush (pc := 93) (fe_136 rfl) lb_86 ?_
  refine ev_bipush (pc := 95) (fe_136 rfl) lb_73 ?_
  refine ev_bipush (pc := 97) (fe_136 rfl) lb_84 ?_
  refine ev_bipush (pc := 99) (fe_136 rfl) lb_69 ?_
  refine ev_iload_n (pc := 101) (fe_136 rfl) rfl ?_
  refine ev_callSk (pc := 102) (fe_136 rfl) (z := 137) (na := 8) (ow := 10) cg_136_156 rfl (m := 1) rfl (jK137 rfl) (st1 := [.inl (jF137 x1 73 78 86 73 84 69 x0)]) rfl ?_
  exact ev_R (ev_irt (pc := 105) (fe_136 rfl) rt_136) (by rw [← h])
  refine fm_sp h (fun w1_1 h => ?_) (fun w1_1 h => ?_)
  refine ev_swk (pc := 1) (fe_136 rfl) (c := 1) (by rw [w1_1]; decide) (by decide) rfl (t := 106) rfl ?_
  refine ev_iload_n (pc := 106) (fe_136 rfl) rfl ?_
  refine ev_if_ne (pc := 107) (fe_136 rfl) (t := 115) rfl h (fun h => ?_) (fun h => ?_)
  refine ev_iload_n (pc := 115) (fe_136 rfl) rfl ?_
  refine ev_iconst (pc := 116) (fe_136 rfl) li_1 ?_
  refine ev_ic_ne (pc := 117) (fe_136 rfl) (t := 125) rfl h (fun h => ?_) (fun h => ?_)
  refine ev_iload_n (pc := 125) (fe_136 rfl) rfl ?_
  refine ev_iconst (pc := 126) (fe_136 rfl) li_2 ?_
  refine ev_ic_ne (pc := 127) (fe_136 rfl) (t := 135) rfl h (fun h => ?_) (fun h => ?_)
  refine ev_iload_n (pc := 135) (fe_136 rfl) rfl ?_
  refine ev_iconst (pc := 136) (fe_136 rfl) li_3 ?_
  refine ev_isub (pc := 137) (fe_136 rfl) ?_
  refine ev_callSk (pc := 138) (fe_136 rfl) (z := 139) (na := 1) (ow := 10) cg_136_157 rfl (m := 0) rfl (jK139 rfl) (st1 := [.inl (jF139 (x1 - 3))]) rfl ?_
  exact ev_R (ev_irt (pc := 141) (fe_136 rfl) rt_136) (by rw [← h])
  refine ev_bipush (pc := 130) (fe_136 rfl) lb_75 ?_
  refine ev_goto (pc := 132) (fe_136 rfl) (t := 141) rfl ?_
  exact ev_R (ev_irt (pc := 141) (fe_136 rfl) rt_136) (by rw [← h])
  refine ev_bipush (pc := 120) (fe_136 rfl) lb_67 ?_
  refine ev_goto (pc := 122) (fe_136 rfl) (t := 141) rfl ?_
  exact ev_R (ev_irt (pc := 141) (fe_136 rfl) rt_136) (by rw [← h])
  refine ev_bipush (pc := 110) (fe_136 rfl) lb_65 ?_
  refine ev_goto (pc := 112) (fe_136 rfl) (t := 141) rfl ?_
  exact ev_R (ev_irt (pc := 141) (fe_136 rfl) rt_136) (by rw [← h])
  refine fm_sp h (fun w1_2 h => ?_) (fun w1_2 h => ?_)
  refine ev_swk (pc := 1) (fe_136 rfl) (c := 2) (by rw [w1_2]; decide) (by decide) rfl (t := 142) rfl ?_
  refine ev_iload_n (pc := 142) (fe_136 rfl) rfl ?_
  refine ev_if_ne (pc := 143) (fe_136 rfl) (t := 151) rfl h (fun h => ?_) (fun h => ?_)
  refine ev_iload_n (pc := 151) (fe_136 rfl) rfl ?_
  refine ev_iconst (pc := 152) (fe_136 rfl) li_1 ?_
  refine ev_ic_ne (pc := 153) (fe_136 rfl) (t := 161) rfl h (fun h => ?_) (fun h => ?_)
  refine ev_iload_n (pc := 161) (fe_136 rfl) rfl ?_
  refine ev_iconst (pc := 162) (fe_136 rfl) li_2 ?_
  refine ev_ic_ne (pc := 163) (fe_136 rfl) (t := 171) rfl h (fun h => ?_) (fun h => ?_)
  refine ev_iload_n (pc := 171) (fe_136 rfl) rfl ?_
  refine ev_iconst (pc := 172) (fe_136 rfl) li_3 ?_
  refine ev_isub (pc := 173) (fe_136 rfl) ?_
  refine ev_callSk (pc := 174) (fe_136 rfl) (z := 139) (na := 1) (ow := 10) cg_136_157 rfl (m := 0) rfl (jK139 rfl) (st1 := [.inl (jF139 (x1 - 3))]) rfl ?_
  exact ev_R (ev_irt (pc := 177) (fe_136 rfl) rt_136) (by rw [← h])
  refine ev_bipush (pc := 166) (fe_136 rfl) lb_69 ?_
  refine ev_goto (pc := 168) (fe_136 rfl) (t := 177) rfl ?_
  exact ev_R (ev_irt (pc := 177) (fe_136 rfl) rt_136) (by rw [← h])
  refine ev_bipush (pc := 156) (fe_136 rfl) lb_89 ?_
  refine ev_goto (pc := 158) (fe_136 rfl) (t := 177) rfl ?_
  exact ev_R (ev_irt (pc := 177) (fe_136 rfl) rt_136) (by rw [← h])
  refine ev_bipush (pc := 146) (fe_136 rfl) lb_66 ?_
  refine ev_goto (pc := 148) (fe_136 rfl) (t := 177) rfl ?_
  exact ev_R (ev_irt (pc := 177) (fe_136 rfl) rt_136) (by rw [← h])
  refine fm_sp h (fun w1_3 h => ?_) (fun w1_3 h => ?_)
  refine ev_swk (pc := 1) (fe_136 rfl) (c := 3) (by rw [w1_3]; decide) (by decide) rfl (t := 178) rfl ?_
  refine ev_iload_n (pc := 178) (fe_136 rfl) rfl ?_
  refine ev_bipush (pc := 179) (fe_136 rfl) lb_8 ?_
  refine ev_ic_ge (pc := 181) (fe_136 rfl) (t := 191) rfl h (fun h => ?_) (fun h => ?_)
  refine ev_iload_n (pc := 191) (fe_136 rfl) rfl ?_
  refine ev_bipush (pc := 192) (fe_136 rfl) lb_12 ?_
  refine ev_ic_ge (pc := 194) (fe_136 rfl) (t := 213) rfl h (fun h => ?_) (fun h => ?_)
  refine ev_iload_n (pc := 213) (fe_136 rfl) rfl ?_
  refine ev_bipush (pc := 214) (fe_136 rfl) lb_12 ?_
  refine ev_isub (pc := 216) (fe_136 rfl) ?_
  refine ev_callSk (pc := 217) (fe_136 rfl) (z := 142) (na := 1) (ow := 10) cg_136_160 rfl (m := 0) rfl (jK142 rfl) (st1 := [.inl (jF142 (x1 - 12))]) rfl ?_
  exact ev_R (ev_irt (pc := 220) (fe_136 rfl) rt_136) (by rw [← h])
  refine ev_iload_n (pc := 197) (fe_136 rfl) rfl ?_
  refine ev_bipush (pc := 198) (fe_136 rfl) lb_8 ?_
  refine ev_isub (pc := 200) (fe_136 rfl) ?_
  refine ev_bipush (pc := 201) (fe_136 rfl) lb_49 ?_
  refine ev_bipush (pc := 203) (fe_136 rfl) lb_56 ?_
  refine ev_bipush (pc := 205) (fe_136 rfl) lb_48 ?_
  refine ev_callSk (pc := 207) (fe_136 rfl) (z := 141) (na := 4) (ow := 10) cg_136_159 rfl (m := 0) rfl (jK141 rfl) (st1 := [.inl (jF141 (x1 - 8) 49 56 48)]) rfl ?_
  refine ev_goto (pc := 210) (fe_136 rfl) (t := 220) rfl ?_
  exact ev_R (ev_irt (pc := 220) (fe_136 rfl) rt_136) (by rw [← h])
  refine ev_iload_n (pc := 184) (fe_136 rfl) rfl ?_
  refine ev_callSk (pc := 185) (fe_136 rfl) (z := 140) (na := 1) (ow := 10) cg_136_158 rfl (m := 0) rfl (jK140 rfl) (st1 := [.inl (jF140 x1)]) rfl ?_
  refine ev_goto (pc := 188) (fe_136 rfl) (t := 220) rfl ?_
  exact ev_R (ev_irt (pc := 220) (fe_136 rfl) rt_136) (by rw [← h])
  refine fm_sp h (fun w1_4 h => ?_) (fun w1_4 h => ?_)
  refine ev_swk (pc := 1) (fe_136 rfl) (c := 4) (by rw [w1_4]; decide) (by decide) rfl (t := 221) rfl ?_
  refine ev_iload_n (pc := 221) (fe_136 rfl) rfl ?_
  refine ev_bipush (pc := 222) (fe_136 rfl) lb_8 ?_
  refine ev_ic_ge (pc := 224) (fe_136 rfl) (t := 234) rfl h (fun h => ?_) (fun h => ?_)
  refine ev_iload_n (pc := 234) (fe_136 rfl) rfl ?_
  refine ev_bipush (pc := 235) (fe_136 rfl) lb_12 ?_
  refine ev_ic_ge (pc := 237) (fe_136 rfl) (t := 256) rfl h (fun h => ?_) (fun h => ?_)
  refine ev_iload_n (pc := 256) (fe_136 rfl) rfl ?_
  refine ev_bipush (pc := 257) (fe_136 rfl) lb_12 ?_
  refine ev_ic_ne (pc := 259) (fe_136 rfl) (t := 267) rfl h (fun h => ?_) (fun h => ?_)
  refine ev_iload_n (pc := 267) (fe_136 rfl) rfl ?_
  refine ev_bipush (pc := 268) (fe_136 rfl) lb_13 ?_
  refine ev_ic_ne (pc := 270) (fe_136 rfl) (t := 278) rfl h (fun h => ?_) (fun h => ?_)
  refine ev_iconst (pc := 278) (fe_136 rfl) li_0 ?_
  exact ev_R (ev_irt (pc := 279) (fe_136 rfl) rt_136) (by rw [← h])
  refine ev_bipush (pc := 273) (fe_136 rfl) lb_75 ?_
  refine ev_goto (pc := 275) (fe_136 rfl) (t := 279) rfl ?_
  exact ev_R (ev_irt (pc := 279) (fe_136 rfl) rt_136) (by rw [← h])
  refine ev_bipush (pc := 262) (fe_136 rfl) lb_79 ?_
  refine ev_goto (pc := 264) (fe_136 rfl) (t := 279) rfl ?_
  exact ev_R (ev_irt (pc := 279) (fe_136 rfl) rt_136) (by rw [← h])
  refine ev_iload_n (pc := 240) (fe_136 rfl) rfl ?_
  refine ev_bipush (pc := 241) (fe_136 rfl) lb_8 ?_
  refine ev_isub (pc := 243) (fe_136 rfl) ?_
  refine ev_bipush (pc := 244) (fe_136 rfl) lb_50 ?_
  refine ev_bipush (pc := 246) (fe_136 rfl) lb_48 ?_
  refine ev_bipush (pc := 248) (fe_136 rfl) lb_48 ?_
  refine ev_callSk (pc := 250) (fe_136 rfl) (z := 141) (na := 4) (ow := 10) cg_136_159 rfl (m := 0) rfl (jK141 rfl) (st1 := [.inl (jF141 (x1 - 8) 50 48 48)]) rfl ?_
  refine ev_goto (pc := 253) (fe_136 rfl) (t := 279) rfl ?_
  exact ev_R (ev_irt (pc := 279) (fe_136 rfl) rt_136) (by rw [← h])
  refine ev_iload_n (pc := 227) (fe_136 rfl) rfl ?_
  refine ev_callSk (pc := 228) (fe_136 rfl) (z := 140) (na := 1) (ow := 10) cg_136_158 rfl (m := 0) rfl (jK140 rfl) (st1 := [.inl (jF140 x1)]) rfl ?_
  refine ev_goto (pc := 231) (fe_136 rfl) (t := 279) rfl ?_
  exact ev_R (ev_irt (pc := 279) (fe_136 rfl) rt_136) (by rw [← h])
  refine fm_sp h (fun w1_5 h => ?_) (fun w1_5 h => ?_)
  refine ev_swk (pc := 1) (fe_136 rfl) (c := 5) (by rw [w1_5]; decide) (by decide) rfl (t := 280) rfl ?_
  refine ev_iload_n (pc := 280) (fe_136 rfl) rfl ?_
  refine ev_bipush (pc := 281) (fe_136 rfl) lb_8 ?_
  refine ev_ic_ge (pc := 283) (fe_136 rfl) (t := 293) rfl h (fun h => ?_) (fun h => ?_)
  refine ev_iload_n (pc := 293) (fe_136 rfl) rfl ?_
  refine ev_bipush (pc := 294) (fe_136 rfl) lb_12 ?_
  refine ev_ic_ge (pc := 296) (fe_136 rfl) (t := 315) rfl h (fun h => ?_) (fun h => ?_)
  refine ev_iload_n (pc := 315) (fe_136 rfl) rfl ?_
  refine ev_bipush (pc := 316) (fe_136 rfl) lb_12 ?_
  refine ev_isub (pc := 318) (fe_136 rfl) ?_
  refine ev_bipush (pc := 319) (fe_136 rfl) lb_66 ?_
  refine ev_bipush (pc := 321) (fe_136 rfl) lb_117 ?_
  refine ev_bipush (pc := 323) (fe_136 rfl) lb_115 ?_
  refine ev_bipush (pc := 325) (fe_136 rfl) lb_121 ?_
  refine ev_callSk (pc := 327) (fe_136 rfl) (z := 138) (na := 5) (ow := 10) cg_136_161 rfl (m := 0) rfl (jK138 rfl) (st1 := [.inl (jF138 (x1 - 12) 66 117 115 121)]) rfl ?_
  exact ev_R (ev_irt (pc := 330) (fe_136 rfl) rt_136) (by rw [← h])
  refine ev_iload_n (pc := 299) (fe_136 rfl) rfl ?_
  refine ev_bipush (pc := 300) (fe_136 rfl) lb_8 ?_
  refine ev_isub (pc := 302) (fe_136 rfl) ?_
  refine ev_bipush (pc := 303) (fe_136 rfl) lb_52 ?_
  refine ev_bipush (pc := 305) (fe_136 rfl) lb_56 ?_
  refine ev_bipush (pc := 307) (fe_136 rfl) lb_54 ?_
  refine ev_callSk (pc := 309) (fe_136 rfl) (z := 141) (na := 4) (ow := 10) cg_136_159 rfl (m := 0) rfl (jK141 rfl) (st1 := [.inl (jF141 (x1 - 8) 52 56 54)]) rfl ?_
  refine ev_goto (pc := 312) (fe_136 rfl) (t := 330) rfl ?_
  exact ev_R (ev_irt (pc := 330) (fe_136 rfl) rt_136) (by rw [← h])
  refine ev_iload_n (pc := 286) (fe_136 rfl) rfl ?_
  refine ev_callSk (pc := 287) (fe_136 rfl) (z := 140) (na := 1) (ow := 10) cg_136_158 rfl (m := 0) rfl (jK140 rfl) (st1 := [.inl (jF140 x1)]) rfl ?_
  refine ev_goto (pc := 290) (fe_136 rfl) (t := 330) rfl ?_
  exact ev_R (ev_irt (pc := 330) (fe_136 rfl) rt_136) (by rw [← h])
  refine fm_sp h (fun w1_6 h => ?_) (fun w1_6 h => ?_)
  refine ev_swk (pc := 1) (fe_136 rfl) (c := 6) (by rw [w1_6]; decide) (by decide) rfl (t := 331) rfl ?_
  refine ev_iload_n (pc := 331) (fe_136 rfl) rfl ?_
  refine ev_bipush (pc := 332) (fe_136 rfl) lb_8 ?_
  refine ev_ic_ge (pc := 334) (fe_136 rfl) (t := 344) rfl h (fun h => ?_) (fun h => ?_)
  refine ev_iload_n (pc := 344) (fe_136 rfl) rfl ?_
  refine ev_bipush (pc := 345) (fe_136 rfl) lb_12 ?_
  refine ev_ic_ge (pc := 347) (fe_136 rfl) (t := 366) rfl h (fun h => ?_) (fun h => ?_)
  refine ev_iload_n (pc := 366) (fe_136 rfl) rfl ?_
  refine ev_bipush (pc := 367) (fe_136 rfl) lb_12 ?_
  refine ev_isub (pc := 369) (fe_136 rfl) ?_
  refine ev_bipush (pc := 370) (fe_136 rfl) lb_71 ?_
  refine ev_bipush (pc := 372) (fe_136 rfl) lb_111 ?_
  refine ev_bipush (pc := 374) (fe_136 rfl) lb_110 ?_
  refine ev_bipush (pc := 376) (fe_136 rfl) lb_101 ?_
  refine ev_callSk (pc := 378) (fe_136 rfl) (z := 138) (na := 5) (ow := 10) cg_136_161 rfl (m := 0) rfl (jK138 rfl) (st1 := [.inl (jF138 (x1 - 12) 71 111 110 101)]) rfl ?_
  exact ev_R (ev_irt (pc := 381) (fe_136 rfl) rt_136) (by rw [← h])
  refine ev_iload_n (pc := 350) (fe_136 rfl) rfl ?_
  refine ev_bipush (pc := 351) (fe_136 rfl) lb_8 ?_
  refine ev_isub (pc := 353) (fe_136 rfl) ?_
  refine ev_bipush (pc := 354) (fe_136 rfl) lb_52 ?_
  refine ev_bipush (pc := 356) (fe_136 rfl) lb_56 ?_
  refine ev_bipush (pc := 358) (fe_136 rfl) lb_49 ?_
  refine ev_callSk (pc := 360) (fe_136 rfl) (z := 141) (na := 4) (ow := 10) cg_136_159 rfl (m := 0) rfl (jK141 rfl) (st1 := [.inl (jF141 (x1 - 8) 52 56 49)]) rfl ?_
  refine ev_goto (pc := 363) (fe_136 rfl) (t := 381) rfl ?_
  exact ev_R (ev_irt (pc := 381) (fe_136 rfl) rt_136) (by rw [← h])
  refine ev_iload_n (pc := 337) (fe_136 rfl) rfl ?_
  refine ev_callSk (pc := 338) (fe_136 rfl) (z := 140) (na := 1) (ow := 10) cg_136_158 rfl (m := 0) rfl (jK140 rfl) (st1 := [.inl (jF140 x1)]) rfl ?_
  refine ev_goto (pc := 341) (fe_136 rfl) (t := 381) rfl ?_
  exact ev_R (ev_irt (pc := 381) (fe_136 rfl) rt_136) (by rw [← h])
  refine fm_sp h (fun w1_7 h => ?_) (fun w1_7 h => ?_)
  refine ev_swk (pc := 1) (fe_136 rfl) (c := 7) (by rw [w1_7]; decide) (by decide) rfl (t := 382) rfl ?_
  refine ev_iload_n (pc := 382) (fe_136 rfl) rfl ?_
  refine ev_callSk (pc := 383) (fe_136 rfl) (z := 143) (na := 1) (ow := 10) cg_136_162 rfl (m := 0) rfl (jK143 rfl) (st1 := [.inl (jF143 x1)]) rfl ?_
  exact ev_R (ev_irt (pc := 386) (fe_136 rfl) rt_136) (by rw [← h])
  refine fm_sp h (fun w1_8 h => ?_) (fun w1_8 h => ?_)
  refine ev_swk (pc := 1) (fe_136 rfl) (c := 8) (by rw [w1_8]; decide) (by decide) rfl (t := 387) rfl ?_
  refine ev_iload_n (pc := 387) (fe_136 rfl) rfl ?_
  refine ev_iconst (pc := 388) (fe_136 rfl) li_4 ?_
  refine ev_ic_ge (pc := 389) (fe_136 rfl) (t := 407) rfl h (fun h => ?_) (fun h => ?_)
  refine ev_iload_n (pc := 407) (fe_136 rfl) rfl ?_
  refine ev_iconst (pc := 408) (fe_136 rfl) li_4 ?_
  refine ev_isub (pc := 409) (fe_136 rfl) ?_
  refine ev_callSk (pc := 410) (fe_136 rfl) (z := 144) (na := 1) (ow := 10) cg_136_163 rfl (m := 0) rfl (jK144 rfl) (st1 := [.inl (jF144 (x1 - 4))]) rfl ?_
  exact ev_R (ev_irt (pc := 413) (fe_136 rfl) rt_136) (by rw [← h])
  refine ev_iload_n (pc := 392) (fe_136 rfl) rfl ?_
  refine ev_bipush (pc := 393) (fe_136 rfl) lb_70 ?_
  refine ev_bipush (pc := 395) (fe_136 rfl) lb_114 ?_
  refine ev_bipush (pc := 397) (fe_136 rfl) lb_111 ?_
  refine ev_bipush (pc := 399) (fe_136 rfl) lb_109 ?_
  refine ev_callSk (pc := 401) (fe_136 rfl) (z := 138) (na := 5) (ow := 10) cg_136_161 rfl (m := 0) rfl (jK138 rfl) (st1 := [.inl (jF138 x1 70 114 111 109)]) rfl ?_
  refine ev_goto (pc := 404) (fe_136 rfl) (t := 413) rfl ?_
  exact ev_R (ev_irt (pc := 413) (fe_136 rfl) rt_136) (by rw [← h])
  refine fm_sp h (fun w1_9 h => ?_) (fun w1_9 h => ?_)
  refine ev_swk (pc := 1) (fe_136 rfl) (c := 9) (by rw [w1_9]; decide) (by decide) rfl (t := 414) rfl ?_
  refine ev_iload_n (pc := 414) (fe_136 rfl) rfl ?_
  refine ev_if_ne (pc := 415) (fe_136 rfl) (t := 423) rfl h (fun h => ?_) (fun h => ?_)
  refine ev_iload_n (pc := 423) (fe_136 rfl) rfl ?_
  refine ev_iconst (pc := 424) (fe_136 rfl) li_1 ?_
  refine ev_ic_ne (pc := 425) (fe_136 rfl) (t := 433) rfl h (fun h => ?_) (fun h => ?_)
  refine ev_iload_n (pc := 433) (fe_136 rfl) rfl ?_
  refine ev_iconst (pc := 434) (fe_136 rfl) li_2 ?_
  refine ev_isub (pc := 435) (fe_136 rfl) ?_
  refine ev_callSk (pc := 436) (fe_136 rfl) (z := 144) (na := 1) (ow := 10) cg_136_163 rfl (m := 0) rfl (jK144 rfl) (st1 := [.inl (jF144 (x1 - 2))]) rfl ?_
  exact ev_R (ev_irt (pc := 439) (fe_136 rfl) rt_136) (by rw [← h])
  refine ev_bipush (pc := 428) (fe_136 rfl) lb_111 ?_
  refine ev_goto (pc := 430) (fe_136 rfl) (t := 439) rfl ?_
  exact ev_R (ev_irt (pc := 439) (fe_136 rfl) rt_136) (by rw [← h])
  refine ev_bipush (pc := 418) (fe_136 rfl) lb_84 ?_
  refine ev_goto (pc := 420) (fe_136 rfl) (t := 439) rfl ?_
  exact ev_R (ev_irt (pc := 439) (fe_136 rfl) rt_136) (by rw [← h])
  refine fm_sp h (fun w1_10 h => ?_) (fun w1_10 h => ?_)
  refine ev_swk (pc := 1) (fe_136 rfl) (c := 10) (by rw [w1_10]; decide) (by decide) rfl (t := 440) rfl ?_
  refine ev_iload_n (pc := 440) (fe_136 rfl) rfl ?_
  refine ev_iconst (pc := 441) (fe_136 rfl) li_4 ?_
  refine ev_ic_ge (pc := 442) (fe_136 rfl) (t := 460) rfl h (fun h => ?_) (fun h => ?_)
  refine ev_iload_n (pc := 460) (fe_136 rfl) rfl ?_
  refine ev_bipush (pc := 461) (fe_136 rfl) lb_8 ?_
  refine ev_ic_ge (pc := 463) (fe_136 rfl) (t := 483) rfl h (fun h => ?_) (fun h => ?_)
  refine ev_iload_n (pc := 483) (fe_136 rfl) rfl ?_
  refine ev_bipush (pc := 484) (fe_136 rfl) lb_8 ?_
  refine ev_ic_ne (pc := 486) (fe_136 rfl) (t := 494) rfl h (fun h => ?_) (fun h => ?_)
  refine ev_iconst (pc := 494) (fe_136 rfl) li_0 ?_
  exact ev_R (ev_irt (pc := 495) (fe_136 rfl) rt_136) (by rw [← h])
  refine ev_bipush (pc := 489) (fe_136 rfl) lb_32 ?_
  refine ev_goto (pc := 491) (fe_136 rfl) (t := 495) rfl ?_
  exact ev_R (ev_irt (pc := 495) (fe_136 rfl) rt_136) (by rw [← h])
  refine ev_iload_n (pc := 466) (fe_136 rfl) rfl ?_
  refine ev_iconst (pc := 467) (fe_136 rfl) li_4 ?_
  refine ev_isub (pc := 468) (fe_136 rfl) ?_
  refine ev_bipush (pc := 469) (fe_136 rfl) lb_45 ?_
  refine ev_bipush (pc := 471) (fe_136 rfl) lb_73 ?_
  refine ev_bipush (pc := 473) (fe_136 rfl) lb_68 ?_
  refine ev_bipush (pc := 475) (fe_136 rfl) lb_58 ?_
  refine ev_callSk (pc := 477) (fe_136 rfl) (z := 138) (na := 5) (ow := 10) cg_136_161 rfl (m := 0) rfl (jK138 rfl) (st1 := [.inl (jF138 (x1 - 4) 45 73 68 58)]) rfl ?_
  refine ev_goto (pc := 480) (fe_136 rfl) (t := 495) rfl ?_
  exact ev_R (ev_irt (pc := 495) (fe_136 rfl) rt_136) (by rw [← h])
  refine ev_iload_n (pc := 445) (fe_136 rfl) rfl ?_
  refine ev_bipush (pc := 446) (fe_136 rfl) lb_67 ?_
  refine ev_bipush (pc := 448) (fe_136 rfl) lb_97 ?_
  refine ev_bipush (pc := 450) (fe_136 rfl) lb_108 ?_
  refine ev_bipush (pc := 452) (fe_136 rfl) lb_108 ?_
  refine ev_callSk (pc := 454) (fe_136 rfl) (z := 138) (na := 5) (ow := 10) cg_136_161 rfl (m := 0) rfl (jK138 rfl) (st1 := [.inl (jF138 x1 67 97 108 108)]) rfl ?_
  refine ev_goto (pc := 457) (fe_136 rfl) (t := 495) rfl ?_
  exact ev_R (ev_irt (pc := 495) (fe_136 rfl) rt_136) (by rw [← h])
  refine fm_sp h (fun w1_11 h => ?_) (fun w1_11 h => ?_)
  refine ev_swk (pc := 1) (fe_136 rfl) (c := 11) (by rw [w1_11]; decide) (by decide) rfl (t := 496) rfl ?_
  refine ev_iload_n (pc := 496) (fe_136 rfl) rfl ?_
  refine ev_iconst (pc := 497) (fe_136 rfl) li_4 ?_
  refine ev_ic_ge (pc := 498) (fe_136 rfl) (t := 516) rfl h (fun h => ?_) (fun h => ?_)
  refine ev_iload_n (pc := 516) (fe_136 rfl) rfl ?_
  refine ev_iconst (pc := 517) (fe_136 rfl) li_4 ?_
  refine ev_ic_ne (pc := 518) (fe_136 rfl) (t := 526) rfl h (fun h => ?_) (fun h => ?_)
  refine ev_iload_n (pc := 526) (fe_136 rfl) rfl ?_
  refine ev_iconst (pc := 527) (fe_136 rfl) li_5 ?_
  refine ev_ic_ne (pc := 528) (fe_136 rfl) (t := 536) rfl h (fun h => ?_) (fun h => ?_)
  refine ev_iconst (pc := 536) (fe_136 rfl) li_0 ?_
  exact ev_R (ev_irt (pc := 537) (fe_136 rfl) rt_136) (by rw [← h])
  refine ev_bipush (pc := 531) (fe_136 rfl) lb_32 ?_
  refine ev_goto (pc := 533) (fe_136 rfl) (t := 537) rfl ?_
  exact ev_R (ev_irt (pc := 537) (fe_136 rfl) rt_136) (by rw [← h])
  refine ev_bipush (pc := 521) (fe_136 rfl) lb_58 ?_
  refine ev_goto (pc := 523) (fe_136 rfl) (t := 537) rfl ?_
  exact ev_R (ev_irt (pc := 537) (fe_136 rfl) rt_136) (by rw [← h])
  refine ev_iload_n (pc := 501) (fe_136 rfl) rfl ?_
  refine ev_bipush (pc := 502) (fe_136 rfl) lb_67 ?_
  refine ev_bipush (pc := 504) (fe_136 rfl) lb_83 ?_
  refine ev_bipush (pc := 506) (fe_136 rfl) lb_101 ?_
  refine ev_bipush (pc := 508) (fe_136 rfl) lb_113 ?_
  refine ev_callSk (pc := 510) (fe_136 rfl) (z := 138) (na := 5) (ow := 10) cg_136_161 rfl (m := 0) rfl (jK138 rfl) (st1 := [.inl (jF138 x1 67 83 101 113)]) rfl ?_
  refine ev_goto (pc := 513) (fe_136 rfl) (t := 537) rfl ?_
  exact ev_R (ev_irt (pc := 537) (fe_136 rfl) rt_136) (by rw [← h])
  refine fm_sp h (fun w1_12 h => ?_) (fun w1_12 h => ?_)
  refine ev_swk (pc := 1) (fe_136 rfl) (c := 12) (by rw [w1_12]; decide) (by decide) rfl (t := 538) rfl ?_
  refine ev_iload_n (pc := 538) (fe_136 rfl) rfl ?_
  refine ev_callSk (pc := 539) (fe_136 rfl) (z := 145) (na := 1) (ow := 10) cg_136_164 rfl (m := 0) rfl (jK145 rfl) (st1 := [.inl (jF145 x1)]) rfl ?_
  exact ev_R (ev_irt (pc := 542) (fe_136 rfl) rt_136) (by rw [← h])
  refine fm_sp h (fun w1_13 h => ?_) (fun w1_13 h => ?_)
  refine ev_swk (pc := 1) (fe_136 rfl) (c := 13) (by rw [w1_13]; decide) (by decide) rfl (t := 543) rfl ?_
  refine ev_iload_n (pc := 543) (fe_136 rfl) rfl ?_
  refine ev_bipush (pc := 544) (fe_136 rfl) lb_73 ?_
  refine ev_bipush (pc := 546) (fe_136 rfl) lb_78 ?_
  refine ev_bipush (pc := 548) (fe_136 rfl) lb_86 ?_
  refine ev_bipush (pc := 550) (fe_136 rfl) lb_73 ?_
  refine ev_bipush (pc := 552) (fe_136 rfl) lb_84 ?_
  refine ev_bipush (pc := 554) (fe_136 rfl) lb_69 ?_
  refine ev_iload_n (pc := 556) (fe_136 rfl) rfl ?_
  refine ev_callSk (pc := 557) (fe_136 rfl) (z := 137) (na := 8) (ow := 10) cg_136_156 rfl (m := 1) rfl (jK137 rfl) (st1 := [.inl (jF137 x1 73 78 86 73 84 69 x0)]) rfl ?_
  exact ev_R (ev_irt (pc := 560) (fe_136 rfl) rt_136) (by rw [← h])
  refine fm_sp h (fun w1_14 h => ?_) (fun w1_14 h => ?_)
  refine ev_swk (pc := 1) (fe_136 rfl) (c := 14) (by rw [w1_14]; decide) (by decide) rfl (t := 561) rfl ?_
  refine ev_iload_n (pc := 561) (fe_136 rfl) rfl ?_
  refine ev_if_ne (pc := 562) (fe_136 rfl) (t := 570) rfl h (fun h => ?_) (fun h => ?_)
  refine ev_iload_n (pc := 570) (fe_136 rfl) rfl ?_
  refine ev_iconst (pc := 571) (fe_136 rfl) li_1 ?_
  refine ev_ic_ne (pc := 572) (fe_136 rfl) (t := 580) rfl h (fun h => ?_) (fun h => ?_)
  refine ev_iload_n (pc := 580) (fe_136 rfl) rfl ?_
  refine ev_iconst (pc := 581) (fe_136 rfl) li_2 ?_
  refine ev_ic_ne (pc := 582) (fe_136 rfl) (t := 590) rfl h (fun h => ?_) (fun h => ?_)
  refine ev_iconst (pc := 590) (fe_136 rfl) li_0 ?_
  exact ev_R (ev_irt (pc := 591) (fe_136 rfl) rt_136) (by rw [← h])
  refine ev_bipush (pc := 585) (fe_136 rfl) lb_75 ?_
  refine ev_goto (pc := 587) (fe_136 rfl) (t := 591) rfl ?_
  exact ev_R (ev_irt (pc := 591) (fe_136 rfl) rt_136) (by rw [← h])
  refine ev_bipush (pc := 575) (fe_136 rfl) lb_67 ?_
  refine ev_goto (pc := 577) (fe_136 rfl) (t := 591) rfl ?_
  exact ev_R (ev_irt (pc := 591) (fe_136 rfl) rt_136) (by rw [← h])
  refine ev_bipush (pc := 565) (fe_136 rfl) lb_65 ?_
  refine ev_goto (pc := 567) (fe_136 rfl) (t := 591) rfl ?_
  exact ev_R (ev_irt (pc := 591) (fe_136 rfl) rt_136) (by rw [← h])
  refine fm_sp h (fun w1_15 h => ?_) (fun w1_15 h => ?_)
  refine ev_swk (pc := 1) (fe_136 rfl) (c := 15) (by rw [w1_15]; decide) (by decide) rfl (t := 592) rfl ?_
  refine ev_iload_n (pc := 592) (fe_136 rfl) rfl ?_
  refine ev_if_ne (pc := 593) (fe_136 rfl) (t := 601) rfl h (fun h => ?_) (fun h => ?_)
  refine ev_iload_n (pc := 601) (fe_136 rfl) rfl ?_
  refine ev_iconst (pc := 602) (fe_136 rfl) li_1 ?_
  refine ev_ic_ne (pc := 603) (fe_136 rfl) (t := 611) rfl h (fun h => ?_) (fun h => ?_)
  refine ev_iload_n (pc := 611) (fe_136 rfl) rfl ?_
  refine ev_iconst (pc := 612) (fe_136 rfl) li_2 ?_
  refine ev_ic_ne (pc := 613) (fe_136 rfl) (t := 621) rfl h (fun h => ?_) (fun h => ?_)
  refine ev_iconst (pc := 621) (fe_136 rfl) li_0 ?_
  exact ev_R (ev_irt (pc := 622) (fe_136 rfl) rt_136) (by rw [← h])
  refine ev_bipush (pc := 616) (fe_136 rfl) lb_69 ?_
  refine ev_goto (pc := 618) (fe_136 rfl) (t := 622) rfl ?_
  exact ev_R (ev_irt (pc := 622) (fe_136 rfl) rt_136) (by rw [← h])
  refine ev_bipush (pc := 606) (fe_136 rfl) lb_89 ?_
  refine ev_goto (pc := 608) (fe_136 rfl) (t := 622) rfl ?_
  exact ev_R (ev_irt (pc := 622) (fe_136 rfl) rt_136) (by rw [← h])
  refine ev_bipush (pc := 596) (fe_136 rfl) lb_66 ?_
  refine ev_goto (pc := 598) (fe_136 rfl) (t := 622) rfl ?_
  exact ev_R (ev_irt (pc := 622) (fe_136 rfl) rt_136) (by rw [← h])
  refine fm_sp h (fun w1_16 h => ?_) (fun w1_16 h => ?_)
  refine ev_swk (pc := 1) (fe_136 rfl) (c := 16) (by rw [w1_16]; decide) (by decide) rfl (t := 623) rfl ?_
  refine ev_iload_n (pc := 623) (fe_136 rfl) rfl ?_
  refine ev_if_ne (pc := 624) (fe_136 rfl) (t := 632) rfl h (fun h => ?_) (fun h => ?_)
  refine ev_iload_n (pc := 632) (fe_136 rfl) rfl ?_
  refine ev_bipush (pc := 633) (fe_136 rfl) lb_8 ?_
  refine ev_ic_ge (pc := 635) (fe_136 rfl) (t := 647) rfl h (fun h => ?_) (fun h => ?_)
  refine ev_iconst (pc := 647) (fe_136 rfl) li_0 ?_
  exact ev_R (ev_irt (pc := 648) (fe_136 rfl) rt_136) (by rw [← h])
  refine ev_iload_n (pc := 638) (fe_136 rfl) rfl ?_
  refine ev_iconst (pc := 639) (fe_136 rfl) li_1 ?_
  refine ev_isub (pc := 640) (fe_136 rfl) ?_
  refine ev_callSk (pc := 641) (fe_136 rfl) (z := 140) (na := 1) (ow := 10) cg_136_158 rfl (m := 0) rfl (jK140 rfl) (st1 := [.inl (jF140 (x1 - 1))]) rfl ?_
  refine ev_goto (pc := 644) (fe_136 rfl) (t := 648) rfl ?_
  exact ev_R (ev_irt (pc := 648) (fe_136 rfl) rt_136) (by rw [← h])
  refine ev_bipush (pc := 627) (fe_136 rfl) lb_32 ?_
  refine ev_goto (pc := 629) (fe_136 rfl) (t := 648) rfl ?_
  exact ev_R (ev_irt (pc := 648) (fe_136 rfl) rt_136) (by rw [← h])
  refine fm_sp h (fun w1_17 h => ?_) (fun w1_17 h => ?_)
  refine ev_swk (pc := 1) (fe_136 rfl) (c := 17) (by rw [w1_17]; decide) (by decide) rfl (t := 649) rfl ?_
  refine ev_iload_n (pc := 649) (fe_136 rfl) rfl ?_
  refine ev_bipush (pc := 650) (fe_136 rfl) lb_8 ?_
  refine ev_ic_ge (pc := 652) (fe_136 rfl) (t := 662) rfl h (fun h => ?_) (fun h => ?_)
  refine ev_iload_n (pc := 662) (fe_136 rfl) rfl ?_
  refine ev_bipush (pc := 663) (fe_136 rfl) lb_15 ?_
  refine ev_ic_ge (pc := 665) (fe_136 rfl) (t := 678) rfl h (fun h => ?_) (fun h => ?_)
  refine ev_iconst (pc := 678) (fe_136 rfl) li_0 ?_
  exact ev_R (ev_irt (pc := 679) (fe_136 rfl) rt_136) (by rw [← h])
  refine ev_iload_n (pc := 668) (fe_136 rfl) rfl ?_
  refine ev_bipush (pc := 669) (fe_136 rfl) lb_8 ?_
  refine ev_isub (pc := 671) (fe_136 rfl) ?_
  refine ev_callSk (pc := 672) (fe_136 rfl) (z := 147) (na := 1) (ow := 10) cg_136_166 rfl (m := 0) rfl (jK147 rfl) (st1 := [.inl (jF147 (x1 - 8))]) rfl ?_
  refine ev_goto (pc := 675) (fe_136 rfl) (t := 679) rfl ?_
  exact ev_R (ev_irt (pc := 679) (fe_136 rfl) rt_136) (by rw [← h])
  refine ev_iload_n (pc := 655) (fe_136 rfl) rfl ?_
  refine ev_callSk (pc := 656) (fe_136 rfl) (z := 146) (na := 1) (ow := 10) cg_136_165 rfl (m := 0) rfl (jK146 rfl) (st1 := [.inl (jF146 x1)]) rfl ?_
  refine ev_goto (pc := 659) (fe_136 rfl) (t := 679) rfl ?_
  exact ev_R (ev_irt (pc := 679) (fe_136 rfl) rt_136) (by rw [← h])
  refine ev_swd (pc := 1) (fe_136 rfl) (t := 680) rfl (fm_swx (lo := 0) (n := 18) (List.forall_mem_cons.mpr ⟨w1_0, List.forall_mem_cons.mpr ⟨w1_1, List.forall_mem_cons.mpr ⟨w1_2, List.forall_mem_cons.mpr ⟨w1_3, List.forall_mem_cons.mpr ⟨w1_4, List.forall_mem_cons.mpr ⟨w1_5, List.forall_mem_cons.mpr ⟨w1_6, List.forall_mem_cons.mpr ⟨w1_7, List.forall_mem_cons.mpr ⟨w1_8, List.forall_mem_cons.mpr ⟨w1_9, List.forall_mem_cons.mpr ⟨w1_10, List.forall_mem_cons.mpr ⟨w1_11, List.forall_mem_cons.mpr ⟨w1_12, List.forall_mem_cons.mpr ⟨w1_13, List.forall_mem_cons.mpr ⟨w1_14, List.forall_mem_cons.mpr ⟨w1_15, List.forall_mem_cons.mpr ⟨w1_16, List.forall_mem_cons.mpr ⟨w1_17, fun _ q => nomatch q⟩⟩⟩⟩⟩⟩⟩⟩⟩⟩⟩⟩⟩⟩⟩⟩⟩⟩)) ?_
  refine ev_iload_n (pc := 680) (fe_136 rfl) rfl ?_
  refine ev_if_ne (pc := 681) (fe_136 rfl) (t := 689) rfl h (fun h => ?_) (fun h => ?_)
  refine ev_iload_n (pc := 689) (fe_136 rfl) rfl ?_
  refine ev_iconst (pc := 690) (fe_136 rfl) li_1 ?_
  refine ev_isub (pc := 691) (fe_136 rfl) ?_
  refine ev_callSk (pc := 692) (fe_136 rfl) (z := 148) (na := 1) (ow := 10) cg_136_167 rfl (m := 0) rfl (jK148 rfl) (st1 := [.inl (jF148 (x1 - 1))]) rfl ?_
  exact ev_R (ev_irt (pc := 695) (fe_136 rfl) rt_136) (by rw [← h])
  refine ev_bipush (pc := 684) (fe_136 rfl) lb_62 ?_
  refine ev_goto (pc := 686) (fe_136 rfl) (t := 695) rfl ?_
  exact ev_R (ev_irt (pc := 695) (fe_136 rfl) rt_136) (by rw [← h])
/-- CallAgentsModel letters -/
def jF149_2 : Nat → Int32 → Int32 → Option (Int32)
  | 0, _, _ => none
  | n + 1, x0, x1 =>
  if (jF136 x0 x1) = 0 then
  (some x1)
  else
  (jF149_2 n x0 (x1 + 1))
def jF149 (x0 : Int32) : Option (Int32) :=
  jF149_2 fm_N x0 0
theorem jK149_2 {X : Nat × (Nat → Int32)} {u : fm} {r : Int32} : ∀ (n : Nat) (x0 : Int32) (x1 : Int32), jF149_2 n x0 x1 = some r → ev X 149 2 [some (.inl x0), some (.inl x1)] [] u ([.inl r], u) := by
  intro n
  induction n with
  | zero =>
    intro _ _ h
    unfold jF149_2 at h
    cases h
  | succ n ih =>
  intro x0 x1 h
  unfold jF149_2 at h
  refine ev_iload_n (pc := 2) (fe_149 rfl) rfl ?_
  refine ev_iload_n (pc := 3) (fe_149 rfl) rfl ?_
  refine ev_callSk (pc := 4) (fe_149 rfl) (z := 136) (na := 2) (ow := 10) cg_149_168 rfl (m := 0) rfl (jK136 rfl) (st1 := [.inl (jF136 x0 x1)]) rfl ?_
  refine ev_if_eq (pc := 7) (fe_149 rfl) (t := 16) rfl h (fun h => ?_) (fun h => ?_)
  refine ev_iload_n (pc := 16) (fe_149 rfl) rfl ?_
  exact ev_R (ev_irt (pc := 17) (fe_149 rfl) rt_149) (by rw [← Option.some.inj h])
  refine ev_iinc (pc := 10) (fe_149 rfl) mx_149 rfl rfl li_1 ?_
  refine ev_goto (pc := 13) (fe_149 rfl) (t := 2) rfl ?_
  exact ih x0 (x1 + 1) h
theorem jK149 {X : Nat × (Nat → Int32)} {x0 : Int32} {u : fm} {r : Int32} (h : jF149 x0 = some r) : ev X 149 0 [some (.inl x0), none] [] u ([.inl r], u) := by
  unfold jF149 at h
  refine ev_iconst (pc := 0) (fe_149 rfl) li_0 ?_
  refine ev_istore_n (pc := 1) (fe_149 rfl) mx_149 rfl ?_
  exact jK149_2 fm_N x0 0 h
/-- CallAgentsModel writeWord -/
def jF150_2 : Nat → Int32 → Int32 → fm → Option (fm)
  | 0, _, _, _ => none
  | n + 1, x1, x2, u =>
  Option.bind (jF149 x1) (fun p1 => if x2 < p1 then
  (Option.bind (jF134 (jF136 x1 x2) u) (fun p2 => jF150_2 n x1 (x2 + 1) p2))
  else
  (some u))
def jF150 (x1 : Int32) (u : fm) : Option (fm) :=
  jF150_2 fm_N x1 0 u
theorem jK150_2 {X : Nat × (Nat → Int32)} {r : fm} : ∀ (n : Nat) (x1 : Int32) (x2 : Int32) (u : fm), jF150_2 n x1 x2 u = some r → ev X 150 2 [some (.inr (.inl (some 223))), some (.inl x1), some (.inl x2)] [] u ([], r) := by
  intro n
  induction n with
  | zero =>
    intro _ _ _ h
    unfold jF150_2 at h
    cases h
  | succ n ih =>
  intro x1 x2 u h
  unfold jF150_2 at h
  refine ev_iload_n (pc := 2) (fe_150 rfl) rfl ?_
  refine ev_iload_n (pc := 3) (fe_150 rfl) rfl ?_
  refine fm_bd h (fun p1 ep1 h => ?_)
  refine ev_callSk (pc := 4) (fe_150 rfl) (z := 149) (na := 1) (ow := 10) cg_150_169 rfl (m := 1) rfl (jK149 ep1) (st1 := [.inl p1, .inl x2]) rfl ?_
  refine ev_ic_ge (pc := 7) (fe_150 rfl) (t := 25) rfl h (fun h => ?_) (fun h => ?_)
  exact ev_R (ev_vrt (pc := 25) (fe_150 rfl) rt_150) (by rw [← Option.some.inj h])
  refine ev_aload_n (pc := 10) (fe_150 rfl) rfl ?_
  refine ev_iload_n (pc := 11) (fe_150 rfl) rfl ?_
  refine ev_iload_n (pc := 12) (fe_150 rfl) rfl ?_
  refine ev_callSk (pc := 13) (fe_150 rfl) (z := 136) (na := 2) (ow := 10) cg_150_168 rfl (m := 0) rfl (jK136 rfl) (st1 := [.inl (jF136 x1 x2), .inr (.inl (some 223))]) rfl ?_
  refine fm_bd h (fun p2 ep2 h => ?_)
  refine ev_callVk (pc := 16) (fe_150 rfl) (z := 134) (na := 2) (ow := 10) cg_150_155 rfl rfl rfl t_223 (m := 0) rfl (jK134 ep2) (st1 := []) rfl ?_
  refine ev_iinc (pc := 19) (fe_150 rfl) mx_150 rfl rfl li_1 ?_
  refine ev_goto (pc := 22) (fe_150 rfl) (t := 2) rfl ?_
  exact ih x1 (x2 + 1) p2 h
theorem jK150 {X : Nat × (Nat → Int32)} {x1 : Int32} {u : fm} {r : fm} (h : jF150 x1 u = some r) : ev X 150 0 [some (.inr (.inl (some 223))), some (.inl x1), none] [] u ([], r) := by
  unfold jF150 at h
  refine ev_iconst (pc := 0) (fe_150 rfl) li_0 ?_
  refine ev_istore_n (pc := 1) (fe_150 rfl) mx_150 rfl ?_
  exact jK150_2 fm_N x1 0 u h
/-- CallAgentsModel writeAddress -/
def jF151_27 : Nat → Int32 → Int32 → fm → Option (fm)
  | 0, _, _, _ => none
  | n + 1, x3, x4, u =>
  if x4 < 5 then
  (Option.bind (jF134 (jF148 x4) u) (fun p7 => jF151_27 n x3 (x4 + 1) p7))
  else
  (Option.bind (jF135 x3 u) (fun p5 => Option.bind (jF134 10 p5) (fun p6 => some p6)))
def jF151 (x1 : Int32) (x2 : Int32) (x3 : Int32) (u : fm) : Option (fm) :=
  Option.bind (jF150 x1 u) (fun p1 => Option.bind (jF134 (48 + x2) p1) (fun p2 => Option.bind (jF134 62 p2) (fun p3 => if x3 = (-1) then
  (Option.bind (jF134 10 p3) (fun p4 => some p4))
  else
  (jF151_27 fm_N x3 0 p3))))
theorem jK151_27 {X : Nat × (Nat → Int32)} {r : fm} : ∀ (n : Nat) (x3 : Int32) (x4 : Int32) (u : fm), jF151_27 n x3 x4 u = some r → ev X 151 27 [some (.inr (.inl (some 223))), none, none, some (.inl x3), some (.inl x4)] [] u ([], r) := by
  intro n
  induction n with
  | zero =>
    intro _ _ _ h
    unfold jF151_27 at h
    cases h
  | succ n ih =>
  intro x3 x4 u h
  unfold jF151_27 at h
  refine ev_iload (pc := 27) (fe_151 rfl) rfl ?_
  refine ev_iconst (pc := 29) (fe_151 rfl) li_5 ?_
  refine ev_ic_ge (pc := 30) (fe_151 rfl) (t := 48) rfl h (fun h => ?_) (fun h => ?_)
  refine ev_aload_n (pc := 48) (fe_151 rfl) rfl ?_
  refine ev_iload_n (pc := 49) (fe_151 rfl) rfl ?_
  refine fm_bd h (fun p5 ep5 h => ?_)
  refine ev_callVk (pc := 50) (fe_151 rfl) (z := 135) (na := 2) (ow := 10) cg_151_171 rfl rfl rfl t_223 (m := 1) rfl (jK135 ep5) (st1 := []) rfl ?_
  refine ev_aload_n (pc := 53) (fe_151 rfl) rfl ?_
  refine ev_bipush (pc := 54) (fe_151 rfl) lb_10 ?_
  refine fm_bd h (fun p6 ep6 h => ?_)
  refine ev_callVk (pc := 56) (fe_151 rfl) (z := 134) (na := 2) (ow := 10) cg_151_155 rfl rfl rfl t_223 (m := 0) rfl (jK134 ep6) (st1 := []) rfl ?_
  exact ev_R (ev_vrt (pc := 59) (fe_151 rfl) rt_151) (by rw [← Option.some.inj h])
  refine ev_aload_n (pc := 33) (fe_151 rfl) rfl ?_
  refine ev_iload (pc := 34) (fe_151 rfl) rfl ?_
  refine ev_callSk (pc := 36) (fe_151 rfl) (z := 148) (na := 1) (ow := 10) cg_151_167 rfl (m := 0) rfl (jK148 rfl) (st1 := [.inl (jF148 x4), .inr (.inl (some 223))]) rfl ?_
  refine fm_bd h (fun p7 ep7 h => ?_)
  refine ev_callVk (pc := 39) (fe_151 rfl) (z := 134) (na := 2) (ow := 10) cg_151_155 rfl rfl rfl t_223 (m := 0) rfl (jK134 ep7) (st1 := []) rfl ?_
  refine ev_iinc (pc := 42) (fe_151 rfl) mx_151 rfl rfl li_1 ?_
  refine ev_goto (pc := 45) (fe_151 rfl) (t := 27) rfl ?_
  exact ih x3 (x4 + 1) p7 h
theorem jK151 {X : Nat × (Nat → Int32)} {x1 : Int32} {x2 : Int32} {x3 : Int32} {u : fm} {r : fm} (h : jF151 x1 x2 x3 u = some r) : ev X 151 0 [some (.inr (.inl (some 223))), some (.inl x1), some (.inl x2), some (.inl x3), none] [] u ([], r) := by
  unfold jF151 at h
  refine ev_aload_n (pc := 0) (fe_151 rfl) rfl ?_
  refine ev_iload_n (pc := 1) (fe_151 rfl) rfl ?_
  refine fm_bd h (fun p1 ep1 h => ?_)
  refine ev_callVk (pc := 2) (fe_151 rfl) (z := 150) (na := 2) (ow := 10) cg_151_170 rfl rfl rfl t_223 (m := 1) rfl (jK150 ep1) (st1 := []) rfl ?_
  refine ev_aload_n (pc := 5) (fe_151 rfl) rfl ?_
  refine ev_bipush (pc := 6) (fe_151 rfl) lb_48 ?_
  refine ev_iload_n (pc := 8) (fe_151 rfl) rfl ?_
  refine ev_iadd (pc := 9) (fe_151 rfl) ?_
  refine fm_bd h (fun p2 ep2 h => ?_)
  refine ev_callVk (pc := 10) (fe_151 rfl) (z := 134) (na := 2) (ow := 10) cg_151_155 rfl rfl rfl t_223 (m := 0) rfl (jK134 ep2) (st1 := []) rfl ?_
  refine ev_aload_n (pc := 13) (fe_151 rfl) rfl ?_
  refine ev_bipush (pc := 14) (fe_151 rfl) lb_62 ?_
  refine fm_bd h (fun p3 ep3 h => ?_)
  refine ev_callVk (pc := 16) (fe_151 rfl) (z := 134) (na := 2) (ow := 10) cg_151_155 rfl rfl rfl t_223 (m := 0) rfl (jK134 ep3) (st1 := []) rfl ?_
  refine ev_iload_n (pc := 19) (fe_151 rfl) rfl ?_
  refine ev_iconst (pc := 20) (fe_151 rfl) li_m1 ?_
  refine ev_ic_eq (pc := 21) (fe_151 rfl) (t := 53) rfl h (fun h => ?_) (fun h => ?_)
  refine ev_aload_n (pc := 53) (fe_151 rfl) rfl ?_
  refine ev_bipush (pc := 54) (fe_151 rfl) lb_10 ?_
  refine fm_bd h (fun p4 ep4 h => ?_)
  refine ev_callVk (pc := 56) (fe_151 rfl) (z := 134) (na := 2) (ow := 10) cg_151_155 rfl rfl rfl t_223 (m := 0) rfl (jK134 ep4) (st1 := []) rfl ?_
  exact ev_R (ev_vrt (pc := 59) (fe_151 rfl) rt_151) (by rw [← Option.some.inj h])
  refine ev_iconst (pc := 24) (fe_151 rfl) li_0 ?_
  refine ev_istore (pc := 25) (fe_151 rfl) mx_151 rfl ?_
  refine ev_w [true, false, false, true, true] ?_
  exact jK151_27 fm_N x3 0 p3 h
/-- CallAgentsModel writeBody -/
def jF153_50 : Nat → (Int32 → Int32 → fm → Option (fm)) → Int32 → Int32 → Int32 → Int32 → fm → Option (fm)
  | 0, _, _, _, _, _, _ => none
  | n + 1, k2, x1, x2, x3, x4, u =>
  if fm_in (x3 + 1) 3050 then if x4 < (fA u 224 (Int32.toNatClampNeg (x3 + 1))) then
  (Option.bind (jF134 32 u) (fun p8 => if fm_in ((x3 + 2) + x4) 3050 then Option.bind (jF134 (48 + (fA p8 224 (Int32.toNatClampNeg ((x3 + 2) + x4)))) p8) (fun p10 => jF153_50 n k2 x1 x2 x3 (x4 + 1) p10) else none))
  else
  (Option.bind (jF134 10 u) (fun p7 => k2 x1 (x2 + 1) p7)) else none
def jF153_2 : Nat → Int32 → Int32 → fm → Option (fm)
  | 0, _, _, _ => none
  | n + 1, x1, x2, u =>
  if fm_in (x1 + 12) 3050 then if x2 < (fA u 224 (Int32.toNatClampNeg (x1 + 12))) then
  (Option.bind (jF134 109 u) (fun p2 => Option.bind (jF134 61 p2) (fun p3 => if fm_in ((x1 + 13) + (10 * x2)) 3050 then Option.bind (jF135 (fA p3 224 (Int32.toNatClampNeg ((x1 + 13) + (10 * x2)))) p3) (fun p5 => jF153_50 fm_N (fun x1' x2' u' => jF153_2 n x1' x2' u') x1 x2 ((x1 + 13) + (10 * x2)) 0 p5) else none)))
  else
  (some u) else none
def jF153 (x1 : Int32) (u : fm) : Option (fm) :=
  jF153_2 fm_N x1 0 u
theorem jK153_50 {X : Nat × (Nat → Int32)} {r : fm} {k2 : Int32 → Int32 → fm → Option (fm)} : ∀ (n : Nat) (x1 : Int32) (x2 : Int32) (x3 : Int32) (x4 : Int32) (u : fm) (hk2 : ∀ (x1 : Int32) (x2 : Int32) (u : fm), k2 x1 x2 u = some r → ev X 153 2 [some (.inr (.inl (some 223))), some (.inl x1), some (.inl x2), none, none] [] u ([], r)), jF153_50 n k2 x1 x2 x3 x4 u = some r → ev X 153 50 [some (.inr (.inl (some 223))), some (.inl x1), some (.inl x2), some (.inl x3), some (.inl x4)] [] u ([], r) := by
  intro n
  induction n with
  | zero =>
    intro _ _ _ _ _ _ h
    unfold jF153_50 at h
    cases h
  | succ n ih =>
  intro x1 x2 x3 x4 u hk2 h
  unfold jF153_50 at h
  refine ev_iload (pc := 50) (fe_153 rfl) rfl ?_
  refine ev_aload_n (pc := 52) (fe_153 rfl) rfl ?_
  refine ev_getR (a1 := 224) (pc := 53) (fe_153 rfl) fr_110 t_223 rfl ?_
  refine ev_iload_n (pc := 56) (fe_153 rfl) rfl ?_
  refine ev_iconst (pc := 57) (fe_153 rfl) li_1 ?_
  refine ev_iadd (pc := 58) (fe_153 rfl) ?_
  refine fm_ob h (fun g6 h => ?_)
  refine ev_iaload (pc := 59) (fe_153 rfl) t_224 g6 ?_
  refine ev_ic_ge (pc := 60) (fe_153 rfl) (t := 93) rfl h (fun h => ?_) (fun h => ?_)
  refine ev_aload_n (pc := 93) (fe_153 rfl) rfl ?_
  refine ev_bipush (pc := 94) (fe_153 rfl) lb_10 ?_
  refine fm_bd h (fun p7 ep7 h => ?_)
  refine ev_callVk (pc := 96) (fe_153 rfl) (z := 134) (na := 2) (ow := 10) cg_153_155 rfl rfl rfl t_223 (m := 0) rfl (jK134 ep7) (st1 := []) rfl ?_
  refine ev_iinc (pc := 99) (fe_153 rfl) mx_153 rfl rfl li_1 ?_
  refine ev_goto (pc := 102) (fe_153 rfl) (t := 2) rfl ?_
  refine ev_w [true, true, true, false, false] ?_
  exact hk2 x1 (x2 + 1) p7 h
  refine ev_aload_n (pc := 63) (fe_153 rfl) rfl ?_
  refine ev_bipush (pc := 64) (fe_153 rfl) lb_32 ?_
  refine fm_bd h (fun p8 ep8 h => ?_)
  refine ev_callVk (pc := 66) (fe_153 rfl) (z := 134) (na := 2) (ow := 10) cg_153_155 rfl rfl rfl t_223 (m := 0) rfl (jK134 ep8) (st1 := []) rfl ?_
  refine ev_aload_n (pc := 69) (fe_153 rfl) rfl ?_
  refine ev_bipush (pc := 70) (fe_153 rfl) lb_48 ?_
  refine ev_aload_n (pc := 72) (fe_153 rfl) rfl ?_
  refine ev_getR (a1 := 224) (pc := 73) (fe_153 rfl) fr_110 t_223 rfl ?_
  refine ev_iload_n (pc := 76) (fe_153 rfl) rfl ?_
  refine ev_iconst (pc := 77) (fe_153 rfl) li_2 ?_
  refine ev_iadd (pc := 78) (fe_153 rfl) ?_
  refine ev_iload (pc := 79) (fe_153 rfl) rfl ?_
  refine ev_iadd (pc := 81) (fe_153 rfl) ?_
  refine fm_ob h (fun g9 h => ?_)
  refine ev_iaload (pc := 82) (fe_153 rfl) t_224 g9 ?_
  refine ev_iadd (pc := 83) (fe_153 rfl) ?_
  refine fm_bd h (fun p10 ep10 h => ?_)
  refine ev_callVk (pc := 84) (fe_153 rfl) (z := 134) (na := 2) (ow := 10) cg_153_155 rfl rfl rfl t_223 (m := 0) rfl (jK134 ep10) (st1 := []) rfl ?_
  refine ev_iinc (pc := 87) (fe_153 rfl) mx_153 rfl rfl li_1 ?_
  refine ev_goto (pc := 90) (fe_153 rfl) (t := 50) rfl ?_
  exact ih x1 x2 x3 (x4 + 1) p10 hk2 h
theorem jK153_2 {X : Nat × (Nat → Int32)} {r : fm} : ∀ (n : Nat) (x1 : Int32) (x2 : Int32) (u : fm), jF153_2 n x1 x2 u = some r → ev X 153 2 [some (.inr (.inl (some 223))), some (.inl x1), some (.inl x2), none, none] [] u ([], r) := by
  intro n
  induction n with
  | zero =>
    intro _ _ _ h
    unfold jF153_2 at h
    cases h
  | succ n ih =>
  intro x1 x2 u h
  unfold jF153_2 at h
  refine ev_iload_n (pc := 2) (fe_153 rfl) rfl ?_
  refine ev_aload_n (pc := 3) (fe_153 rfl) rfl ?_
  refine ev_getR (a1 := 224) (pc := 4) (fe_153 rfl) fr_110 t_223 rfl ?_
  refine ev_iload_n (pc := 7) (fe_153 rfl) rfl ?_
  refine ev_bipush (pc := 8) (fe_153 rfl) lb_12 ?_
  refine ev_iadd (pc := 10) (fe_153 rfl) ?_
  refine fm_ob h (fun g1 h => ?_)
  refine ev_iaload (pc := 11) (fe_153 rfl) t_224 g1 ?_
  refine ev_ic_ge (pc := 12) (fe_153 rfl) (t := 105) rfl h (fun h => ?_) (fun h => ?_)
  exact ev_R (ev_vrt (pc := 105) (fe_153 rfl) rt_153) (by rw [← Option.some.inj h])
  refine ev_iload_n (pc := 15) (fe_153 rfl) rfl ?_
  refine ev_bipush (pc := 16) (fe_153 rfl) lb_13 ?_
  refine ev_iadd (pc := 18) (fe_153 rfl) ?_
  refine ev_bipush (pc := 19) (fe_153 rfl) lb_10 ?_
  refine ev_iload_n (pc := 21) (fe_153 rfl) rfl ?_
  refine ev_imul (pc := 22) (fe_153 rfl) ?_
  refine ev_iadd (pc := 23) (fe_153 rfl) ?_
  refine ev_istore_n (pc := 24) (fe_153 rfl) mx_153 rfl ?_
  refine ev_aload_n (pc := 25) (fe_153 rfl) rfl ?_
  refine ev_bipush (pc := 26) (fe_153 rfl) lb_109 ?_
  refine fm_bd h (fun p2 ep2 h => ?_)
  refine ev_callVk (pc := 28) (fe_153 rfl) (z := 134) (na := 2) (ow := 10) cg_153_155 rfl rfl rfl t_223 (m := 0) rfl (jK134 ep2) (st1 := []) rfl ?_
  refine ev_aload_n (pc := 31) (fe_153 rfl) rfl ?_
  refine ev_bipush (pc := 32) (fe_153 rfl) lb_61 ?_
  refine fm_bd h (fun p3 ep3 h => ?_)
  refine ev_callVk (pc := 34) (fe_153 rfl) (z := 134) (na := 2) (ow := 10) cg_153_155 rfl rfl rfl t_223 (m := 0) rfl (jK134 ep3) (st1 := []) rfl ?_
  refine ev_aload_n (pc := 37) (fe_153 rfl) rfl ?_
  refine ev_aload_n (pc := 38) (fe_153 rfl) rfl ?_
  refine ev_getR (a1 := 224) (pc := 39) (fe_153 rfl) fr_110 t_223 rfl ?_
  refine ev_iload_n (pc := 42) (fe_153 rfl) rfl ?_
  refine fm_ob h (fun g4 h => ?_)
  refine ev_iaload (pc := 43) (fe_153 rfl) t_224 g4 ?_
  refine fm_bd h (fun p5 ep5 h => ?_)
  refine ev_callVk (pc := 44) (fe_153 rfl) (z := 135) (na := 2) (ow := 10) cg_153_171 rfl rfl rfl t_223 (m := 1) rfl (jK135 ep5) (st1 := []) rfl ?_
  refine ev_iconst (pc := 47) (fe_153 rfl) li_0 ?_
  refine ev_istore (pc := 48) (fe_153 rfl) mx_153 rfl ?_
  exact jK153_50 fm_N x1 x2 ((x1 + 13) + (10 * x2)) 0 p5 (fun x1' x2' u' h => ih x1' x2' u' h) h
theorem jK153 {X : Nat × (Nat → Int32)} {x1 : Int32} {u : fm} {r : fm} (h : jF153 x1 u = some r) : ev X 153 0 [some (.inr (.inl (some 223))), some (.inl x1), none, none, none] [] u ([], r) := by
  unfold jF153 at h
  refine ev_iconst (pc := 0) (fe_153 rfl) li_0 ?_
  refine ev_istore_n (pc := 1) (fe_153 rfl) mx_153 rfl ?_
  exact jK153_2 fm_N x1 0 u h
/-- CallAgentsModel bodySize -/
def jF152 (x1 : Int32) (u : fm) : Option (Int32 × fm) :=
  Option.bind (jF153 x1 u) (fun p1 => fm_let (sI p1 223 37 (fI u 223 37)) (fun u2 => some ((fI p1 223 37) - (fI u 223 37), u2)))
theorem jK152 {X : Nat × (Nat → Int32)} {x1 : Int32} {u : fm} {r : Int32 × fm} (h : jF152 x1 u = some r) : ev X 152 0 [some (.inr (.inl (some 223))), some (.inl x1), none, none] [] u ([.inl r.1], r.2) := by
  unfold jF152 at h
  refine ev_aload_n (pc := 0) (fe_152 rfl) rfl ?_
  refine ev_getI (pc := 1) (fe_152 rfl) fr_144 t_223 ?_
  refine ev_istore_n (pc := 4) (fe_152 rfl) mx_152 rfl ?_
  refine ev_aload_n (pc := 5) (fe_152 rfl) rfl ?_
  refine ev_iload_n (pc := 6) (fe_152 rfl) rfl ?_
  refine fm_bd h (fun p1 ep1 h => ?_)
  refine ev_callVk (pc := 7) (fe_152 rfl) (z := 153) (na := 2) (ow := 10) cg_152_172 rfl rfl rfl t_223 (m := 3) rfl (jK153 ep1) (st1 := []) rfl ?_
  refine ev_aload_n (pc := 10) (fe_152 rfl) rfl ?_
  refine ev_getI (pc := 11) (fe_152 rfl) fr_144 t_223 ?_
  refine ev_iload_n (pc := 14) (fe_152 rfl) rfl ?_
  refine ev_isub (pc := 15) (fe_152 rfl) ?_
  refine ev_istore_n (pc := 16) (fe_152 rfl) mx_152 rfl ?_
  refine ev_aload_n (pc := 17) (fe_152 rfl) rfl ?_
  refine ev_iload_n (pc := 18) (fe_152 rfl) rfl ?_
  refine fm_lt_h h (fun u2 eu2 h => ?_)
  refine ev_putI (pc := 19) (fe_152 rfl) fr_144 t_223 eu2 ?_
  refine ev_iload_n (pc := 22) (fe_152 rfl) rfl ?_
  exact ev_R (ev_irt (pc := 23) (fe_152 rfl) rt_152) (by rw [← Option.some.inj h])
/-- CallAgentsModel writeOut -/
def jF154_50 (x2 : Int32) (u : fm) : Option (fm) :=
  Option.bind (jF134 10 u) (fun p4 => Option.bind (jF150 7 p4) (fun p5 => if fm_in (x2 + 3) 3050 then Option.bind (jF134 (48 + (fA p5 224 (Int32.toNatClampNeg (x2 + 3)))) p5) (fun p7 => Option.bind (jF150 17 p7) (fun p8 => if fm_in (x2 + 4) 3050 then Option.bind (jF135 (fA p8 224 (Int32.toNatClampNeg (x2 + 4))) p8) (fun p10 => Option.bind (jF134 10 p10) (fun p11 => if fm_in (x2 + 5) 3050 then if fm_in (x2 + 6) 3050 then Option.bind (jF151 8 (fA p11 224 (Int32.toNatClampNeg (x2 + 5))) (fA p11 224 (Int32.toNatClampNeg (x2 + 6))) p11) (fun p14 => if fm_in (x2 + 7) 3050 then if fm_in (x2 + 8) 3050 then Option.bind (jF151 9 (fA p14 224 (Int32.toNatClampNeg (x2 + 7))) (fA p14 224 (Int32.toNatClampNeg (x2 + 8))) p14) (fun p17 => Option.bind (jF150 10 p17) (fun p18 => if fm_in (x2 + 9) 3050 then Option.bind (jF135 (fA p18 224 (Int32.toNatClampNeg (x2 + 9))) p18) (fun p20 => Option.bind (jF134 10 p20) (fun p21 => Option.bind (jF150 11 p21) (fun p22 => if fm_in (x2 + 10) 3050 then Option.bind (jF135 (fA p22 224 (Int32.toNatClampNeg (x2 + 10))) p22) (fun p24 => Option.bind (jF134 32 p24) (fun p25 => if fm_in (x2 + 11) 3050 then Option.bind (jF150 (13 + (fA p25 224 (Int32.toNatClampNeg (x2 + 11)))) p25) (fun p27 => Option.bind (jF134 10 p27) (fun p28 => Option.bind (jF150 12 p28) (fun p29 => Option.bind (jF152 x2 p29) (fun p30 => Option.bind (jF135 p30.1 p30.2) (fun p31 => Option.bind (jF134 10 p31) (fun p32 => Option.bind (jF134 10 p32) (fun p33 => Option.bind (jF153 x2 p33) (fun p34 => some p34)))))))) else none)) else none))) else none)) else none else none) else none else none)) else none)) else none))
def jF154 (x1 : Int32) (u : fm) : Option (fm) :=
  fm_let (sI u 223 37 0) (fun u1 => if fm_in ((50 * x1) + 0) 3050 then Option.bind (jF150 (fA u1 224 (Int32.toNatClampNeg ((50 * x1) + 0))) u1) (fun p3 => if (fA u1 224 (Int32.toNatClampNeg ((50 * x1) + 0))) < 3 then
  (if fm_in ((50 * x1) + 2) 3050 then Option.bind (jF134 (48 + (fA p3 224 (Int32.toNatClampNeg ((50 * x1) + 2)))) p3) (fun p36 => Option.bind (jF150 16 p36) (fun p37 => jF154_50 (50 * x1) p37)) else none)
  else
  (jF154_50 (50 * x1) p3)) else none)
theorem jK154_50 {X : Nat × (Nat → Int32)} {r : fm} (x2 : Int32) (u : fm) (h : jF154_50 x2 u = some r) : ev X 154 50 [some (.inr (.inl (some 223))), none, some (.inl x2), none] [] u ([], r) := by
  unfold jF154_50 at h
  refine ev_aload_n (pc := 50) (fe_154 rfl) rfl ?_
  refine ev_bipush (pc := 51) (fe_154 rfl) lb_10 ?_
  refine fm_bd h (fun p4 ep4 h => ?_)
  refine ev_callVk (pc := 53) (fe_154 rfl) (z := 134) (na := 2) (ow := 10) cg_154_155 rfl rfl rfl t_223 (m := 0) rfl (jK134 ep4) (st1 := []) rfl ?_
  refine ev_aload_n (pc := 56) (fe_154 rfl) rfl ?_
  refine ev_bipush (pc := 57) (fe_154 rfl) lb_7 ?_
  refine fm_bd h (fun p5 ep5 h => ?_)
  refine ev_callVk (pc := 59) (fe_154 rfl) (z := 150) (na := 2) (ow := 10) cg_154_170 rfl rfl rfl t_223 (m := 1) rfl (jK150 ep5) (st1 := []) rfl ?_
  refine ev_aload_n (pc := 62) (fe_154 rfl) rfl ?_
  refine ev_bipush (pc := 63) (fe_154 rfl) lb_48 ?_
  refine ev_aload_n (pc := 65) (fe_154 rfl) rfl ?_
  refine ev_getR (a1 := 224) (pc := 66) (fe_154 rfl) fr_110 t_223 rfl ?_
  refine ev_iload_n (pc := 69) (fe_154 rfl) rfl ?_
  refine ev_iconst (pc := 70) (fe_154 rfl) li_3 ?_
  refine ev_iadd (pc := 71) (fe_154 rfl) ?_
  refine fm_ob h (fun g6 h => ?_)
  refine ev_iaload (pc := 72) (fe_154 rfl) t_224 g6 ?_
  refine ev_iadd (pc := 73) (fe_154 rfl) ?_
  refine fm_bd h (fun p7 ep7 h => ?_)
  refine ev_callVk (pc := 74) (fe_154 rfl) (z := 134) (na := 2) (ow := 10) cg_154_155 rfl rfl rfl t_223 (m := 0) rfl (jK134 ep7) (st1 := []) rfl ?_
  refine ev_aload_n (pc := 77) (fe_154 rfl) rfl ?_
  refine ev_bipush (pc := 78) (fe_154 rfl) lb_17 ?_
  refine fm_bd h (fun p8 ep8 h => ?_)
  refine ev_callVk (pc := 80) (fe_154 rfl) (z := 150) (na := 2) (ow := 10) cg_154_170 rfl rfl rfl t_223 (m := 1) rfl (jK150 ep8) (st1 := []) rfl ?_
  refine ev_aload_n (pc := 83) (fe_154 rfl) rfl ?_
  refine ev_aload_n (pc := 84) (fe_154 rfl) rfl ?_
  refine ev_getR (a1 := 224) (pc := 85) (fe_154 rfl) fr_110 t_223 rfl ?_
  refine ev_iload_n (pc := 88) (fe_154 rfl) rfl ?_
  refine ev_iconst (pc := 89) (fe_154 rfl) li_4 ?_
  refine ev_iadd (pc := 90) (fe_154 rfl) ?_
  refine fm_ob h (fun g9 h => ?_)
  refine ev_iaload (pc := 91) (fe_154 rfl) t_224 g9 ?_
  refine fm_bd h (fun p10 ep10 h => ?_)
  refine ev_callVk (pc := 92) (fe_154 rfl) (z := 135) (na := 2) (ow := 10) cg_154_171 rfl rfl rfl t_223 (m := 1) rfl (jK135 ep10) (st1 := []) rfl ?_
  refine ev_aload_n (pc := 95) (fe_154 rfl) rfl ?_
  refine ev_bipush (pc := 96) (fe_154 rfl) lb_10 ?_
  refine fm_bd h (fun p11 ep11 h => ?_)
  refine ev_callVk (pc := 98) (fe_154 rfl) (z := 134) (na := 2) (ow := 10) cg_154_155 rfl rfl rfl t_223 (m := 0) rfl (jK134 ep11) (st1 := []) rfl ?_
  refine ev_aload_n (pc := 101) (fe_154 rfl) rfl ?_
  refine ev_bipush (pc := 102) (fe_154 rfl) lb_8 ?_
  refine ev_aload_n (pc := 104) (fe_154 rfl) rfl ?_
  refine ev_getR (a1 := 224) (pc := 105) (fe_154 rfl) fr_110 t_223 rfl ?_
  refine ev_iload_n (pc := 108) (fe_154 rfl) rfl ?_
  refine ev_iconst (pc := 109) (fe_154 rfl) li_5 ?_
  refine ev_iadd (pc := 110) (fe_154 rfl) ?_
  refine fm_ob h (fun g12 h => ?_)
  refine ev_iaload (pc := 111) (fe_154 rfl) t_224 g12 ?_
  refine ev_aload_n (pc := 112) (fe_154 rfl) rfl ?_
  refine ev_getR (a1 := 224) (pc := 113) (fe_154 rfl) fr_110 t_223 rfl ?_
  refine ev_iload_n (pc := 116) (fe_154 rfl) rfl ?_
  refine ev_bipush (pc := 117) (fe_154 rfl) lb_6 ?_
  refine ev_iadd (pc := 119) (fe_154 rfl) ?_
  refine fm_ob h (fun g13 h => ?_)
  refine ev_iaload (pc := 120) (fe_154 rfl) t_224 g13 ?_
  refine fm_bd h (fun p14 ep14 h => ?_)
  refine ev_callVk (pc := 121) (fe_154 rfl) (z := 151) (na := 4) (ow := 10) cg_154_173 rfl rfl rfl t_223 (m := 1) rfl (jK151 ep14) (st1 := []) rfl ?_
  refine ev_aload_n (pc := 124) (fe_154 rfl) rfl ?_
  refine ev_bipush (pc := 125) (fe_154 rfl) lb_9 ?_
  refine ev_aload_n (pc := 127) (fe_154 rfl) rfl ?_
  refine ev_getR (a1 := 224) (pc := 128) (fe_154 rfl) fr_110 t_223 rfl ?_
  refine ev_iload_n (pc := 131) (fe_154 rfl) rfl ?_
  refine ev_bipush (pc := 132) (fe_154 rfl) lb_7 ?_
  refine ev_iadd (pc := 134) (fe_154 rfl) ?_
  refine fm_ob h (fun g15 h => ?_)
  refine ev_iaload (pc := 135) (fe_154 rfl) t_224 g15 ?_
  refine ev_aload_n (pc := 136) (fe_154 rfl) rfl ?_
  refine ev_getR (a1 := 224) (pc := 137) (fe_154 rfl) fr_110 t_223 rfl ?_
  refine ev_iload_n (pc := 140) (fe_154 rfl) rfl ?_
  refine ev_bipush (pc := 141) (fe_154 rfl) lb_8 ?_
  refine ev_iadd (pc := 143) (fe_154 rfl) ?_
  refine fm_ob h (fun g16 h => ?_)
  refine ev_iaload (pc := 144) (fe_154 rfl) t_224 g16 ?_
  refine fm_bd h (fun p17 ep17 h => ?_)
  refine ev_callVk (pc := 145) (fe_154 rfl) (z := 151) (na := 4) (ow := 10) cg_154_173 rfl rfl rfl t_223 (m := 1) rfl (jK151 ep17) (st1 := []) rfl ?_
  refine ev_aload_n (pc := 148) (fe_154 rfl) rfl ?_
  refine ev_bipush (pc := 149) (fe_154 rfl) lb_10 ?_
  refine fm_bd h (fun p18 ep18 h => ?_)
  refine ev_callVk (pc := 151) (fe_154 rfl) (z := 150) (na := 2) (ow := 10) cg_154_170 rfl rfl rfl t_223 (m := 1) rfl (jK150 ep18) (st1 := []) rfl ?_
  refine ev_aload_n (pc := 154) (fe_154 rfl) rfl ?_
  refine ev_aload_n (pc := 155) (fe_154 rfl) rfl ?_
  refine ev_getR (a1 := 224) (pc := 156) (fe_154 rfl) fr_110 t_223 rfl ?_
  refine ev_iload_n (pc := 159) (fe_154 rfl) rfl ?_
  refine ev_bipush (pc := 160) (fe_154 rfl) lb_9 ?_
  refine ev_iadd (pc := 162) (fe_154 rfl) ?_
  refine fm_ob h (fun g19 h => ?_)
  refine ev_iaload (pc := 163) (fe_154 rfl) t_224 g19 ?_
  refine fm_bd h (fun p20 ep20 h => ?_)
  refine ev_callVk (pc := 164) (fe_154 rfl) (z := 135) (na := 2) (ow := 10) cg_154_171 rfl rfl rfl t_223 (m := 1) rfl (jK135 ep20) (st1 := []) rfl ?_
  refine ev_aload_n (pc := 167) (fe_154 rfl) rfl ?_
  refine ev_bipush (pc := 168) (fe_154 rfl) lb_10 ?_
  refine fm_bd h (fun p21 ep21 h => ?_)
  refine ev_callVk (pc := 170) (fe_154 rfl) (z := 134) (na := 2) (ow := 10) cg_154_155 rfl rfl rfl t_223 (m := 0) rfl (jK134 ep21) (st1 := []) rfl ?_
  refine ev_aload_n (pc := 173) (fe_154 rfl) rfl ?_
  refine ev_bipush (pc := 174) (fe_154 rfl) lb_11 ?_
  refine fm_bd h (fun p22 ep22 h => ?_)
  refine ev_callVk (pc := 176) (fe_154 rfl) (z := 150) (na := 2) (ow := 10) cg_154_170 rfl rfl rfl t_223 (m := 1) rfl (jK150 ep22) (st1 := []) rfl ?_
  refine ev_aload_n (pc := 179) (fe_154 rfl) rfl ?_
  refine ev_aload_n (pc := 180) (fe_154 rfl) rfl ?_
  refine ev_getR (a1 := 224) (pc := 181) (fe_154 rfl) fr_110 t_223 rfl ?_
  refine ev_iload_n (pc := 184) (fe_154 rfl) rfl ?_
  refine ev_bipush (pc := 185) (fe_154 rfl) lb_10 ?_
  refine ev_iadd (pc := 187) (fe_154 rfl) ?_
  refine fm_ob h (fun g23 h => ?_)
  refine ev_iaload (pc := 188) (fe_154 rfl) t_224 g23 ?_
  refine fm_bd h (fun p24 ep24 h => ?_)
  refine ev_callVk (pc := 189) (fe_154 rfl) (z := 135) (na := 2) (ow := 10) cg_154_171 rfl rfl rfl t_223 (m := 1) rfl (jK135 ep24) (st1 := []) rfl ?_
  refine ev_aload_n (pc := 192) (fe_154 rfl) rfl ?_
  refine ev_bipush (pc := 193) (fe_154 rfl) lb_32 ?_
  refine fm_bd h (fun p25 ep25 h => ?_)
  refine ev_callVk (pc := 195) (fe_154 rfl) (z := 134) (na := 2) (ow := 10) cg_154_155 rfl rfl rfl t_223 (m := 0) rfl (jK134 ep25) (st1 := []) rfl ?_
  refine ev_aload_n (pc := 198) (fe_154 rfl) rfl ?_
  refine ev_bipush (pc := 199) (fe_154 rfl) lb_13 ?_
  refine ev_aload_n (pc := 201) (fe_154 rfl) rfl ?_
  refine ev_getR (a1 := 224) (pc := 202) (fe_154 rfl) fr_110 t_223 rfl ?_
  refine ev_iload_n (pc := 205) (fe_154 rfl) rfl ?_
  refine ev_bipush (pc := 206) (fe_154 rfl) lb_11 ?_
  refine ev_iadd (pc := 208) (fe_154 rfl) ?_
  refine fm_ob h (fun g26 h => ?_)
  refine ev_iaload (pc := 209) (fe_154 rfl) t_224 g26 ?_
  refine ev_iadd (pc := 210) (fe_154 rfl) ?_
  refine fm_bd h (fun p27 ep27 h => ?_)
  refine ev_callVk (pc := 211) (fe_154 rfl) (z := 150) (na := 2) (ow := 10) cg_154_170 rfl rfl rfl t_223 (m := 1) rfl (jK150 ep27) (st1 := []) rfl ?_
  refine ev_aload_n (pc := 214) (fe_154 rfl) rfl ?_
  refine ev_bipush (pc := 215) (fe_154 rfl) lb_10 ?_
  refine fm_bd h (fun p28 ep28 h => ?_)
  refine ev_callVk (pc := 217) (fe_154 rfl) (z := 134) (na := 2) (ow := 10) cg_154_155 rfl rfl rfl t_223 (m := 0) rfl (jK134 ep28) (st1 := []) rfl ?_
  refine ev_aload_n (pc := 220) (fe_154 rfl) rfl ?_
  refine ev_bipush (pc := 221) (fe_154 rfl) lb_12 ?_
  refine fm_bd h (fun p29 ep29 h => ?_)
  refine ev_callVk (pc := 223) (fe_154 rfl) (z := 150) (na := 2) (ow := 10) cg_154_170 rfl rfl rfl t_223 (m := 1) rfl (jK150 ep29) (st1 := []) rfl ?_
  refine ev_aload_n (pc := 226) (fe_154 rfl) rfl ?_
  refine ev_aload_n (pc := 227) (fe_154 rfl) rfl ?_
  refine ev_iload_n (pc := 228) (fe_154 rfl) rfl ?_
  refine fm_bd h (fun p30 ep30 h => ?_)
  refine ev_callVk (pc := 229) (fe_154 rfl) (z := 152) (na := 2) (ow := 10) cg_154_174 rfl rfl rfl t_223 (m := 2) rfl (jK152 ep30) (st1 := [.inl p30.1, .inr (.inl (some 223))]) rfl ?_
  refine fm_bd h (fun p31 ep31 h => ?_)
  refine ev_callVk (pc := 232) (fe_154 rfl) (z := 135) (na := 2) (ow := 10) cg_154_171 rfl rfl rfl t_223 (m := 1) rfl (jK135 ep31) (st1 := []) rfl ?_
  refine ev_aload_n (pc := 235) (fe_154 rfl) rfl ?_
  refine ev_bipush (pc := 236) (fe_154 rfl) lb_10 ?_
  refine fm_bd h (fun p32 ep32 h => ?_)
  refine ev_callVk (pc := 238) (fe_154 rfl) (z := 134) (na := 2) (ow := 10) cg_154_155 rfl rfl rfl t_223 (m := 0) rfl (jK134 ep32) (st1 := []) rfl ?_
  refine ev_aload_n (pc := 241) (fe_154 rfl) rfl ?_
  refine ev_bipush (pc := 242) (fe_154 rfl) lb_10 ?_
  refine fm_bd h (fun p33 ep33 h => ?_)
  refine ev_callVk (pc := 244) (fe_154 rfl) (z := 134) (na := 2) (ow := 10) cg_154_155 rfl rfl rfl t_223 (m := 0) rfl (jK134 ep33) (st1 := []) rfl ?_
  refine ev_aload_n (pc := 247) (fe_154 rfl) rfl ?_
  refine ev_iload_n (pc := 248) (fe_154 rfl) rfl ?_
  refine fm_bd h (fun p34 ep34 h => ?_)
  refine ev_callVk (pc := 249) (fe_154 rfl) (z := 153) (na := 2) (ow := 10) cg_154_172 rfl rfl rfl t_223 (m := 3) rfl (jK153 ep34) (st1 := []) rfl ?_
  exact ev_R (ev_vrt (pc := 252) (fe_154 rfl) rt_154) (by rw [← Option.some.inj h])
theorem jK154 {X : Nat × (Nat → Int32)} {x1 : Int32} {u : fm} {r : fm} (h : jF154 x1 u = some r) : ev X 154 0 [some (.inr (.inl (some 223))), some (.inl x1), none, none] [] u ([], r) := by
  unfold jF154 at h
  refine ev_bipush (pc := 0) (fe_154 rfl) lb_50 ?_
  refine ev_iload_n (pc := 2) (fe_154 rfl) rfl ?_
  refine ev_imul (pc := 3) (fe_154 rfl) ?_
  refine ev_istore_n (pc := 4) (fe_154 rfl) mx_154 rfl ?_
  refine ev_aload_n (pc := 5) (fe_154 rfl) rfl ?_
  refine ev_iconst (pc := 6) (fe_154 rfl) li_0 ?_
  refine fm_lt_h h (fun u1 eu1 h => ?_)
  refine ev_putI (pc := 7) (fe_154 rfl) fr_144 t_223 eu1 ?_
  refine ev_aload_n (pc := 10) (fe_154 rfl) rfl ?_
  refine ev_getR (a1 := 224) (pc := 11) (fe_154 rfl) fr_110 t_223 rfl ?_
  refine ev_iload_n (pc := 14) (fe_154 rfl) rfl ?_
  refine ev_iconst (pc := 15) (fe_154 rfl) li_0 ?_
  refine ev_iadd (pc := 16) (fe_154 rfl) ?_
  refine fm_ob h (fun g2 h => ?_)
  refine ev_iaload (pc := 17) (fe_154 rfl) t_224 g2 ?_
  refine ev_istore_n (pc := 18) (fe_154 rfl) mx_154 rfl ?_
  refine ev_aload_n (pc := 19) (fe_154 rfl) rfl ?_
  refine ev_iload_n (pc := 20) (fe_154 rfl) rfl ?_
  refine fm_bd h (fun p3 ep3 h => ?_)
  refine ev_callVk (pc := 21) (fe_154 rfl) (z := 150) (na := 2) (ow := 10) cg_154_170 rfl rfl rfl t_223 (m := 1) rfl (jK150 ep3) (st1 := []) rfl ?_
  refine ev_iload_n (pc := 24) (fe_154 rfl) rfl ?_
  refine ev_iconst (pc := 25) (fe_154 rfl) li_3 ?_
  refine ev_ic_ge (pc := 26) (fe_154 rfl) (t := 50) rfl h (fun h => ?_) (fun h => ?_)
  refine ev_w [true, false, true, false] ?_
  exact jK154_50 (50 * x1) p3 h
  refine ev_aload_n (pc := 29) (fe_154 rfl) rfl ?_
  refine ev_bipush (pc := 30) (fe_154 rfl) lb_48 ?_
  refine ev_aload_n (pc := 32) (fe_154 rfl) rfl ?_
  refine ev_getR (a1 := 224) (pc := 33) (fe_154 rfl) fr_110 t_223 rfl ?_
  refine ev_iload_n (pc := 36) (fe_154 rfl) rfl ?_
  refine ev_iconst (pc := 37) (fe_154 rfl) li_2 ?_
  refine ev_iadd (pc := 38) (fe_154 rfl) ?_
  refine fm_ob h (fun g35 h => ?_)
  refine ev_iaload (pc := 39) (fe_154 rfl) t_224 g35 ?_
  refine ev_iadd (pc := 40) (fe_154 rfl) ?_
  refine fm_bd h (fun p36 ep36 h => ?_)
  refine ev_callVk (pc := 41) (fe_154 rfl) (z := 134) (na := 2) (ow := 10) cg_154_155 rfl rfl rfl t_223 (m := 0) rfl (jK134 ep36) (st1 := []) rfl ?_
  refine ev_aload_n (pc := 44) (fe_154 rfl) rfl ?_
  refine ev_bipush (pc := 45) (fe_154 rfl) lb_16 ?_
  refine fm_bd h (fun p37 ep37 h => ?_)
  refine ev_callVk (pc := 47) (fe_154 rfl) (z := 150) (na := 2) (ow := 10) cg_154_170 rfl rfl rfl t_223 (m := 1) rfl (jK150 ep37) (st1 := []) rfl ?_
  refine ev_w [true, false, true, false] ?_
  exact jK154_50 (50 * x1) p37 h
/-- CallAgentsModel sign -/
def jF155 (x1 : Int32) (x2 : Int32) (u : fm) : Option (Int32 × fm) :=
  if (jF129 x1 u) = 0 then
  (some ((-1), u))
  else
  (Option.bind (jF154 x1 u) (fun p2 => if x2 < 0 then
  (some ((-1), p2))
  else
  (if x2 < (fI p2 223 37) then
  (if fm_in x2 500 then some (fA p2 255 (Int32.toNatClampNeg x2), p2) else none)
  else
  (some ((-1), p2)))))
theorem jK155 {X : Nat × (Nat → Int32)} {x1 : Int32} {x2 : Int32} {u : fm} {r : Int32 × fm} (h : jF155 x1 x2 u = some r) : ev X 155 0 [some (.inr (.inl (some 223))), some (.inl x1), some (.inl x2)] [] u ([.inl r.1], r.2) := by
  unfold jF155 at h
  refine ev_aload_n (pc := 0) (fe_155 rfl) rfl ?_
  refine ev_iload_n (pc := 1) (fe_155 rfl) rfl ?_
  refine ev_callVZk (pc := 2) (fe_155 rfl) (z := 129) (na := 2) (ow := 10) cg_155_152 rfl rt_129 rfl rfl t_223 (m := 0) rfl (jK129 rfl) (st1 := [.inl (jF129 x1 u)]) rfl (fun z1 => ?_)
  refine ev_if_ne (pc := 5) (fe_155 rfl) (t := 10) rfl h (fun h => ?_) (fun h => ?_)
  refine ev_aload_n (pc := 10) (fe_155 rfl) rfl ?_
  refine ev_iload_n (pc := 11) (fe_155 rfl) rfl ?_
  refine fm_bd h (fun p2 ep2 h => ?_)
  refine ev_callVk (pc := 12) (fe_155 rfl) (z := 154) (na := 2) (ow := 10) cg_155_175 rfl rfl rfl t_223 (m := 2) rfl (jK154 ep2) (st1 := []) rfl ?_
  refine ev_iload_n (pc := 15) (fe_155 rfl) rfl ?_
  refine ev_if_lt (pc := 16) (fe_155 rfl) (t := 36) rfl h (fun h => ?_) (fun h => ?_)
  refine ev_iconst (pc := 36) (fe_155 rfl) li_m1 ?_
  exact ev_R (ev_irt (pc := 37) (fe_155 rfl) rt_155) (by rw [← Option.some.inj h])
  refine ev_iload_n (pc := 19) (fe_155 rfl) rfl ?_
  refine ev_aload_n (pc := 20) (fe_155 rfl) rfl ?_
  refine ev_getI (pc := 21) (fe_155 rfl) fr_144 t_223 ?_
  refine ev_ic_ge (pc := 24) (fe_155 rfl) (t := 36) rfl h (fun h => ?_) (fun h => ?_)
  refine ev_iconst (pc := 36) (fe_155 rfl) li_m1 ?_
  exact ev_R (ev_irt (pc := 37) (fe_155 rfl) rt_155) (by rw [← Option.some.inj h])
  refine ev_aload_n (pc := 27) (fe_155 rfl) rfl ?_
  refine ev_getR (a1 := 255) (pc := 28) (fe_155 rfl) fr_141 t_223 rfl ?_
  refine ev_iload_n (pc := 31) (fe_155 rfl) rfl ?_
  refine fm_ob h (fun g3 h => ?_)
  refine ev_iaload (pc := 32) (fe_155 rfl) t_255 g3 ?_
  refine ev_goto (pc := 33) (fe_155 rfl) (t := 37) rfl ?_
  exact ev_R (ev_irt (pc := 37) (fe_155 rfl) rt_155) (by rw [← Option.some.inj h])
  refine ev_iconst (pc := 8) (fe_155 rfl) li_m1 ?_
  exact ev_R (ev_irt (pc := 9) (fe_155 rfl) rt_155) (by rw [← Option.some.inj h])
/-- CallAgentsModel unit -/
def jF156_18 (x1 : Int32) (u : fm) : Option (Int32 × fm) :=
  if (fI u 223 32) = 500 then
  (some (0, u))
  else
  (if fm_in (fI u 223 32) 500 then fm_let (sA u 253 (Int32.toNatClampNeg (fI u 223 32)) x1) (fun u2 => fm_let (sI u2 223 32 ((fI u2 223 32) + 1)) (fun u3 => some (1, u3))) else none)
def jF156 (x1 : Int32) (u : fm) : Option (Int32 × fm) :=
  if x1 = 10 then
  (jF156_18 x1 u)
  else
  (if x1 < 32 then
  (some (0, u))
  else
  (if 126 < x1 then
  (some (0, u))
  else
  (jF156_18 x1 u)))
theorem jK156_18 {X : Nat × (Nat → Int32)} {r : Int32 × fm} (x1 : Int32) (u : fm) (h : jF156_18 x1 u = some r) : ev X 156 18 [some (.inr (.inl (some 223))), some (.inl x1)] [] u ([.inl r.1], r.2) := by
  unfold jF156_18 at h
  refine ev_aload_n (pc := 18) (fe_156 rfl) rfl ?_
  refine ev_getI (pc := 19) (fe_156 rfl) fr_145 t_223 ?_
  refine ev_sipush (pc := 22) (fe_156 rfl) ls_500 ?_
  refine ev_ic_ne (pc := 25) (fe_156 rfl) (t := 30) rfl h (fun h => ?_) (fun h => ?_)
  refine ev_aload_n (pc := 30) (fe_156 rfl) rfl ?_
  refine ev_getR (a1 := 253) (pc := 31) (fe_156 rfl) fr_139 t_223 rfl ?_
  refine ev_aload_n (pc := 34) (fe_156 rfl) rfl ?_
  refine ev_getI (pc := 35) (fe_156 rfl) fr_145 t_223 ?_
  refine ev_iload_n (pc := 38) (fe_156 rfl) rfl ?_
  refine fm_ob h (fun g1 h => ?_)
  refine fm_lt_h h (fun u2 eu2 h => ?_)
  refine ev_iastore (pc := 39) (fe_156 rfl) t_253 g1 eu2 ?_
  refine ev_aload_n (pc := 40) (fe_156 rfl) rfl ?_
  refine ev_dup (pc := 41) (fe_156 rfl) rfl ?_
  refine ev_getI (pc := 42) (fe_156 rfl) fr_145 t_223 ?_
  refine ev_iconst (pc := 45) (fe_156 rfl) li_1 ?_
  refine ev_iadd (pc := 46) (fe_156 rfl) ?_
  refine fm_lt_h h (fun u3 eu3 h => ?_)
  refine ev_putI (pc := 47) (fe_156 rfl) fr_145 t_223 eu3 ?_
  refine ev_iconst (pc := 50) (fe_156 rfl) li_1 ?_
  exact ev_R (ev_zrt (pc := 51) (fe_156 rfl) rt_156 (Or.inr rfl)) (by rw [← Option.some.inj h])
  refine ev_iconst (pc := 28) (fe_156 rfl) li_0 ?_
  exact ev_R (ev_zrt (pc := 29) (fe_156 rfl) rt_156 (Or.inl rfl)) (by rw [← Option.some.inj h])
theorem jK156 {X : Nat × (Nat → Int32)} {x1 : Int32} {u : fm} {r : Int32 × fm} (h : jF156 x1 u = some r) : ev X 156 0 [some (.inr (.inl (some 223))), some (.inl x1)] [] u ([.inl r.1], r.2) := by
  unfold jF156 at h
  refine ev_iload_n (pc := 0) (fe_156 rfl) rfl ?_
  refine ev_bipush (pc := 1) (fe_156 rfl) lb_10 ?_
  refine ev_ic_eq (pc := 3) (fe_156 rfl) (t := 18) rfl h (fun h => ?_) (fun h => ?_)
  exact jK156_18 x1 u h
  refine ev_iload_n (pc := 6) (fe_156 rfl) rfl ?_
  refine ev_bipush (pc := 7) (fe_156 rfl) lb_32 ?_
  refine ev_ic_lt (pc := 9) (fe_156 rfl) (t := 28) rfl h (fun h => ?_) (fun h => ?_)
  refine ev_iconst (pc := 28) (fe_156 rfl) li_0 ?_
  exact ev_R (ev_zrt (pc := 29) (fe_156 rfl) rt_156 (Or.inl rfl)) (by rw [← Option.some.inj h])
  refine ev_iload_n (pc := 12) (fe_156 rfl) rfl ?_
  refine ev_bipush (pc := 13) (fe_156 rfl) lb_126 ?_
  refine ev_ic_gt (pc := 15) (fe_156 rfl) (t := 28) rfl h (fun h => ?_) (fun h => ?_)
  refine ev_iconst (pc := 28) (fe_156 rfl) li_0 ?_
  exact ev_R (ev_zrt (pc := 29) (fe_156 rfl) rt_156 (Or.inl rfl)) (by rw [← Option.some.inj h])
  exact jK156_18 x1 u h
/-- CallAgentsModel fail -/
def jF157 (x1 : Int32) (u : fm) : fm :=
  if (fI u 223 34) = (-1) then
  (fm_let (sI u 223 34 x1) (fun u2 => u2))
  else
  (fm_let (sI u 223 34 (fI u 223 34)) (fun u1 => u1))
theorem jK157 {X : Nat × (Nat → Int32)} {x1 : Int32} {u : fm} {r : fm} (h : jF157 x1 u = r) : ev X 157 0 [some (.inr (.inl (some 223))), some (.inl x1)] [] u ([], r) := by
  unfold jF157 at h
  refine ev_aload_n (pc := 0) (fe_157 rfl) rfl ?_
  refine ev_aload_n (pc := 1) (fe_157 rfl) rfl ?_
  refine ev_getI (pc := 2) (fe_157 rfl) fr_146 t_223 ?_
  refine ev_iconst (pc := 5) (fe_157 rfl) li_m1 ?_
  refine ev_ic_ne (pc := 6) (fe_157 rfl) (t := 13) rfl h (fun h => ?_) (fun h => ?_)
  refine ev_aload_n (pc := 13) (fe_157 rfl) rfl ?_
  refine ev_getI (pc := 14) (fe_157 rfl) fr_146 t_223 ?_
  refine fm_lt_h h (fun u1 eu1 h => ?_)
  refine ev_putI (pc := 17) (fe_157 rfl) fr_146 t_223 eu1 ?_
  exact ev_R (ev_vrt (pc := 20) (fe_157 rfl) rt_157) (by rw [← h])
  refine ev_iload_n (pc := 9) (fe_157 rfl) rfl ?_
  refine ev_goto (pc := 10) (fe_157 rfl) (t := 17) rfl ?_
  refine fm_lt_h h (fun u2 eu2 h => ?_)
  refine ev_putI (pc := 17) (fe_157 rfl) fr_146 t_223 eu2 ?_
  exact ev_R (ev_vrt (pc := 20) (fe_157 rfl) rt_157) (by rw [← h])
/-- CallAgentsModel word -/
def jF158_74 : Nat → (Int32 → Int32 → Int32 → Int32 → fm → Option (Int32 × fm)) → Int32 → Int32 → Int32 → Int32 → Int32 → Int32 → fm → Option (Int32 × fm)
  | 0, _, _, _, _, _, _, _, _ => none
  | n + 1, k9, x1, x2, x3, x4, x5, x6, u =>
  if x6 < x2 then
  (if ((fI u 223 33) + x4) < (fI u 223 32) then
  (if ((fm_shr x3 x6) &&& 1) = 1 then
  (if fm_in ((fI u 223 33) + x4) 500 then if (jF136 (x1 + x6) x4) = (fA u 253 (Int32.toNatClampNeg ((fI u 223 33) + x4))) then
  (jF158_74 n k9 x1 x2 x3 x4 (x5 ||| (fm_shl 1 x6)) (x6 + 1) u)
  else
  (jF158_74 n k9 x1 x2 x3 x4 x5 (x6 + 1) u) else none)
  else
  (jF158_74 n k9 x1 x2 x3 x4 x5 (x6 + 1) u))
  else
  (jF158_74 n k9 x1 x2 x3 x4 x5 (x6 + 1) u))
  else
  (if x5 = 0 then
  (fm_let (jF157 ((fI u 223 33) + x4) u) (fun p1 => k9 x1 x2 x5 (x4 + 1) p1))
  else
  (k9 x1 x2 x5 (x4 + 1) u))
def jF158_20 : Nat → (Int32 → Int32 → Int32 → Int32 → fm → Option (Int32 × fm)) → Int32 → Int32 → Int32 → Int32 → Int32 → fm → Option (Int32 × fm)
  | 0, _, _, _, _, _, _, _ => none
  | n + 1, k9, x1, x2, x3, x4, x5, u =>
  if x5 < x2 then
  (if ((fm_shr x3 x5) &&& 1) = 1 then
  (if (jF136 (x1 + x5) x4) = 0 then
  (fm_let (sI u 223 33 ((fI u 223 33) + x4)) (fun u3 => some (x5, u3)))
  else
  (jF158_20 n k9 x1 x2 x3 x4 (x5 + 1) u))
  else
  (jF158_20 n k9 x1 x2 x3 x4 (x5 + 1) u))
  else
  (jF158_74 fm_N k9 x1 x2 x3 x4 0 0 u)
def jF158_9 : Nat → Int32 → Int32 → Int32 → Int32 → fm → Option (Int32 × fm)
  | 0, _, _, _, _, _ => none
  | n + 1, x1, x2, x3, x4, u =>
  if (fI u 223 34) = (-1) then
  (jF158_20 fm_N (fun x1' x2' x3' x4' u' => jF158_9 n x1' x2' x3' x4' u') x1 x2 x3 x4 0 u)
  else
  (some (0, u))
def jF158 (x1 : Int32) (x2 : Int32) (u : fm) : Option (Int32 × fm) :=
  jF158_9 fm_N x1 x2 ((fm_shl 1 x2) - 1) 0 u
theorem jK158_74 {X : Nat × (Nat → Int32)} {r : Int32 × fm} {k9 : Int32 → Int32 → Int32 → Int32 → fm → Option (Int32 × fm)} : ∀ (n : Nat) (x1 : Int32) (x2 : Int32) (x3 : Int32) (x4 : Int32) (x5 : Int32) (x6 : Int32) (u : fm) (hk9 : ∀ (x1 : Int32) (x2 : Int32) (x3 : Int32) (x4 : Int32) (u : fm), k9 x1 x2 x3 x4 u = some r → ev X 158 9 [some (.inr (.inl (some 223))), some (.inl x1), some (.inl x2), some (.inl x3), some (.inl x4), none, none, none] [] u ([.inl r.1], r.2)), jF158_74 n k9 x1 x2 x3 x4 x5 x6 u = some r → ev X 158 74 [some (.inr (.inl (some 223))), some (.inl x1), some (.inl x2), some (.inl x3), some (.inl x4), some (.inl x5), some (.inl x6), none] [] u ([.inl r.1], r.2) := by
  intro n
  induction n with
  | zero =>
    intro _ _ _ _ _ _ _ _ h
    unfold jF158_74 at h
    cases h
  | succ n ih =>
  intro x1 x2 x3 x4 x5 x6 u hk9 h
  unfold jF158_74 at h
  refine ev_iload (pc := 74) (fe_158 rfl) rfl ?_
  refine ev_iload_n (pc := 76) (fe_158 rfl) rfl ?_
  refine ev_ic_ge (pc := 77) (fe_158 rfl) (t := 160) rfl h (fun h => ?_) (fun h => ?_)
  refine ev_iload (pc := 160) (fe_158 rfl) rfl ?_
  refine ev_istore_n (pc := 162) (fe_158 rfl) mx_158 rfl ?_
  refine ev_iload_n (pc := 163) (fe_158 rfl) rfl ?_
  refine ev_if_ne (pc := 164) (fe_158 rfl) (t := 178) rfl h (fun h => ?_) (fun h => ?_)
  refine ev_iinc (pc := 178) (fe_158 rfl) mx_158 rfl rfl li_1 ?_
  refine ev_goto (pc := 181) (fe_158 rfl) (t := 9) rfl ?_
  refine ev_w [true, true, true, true, true, false, false, true] ?_
  exact hk9 x1 x2 x5 (x4 + 1) u h
  refine ev_aload_n (pc := 167) (fe_158 rfl) rfl ?_
  refine ev_aload_n (pc := 168) (fe_158 rfl) rfl ?_
  refine ev_getI (pc := 169) (fe_158 rfl) fr_147 t_223 ?_
  refine ev_iload (pc := 172) (fe_158 rfl) rfl ?_
  refine ev_iadd (pc := 174) (fe_158 rfl) ?_
  refine fm_lt_h h (fun p1 ep1 h => ?_)
  refine ev_callVk (pc := 175) (fe_158 rfl) (z := 157) (na := 2) (ow := 10) cg_158_176 rfl rfl rfl t_223 (m := 0) rfl (jK157 ep1) (st1 := []) rfl ?_
  refine ev_iinc (pc := 178) (fe_158 rfl) mx_158 rfl rfl li_1 ?_
  refine ev_goto (pc := 181) (fe_158 rfl) (t := 9) rfl ?_
  refine ev_w [true, true, true, true, true, false, false, true] ?_
  exact hk9 x1 x2 x5 (x4 + 1) p1 h
  refine ev_aload_n (pc := 80) (fe_158 rfl) rfl ?_
  refine ev_getI (pc := 81) (fe_158 rfl) fr_147 t_223 ?_
  refine ev_iload (pc := 84) (fe_158 rfl) rfl ?_
  refine ev_iadd (pc := 86) (fe_158 rfl) ?_
  refine ev_aload_n (pc := 87) (fe_158 rfl) rfl ?_
  refine ev_getI (pc := 88) (fe_158 rfl) fr_145 t_223 ?_
  refine ev_ic_ge (pc := 91) (fe_158 rfl) (t := 132) rfl h (fun h => ?_) (fun h => ?_)
  refine ev_iconst (pc := 132) (fe_158 rfl) li_0 ?_
  refine ev_istore (pc := 133) (fe_158 rfl) mx_158 rfl ?_
  refine ev_iload (pc := 135) (fe_158 rfl) rfl ?_
  refine ev_ifc (pc := 137) (fe_158 rfl) (t := 150) (t1 := 150) (b := true) rfl (by decide) rfl ?_
  refine ev_iload (pc := 150) (fe_158 rfl) rfl ?_
  refine ev_istore (pc := 152) (fe_158 rfl) mx_158 rfl ?_
  refine ev_iinc (pc := 154) (fe_158 rfl) mx_158 rfl rfl li_1 ?_
  refine ev_goto (pc := 157) (fe_158 rfl) (t := 74) rfl ?_
  refine ev_w [true, true, true, true, true, true, true, false] ?_
  exact ih x1 x2 x3 x4 x5 (x6 + 1) u hk9 h
  refine ev_iload_n (pc := 94) (fe_158 rfl) rfl ?_
  refine ev_iload (pc := 95) (fe_158 rfl) rfl ?_
  refine ev_ishr (pc := 97) (fe_158 rfl) ?_
  refine ev_iconst (pc := 98) (fe_158 rfl) li_1 ?_
  refine ev_iand (pc := 99) (fe_158 rfl) ?_
  refine ev_iconst (pc := 100) (fe_158 rfl) li_1 ?_
  refine ev_ic_ne (pc := 101) (fe_158 rfl) (t := 132) rfl h (fun h => ?_) (fun h => ?_)
  refine ev_iconst (pc := 132) (fe_158 rfl) li_0 ?_
  refine ev_istore (pc := 133) (fe_158 rfl) mx_158 rfl ?_
  refine ev_iload (pc := 135) (fe_158 rfl) rfl ?_
  refine ev_ifc (pc := 137) (fe_158 rfl) (t := 150) (t1 := 150) (b := true) rfl (by decide) rfl ?_
  refine ev_iload (pc := 150) (fe_158 rfl) rfl ?_
  refine ev_istore (pc := 152) (fe_158 rfl) mx_158 rfl ?_
  refine ev_iinc (pc := 154) (fe_158 rfl) mx_158 rfl rfl li_1 ?_
  refine ev_goto (pc := 157) (fe_158 rfl) (t := 74) rfl ?_
  refine ev_w [true, true, true, true, true, true, true, false] ?_
  exact ih x1 x2 x3 x4 x5 (x6 + 1) u hk9 h
  refine ev_iload_n (pc := 104) (fe_158 rfl) rfl ?_
  refine ev_iload (pc := 105) (fe_158 rfl) rfl ?_
  refine ev_iadd (pc := 107) (fe_158 rfl) ?_
  refine ev_iload (pc := 108) (fe_158 rfl) rfl ?_
  refine ev_callSk (pc := 110) (fe_158 rfl) (z := 136) (na := 2) (ow := 10) cg_158_168 rfl (m := 0) rfl (jK136 rfl) (st1 := [.inl (jF136 (x1 + x6) x4)]) rfl ?_
  refine ev_aload_n (pc := 113) (fe_158 rfl) rfl ?_
  refine ev_getR (a1 := 253) (pc := 114) (fe_158 rfl) fr_139 t_223 rfl ?_
  refine ev_aload_n (pc := 117) (fe_158 rfl) rfl ?_
  refine ev_getI (pc := 118) (fe_158 rfl) fr_147 t_223 ?_
  refine ev_iload (pc := 121) (fe_158 rfl) rfl ?_
  refine ev_iadd (pc := 123) (fe_158 rfl) ?_
  refine fm_ob h (fun g2 h => ?_)
  refine ev_iaload (pc := 124) (fe_158 rfl) t_253 g2 ?_
  refine ev_ic_ne (pc := 125) (fe_158 rfl) (t := 132) rfl h (fun h => ?_) (fun h => ?_)
  refine ev_iconst (pc := 132) (fe_158 rfl) li_0 ?_
  refine ev_istore (pc := 133) (fe_158 rfl) mx_158 rfl ?_
  refine ev_iload (pc := 135) (fe_158 rfl) rfl ?_
  refine ev_ifc (pc := 137) (fe_158 rfl) (t := 150) (t1 := 150) (b := true) rfl (by decide) rfl ?_
  refine ev_iload (pc := 150) (fe_158 rfl) rfl ?_
  refine ev_istore (pc := 152) (fe_158 rfl) mx_158 rfl ?_
  refine ev_iinc (pc := 154) (fe_158 rfl) mx_158 rfl rfl li_1 ?_
  refine ev_goto (pc := 157) (fe_158 rfl) (t := 74) rfl ?_
  refine ev_w [true, true, true, true, true, true, true, false] ?_
  exact ih x1 x2 x3 x4 x5 (x6 + 1) u hk9 h
  refine ev_iconst (pc := 128) (fe_158 rfl) li_1 ?_
  refine ev_goto (pc := 129) (fe_158 rfl) (t := 133) rfl ?_
  refine ev_istore (pc := 133) (fe_158 rfl) mx_158 rfl ?_
  refine ev_iload (pc := 135) (fe_158 rfl) rfl ?_
  refine ev_ifc (pc := 137) (fe_158 rfl) (t := 150) (t1 := 140) (b := false) rfl (by decide) rfl ?_
  refine ev_iload (pc := 140) (fe_158 rfl) rfl ?_
  refine ev_iconst (pc := 142) (fe_158 rfl) li_1 ?_
  refine ev_iload (pc := 143) (fe_158 rfl) rfl ?_
  refine ev_ishl (pc := 145) (fe_158 rfl) ?_
  refine ev_ior (pc := 146) (fe_158 rfl) ?_
  refine ev_goto (pc := 147) (fe_158 rfl) (t := 152) rfl ?_
  refine ev_istore (pc := 152) (fe_158 rfl) mx_158 rfl ?_
  refine ev_iinc (pc := 154) (fe_158 rfl) mx_158 rfl rfl li_1 ?_
  refine ev_goto (pc := 157) (fe_158 rfl) (t := 74) rfl ?_
  refine ev_w [true, true, true, true, true, true, true, false] ?_
  exact ih x1 x2 x3 x4 (x5 ||| (fm_shl 1 x6)) (x6 + 1) u hk9 h
theorem jK158_20 {X : Nat × (Nat → Int32)} {r : Int32 × fm} {k9 : Int32 → Int32 → Int32 → Int32 → fm → Option (Int32 × fm)} : ∀ (n : Nat) (x1 : Int32) (x2 : Int32) (x3 : Int32) (x4 : Int32) (x5 : Int32) (u : fm) (hk9 : ∀ (x1 : Int32) (x2 : Int32) (x3 : Int32) (x4 : Int32) (u : fm), k9 x1 x2 x3 x4 u = some r → ev X 158 9 [some (.inr (.inl (some 223))), some (.inl x1), some (.inl x2), some (.inl x3), some (.inl x4), none, none, none] [] u ([.inl r.1], r.2)), jF158_20 n k9 x1 x2 x3 x4 x5 u = some r → ev X 158 20 [some (.inr (.inl (some 223))), some (.inl x1), some (.inl x2), some (.inl x3), some (.inl x4), some (.inl x5), none, none] [] u ([.inl r.1], r.2) := by
  intro n
  induction n with
  | zero =>
    intro _ _ _ _ _ _ _ h
    unfold jF158_20 at h
    cases h
  | succ n ih =>
  intro x1 x2 x3 x4 x5 u hk9 h
  unfold jF158_20 at h
  refine ev_iload (pc := 20) (fe_158 rfl) rfl ?_
  refine ev_iload_n (pc := 22) (fe_158 rfl) rfl ?_
  refine ev_ic_ge (pc := 23) (fe_158 rfl) (t := 68) rfl h (fun h => ?_) (fun h => ?_)
  refine ev_iconst (pc := 68) (fe_158 rfl) li_0 ?_
  refine ev_istore (pc := 69) (fe_158 rfl) mx_158 rfl ?_
  refine ev_iconst (pc := 71) (fe_158 rfl) li_0 ?_
  refine ev_istore (pc := 72) (fe_158 rfl) mx_158 rfl ?_
  exact jK158_74 fm_N x1 x2 x3 x4 0 0 u hk9 h
  refine ev_iload_n (pc := 26) (fe_158 rfl) rfl ?_
  refine ev_iload (pc := 27) (fe_158 rfl) rfl ?_
  refine ev_ishr (pc := 29) (fe_158 rfl) ?_
  refine ev_iconst (pc := 30) (fe_158 rfl) li_1 ?_
  refine ev_iand (pc := 31) (fe_158 rfl) ?_
  refine ev_iconst (pc := 32) (fe_158 rfl) li_1 ?_
  refine ev_ic_ne (pc := 33) (fe_158 rfl) (t := 62) rfl h (fun h => ?_) (fun h => ?_)
  refine ev_iinc (pc := 62) (fe_158 rfl) mx_158 rfl rfl li_1 ?_
  refine ev_goto (pc := 65) (fe_158 rfl) (t := 20) rfl ?_
  exact ih x1 x2 x3 x4 (x5 + 1) u hk9 h
  refine ev_iload_n (pc := 36) (fe_158 rfl) rfl ?_
  refine ev_iload (pc := 37) (fe_158 rfl) rfl ?_
  refine ev_iadd (pc := 39) (fe_158 rfl) ?_
  refine ev_iload (pc := 40) (fe_158 rfl) rfl ?_
  refine ev_callSk (pc := 42) (fe_158 rfl) (z := 136) (na := 2) (ow := 10) cg_158_168 rfl (m := 0) rfl (jK136 rfl) (st1 := [.inl (jF136 (x1 + x5) x4)]) rfl ?_
  refine ev_if_ne (pc := 45) (fe_158 rfl) (t := 62) rfl h (fun h => ?_) (fun h => ?_)
  refine ev_iinc (pc := 62) (fe_158 rfl) mx_158 rfl rfl li_1 ?_
  refine ev_goto (pc := 65) (fe_158 rfl) (t := 20) rfl ?_
  exact ih x1 x2 x3 x4 (x5 + 1) u hk9 h
  refine ev_aload_n (pc := 48) (fe_158 rfl) rfl ?_
  refine ev_aload_n (pc := 49) (fe_158 rfl) rfl ?_
  refine ev_getI (pc := 50) (fe_158 rfl) fr_147 t_223 ?_
  refine ev_iload (pc := 53) (fe_158 rfl) rfl ?_
  refine ev_iadd (pc := 55) (fe_158 rfl) ?_
  refine fm_lt_h h (fun u3 eu3 h => ?_)
  refine ev_putI (pc := 56) (fe_158 rfl) fr_147 t_223 eu3 ?_
  refine ev_iload (pc := 59) (fe_158 rfl) rfl ?_
  exact ev_R (ev_irt (pc := 61) (fe_158 rfl) rt_158) (by rw [← Option.some.inj h])
theorem jK158_9 {X : Nat × (Nat → Int32)} {r : Int32 × fm} : ∀ (n : Nat) (x1 : Int32) (x2 : Int32) (x3 : Int32) (x4 : Int32) (u : fm), jF158_9 n x1 x2 x3 x4 u = some r → ev X 158 9 [some (.inr (.inl (some 223))), some (.inl x1), some (.inl x2), some (.inl x3), some (.inl x4), none, none, none] [] u ([.inl r.1], r.2) := by
  intro n
  induction n with
  | zero =>
    intro _ _ _ _ _ h
    unfold jF158_9 at h
    cases h
  | succ n ih =>
  intro x1 x2 x3 x4 u h
  unfold jF158_9 at h
  refine ev_aload_n (pc := 9) (fe_158 rfl) rfl ?_
  refine ev_getI (pc := 10) (fe_158 rfl) fr_146 t_223 ?_
  refine ev_iconst (pc := 13) (fe_158 rfl) li_m1 ?_
  refine ev_ic_ne (pc := 14) (fe_158 rfl) (t := 184) rfl h (fun h => ?_) (fun h => ?_)
  refine ev_iconst (pc := 184) (fe_158 rfl) li_0 ?_
  exact ev_R (ev_irt (pc := 185) (fe_158 rfl) rt_158) (by rw [← Option.some.inj h])
  refine ev_iconst (pc := 17) (fe_158 rfl) li_0 ?_
  refine ev_istore (pc := 18) (fe_158 rfl) mx_158 rfl ?_
  exact jK158_20 fm_N x1 x2 x3 x4 0 u (fun x1' x2' x3' x4' u' h => ih x1' x2' x3' x4' u' h) h
theorem jK158 {X : Nat × (Nat → Int32)} {x1 : Int32} {x2 : Int32} {u : fm} {r : Int32 × fm} (h : jF158 x1 x2 u = some r) : ev X 158 0 [some (.inr (.inl (some 223))), some (.inl x1), some (.inl x2), none, none, none, none, none] [] u ([.inl r.1], r.2) := by
  unfold jF158 at h
  refine ev_iconst (pc := 0) (fe_158 rfl) li_1 ?_
  refine ev_iload_n (pc := 1) (fe_158 rfl) rfl ?_
  refine ev_ishl (pc := 2) (fe_158 rfl) ?_
  refine ev_iconst (pc := 3) (fe_158 rfl) li_1 ?_
  refine ev_isub (pc := 4) (fe_158 rfl) ?_
  refine ev_istore_n (pc := 5) (fe_158 rfl) mx_158 rfl ?_
  refine ev_iconst (pc := 6) (fe_158 rfl) li_0 ?_
  refine ev_istore (pc := 7) (fe_158 rfl) mx_158 rfl ?_
  exact jK158_9 fm_N x1 x2 ((fm_shl 1 x2) - 1) 0 u h
