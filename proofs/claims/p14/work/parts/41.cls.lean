set_option maxRecDepth 8000
/-- CallAgents$Media clear -/
theorem jT38 {S : Nat → Nat → Prop} (hS : fm_sub S) {a0 : Nat} {u0 u : fm} (h0 : fm_isD a0) (n_a0 : ¬ S a0 1) (hc : fm_cl S u0 u) : fm_tq (fun p => fm_cl S u0 p) (jF38 a0 u) := by
  unfold jF38
  refine tq_let (fun u1 eu1 => ?_)
  have hc : fm_cl S u0 u1 := eu1 ▸ fm_cl_wD hc h0.1 n_a0
  exact hc
/-- CallAgents$Agent draftRequest -/
theorem jT19 {S : Nat → Nat → Prop} (hS : fm_sub S) {a0 : Nat} {x1 : Int32} {x2 : Int32} {x3 : Int32} {u0 u : fm} (h0 : fm_isA a0) (hc : fm_cl S u0 u) : fm_tq (fun p => fm_cl S u0 p) (jF19 a0 x1 x2 x3 u) := by
  unfold jF19
  refine tq_let (fun u1 eu1 => ?_)
  have hc : fm_cl S u0 u1 := eu1 ▸ fm_cl_w hS hc h0.2.2.2.2.2.2.2.2.2.2.2.2.1 (by decide)
  refine tq_let (fun u2 eu2 => ?_)
  have hc : fm_cl S u0 u2 := eu2 ▸ fm_cl_w hS hc h0.2.2.2.2.2.2.2.2.2.2.2.2.1 (by decide)
  refine tq_let (fun u3 eu3 => ?_)
  have hc : fm_cl S u0 u3 := eu3 ▸ fm_cl_w hS hc h0.2.2.2.2.2.2.2.2.2.2.2.2.1 (by decide)
  refine tq_let (fun u4 eu4 => ?_)
  have hc : fm_cl S u0 u4 := eu4 ▸ fm_cl_w hS hc h0.2.2.2.2.2.2.2.2.2.2.2.2.1 (by decide)
  refine tq_let (fun u5 eu5 => ?_)
  have hc : fm_cl S u0 u5 := eu5 ▸ fm_cl_w hS hc h0.2.2.2.2.2.2.2.2.2.2.2.2.1 (by decide)
  refine tq_let (fun u6 eu6 => ?_)
  have hc : fm_cl S u0 u6 := eu6 ▸ fm_cl_w hS hc h0.2.2.2.2.2.2.2.2.2.2.2.2.1 (by decide)
  refine tq_let (fun u7 eu7 => ?_)
  have hc : fm_cl S u0 u7 := eu7 ▸ fm_cl_w hS hc h0.2.2.2.2.2.2.2.2.2.2.2.2.1 (by decide)
  refine tq_let (fun u8 eu8 => ?_)
  have hc : fm_cl S u0 u8 := eu8 ▸ fm_cl_w hS hc h0.2.2.2.2.2.2.2.2.2.2.2.2.1 (by decide)
  refine tq_let (fun u9 eu9 => ?_)
  have hc : fm_cl S u0 u9 := eu9 ▸ fm_cl_w hS hc h0.2.2.2.2.2.2.2.2.2.2.2.2.1 (by decide)
  refine tq_let (fun u10 eu10 => ?_)
  have hc : fm_cl S u0 u10 := eu10 ▸ fm_cl_w hS hc h0.2.2.2.2.2.2.2.2.2.2.2.2.1 (by decide)
  refine tq_let (fun p11 ep11 => ?_)
  have hc : fm_cl S u0 p11 := ep11 ▸ jT38 hS ⟨h0.2.2.2.2.2.2.2.2.2.2.2.2.2.1, h0.2.2.2.2.2.2.2.2.2.2.2.2.2.2⟩ (fm_A_n hS h0 (k := 13) (by decide)) hc
  exact hc
/-- CallAgents$Media copy -/
theorem jT39_10 {S : Nat → Nat → Prop} (hS : fm_sub S) {u0 : fm} : ∀ (n : Nat) (a0 : Nat) (a1 : Nat) (x2 : Int32) (u : fm) (h0 : fm_isD a0) (h1 : fm_isD a1) (n_a0 : ¬ S a0 1) (hm : 2147483648 - x2.toInt < (n : Int)) (hp : 0 < (n : Int)) (v0 : 0 ≤ x2.toInt) (hc : fm_cl S u0 u), fm_tp (fun p => fm_cl S u0 p) (jF39_10 n a0 a1 x2 u) := by
  intro n
  induction n with
  | zero =>
    intro a0 a1 x2 u h0 h1 n_a0 hm hp v0 hc
    omega
  | succ n ih =>
  intro a0 a1 x2 u h0 h1 n_a0 hm hp v0 hc
  unfold jF39_10
  have z_1 : ((n + 1 : Nat) : Int) = (n : Int) + 1 := by omega
  refine tp_ite (fun c13 => ?_) (fun c13 => ?_)
  have l_30 : (30 : Int32).toInt = 30 := rfl
  have d_c13 := i_lt c13
  refine tp_if (c := fm_in x2 30) (by exact ⟨by omega, by omega⟩) (fun g2 => ?_)
  refine tp_let (fun u3 eu3 => ?_)
  have hc : fm_cl S u0 u3 := eu3 ▸ fm_cl_rD hc h0.1
  have w_1 := i_lo x2
  have w_2 := i_hi x2
  have l_1 : (1 : Int32).toInt = 1 := rfl
  try have e_1 := i_add (a := x2) (b := 1) (by omega) (by omega)
  have b_1 := i_lo (x2 + 1)
  have b_2 := i_hi (x2 + 1)
  exact ih a0 a1 (x2 + 1) u3 h0 h1 n_a0 (by omega) (by omega) (by omega) hc
  have l_30 : (30 : Int32).toInt = 30 := rfl
  have d_c13 := i_nlt c13
  exact tp_some hc
theorem jT39 {S : Nat → Nat → Prop} (hS : fm_sub S) {a0 : Nat} {a1 : Nat} {u0 u : fm} (h0 : fm_isD a0) (h1 : fm_isD a1) (n_a0 : ¬ S a0 1) (hc : fm_cl S u0 u) : fm_tp (fun p => fm_cl S u0 p) (jF39 a0 a1 u) := by
  unfold jF39
  refine tp_let (fun u1 eu1 => ?_)
  have hc : fm_cl S u0 u1 := eu1 ▸ fm_cl_wD hc h0.1 n_a0
  have l_0 : (0 : Int32).toInt = 0 := rfl
  have k_N : ((fm_N : Nat) : Int) = 4294967296 := rfl
  exact jT39_10 hS fm_N a0 a1 0 u1 h0 h1 n_a0 (by omega) (by omega) (by omega) hc
/-- CallAgents$Message copy -/
theorem jT47 {S : Nat → Nat → Prop} (hS : fm_sub S) {a0 : Nat} {a1 : Nat} {u0 u : fm} (h0 : fm_isM a0) (h1 : fm_isM a1) (hc : fm_cl S u0 u) : fm_tp (fun p => fm_cl S u0 p) (jF47 a0 a1 u) := by
  unfold jF47
  refine tp_let (fun u1 eu1 => ?_)
  have hc : fm_cl S u0 u1 := eu1 ▸ fm_cl_w hS hc h0.1 (by decide)
  refine tp_let (fun u2 eu2 => ?_)
  have hc : fm_cl S u0 u2 := eu2 ▸ fm_cl_w hS hc h0.1 (by decide)
  refine tp_let (fun u3 eu3 => ?_)
  have hc : fm_cl S u0 u3 := eu3 ▸ fm_cl_w hS hc h0.1 (by decide)
  refine tp_let (fun u4 eu4 => ?_)
  have hc : fm_cl S u0 u4 := eu4 ▸ fm_cl_w hS hc h0.1 (by decide)
  refine tp_let (fun u5 eu5 => ?_)
  have hc : fm_cl S u0 u5 := eu5 ▸ fm_cl_w hS hc h0.1 (by decide)
  refine tp_let (fun u6 eu6 => ?_)
  have hc : fm_cl S u0 u6 := eu6 ▸ fm_cl_w hS hc h0.1 (by decide)
  refine tp_let (fun u7 eu7 => ?_)
  have hc : fm_cl S u0 u7 := eu7 ▸ fm_cl_w hS hc h0.1 (by decide)
  refine tp_let (fun u8 eu8 => ?_)
  have hc : fm_cl S u0 u8 := eu8 ▸ fm_cl_w hS hc h0.1 (by decide)
  refine tp_let (fun u9 eu9 => ?_)
  have hc : fm_cl S u0 u9 := eu9 ▸ fm_cl_w hS hc h0.1 (by decide)
  refine tp_let (fun u10 eu10 => ?_)
  have hc : fm_cl S u0 u10 := eu10 ▸ fm_cl_w hS hc h0.1 (by decide)
  refine tp_let (fun u11 eu11 => ?_)
  have hc : fm_cl S u0 u11 := eu11 ▸ fm_cl_w hS hc h0.1 (by decide)
  refine tp_let (fun u12 eu12 => ?_)
  have hc : fm_cl S u0 u12 := eu12 ▸ fm_cl_w hS hc h0.1 (by decide)
  refine tp_bind (jT39 hS ⟨h0.2.1, h0.2.2⟩ ⟨h1.2.1, h1.2.2⟩ (fm_M_n hS h0) hc) (fun p13 ep13 hc => ?_)
  exact tp_some hc
/-- CallAgents$Agent keep -/
theorem jT20 {S : Nat → Nat → Prop} (hS : fm_sub S) {a0 : Nat} {u0 u : fm} (h0 : fm_isA a0) (hc : fm_cl S u0 u) : fm_tp (fun p => fm_cl S u0 p) (jF20 a0 u) := by
  unfold jF20
  refine tp_bind (jT47 hS ⟨h0.2.2.2.2.2.2.2.2.2.1, h0.2.2.2.2.2.2.2.2.2.2.1, h0.2.2.2.2.2.2.2.2.2.2.2.1⟩ ⟨h0.2.2.2.2.2.2.2.2.2.2.2.2.1, h0.2.2.2.2.2.2.2.2.2.2.2.2.2.1, h0.2.2.2.2.2.2.2.2.2.2.2.2.2.2⟩ hc) (fun p1 ep1 hc => ?_)
  exact tp_some hc
/-- CallAgents$Link get -/
theorem jT30 {x1 : Int32} {u : fm} : fm_tp (fun _ => True) (jF30 x1 u) := by
  unfold jF30
  refine tp_ite (fun c1 => ?_) (fun c1 => ?_)
  have l_0 : (0 : Int32).toInt = 0 := rfl
  have d_c1 := i_lt c1
  exact tp_some trivial
  have l_0 : (0 : Int32).toInt = 0 := rfl
  have d_c1 := i_nlt c1
  refine tp_ite (fun c9 => ?_) (fun c9 => ?_)
  have d_c9 := i_lt c9
  have h_c9 := i_hi (fI u 1 1)
  refine tp_ite (fun c15 => ?_) (fun c15 => ?_)
  have l_60 : (60 : Int32).toInt = 60 := rfl
  have d_c15 := i_lt c15
  refine tp_if (c := fm_in x1 60) (by exact ⟨by omega, by omega⟩) (fun g1 => ?_)
  refine tp_let (fun m2 em2 => ?_)
  have hm2 : fm_isL m2 := em2 ▸ fm_isL_mk _
  exact tp_some trivial
  have l_60 : (60 : Int32).toInt = 60 := rfl
  have d_c15 := i_nlt c15
  exact tp_some trivial
  have d_c9 := i_nlt c9
  exact tp_some trivial
/-- CallAgents$Link remove -/
theorem jT31_52 {S : Nat → Nat → Prop} (hS : fm_sub S) {u0 : fm} (q2 : Nat) (u : fm) (hq2 : fm_isL q2) (hc : fm_cl S u0 u) : fm_tp (fun p => fm_cl S u0 p.2) (jF31_52 q2 u) := by
  unfold jF31_52
  refine tp_let (fun u3 eu3 => ?_)
  have hc : fm_cl S u0 u3 := eu3 ▸ fm_cl_w hS hc t_1 (by decide)
  refine tp_ite (fun c66 => ?_) (fun c66 => ?_)
  have l_0 : (0 : Int32).toInt = 0 := rfl
  have d_c66 := i_lt c66
  exact tp_some hc
  have l_0 : (0 : Int32).toInt = 0 := rfl
  have d_c66 := i_nlt c66
  refine tp_ite (fun c75 => ?_) (fun c75 => ?_)
  have l_60 : (60 : Int32).toInt = 60 := rfl
  have d_c75 := i_lt c75
  refine tp_if (c := fm_in (fI u3 1 1) 60) (by exact ⟨by omega, by omega⟩) (fun g4 => ?_)
  refine tp_let (fun u5 eu5 => ?_)
  have hc : fm_cl S u0 u5 := eu5 ▸ fm_cl_P hc
  exact tp_some hc
  have l_60 : (60 : Int32).toInt = 60 := rfl
  have d_c75 := i_nlt c75
  exact tp_some hc
theorem jT31_14 {S : Nat → Nat → Prop} (hS : fm_sub S) {u0 : fm} : ∀ (n : Nat) (q2 : Nat) (x3 : Int32) (u : fm) (hq2 : fm_isL q2) (hm : 2147483648 - x3.toInt < (n : Int)) (hp : 0 < (n : Int)) (v0 : 0 ≤ x3.toInt) (v1 : x3.toInt < 60) (hc : fm_cl S u0 u), fm_tp (fun p => fm_cl S u0 p.2) (jF31_14 n q2 x3 u) := by
  intro n
  induction n with
  | zero =>
    intro q2 x3 u hq2 hm hp v0 v1 hc
    omega
  | succ n ih =>
  intro q2 x3 u hq2 hm hp v0 v1 hc
  unfold jF31_14
  have z_1 : ((n + 1 : Nat) : Int) = (n : Int) + 1 := by omega
  refine tp_ite (fun c21 => ?_) (fun c21 => ?_)
  have w_1 := i_lo x3
  have w_2 := i_hi x3
  have l_1 : (1 : Int32).toInt = 1 := rfl
  try have e_5 := i_add (a := x3) (b := 1) (by omega) (by omega)
  have d_c21 := i_lt c21
  have h_c21 := i_hi (fI u 1 1)
  refine tp_ite (fun c29 => ?_) (fun c29 => ?_)
  have w_1 := i_lo x3
  have w_2 := i_hi x3
  have l_1 : (1 : Int32).toInt = 1 := rfl
  try have e_3 := i_add (a := x3) (b := 1) (by omega) (by omega)
  have l_60 : (60 : Int32).toInt = 60 := rfl
  have d_c29 := i_lt c29
  refine tp_if (c := fm_in (x3 + 1) 60) (by have w_1 := i_lo x3; have w_2 := i_hi x3; have l_1 : (1 : Int32).toInt = 1 := rfl; (try have e_1 := i_add (a := x3) (b := 1) (by omega) (by omega)); exact ⟨by omega, by omega⟩) (fun g6 => ?_)
  refine tp_let (fun m7 em7 => ?_)
  have hm7 : fm_isL m7 := em7 ▸ fm_isL_mk _
  refine tp_if (c := fm_in x3 60) (by exact ⟨by omega, by omega⟩) (fun g8 => ?_)
  refine tp_let (fun u9 eu9 => ?_)
  have hc : fm_cl S u0 u9 := eu9 ▸ fm_cl_P hc
  have w_1 := i_lo x3
  have w_2 := i_hi x3
  have l_1 : (1 : Int32).toInt = 1 := rfl
  try have e_2 := i_add (a := x3) (b := 1) (by omega) (by omega)
  have b_1 := i_lo (x3 + 1)
  have b_2 := i_hi (x3 + 1)
  exact ih q2 (x3 + 1) u9 hq2 (by omega) (by omega) (by omega) (by omega) hc
  have w_1 := i_lo x3
  have w_2 := i_hi x3
  have l_1 : (1 : Int32).toInt = 1 := rfl
  try have e_4 := i_add (a := x3) (b := 1) (by omega) (by omega)
  have l_60 : (60 : Int32).toInt = 60 := rfl
  have d_c29 := i_nlt c29
  exact jT31_52 hS q2 u hq2 hc
  have w_1 := i_lo x3
  have w_2 := i_hi x3
  have l_1 : (1 : Int32).toInt = 1 := rfl
  try have e_6 := i_add (a := x3) (b := 1) (by omega) (by omega)
  have d_c21 := i_nlt c21
  exact jT31_52 hS q2 u hq2 hc
theorem jT31 {S : Nat → Nat → Prop} (hS : fm_sub S) {x1 : Int32} {u0 u : fm} (hc : fm_cl S u0 u) : fm_tp (fun p => fm_cl S u0 p.2) (jF31 x1 u) := by
  unfold jF31
  refine tp_bind (jT30) (fun p1 ep1 _ => ?_)
  refine tp_opt (fun eq2 => ?_) (fun q2 eq2 => ?_)
  exact tp_some hc
  have hq2 := jP30 ep1 eq2
  have r_q2 := jP30i ep1 eq2
  have b_1 := i_lo x1
  have b_2 := i_hi x1
  have k_N : ((fm_N : Nat) : Int) = 4294967296 := rfl
  exact jT31_14 hS fm_N q2 x1 u hq2 (by omega) (by omega) (by omega) (by omega) hc
/-- CallAgents$Link push -/
theorem jT32_15 {S : Nat → Nat → Prop} (hS : fm_sub S) {u0 : fm} (a1 : Nat) (u : fm) (h1 : fm_isM a1) (hc : fm_cl S u0 u) : fm_tp (fun p => fm_cl S u0 p) (jF32_15 a1 u) := by
  unfold jF32_15
  refine tp_ite (fun c19 => ?_) (fun c19 => ?_)
  have l_0 : (0 : Int32).toInt = 0 := rfl
  have d_c19 := i_lt c19
  exact tp_some hc
  have l_0 : (0 : Int32).toInt = 0 := rfl
  have d_c19 := i_nlt c19
  refine tp_ite (fun c28 => ?_) (fun c28 => ?_)
  have l_60 : (60 : Int32).toInt = 60 := rfl
  have d_c28 := i_lt c28
  refine tp_if (c := fm_in (fI u 1 1) 60) (by exact ⟨by omega, by omega⟩) (fun g1 => ?_)
  refine tp_let (fun m2 em2 => ?_)
  have hm2 : fm_isL m2 := em2 ▸ fm_isL_mk _
  refine tp_let (fun m3 em3 => ?_)
  have hm3 : fm_isL m3 := em3 ▸ fm_isL_mk _
  refine tp_bind (jT47 hS (fm_isL_M hm3) h1 hc) (fun p4 ep4 hc => ?_)
  refine tp_let (fun u5 eu5 => ?_)
  have hc : fm_cl S u0 u5 := eu5 ▸ fm_cl_w hS hc t_1 (by decide)
  exact tp_some hc
  have l_60 : (60 : Int32).toInt = 60 := rfl
  have d_c28 := i_nlt c28
  exact tp_some hc
theorem jT32 {S : Nat → Nat → Prop} (hS : fm_sub S) {a1 : Nat} {u0 u : fm} (h1 : fm_isM a1) (hc : fm_cl S u0 u) : fm_tp (fun p => fm_cl S u0 p) (jF32 a1 u) := by
  unfold jF32
  refine tp_ite (fun c6 => ?_) (fun c6 => ?_)
  have l_60 : (60 : Int32).toInt = 60 := rfl
  have d_c6 := i_lt c6
  exact jT32_15 hS a1 u h1 hc
  have l_60 : (60 : Int32).toInt = 60 := rfl
  have d_c6 := i_nlt c6
  refine tp_bind (jT31 hS  hc) (fun p6 ep6 hc => ?_)
  exact jT32_15 hS a1 p6.2 h1 hc
/-- CallAgents$Agent send -/
theorem jT21 {S : Nat → Nat → Prop} (hS : fm_sub S) {a0 : Nat} {a1 : Nat} {u0 u : fm} (h0 : fm_isA a0) (h1 : fm_isM a1) (hc : fm_cl S u0 u) : fm_tp (fun p => fm_cl S u0 p) (jF21 a0 a1 u) := by
  unfold jF21
  refine tp_let (fun u1 eu1 => ?_)
  have hc : fm_cl S u0 u1 := eu1 ▸ fm_cl_w hS hc h0.1 (by decide)
  refine tp_bind (jT32 hS h1 hc) (fun p2 ep2 hc => ?_)
  exact tp_some hc
/-- CallAgents$Timer start -/
theorem jT78 {S : Nat → Nat → Prop} (hS : fm_sub S) {a0 : Nat} {x1 : Int32} {x2 : Int32} {u0 u : fm} (h0 : fm_isR a0) (hc : fm_cl S u0 u) : fm_tq (fun p => fm_cl S u0 p) (jF78 a0 x1 x2 u) := by
  unfold jF78
  refine tq_let (fun u1 eu1 => ?_)
  have hc : fm_cl S u0 u1 := eu1 ▸ fm_cl_w hS hc h0 (by decide)
  refine tq_let (fun u2 eu2 => ?_)
  have hc : fm_cl S u0 u2 := eu2 ▸ fm_cl_w hS hc h0 (by decide)
  refine tq_let (fun u3 eu3 => ?_)
  have hc : fm_cl S u0 u3 := eu3 ▸ fm_cl_w hS hc h0 (by decide)
  refine tq_let (fun u4 eu4 => ?_)
  have hc : fm_cl S u0 u4 := eu4 ▸ fm_cl_w hS hc h0 (by decide)
  refine tq_let (fun u5 eu5 => ?_)
  have hc : fm_cl S u0 u5 := eu5 ▸ fm_cl_w hS hc h0 (by decide)
  exact hc
/-- CallAgents$Agent waitIn -/
theorem jT23 {S : Nat → Nat → Prop} (hS : fm_sub S) {a0 : Nat} {x1 : Int32} {x2 : Int32} {x3 : Int32} {u0 u : fm} (h0 : fm_isA a0) (hc : fm_cl S u0 u) : fm_tq (fun p => fm_cl S u0 p) (jF23 a0 x1 x2 x3 u) := by
  unfold jF23
  refine tq_let (fun u1 eu1 => ?_)
  have hc : fm_cl S u0 u1 := eu1 ▸ fm_cl_w hS hc h0.1 (by decide)
  refine tq_let (fun p2 ep2 => ?_)
  have hc : fm_cl S u0 p2 := ep2 ▸ jT78 hS h0.2.2.2.2.2.2.2.2.1 hc
  exact hc
/-- CallAgents$Dialog begin -/
theorem jT25 {S : Nat → Nat → Prop} (hS : fm_sub S) {a0 : Nat} {a1 : Nat} {x2 : Int32} {x3 : Int32} {u0 u : fm} (h0 : fm_isG a0) (h1 : fm_isM a1) (hc : fm_cl S u0 u) : fm_tp (fun p => fm_cl S u0 p) (jF25 a0 a1 x2 x3 u) := by
  unfold jF25
  refine tp_let (fun u1 eu1 => ?_)
  have hc : fm_cl S u0 u1 := eu1 ▸ fm_cl_w hS hc h0.1 (by decide)
  refine tp_let (fun u2 eu2 => ?_)
  have hc : fm_cl S u0 u2 := eu2 ▸ fm_cl_w hS hc h0.1 (by decide)
  refine tp_let (fun u3 eu3 => ?_)
  have hc : fm_cl S u0 u3 := eu3 ▸ fm_cl_w hS hc h0.1 (by decide)
  refine tp_let (fun u4 eu4 => ?_)
  have hc : fm_cl S u0 u4 := eu4 ▸ fm_cl_w hS hc h0.1 (by decide)
  refine tp_let (fun u5 eu5 => ?_)
  have hc : fm_cl S u0 u5 := eu5 ▸ fm_cl_w hS hc h0.1 (by decide)
  refine tp_bind (jT39 hS ⟨h0.2.1, h0.2.2.1⟩ ⟨h1.2.1, h1.2.2⟩ (fm_G_n hS h0 (k := 1) (by decide)) hc) (fun p6 ep6 hc => ?_)
  refine tp_let (fun p7 ep7 => ?_)
  have hc : fm_cl S u0 p7 := ep7 ▸ jT38 hS ⟨h0.2.2.2.1, h0.2.2.2.2⟩ (fm_G_n hS h0 (k := 3) (by decide)) hc
  exact tp_some hc
/-- CallAgents$Agent startCall -/
theorem jT2 {S : Nat → Nat → Prop} (hS : fm_sub S) {a0 : Nat} {x1 : Int32} {u0 u : fm} (h0 : fm_isA a0) (hc : fm_cl S u0 u) : fm_tp (fun p => fm_cl S u0 p.2) (jF2 a0 x1 u) := by
  unfold jF2
  refine tp_ite (fun c4 => ?_) (fun c4 => ?_)
  exact tp_some hc
  refine tp_ite (fun c14 => ?_) (fun c14 => ?_)
  exact tp_some hc
  refine tp_let (fun u2 eu2 => ?_)
  have hc : fm_cl S u0 u2 := eu2 ▸ fm_cl_w hS hc h0.1 (by decide)
  refine tp_let (fun u3 eu3 => ?_)
  have hc : fm_cl S u0 u3 := eu3 ▸ fm_cl_w hS hc h0.1 (by decide)
  refine tp_let (fun u4 eu4 => ?_)
  have hc : fm_cl S u0 u4 := eu4 ▸ fm_cl_w hS hc h0.1 (by decide)
  refine tp_let (fun u5 eu5 => ?_)
  have hc : fm_cl S u0 u5 := eu5 ▸ fm_cl_w hS hc h0.1 (by decide)
  refine tp_let (fun p6 ep6 => ?_)
  have hc : fm_cl S u0 p6 := ep6 ▸ jT19 hS h0 hc
  refine tp_let (fun u7 eu7 => ?_)
  have hc : fm_cl S u0 u7 := eu7 ▸ fm_cl_w hS hc h0.2.2.2.2.2.2.2.2.2.2.2.2.1 (by decide)
  refine tp_let (fun u8 eu8 => ?_)
  have hc : fm_cl S u0 u8 := eu8 ▸ fm_cl_w hS hc h0.2.2.2.2.2.2.2.2.2.2.2.2.1 (by decide)
  refine tp_bind (jT39 hS ⟨h0.2.2.2.2.2.2.2.2.2.2.2.2.2.1, h0.2.2.2.2.2.2.2.2.2.2.2.2.2.2⟩ ⟨h0.2.1, h0.2.2.1⟩ (fm_A_n hS h0 (k := 13) (by decide)) hc) (fun p9 ep9 hc => ?_)
  refine tp_bind (jT25 hS ⟨h0.2.2.2.1, h0.2.2.2.2.1, h0.2.2.2.2.2.1, h0.2.2.2.2.2.2.1, h0.2.2.2.2.2.2.2.1⟩ ⟨h0.2.2.2.2.2.2.2.2.2.2.2.2.1, h0.2.2.2.2.2.2.2.2.2.2.2.2.2.1, h0.2.2.2.2.2.2.2.2.2.2.2.2.2.2⟩ hc) (fun p10 ep10 hc => ?_)
  refine tp_let (fun u11 eu11 => ?_)
  have hc : fm_cl S u0 u11 := eu11 ▸ fm_cl_w hS hc h0.1 (by decide)
  refine tp_bind (jT20 hS h0 hc) (fun p12 ep12 hc => ?_)
  refine tp_bind (jT21 hS h0 ⟨h0.2.2.2.2.2.2.2.2.2.1, h0.2.2.2.2.2.2.2.2.2.2.1, h0.2.2.2.2.2.2.2.2.2.2.2.1⟩ hc) (fun p13 ep13 hc => ?_)
  refine tp_let (fun p14 ep14 => ?_)
  have hc : fm_cl S u0 p14 := ep14 ▸ jT23 hS h0 hc
  exact tp_some hc
/-- CallAgents$Media cell -/
theorem jT34 {a0 : Nat} {x1 : Int32} {x2 : Int32} {u : fm} (h0 : fm_isD a0) : fm_tp (fun _ => True) (jF34 a0 x1 x2 u) := by
  unfold jF34
  refine tp_ite (fun c1 => ?_) (fun c1 => ?_)
  have l_0 : (0 : Int32).toInt = 0 := rfl
  have d_c1 := i_lt c1
  exact tp_some trivial
  have l_0 : (0 : Int32).toInt = 0 := rfl
  have d_c1 := i_nlt c1
  refine tp_ite (fun c9 => ?_) (fun c9 => ?_)
  have d_c9 := i_lt c9
  have h_c9 := i_hi (fI u a0 1)
  refine tp_ite (fun c14 => ?_) (fun c14 => ?_)
  have l_3 : (3 : Int32).toInt = 3 := rfl
  have d_c14 := i_lt c14
  refine tp_ite (fun c18 => ?_) (fun c18 => ?_)
  have l_0 : (0 : Int32).toInt = 0 := rfl
  have d_c18 := i_lt c18
  exact tp_some trivial
  have l_0 : (0 : Int32).toInt = 0 := rfl
  have d_c18 := i_nlt c18
  refine tp_ite (fun c24 => ?_) (fun c24 => ?_)
  have l_10 : (10 : Int32).toInt = 10 := rfl
  have d_c24 := i_lt c24
  refine tp_if (c := fm_in ((x1 * 10) + 1) 30) (by have w_1 := i_lo x1; have w_2 := i_hi x1; have l_10 : (10 : Int32).toInt = 10 := rfl; (try have e_1 := i_mulr (a := x1) (b := 10) (k := 10) rfl (by omega) (by omega)); have l_1 : (1 : Int32).toInt = 1 := rfl; (try have e_2 := i_add (a := (x1 * 10)) (b := 1) (by omega) (by omega)); exact ⟨by omega, by omega⟩) (fun g1 => ?_)
  refine tp_ite (fun c45 => ?_) (fun c45 => ?_)
  have l_2 : (2 : Int32).toInt = 2 := rfl
  have w_1 := i_lo (fA u (a0 + 1) (Int32.toNatClampNeg ((x1 * 10) + 1)))
  have w_2 := i_hi (fA u (a0 + 1) (Int32.toNatClampNeg ((x1 * 10) + 1)))
  try have e_5 := i_add (a := 2) (b := (fA u (a0 + 1) (Int32.toNatClampNeg ((x1 * 10) + 1)))) (by omega) (by omega)
  have d_c45 := i_lt c45
  have h_c45 := i_hi (2 + (fA u (a0 + 1) (Int32.toNatClampNeg ((x1 * 10) + 1))))
  refine tp_if (c := fm_in ((x1 * 10) + x2) 30) (by have w_1 := i_lo x1; have w_2 := i_hi x1; have l_10 : (10 : Int32).toInt = 10 := rfl; (try have e_3 := i_mulr (a := x1) (b := 10) (k := 10) rfl (by omega) (by omega)); have w_1 := i_lo x2; have w_2 := i_hi x2; (try have e_4 := i_add (a := (x1 * 10)) (b := x2) (by omega) (by omega)); exact ⟨by omega, by omega⟩) (fun g2 => ?_)
  exact tp_some trivial
  have l_2 : (2 : Int32).toInt = 2 := rfl
  have w_1 := i_lo (fA u (a0 + 1) (Int32.toNatClampNeg ((x1 * 10) + 1)))
  have w_2 := i_hi (fA u (a0 + 1) (Int32.toNatClampNeg ((x1 * 10) + 1)))
  try have e_6 := i_add (a := 2) (b := (fA u (a0 + 1) (Int32.toNatClampNeg ((x1 * 10) + 1)))) (by omega) (by omega)
  have d_c45 := i_nlt c45
  exact tp_some trivial
  have l_10 : (10 : Int32).toInt = 10 := rfl
  have d_c24 := i_nlt c24
  exact tp_some trivial
  have l_3 : (3 : Int32).toInt = 3 := rfl
  have d_c14 := i_nlt c14
  exact tp_some trivial
  have d_c9 := i_nlt c9
  exact tp_some trivial
/-- CallAgents$Media add -/
theorem jT35 {S : Nat → Nat → Prop} (hS : fm_sub S) {a0 : Nat} {x1 : Int32} {u0 u : fm} (h0 : fm_isD a0) (n_a0 : ¬ S a0 1) (hc : fm_cl S u0 u) : fm_tp (fun p => fm_cl S u0 p.2) (jF35 a0 x1 u) := by
  unfold jF35
  refine tp_ite (fun c4 => ?_) (fun c4 => ?_)
  have l_0 : (0 : Int32).toInt = 0 := rfl
  have d_c4 := i_lt c4
  exact tp_some hc
  have l_0 : (0 : Int32).toInt = 0 := rfl
  have d_c4 := i_nlt c4
  refine tp_ite (fun c12 => ?_) (fun c12 => ?_)
  have l_3 : (3 : Int32).toInt = 3 := rfl
  have d_c12 := i_lt c12
  refine tp_if (c := fm_in (((fI u a0 1) * 10) + 0) 30) (by have w_1 := i_lo (fI u a0 1); have w_2 := i_hi (fI u a0 1); have l_10 : (10 : Int32).toInt = 10 := rfl; (try have e_3 := i_mulr (a := (fI u a0 1)) (b := 10) (k := 10) rfl (by omega) (by omega)); have l_0 : (0 : Int32).toInt = 0 := rfl; (try have e_4 := i_add (a := ((fI u a0 1) * 10)) (b := 0) (by omega) (by omega)); exact ⟨by omega, by omega⟩) (fun g1 => ?_)
  refine tp_let (fun u2 eu2 => ?_)
  have hc : fm_cl S u0 u2 := eu2 ▸ fm_cl_rD hc h0.1
  refine tp_if (c := fm_in (((fI u2 a0 1) * 10) + 1) 30) (by have w_1 := i_lo (fI u2 a0 1); have w_2 := i_hi (fI u2 a0 1); have q_1 : (fI u2 a0 1).toInt = (fI u a0 1).toInt := (by rw [← eu2] <;> rfl); have l_10 : (10 : Int32).toInt = 10 := rfl; (try have e_5 := i_mulr (a := (fI u2 a0 1)) (b := 10) (k := 10) rfl (by omega) (by omega)); have l_1 : (1 : Int32).toInt = 1 := rfl; (try have e_6 := i_add (a := ((fI u2 a0 1) * 10)) (b := 1) (by omega) (by omega)); exact ⟨by omega, by omega⟩) (fun g3 => ?_)
  refine tp_let (fun u4 eu4 => ?_)
  have hc : fm_cl S u0 u4 := eu4 ▸ fm_cl_rD hc h0.1
  refine tp_let (fun u5 eu5 => ?_)
  have hc : fm_cl S u0 u5 := eu5 ▸ fm_cl_wD hc h0.1 n_a0
  exact tp_some hc
  have l_3 : (3 : Int32).toInt = 3 := rfl
  have d_c12 := i_nlt c12
  exact tp_some hc
/-- CallAgents$Media addFormat -/
theorem jT36 {S : Nat → Nat → Prop} (hS : fm_sub S) {a0 : Nat} {x1 : Int32} {u0 u : fm} (h0 : fm_isD a0) (hc : fm_cl S u0 u) : fm_tp (fun p => fm_cl S u0 p) (jF36 a0 x1 u) := by
  unfold jF36
  refine tp_ite (fun c5 => ?_) (fun c5 => ?_)
  have l_1 : (1 : Int32).toInt = 1 := rfl
  have d_c5 := i_lt c5
  exact tp_some hc
  have l_1 : (1 : Int32).toInt = 1 := rfl
  have d_c5 := i_nlt c5
  refine tp_ite (fun c13 => ?_) (fun c13 => ?_)
  have l_3 : (3 : Int32).toInt = 3 := rfl
  have d_c13 := i_lt c13
  have h_c13 := i_hi (fI u a0 1)
  exact tp_some hc
  have l_3 : (3 : Int32).toInt = 3 := rfl
  have d_c13 := i_nlt c13
  refine tp_if (c := fm_in ((((fI u a0 1) - 1) * 10) + 1) 30) (by have w_1 := i_lo (fI u a0 1); have w_2 := i_hi (fI u a0 1); have l_1 : (1 : Int32).toInt = 1 := rfl; (try have e_1 := i_sub (a := (fI u a0 1)) (b := 1) (by omega) (by omega)); have l_10 : (10 : Int32).toInt = 10 := rfl; (try have e_2 := i_mulr (a := ((fI u a0 1) - 1)) (b := 10) (k := 10) rfl (by omega) (by omega)); have l_1 : (1 : Int32).toInt = 1 := rfl; (try have e_3 := i_add (a := (((fI u a0 1) - 1) * 10)) (b := 1) (by omega) (by omega)); exact ⟨by omega, by omega⟩) (fun g1 => ?_)
  refine tp_ite (fun c37 => ?_) (fun c37 => ?_)
  have l_0 : (0 : Int32).toInt = 0 := rfl
  have d_c37 := i_lt c37
  exact tp_some hc
  have l_0 : (0 : Int32).toInt = 0 := rfl
  have d_c37 := i_nlt c37
  refine tp_ite (fun c43 => ?_) (fun c43 => ?_)
  have l_8 : (8 : Int32).toInt = 8 := rfl
  have d_c43 := i_lt c43
  refine tp_if (c := fm_in (((((fI u a0 1) - 1) * 10) + 2) + (fA u (a0 + 1) (Int32.toNatClampNeg ((((fI u a0 1) - 1) * 10) + 1)))) 30) (by have w_1 := i_lo (fI u a0 1); have w_2 := i_hi (fI u a0 1); have l_1 : (1 : Int32).toInt = 1 := rfl; (try have e_4 := i_sub (a := (fI u a0 1)) (b := 1) (by omega) (by omega)); have l_10 : (10 : Int32).toInt = 10 := rfl; (try have e_5 := i_mulr (a := ((fI u a0 1) - 1)) (b := 10) (k := 10) rfl (by omega) (by omega)); have l_2 : (2 : Int32).toInt = 2 := rfl; (try have e_6 := i_add (a := (((fI u a0 1) - 1) * 10)) (b := 2) (by omega) (by omega)); have w_1 := i_lo (fA u (a0 + 1) (Int32.toNatClampNeg ((((fI u a0 1) - 1) * 10) + 1))); have w_2 := i_hi (fA u (a0 + 1) (Int32.toNatClampNeg ((((fI u a0 1) - 1) * 10) + 1))); (try have e_7 := i_add (a := ((((fI u a0 1) - 1) * 10) + 2)) (b := (fA u (a0 + 1) (Int32.toNatClampNeg ((((fI u a0 1) - 1) * 10) + 1)))) (by omega) (by omega)); exact ⟨by omega, by omega⟩) (fun g2 => ?_)
  refine tp_let (fun u3 eu3 => ?_)
  have hc : fm_cl S u0 u3 := eu3 ▸ fm_cl_rD hc h0.1
  refine tp_let (fun u4 eu4 => ?_)
  have hc : fm_cl S u0 u4 := eu4 ▸ fm_cl_rD hc h0.1
  exact tp_some hc
  have l_8 : (8 : Int32).toInt = 8 := rfl
  have d_c43 := i_nlt c43
  exact tp_some hc
/-- CallAgents$Media has -/
theorem jT42_2 {u : fm} : ∀ (n : Nat) (a0 : Nat) (x1 : Int32) (x2 : Int32) (x3 : Int32) (h0 : fm_isD a0) (hm : 2147483648 - x3.toInt < (n : Int)) (hp : 0 < (n : Int)), fm_tp (fun _ => True) (jF42_2 n a0 x1 x2 x3 u) := by
  intro n
  induction n with
  | zero =>
    intro a0 x1 x2 x3 h0 hm hp
    omega
  | succ n ih =>
  intro a0 x1 x2 x3 h0 hm hp
  unfold jF42_2
  have z_1 : ((n + 1 : Nat) : Int) = (n : Int) + 1 := by omega
  refine tp_bind (jT34 h0) (fun p1 ep1 _ => ?_)
  refine tp_ite (fun c9 => ?_) (fun c9 => ?_)
  have d_c9 := i_lt c9
  have h_c9 := i_hi p1
  refine tp_bind (jT34 h0) (fun p2 ep2 _ => ?_)
  refine tp_ite (fun c21 => ?_) (fun c21 => ?_)
  have d_c21 := i_eq c21
  exact tp_some trivial
  have d_c21 := i_ne c21
  have w_1 := i_lo x3
  have w_2 := i_hi x3
  have l_1 : (1 : Int32).toInt = 1 := rfl
  try have e_1 := i_add (a := x3) (b := 1) (by omega) (by omega)
  have b_1 := i_lo x1
  have b_2 := i_hi x1
  have b_1 := i_lo x2
  have b_2 := i_hi x2
  have b_1 := i_lo (x3 + 1)
  have b_2 := i_hi (x3 + 1)
  exact ih a0 x1 x2 (x3 + 1) h0 (by omega) (by omega)
  have d_c9 := i_nlt c9
  exact tp_some trivial
theorem jT42 {a0 : Nat} {x1 : Int32} {x2 : Int32} {u : fm} (h0 : fm_isD a0) : fm_tp (fun _ => True) (jF42 a0 x1 x2 u) := by
  unfold jF42
  have l_0 : (0 : Int32).toInt = 0 := rfl
  have b_1 := i_lo x1
  have b_2 := i_hi x1
  have b_1 := i_lo x2
  have b_2 := i_hi x2
  have k_N : ((fm_N : Nat) : Int) = 4294967296 := rfl
  exact jT42_2 fm_N a0 x1 x2 0 h0 (by omega) (by omega)
/-- CallAgents$Media shares -/
theorem jT41_2 {u : fm} : ∀ (n : Nat) (a0 : Nat) (x1 : Int32) (a2 : Nat) (x3 : Int32) (h0 : fm_isD a0) (h2 : fm_isD a2) (hm : 2147483648 - x3.toInt < (n : Int)) (hp : 0 < (n : Int)), fm_tp (fun _ => True) (jF41_2 n a0 x1 a2 x3 u) := by
  intro n
  induction n with
  | zero =>
    intro a0 x1 a2 x3 h0 h2 hm hp
    omega
  | succ n ih =>
  intro a0 x1 a2 x3 h0 h2 hm hp
  unfold jF41_2
  have z_1 : ((n + 1 : Nat) : Int) = (n : Int) + 1 := by omega
  refine tp_bind (jT34 h2) (fun p1 ep1 _ => ?_)
  refine tp_ite (fun c9 => ?_) (fun c9 => ?_)
  have d_c9 := i_lt c9
  have h_c9 := i_hi p1
  refine tp_bind (jT34 h2) (fun p2 ep2 _ => ?_)
  refine tp_bind (jT42 h0) (fun p3 ep3 _ => ?_)
  refine tp_ite (fun c25 => ?_) (fun c25 => ?_)
  have l_0 : (0 : Int32).toInt = 0 := rfl
  have d_c25 := i_eq c25
  have w_1 := i_lo x3
  have w_2 := i_hi x3
  have l_1 : (1 : Int32).toInt = 1 := rfl
  try have e_1 := i_add (a := x3) (b := 1) (by omega) (by omega)
  have b_1 := i_lo x1
  have b_2 := i_hi x1
  have b_1 := i_lo (x3 + 1)
  have b_2 := i_hi (x3 + 1)
  exact ih a0 x1 a2 (x3 + 1) h0 h2 (by omega) (by omega)
  have l_0 : (0 : Int32).toInt = 0 := rfl
  have d_c25 := i_ne c25
  exact tp_some trivial
  have d_c9 := i_nlt c9
  exact tp_some trivial
theorem jT41 {a0 : Nat} {x1 : Int32} {a2 : Nat} {u : fm} (h0 : fm_isD a0) (h2 : fm_isD a2) : fm_tp (fun _ => True) (jF41 a0 x1 a2 u) := by
  unfold jF41
  have l_0 : (0 : Int32).toInt = 0 := rfl
  have b_1 := i_lo x1
  have b_2 := i_hi x1
  have k_N : ((fm_N : Nat) : Int) = 4294967296 := rfl
  exact jT41_2 fm_N a0 x1 a2 0 h0 h2 (by omega) (by omega)
/-- CallAgents$Media answer -/
theorem jT40_62 {S : Nat → Nat → Prop} (hS : fm_sub S) {u0 : fm} {n6 : Nat} {k6 : Nat → Nat → Nat → Int32 → fm → Option (fm)} : ∀ (n : Nat) (a0 : Nat) (a1 : Nat) (a2 : Nat) (x3 : Int32) (x4 : Int32) (x5 : Int32) (u : fm) (h0 : fm_isD a0) (h1 : fm_isD a1) (h2 : fm_isD a2) (n_a0 : ¬ S a0 1) (hm : 2147483648 - x5.toInt < (n : Int)) (hp : 0 < (n : Int)) (v0 : x3.toInt < 2147483647) (v1 : 2147483648 - x3.toInt < (n6 : Int) + 1) (hc : fm_cl S u0 u) (hk6 : ∀ (a0 : Nat) (a1 : Nat) (a2 : Nat) (x3 : Int32) (u : fm) (h0 : fm_isD a0) (h1 : fm_isD a1) (h2 : fm_isD a2) (n_a0 : ¬ S a0 1) (hm : 2147483648 - x3.toInt < (n6 : Int)) (hp : 0 < (n6 : Int)) (hc : fm_cl S u0 u), fm_tp (fun p => fm_cl S u0 p) (k6 a0 a1 a2 x3 u)), fm_tp (fun p => fm_cl S u0 p) (jF40_62 n k6 a0 a1 a2 x3 x4 x5 u) := by
  intro n
  induction n with
  | zero =>
    intro a0 a1 a2 x3 x4 x5 u h0 h1 h2 n_a0 hm hp v0 v1 hc hk6
    omega
  | succ n ih =>
  intro a0 a1 a2 x3 x4 x5 u h0 h1 h2 n_a0 hm hp v0 v1 hc hk6
  unfold jF40_62
  have z_1 : ((n + 1 : Nat) : Int) = (n : Int) + 1 := by omega
  refine tp_bind (jT34 h1) (fun p5 ep5 _ => ?_)
  refine tp_ite (fun c70 => ?_) (fun c70 => ?_)
  have d_c70 := i_lt c70
  have h_c70 := i_hi p5
  refine tp_bind (jT34 h1) (fun p6 ep6 _ => ?_)
  refine tp_ite (fun c86 => ?_) (fun c86 => ?_)
  have l_0 : (0 : Int32).toInt = 0 := rfl
  have d_c86 := i_eq c86
  refine tp_bind (jT36 hS h0 hc) (fun p7 ep7 hc => ?_)
  have w_1 := i_lo x5
  have w_2 := i_hi x5
  have l_1 : (1 : Int32).toInt = 1 := rfl
  try have e_2 := i_add (a := x5) (b := 1) (by omega) (by omega)
  have b_1 := i_lo x3
  have b_2 := i_hi x3
  have b_1 := i_lo x4
  have b_2 := i_hi x4
  have b_1 := i_lo (x5 + 1)
  have b_2 := i_hi (x5 + 1)
  exact ih a0 a1 a2 x3 x4 (x5 + 1) p7 h0 h1 h2 n_a0 (by omega) (by omega) (by omega) (by omega) hc hk6
  have l_0 : (0 : Int32).toInt = 0 := rfl
  have d_c86 := i_ne c86
  refine tp_bind (jT42 h2) (fun p8 ep8 _ => ?_)
  refine tp_ite (fun c96 => ?_) (fun c96 => ?_)
  have l_0 : (0 : Int32).toInt = 0 := rfl
  have d_c96 := i_eq c96
  have w_1 := i_lo x5
  have w_2 := i_hi x5
  have l_1 : (1 : Int32).toInt = 1 := rfl
  try have e_3 := i_add (a := x5) (b := 1) (by omega) (by omega)
  have b_1 := i_lo x3
  have b_2 := i_hi x3
  have b_1 := i_lo x4
  have b_2 := i_hi x4
  have b_1 := i_lo (x5 + 1)
  have b_2 := i_hi (x5 + 1)
  exact ih a0 a1 a2 x3 x4 (x5 + 1) u h0 h1 h2 n_a0 (by omega) (by omega) (by omega) (by omega) hc hk6
  have l_0 : (0 : Int32).toInt = 0 := rfl
  have d_c96 := i_ne c96
  refine tp_bind (jT36 hS h0 hc) (fun p10 ep10 hc => ?_)
  have w_1 := i_lo x5
  have w_2 := i_hi x5
  have l_1 : (1 : Int32).toInt = 1 := rfl
  try have e_4 := i_add (a := x5) (b := 1) (by omega) (by omega)
  have b_1 := i_lo x3
  have b_2 := i_hi x3
  have b_1 := i_lo x4
  have b_2 := i_hi x4
  have b_1 := i_lo (x5 + 1)
  have b_2 := i_hi (x5 + 1)
  exact ih a0 a1 a2 x3 x4 (x5 + 1) p10 h0 h1 h2 n_a0 (by omega) (by omega) (by omega) (by omega) hc hk6
  have d_c70 := i_nlt c70
  have w_1 := i_lo x3
  have w_2 := i_hi x3
  have l_1 : (1 : Int32).toInt = 1 := rfl
  try have e_1 := i_add (a := x3) (b := 1) (by omega) (by omega)
  have b_1 := i_lo (x3 + 1)
  have b_2 := i_hi (x3 + 1)
  exact hk6 a0 a1 a2 (x3 + 1) u h0 h1 h2 n_a0 (by omega) (by omega) hc
theorem jT40_36 {S : Nat → Nat → Prop} (hS : fm_sub S) {u0 : fm} {n6 : Nat} {k6 : Nat → Nat → Nat → Int32 → fm → Option (fm)} (a0 : Nat) (a1 : Nat) (a2 : Nat) (x3 : Int32) (u : fm) (h0 : fm_isD a0) (h1 : fm_isD a1) (h2 : fm_isD a2) (n_a0 : ¬ S a0 1) (v0 : x3.toInt < 2147483647) (v1 : 2147483648 - x3.toInt < (n6 : Int) + 1) (hc : fm_cl S u0 u) (hk6 : ∀ (a0 : Nat) (a1 : Nat) (a2 : Nat) (x3 : Int32) (u : fm) (h0 : fm_isD a0) (h1 : fm_isD a1) (h2 : fm_isD a2) (n_a0 : ¬ S a0 1) (hm : 2147483648 - x3.toInt < (n6 : Int)) (hp : 0 < (n6 : Int)) (hc : fm_cl S u0 u), fm_tp (fun p => fm_cl S u0 p) (k6 a0 a1 a2 x3 u)) : fm_tp (fun p => fm_cl S u0 p) (jF40_36 k6 a0 a1 a2 x3 u) := by
  unfold jF40_36
  refine tp_bind (jT35 hS h0 n_a0 hc) (fun p3 ep3 hc => ?_)
  have l_0 : (0 : Int32).toInt = 0 := rfl
  have l_0 : (0 : Int32).toInt = 0 := rfl
  have b_1 := i_lo x3
  have b_2 := i_hi x3
  have k_N : ((fm_N : Nat) : Int) = 4294967296 := rfl
  exact jT40_62 hS fm_N a0 a1 a2 x3 0 0 p3.2 h0 h1 h2 n_a0 (by omega) (by omega) (by omega) (by omega) hc hk6
theorem jT40_6 {S : Nat → Nat → Prop} (hS : fm_sub S) {u0 : fm} : ∀ (n : Nat) (a0 : Nat) (a1 : Nat) (a2 : Nat) (x3 : Int32) (u : fm) (h0 : fm_isD a0) (h1 : fm_isD a1) (h2 : fm_isD a2) (n_a0 : ¬ S a0 1) (hm : 2147483648 - x3.toInt < (n : Int)) (hp : 0 < (n : Int)) (hc : fm_cl S u0 u), fm_tp (fun p => fm_cl S u0 p) (jF40_6 n a0 a1 a2 x3 u) := by
  intro n
  induction n with
  | zero =>
    intro a0 a1 a2 x3 u h0 h1 h2 n_a0 hm hp hc
    omega
  | succ n ih =>
  intro a0 a1 a2 x3 u h0 h1 h2 n_a0 hm hp hc
  unfold jF40_6
  have z_1 : ((n + 1 : Nat) : Int) = (n : Int) + 1 := by omega
  refine tp_ite (fun c11 => ?_) (fun c11 => ?_)
  have d_c11 := i_lt c11
  have h_c11 := i_hi (fI u a1 1)
  refine tp_bind (jT34 h1) (fun p2 ep2 _ => ?_)
  refine tp_ite (fun c20 => ?_) (fun c20 => ?_)
  have l_0 : (0 : Int32).toInt = 0 := rfl
  have d_c20 := i_eq c20
  exact jT40_36 hS a0 a1 a2 x3 u h0 h1 h2 n_a0 (by omega) (by omega) hc ih
  have l_0 : (0 : Int32).toInt = 0 := rfl
  have d_c20 := i_ne c20
  refine tp_bind (jT41 h2 h1) (fun p11 ep11 _ => ?_)
  refine tp_ite (fun c29 => ?_) (fun c29 => ?_)
  have l_0 : (0 : Int32).toInt = 0 := rfl
  have d_c29 := i_eq c29
  exact jT40_36 hS a0 a1 a2 x3 u h0 h1 h2 n_a0 (by omega) (by omega) hc ih
  have l_0 : (0 : Int32).toInt = 0 := rfl
  have d_c29 := i_ne c29
  refine tp_bind (jT34 h2) (fun p13 ep13 _ => ?_)
  refine tp_bind (jT35 hS h0 n_a0 hc) (fun p14 ep14 hc => ?_)
  have l_1 : (1 : Int32).toInt = 1 := rfl
  have l_0 : (0 : Int32).toInt = 0 := rfl
  have b_1 := i_lo x3
  have b_2 := i_hi x3
  have k_N : ((fm_N : Nat) : Int) = 4294967296 := rfl
  exact jT40_62 hS fm_N a0 a1 a2 x3 1 0 p14.2 h0 h1 h2 n_a0 (by omega) (by omega) (by omega) (by omega) hc ih
  have d_c11 := i_nlt c11
  exact tp_some hc
theorem jT40 {S : Nat → Nat → Prop} (hS : fm_sub S) {a0 : Nat} {a1 : Nat} {a2 : Nat} {u0 u : fm} (h0 : fm_isD a0) (h1 : fm_isD a1) (h2 : fm_isD a2) (n_a0 : ¬ S a0 1) (hc : fm_cl S u0 u) : fm_tp (fun p => fm_cl S u0 p) (jF40 a0 a1 a2 u) := by
  unfold jF40
  refine tp_let (fun p1 ep1 => ?_)
  have hc : fm_cl S u0 p1 := ep1 ▸ jT38 hS h0 n_a0 hc
  have l_0 : (0 : Int32).toInt = 0 := rfl
  have k_N : ((fm_N : Nat) : Int) = 4294967296 := rfl
  exact jT40_6 hS fm_N a0 a1 a2 0 p1 h0 h1 h2 n_a0 (by omega) (by omega) hc
/-- CallAgents$Agent takeCall -/
theorem jT3 {S : Nat → Nat → Prop} (hS : fm_sub S) {a0 : Nat} {x1 : Int32} {u0 u : fm} (h0 : fm_isA a0) (hc : fm_cl S u0 u) : fm_tp (fun p => fm_cl S u0 p.2) (jF3 a0 x1 u) := by
  unfold jF3
  refine tp_ite (fun c5 => ?_) (fun c5 => ?_)
  refine tp_bind (jT40 hS ⟨h0.2.2.2.2.2.2.1, h0.2.2.2.2.2.2.2.1⟩ ⟨h0.2.2.2.2.1, h0.2.2.2.2.2.1⟩ ⟨h0.2.1, h0.2.2.1⟩ (fm_A_n hS h0 (k := 6) (by decide)) hc) (fun p1 ep1 hc => ?_)
  refine tp_bind (jT47 hS ⟨h0.2.2.2.2.2.2.2.2.2.2.2.2.1, h0.2.2.2.2.2.2.2.2.2.2.2.2.2.1, h0.2.2.2.2.2.2.2.2.2.2.2.2.2.2⟩ ⟨h0.2.2.2.2.2.2.2.2.2.1, h0.2.2.2.2.2.2.2.2.2.2.1, h0.2.2.2.2.2.2.2.2.2.2.2.1⟩ hc) (fun p2 ep2 hc => ?_)
  refine tp_let (fun u3 eu3 => ?_)
  have hc : fm_cl S u0 u3 := eu3 ▸ fm_cl_w hS hc h0.2.2.2.2.2.2.2.2.2.2.2.2.1 (by decide)
  refine tp_bind (jT39 hS ⟨h0.2.2.2.2.2.2.2.2.2.2.2.2.2.1, h0.2.2.2.2.2.2.2.2.2.2.2.2.2.2⟩ ⟨h0.2.2.2.2.2.2.1, h0.2.2.2.2.2.2.2.1⟩ (fm_A_n hS h0 (k := 13) (by decide)) hc) (fun p4 ep4 hc => ?_)
  refine tp_bind (jT20 hS h0 hc) (fun p5 ep5 hc => ?_)
  refine tp_bind (jT21 hS h0 ⟨h0.2.2.2.2.2.2.2.2.2.1, h0.2.2.2.2.2.2.2.2.2.2.1, h0.2.2.2.2.2.2.2.2.2.2.2.1⟩ hc) (fun p6 ep6 hc => ?_)
  refine tp_let (fun p7 ep7 => ?_)
  have hc : fm_cl S u0 p7 := ep7 ▸ jT23 hS h0 hc
  exact tp_some hc
  exact tp_some hc
/-- CallAgents$Agent turnDown -/
theorem jT4 {S : Nat → Nat → Prop} (hS : fm_sub S) {a0 : Nat} {x1 : Int32} {u0 u : fm} (h0 : fm_isA a0) (hc : fm_cl S u0 u) : fm_tp (fun p => fm_cl S u0 p.2) (jF4 a0 x1 u) := by
  unfold jF4
  refine tp_ite (fun c5 => ?_) (fun c5 => ?_)
  refine tp_bind (jT47 hS ⟨h0.2.2.2.2.2.2.2.2.2.2.2.2.1, h0.2.2.2.2.2.2.2.2.2.2.2.2.2.1, h0.2.2.2.2.2.2.2.2.2.2.2.2.2.2⟩ ⟨h0.2.2.2.2.2.2.2.2.2.1, h0.2.2.2.2.2.2.2.2.2.2.1, h0.2.2.2.2.2.2.2.2.2.2.2.1⟩ hc) (fun p1 ep1 hc => ?_)
  refine tp_let (fun u2 eu2 => ?_)
  have hc : fm_cl S u0 u2 := eu2 ▸ fm_cl_w hS hc h0.2.2.2.2.2.2.2.2.2.2.2.2.1 (by decide)
  refine tp_bind (jT20 hS h0 hc) (fun p3 ep3 hc => ?_)
  refine tp_bind (jT21 hS h0 ⟨h0.2.2.2.2.2.2.2.2.2.1, h0.2.2.2.2.2.2.2.2.2.2.1, h0.2.2.2.2.2.2.2.2.2.2.2.1⟩ hc) (fun p4 ep4 hc => ?_)
  refine tp_let (fun p5 ep5 => ?_)
  have hc : fm_cl S u0 p5 := ep5 ▸ jT23 hS h0 hc
  exact tp_some hc
  exact tp_some hc
/-- CallAgents$Message tagTo -/
theorem jT49 {S : Nat → Nat → Prop} (hS : fm_sub S) {a0 : Nat} {x1 : Int32} {u0 u : fm} (h0 : fm_isM a0) (hc : fm_cl S u0 u) : fm_tq (fun p => fm_cl S u0 p) (jF49 a0 x1 u) := by
  unfold jF49
  refine tq_let (fun u1 eu1 => ?_)
  have hc : fm_cl S u0 u1 := eu1 ▸ fm_cl_w hS hc h0.1 (by decide)
  refine tq_let (fun u2 eu2 => ?_)
  have hc : fm_cl S u0 u2 := eu2 ▸ fm_cl_w hS hc h0.1 (by decide)
  exact hc
/-- CallAgents$Agent endCall -/
theorem jT5 {S : Nat → Nat → Prop} (hS : fm_sub S) {a0 : Nat} {x1 : Int32} {u0 u : fm} (h0 : fm_isA a0) (hc : fm_cl S u0 u) : fm_tp (fun p => fm_cl S u0 p.2) (jF5 a0 x1 u) := by
  unfold jF5
  refine tp_ite (fun c5 => ?_) (fun c5 => ?_)
  refine tp_let (fun u1 eu1 => ?_)
  have hc : fm_cl S u0 u1 := eu1 ▸ fm_cl_w hS hc h0.1 (by decide)
  refine tp_let (fun u2 eu2 => ?_)
  have hc : fm_cl S u0 u2 := eu2 ▸ fm_cl_w hS hc h0.1 (by decide)
  refine tp_let (fun p3 ep3 => ?_)
  have hc : fm_cl S u0 p3 := ep3 ▸ jT19 hS h0 hc
  refine tp_let (fun p4 ep4 => ?_)
  have hc : fm_cl S u0 p4 := ep4 ▸ jT49 hS ⟨h0.2.2.2.2.2.2.2.2.2.2.2.2.1, h0.2.2.2.2.2.2.2.2.2.2.2.2.2.1, h0.2.2.2.2.2.2.2.2.2.2.2.2.2.2⟩ hc
  refine tp_let (fun u5 eu5 => ?_)
  have hc : fm_cl S u0 u5 := eu5 ▸ fm_cl_w hS hc h0.1 (by decide)
  refine tp_bind (jT20 hS h0 hc) (fun p6 ep6 hc => ?_)
  refine tp_bind (jT21 hS h0 ⟨h0.2.2.2.2.2.2.2.2.2.1, h0.2.2.2.2.2.2.2.2.2.2.1, h0.2.2.2.2.2.2.2.2.2.2.2.1⟩ hc) (fun p7 ep7 hc => ?_)
  refine tp_let (fun p8 ep8 => ?_)
  have hc : fm_cl S u0 p8 := ep8 ▸ jT23 hS h0 hc
  exact tp_some hc
  exact tp_some hc
/-- CallAgents$Timer stop -/
theorem jT79 {S : Nat → Nat → Prop} (hS : fm_sub S) {a0 : Nat} {u0 u : fm} (h0 : fm_isR a0) (hc : fm_cl S u0 u) : fm_tq (fun p => fm_cl S u0 p) (jF79 a0 u) := by
  unfold jF79
  refine tq_let (fun u1 eu1 => ?_)
  have hc : fm_cl S u0 u1 := eu1 ▸ fm_cl_w hS hc h0 (by decide)
  exact hc
/-- CallAgents$Agent enter -/
theorem jT22 {S : Nat → Nat → Prop} (hS : fm_sub S) {a0 : Nat} {x1 : Int32} {u0 u : fm} (h0 : fm_isA a0) (hc : fm_cl S u0 u) : fm_tq (fun p => fm_cl S u0 p) (jF22 a0 x1 u) := by
  unfold jF22
  refine tq_let (fun u1 eu1 => ?_)
  have hc : fm_cl S u0 u1 := eu1 ▸ fm_cl_w hS hc h0.1 (by decide)
  refine tq_let (fun p2 ep2 => ?_)
  have hc : fm_cl S u0 p2 := ep2 ▸ jT79 hS h0.2.2.2.2.2.2.2.2.1 hc
  exact hc
/-- CallAgents$Timer setNextResend -/
theorem jT83 {S : Nat → Nat → Prop} (hS : fm_sub S) {a0 : Nat} {u0 u : fm} (h0 : fm_isR a0) (hc : fm_cl S u0 u) : fm_tq (fun p => fm_cl S u0 p) (jF83 a0 u) := by
  unfold jF83
  refine tq_let (fun u1 eu1 => ?_)
  have hc : fm_cl S u0 u1 := eu1 ▸ fm_cl_w hS hc h0 (by decide)
  refine tq_let (fun u2 eu2 => ?_)
  have hc : fm_cl S u0 u2 := eu2 ▸ fm_cl_w hS hc h0 (by decide)
  exact hc
/-- CallAgents$Agent runTimer -/
theorem jT6 {S : Nat → Nat → Prop} (hS : fm_sub S) {a0 : Nat} {u0 u : fm} (h0 : fm_isA a0) (hc : fm_cl S u0 u) : fm_tp (fun p => fm_cl S u0 p) (jF6 a0 u) := by
  unfold jF6
  refine tp_ite (fun c7 => ?_) (fun c7 => ?_)
  refine tp_ite (fun c34 => ?_) (fun c34 => ?_)
  refine tp_let (fun p3 ep3 => ?_)
  have hc : fm_cl S u0 p3 := ep3 ▸ jT22 hS h0 hc
  exact tp_some hc
  refine tp_let (fun p2 ep2 => ?_)
  have hc : fm_cl S u0 p2 := ep2 ▸ jT22 hS h0 hc
  exact tp_some hc
  refine tp_let (fun p4 ep4 => ?_)
  have hc : fm_cl S u0 p4 := ep4 ▸ jT83 hS h0.2.2.2.2.2.2.2.2.1 hc
  refine tp_bind (jT21 hS h0 ⟨h0.2.2.2.2.2.2.2.2.2.1, h0.2.2.2.2.2.2.2.2.2.2.1, h0.2.2.2.2.2.2.2.2.2.2.2.1⟩ hc) (fun p5 ep5 hc => ?_)
  exact tp_some hc
/-- CallAgents$Message answer -/
theorem jT48 {S : Nat → Nat → Prop} (hS : fm_sub S) {a0 : Nat} {a1 : Nat} {x2 : Int32} {u0 u : fm} (h0 : fm_isM a0) (h1 : fm_isM a1) (hc : fm_cl S u0 u) : fm_tp (fun p => fm_cl S u0 p) (jF48 a0 a1 x2 u) := by
  unfold jF48
  refine tp_bind (jT47 hS h0 h1 hc) (fun p1 ep1 hc => ?_)
  refine tp_let (fun u2 eu2 => ?_)
  have hc : fm_cl S u0 u2 := eu2 ▸ fm_cl_w hS hc h0.1 (by decide)
  refine tp_let (fun p3 ep3 => ?_)
  have hc : fm_cl S u0 p3 := ep3 ▸ jT38 hS ⟨h0.2.1, h0.2.2⟩ (fm_M_n hS h0) hc
  exact tp_some hc
/-- CallAgents$Agent takeInvite -/
theorem jT11_76 {S : Nat → Nat → Prop} (hS : fm_sub S) {u0 : fm} (a0 : Nat) (a1 : Nat) (x2 : Int32) (s2 : Int32) (u : fm) (h0 : fm_isA a0) (h1 : fm_isM a1) (hc : fm_cl S u0 u) : fm_tp (fun p => fm_cl S u0 p.2) (jF11_76 a0 a1 x2 s2 u) := by
  unfold jF11_76
  refine tp_bind (jT48 hS ⟨h0.2.2.2.2.2.2.2.2.2.2.2.2.1, h0.2.2.2.2.2.2.2.2.2.2.2.2.2.1, h0.2.2.2.2.2.2.2.2.2.2.2.2.2.2⟩ h1 hc) (fun p3 ep3 hc => ?_)
  refine tp_let (fun p4 ep4 => ?_)
  have hc : fm_cl S u0 p4 := ep4 ▸ jT49 hS ⟨h0.2.2.2.2.2.2.2.2.2.2.2.2.1, h0.2.2.2.2.2.2.2.2.2.2.2.2.2.1, h0.2.2.2.2.2.2.2.2.2.2.2.2.2.2⟩ hc
  refine tp_ite (fun c91 => ?_) (fun c91 => ?_)
  refine tp_bind (jT21 hS h0 ⟨h0.2.2.2.2.2.2.2.2.2.2.2.2.1, h0.2.2.2.2.2.2.2.2.2.2.2.2.2.1, h0.2.2.2.2.2.2.2.2.2.2.2.2.2.2⟩ hc) (fun p5 ep5 hc => ?_)
  exact tp_some hc
  refine tp_bind (jT25 hS ⟨h0.2.2.2.1, h0.2.2.2.2.1, h0.2.2.2.2.2.1, h0.2.2.2.2.2.2.1, h0.2.2.2.2.2.2.2.1⟩ h1 hc) (fun p6 ep6 hc => ?_)
  refine tp_let (fun u7 eu7 => ?_)
  have hc : fm_cl S u0 u7 := eu7 ▸ fm_cl_w hS hc h0.1 (by decide)
  refine tp_bind (jT20 hS h0 hc) (fun p8 ep8 hc => ?_)
  refine tp_let (fun p9 ep9 => ?_)
  have hc : fm_cl S u0 p9 := ep9 ▸ jT22 hS h0 hc
  refine tp_bind (jT21 hS h0 ⟨h0.2.2.2.2.2.2.2.2.2.2.2.2.1, h0.2.2.2.2.2.2.2.2.2.2.2.2.2.1, h0.2.2.2.2.2.2.2.2.2.2.2.2.2.2⟩ hc) (fun p10 ep10 hc => ?_)
  exact tp_some hc
theorem jT11_47 {S : Nat → Nat → Prop} (hS : fm_sub S) {u0 : fm} (a0 : Nat) (a1 : Nat) (u : fm) (h0 : fm_isA a0) (h1 : fm_isM a1) (hc : fm_cl S u0 u) : fm_tp (fun p => fm_cl S u0 p.2) (jF11_47 a0 a1 u) := by
  unfold jF11_47
  refine tp_let (fun u2 eu2 => ?_)
  have hc : fm_cl S u0 u2 := eu2 ▸ fm_cl_w hS hc h0.1 (by decide)
  refine tp_ite (fun c68 => ?_) (fun c68 => ?_)
  have l_5 : (5 : Int32).toInt = 5 := rfl
  exact jT11_76 hS a0 a1 (jF1 a0 u) 5 u2 h0 h1 hc
  have l_3 : (3 : Int32).toInt = 3 := rfl
  exact jT11_76 hS a0 a1 (jF1 a0 u) 3 u2 h0 h1 hc
theorem jT11 {S : Nat → Nat → Prop} (hS : fm_sub S) {a0 : Nat} {a1 : Nat} {u0 u : fm} (h0 : fm_isA a0) (h1 : fm_isM a1) (hc : fm_cl S u0 u) : fm_tp (fun p => fm_cl S u0 p.2) (jF11 a0 a1 u) := by
  unfold jF11
  refine tp_ite (fun c4 => ?_) (fun c4 => ?_)
  refine tp_ite (fun c14 => ?_) (fun c14 => ?_)
  exact jT11_47 hS a0 a1 u h0 h1 hc
  refine tp_ite (fun c23 => ?_) (fun c23 => ?_)
  exact jT11_47 hS a0 a1 u h0 h1 hc
  refine tp_ite (fun c34 => ?_) (fun c34 => ?_)
  exact jT11_47 hS a0 a1 u h0 h1 hc
  refine tp_bind (jT21 hS h0 ⟨h0.2.2.2.2.2.2.2.2.2.1, h0.2.2.2.2.2.2.2.2.2.2.1, h0.2.2.2.2.2.2.2.2.2.2.2.1⟩ hc) (fun p12 ep12 hc => ?_)
  exact tp_some hc
  exact tp_some hc
/-- CallAgents$Agent takeAck -/
theorem jT12_23 {S : Nat → Nat → Prop} (hS : fm_sub S) {u0 : fm} (a0 : Nat) (a1 : Nat) (s0 : Int32) (u : fm) (h0 : fm_isA a0) (h1 : fm_isM a1) (hc : fm_cl S u0 u) : fm_tq (fun p => fm_cl S u0 p.2) (jF12_23 a0 a1 s0 u) := by
  unfold jF12_23
  refine tq_ite (fun c25 => ?_) (fun c25 => ?_)
  exact hc
  refine tq_ite (fun c39 => ?_) (fun c39 => ?_)
  refine tq_ite (fun c53 => ?_) (fun c53 => ?_)
  refine tq_ite (fun c65 => ?_) (fun c65 => ?_)
  refine tq_let (fun p2 ep2 => ?_)
  have hc : fm_cl S u0 p2 := ep2 ▸ jT22 hS h0 hc
  exact hc
  refine tq_let (fun p1 ep1 => ?_)
  have hc : fm_cl S u0 p1 := ep1 ▸ jT22 hS h0 hc
  exact hc
  exact hc
  exact hc
theorem jT12_18 {S : Nat → Nat → Prop} (hS : fm_sub S) {u0 : fm} (a0 : Nat) (a1 : Nat) (u : fm) (h0 : fm_isA a0) (h1 : fm_isM a1) (hc : fm_cl S u0 u) : fm_tq (fun p => fm_cl S u0 p.2) (jF12_18 a0 a1 u) := by
  unfold jF12_18
  have l_1 : (1 : Int32).toInt = 1 := rfl
  exact jT12_23 hS a0 a1 1 u h0 h1 hc
theorem jT12 {S : Nat → Nat → Prop} (hS : fm_sub S) {a0 : Nat} {a1 : Nat} {u0 u : fm} (h0 : fm_isA a0) (h1 : fm_isM a1) (hc : fm_cl S u0 u) : fm_tq (fun p => fm_cl S u0 p.2) (jF12 a0 a1 u) := by
  unfold jF12
  refine tq_ite (fun c6 => ?_) (fun c6 => ?_)
  exact jT12_18 hS a0 a1 u h0 h1 hc
  refine tq_ite (fun c15 => ?_) (fun c15 => ?_)
  exact jT12_18 hS a0 a1 u h0 h1 hc
  have l_0 : (0 : Int32).toInt = 0 := rfl
  exact jT12_23 hS a0 a1 0 u h0 h1 hc
/-- CallAgents$Agent takeBye -/
theorem jT13_31 {S : Nat → Nat → Prop} (hS : fm_sub S) {u0 : fm} (a0 : Nat) (a1 : Nat) (s0 : Int32) (u : fm) (h0 : fm_isA a0) (h1 : fm_isM a1) (hc : fm_cl S u0 u) : fm_tp (fun p => fm_cl S u0 p.2) (jF13_31 a0 a1 s0 u) := by
  unfold jF13_31
  refine tp_ite (fun c33 => ?_) (fun c33 => ?_)
  refine tp_bind (jT48 hS ⟨h0.2.2.2.2.2.2.2.2.2.2.2.2.1, h0.2.2.2.2.2.2.2.2.2.2.2.2.2.1, h0.2.2.2.2.2.2.2.2.2.2.2.2.2.2⟩ h1 hc) (fun p1 ep1 hc => ?_)
  refine tp_bind (jT21 hS h0 ⟨h0.2.2.2.2.2.2.2.2.2.2.2.2.1, h0.2.2.2.2.2.2.2.2.2.2.2.2.2.1, h0.2.2.2.2.2.2.2.2.2.2.2.2.2.2⟩ hc) (fun p2 ep2 hc => ?_)
  exact tp_some hc
  refine tp_ite (fun c44 => ?_) (fun c44 => ?_)
  refine tp_bind (jT48 hS ⟨h0.2.2.2.2.2.2.2.2.2.2.2.2.1, h0.2.2.2.2.2.2.2.2.2.2.2.2.2.1, h0.2.2.2.2.2.2.2.2.2.2.2.2.2.2⟩ h1 hc) (fun p4 ep4 hc => ?_)
  refine tp_bind (jT21 hS h0 ⟨h0.2.2.2.2.2.2.2.2.2.2.2.2.1, h0.2.2.2.2.2.2.2.2.2.2.2.2.2.1, h0.2.2.2.2.2.2.2.2.2.2.2.2.2.2⟩ hc) (fun p5 ep5 hc => ?_)
  exact tp_some hc
  refine tp_bind (jT48 hS ⟨h0.2.2.2.2.2.2.2.2.2.2.2.2.1, h0.2.2.2.2.2.2.2.2.2.2.2.2.2.1, h0.2.2.2.2.2.2.2.2.2.2.2.2.2.2⟩ h1 hc) (fun p6 ep6 hc => ?_)
  refine tp_let (fun p7 ep7 => ?_)
  have hc : fm_cl S u0 p7 := ep7 ▸ jT22 hS h0 hc
  refine tp_bind (jT21 hS h0 ⟨h0.2.2.2.2.2.2.2.2.2.2.2.2.1, h0.2.2.2.2.2.2.2.2.2.2.2.2.2.1, h0.2.2.2.2.2.2.2.2.2.2.2.2.2.2⟩ hc) (fun p8 ep8 hc => ?_)
  exact tp_some hc
theorem jT13_26 {S : Nat → Nat → Prop} (hS : fm_sub S) {u0 : fm} (a0 : Nat) (a1 : Nat) (u : fm) (h0 : fm_isA a0) (h1 : fm_isM a1) (hc : fm_cl S u0 u) : fm_tp (fun p => fm_cl S u0 p.2) (jF13_26 a0 a1 u) := by
  unfold jF13_26
  have l_1 : (1 : Int32).toInt = 1 := rfl
  exact jT13_31 hS a0 a1 1 u h0 h1 hc
theorem jT13 {S : Nat → Nat → Prop} (hS : fm_sub S) {a0 : Nat} {a1 : Nat} {u0 u : fm} (h0 : fm_isA a0) (h1 : fm_isM a1) (hc : fm_cl S u0 u) : fm_tp (fun p => fm_cl S u0 p.2) (jF13 a0 a1 u) := by
  unfold jF13
  refine tp_ite (fun c5 => ?_) (fun c5 => ?_)
  exact jT13_26 hS a0 a1 u h0 h1 hc
  refine tp_ite (fun c14 => ?_) (fun c14 => ?_)
  exact jT13_26 hS a0 a1 u h0 h1 hc
  refine tp_ite (fun c23 => ?_) (fun c23 => ?_)
  exact jT13_26 hS a0 a1 u h0 h1 hc
  have l_0 : (0 : Int32).toInt = 0 := rfl
  exact jT13_31 hS a0 a1 0 u h0 h1 hc
/-- CallAgents$Agent takeRinging -/
theorem jT14 {S : Nat → Nat → Prop} (hS : fm_sub S) {a0 : Nat} {a1 : Nat} {u0 u : fm} (h0 : fm_isA a0) (h1 : fm_isM a1) (hc : fm_cl S u0 u) : fm_tq (fun p => fm_cl S u0 p.2) (jF14 a0 a1 u) := by
  unfold jF14
  refine tq_ite (fun c5 => ?_) (fun c5 => ?_)
  refine tq_ite (fun c19 => ?_) (fun c19 => ?_)
  refine tq_ite (fun c30 => ?_) (fun c30 => ?_)
  exact hc
  refine tq_let (fun p2 ep2 => ?_)
  have hc : fm_cl S u0 p2 := ep2 ▸ jT22 hS h0 hc
  exact hc
  exact hc
  exact hc
/-- CallAgents$Agent keepAck -/
theorem jT18 {S : Nat → Nat → Prop} (hS : fm_sub S) {a0 : Nat} {a1 : Nat} {u0 u : fm} (h0 : fm_isA a0) (h1 : fm_isM a1) (hc : fm_cl S u0 u) : fm_tp (fun p => fm_cl S u0 p) (jF18 a0 a1 u) := by
  unfold jF18
  refine tp_let (fun p1 ep1 => ?_)
  have hc : fm_cl S u0 p1 := ep1 ▸ jT19 hS h0 hc
  refine tp_let (fun u2 eu2 => ?_)
  have hc : fm_cl S u0 u2 := eu2 ▸ fm_cl_w hS hc h0.2.2.2.2.2.2.2.2.2.2.2.2.1 (by decide)
  refine tp_let (fun u3 eu3 => ?_)
  have hc : fm_cl S u0 u3 := eu3 ▸ fm_cl_w hS hc h0.2.2.2.2.2.2.2.2.2.2.2.2.1 (by decide)
  refine tp_let (fun u4 eu4 => ?_)
  have hc : fm_cl S u0 u4 := eu4 ▸ fm_cl_w hS hc h0.1 (by decide)
  refine tp_bind (jT20 hS h0 hc) (fun p5 ep5 hc => ?_)
  exact tp_some hc
/-- CallAgents$Agent takeOk -/
theorem jT15_43 {S : Nat → Nat → Prop} (hS : fm_sub S) {u0 : fm} (a0 : Nat) (a1 : Nat) (u : fm) (h0 : fm_isA a0) (h1 : fm_isM a1) (hc : fm_cl S u0 u) : fm_tp (fun p => fm_cl S u0 p.2) (jF15_43 a0 a1 u) := by
  unfold jF15_43
  refine tp_let (fun u2 eu2 => ?_)
  have hc : fm_cl S u0 u2 := eu2 ▸ fm_cl_w hS hc h0.2.2.2.1 (by decide)
  refine tp_bind (jT39 hS ⟨h0.2.2.2.2.2.2.1, h0.2.2.2.2.2.2.2.1⟩ ⟨h1.2.1, h1.2.2⟩ (fm_A_n hS h0 (k := 6) (by decide)) hc) (fun p3 ep3 hc => ?_)
  refine tp_let (fun u4 eu4 => ?_)
  have hc : fm_cl S u0 u4 := eu4 ▸ fm_cl_w hS hc h0.1 (by decide)
  refine tp_bind (jT18 hS h0 h1 hc) (fun p5 ep5 hc => ?_)
  refine tp_bind (jT21 hS h0 ⟨h0.2.2.2.2.2.2.2.2.2.1, h0.2.2.2.2.2.2.2.2.2.2.1, h0.2.2.2.2.2.2.2.2.2.2.2.1⟩ hc) (fun p6 ep6 hc => ?_)
  refine tp_let (fun p7 ep7 => ?_)
  have hc : fm_cl S u0 p7 := ep7 ▸ jT22 hS h0 hc
  exact tp_some hc
theorem jT15 {S : Nat → Nat → Prop} (hS : fm_sub S) {a0 : Nat} {a1 : Nat} {u0 u : fm} (h0 : fm_isA a0) (h1 : fm_isM a1) (hc : fm_cl S u0 u) : fm_tp (fun p => fm_cl S u0 p.2) (jF15 a0 a1 u) := by
  unfold jF15
  refine tp_ite (fun c4 => ?_) (fun c4 => ?_)
  refine tp_ite (fun c15 => ?_) (fun c15 => ?_)
  exact tp_some hc
  refine tp_ite (fun c22 => ?_) (fun c22 => ?_)
  exact tp_some hc
  refine tp_ite (fun c32 => ?_) (fun c32 => ?_)
  exact jT15_43 hS a0 a1 u h0 h1 hc
  refine tp_ite (fun c40 => ?_) (fun c40 => ?_)
  exact jT15_43 hS a0 a1 u h0 h1 hc
  refine tp_ite (fun c103 => ?_) (fun c103 => ?_)
  refine tp_ite (fun c110 => ?_) (fun c110 => ?_)
  exact tp_some hc
  refine tp_ite (fun c124 => ?_) (fun c124 => ?_)
  refine tp_bind (jT21 hS h0 ⟨h0.2.2.2.2.2.2.2.2.2.1, h0.2.2.2.2.2.2.2.2.2.2.1, h0.2.2.2.2.2.2.2.2.2.2.2.1⟩ hc) (fun p8 ep8 hc => ?_)
  exact tp_some hc
  exact tp_some hc
  exact tp_some hc
  exact tp_some hc
/-- CallAgents$Agent takeBusy -/
theorem jT16 {S : Nat → Nat → Prop} (hS : fm_sub S) {a0 : Nat} {a1 : Nat} {u0 u : fm} (h0 : fm_isA a0) (h1 : fm_isM a1) (hc : fm_cl S u0 u) : fm_tp (fun p => fm_cl S u0 p.2) (jF16 a0 a1 u) := by
  unfold jF16
  refine tp_ite (fun c4 => ?_) (fun c4 => ?_)
  refine tp_ite (fun c18 => ?_) (fun c18 => ?_)
  refine tp_ite (fun c29 => ?_) (fun c29 => ?_)
  exact tp_some hc
  refine tp_ite (fun c39 => ?_) (fun c39 => ?_)
  refine tp_bind (jT18 hS h0 h1 hc) (fun p2 ep2 hc => ?_)
  refine tp_bind (jT21 hS h0 ⟨h0.2.2.2.2.2.2.2.2.2.1, h0.2.2.2.2.2.2.2.2.2.2.1, h0.2.2.2.2.2.2.2.2.2.2.2.1⟩ hc) (fun p3 ep3 hc => ?_)
  refine tp_let (fun p4 ep4 => ?_)
  have hc : fm_cl S u0 p4 := ep4 ▸ jT22 hS h0 hc
  exact tp_some hc
  refine tp_ite (fun c47 => ?_) (fun c47 => ?_)
  refine tp_bind (jT18 hS h0 h1 hc) (fun p6 ep6 hc => ?_)
  refine tp_bind (jT21 hS h0 ⟨h0.2.2.2.2.2.2.2.2.2.1, h0.2.2.2.2.2.2.2.2.2.2.1, h0.2.2.2.2.2.2.2.2.2.2.2.1⟩ hc) (fun p7 ep7 hc => ?_)
  refine tp_let (fun p8 ep8 => ?_)
  have hc : fm_cl S u0 p8 := ep8 ▸ jT22 hS h0 hc
  exact tp_some hc
  refine tp_ite (fun c75 => ?_) (fun c75 => ?_)
  refine tp_ite (fun c82 => ?_) (fun c82 => ?_)
  exact tp_some hc
  refine tp_bind (jT21 hS h0 ⟨h0.2.2.2.2.2.2.2.2.2.1, h0.2.2.2.2.2.2.2.2.2.2.1, h0.2.2.2.2.2.2.2.2.2.2.2.1⟩ hc) (fun p5 ep5 hc => ?_)
  exact tp_some hc
  exact tp_some hc
  exact tp_some hc
  exact tp_some hc
/-- CallAgents$Agent takeByeResponse -/
theorem jT17 {S : Nat → Nat → Prop} (hS : fm_sub S) {a0 : Nat} {a1 : Nat} {u0 u : fm} (h0 : fm_isA a0) (h1 : fm_isM a1) (hc : fm_cl S u0 u) : fm_tq (fun p => fm_cl S u0 p.2) (jF17 a0 a1 u) := by
  unfold jF17
  refine tq_ite (fun c6 => ?_) (fun c6 => ?_)
  refine tq_ite (fun c14 => ?_) (fun c14 => ?_)
  refine tq_ite (fun c25 => ?_) (fun c25 => ?_)
  refine tq_ite (fun c39 => ?_) (fun c39 => ?_)
  refine tq_ite (fun c50 => ?_) (fun c50 => ?_)
  refine tq_let (fun p1 ep1 => ?_)
  have hc : fm_cl S u0 p1 := ep1 ▸ jT22 hS h0 hc
  exact hc
  exact hc
  exact hc
  exact hc
  exact hc
  exact hc
/-- CallAgents$Agent receive -/
theorem jT7 {S : Nat → Nat → Prop} (hS : fm_sub S) {a0 : Nat} {a1 : Nat} {u0 u : fm} (h0 : fm_isA a0) (h1 : fm_isM a1) (hc : fm_cl S u0 u) : fm_tp (fun p => fm_cl S u0 p) (jF7 a0 a1 u) := by
  unfold jF7
  refine tp_ite (fun w4_0 => ?_) (fun w4_0 => ?_)
  refine tp_ite (fun c49 => ?_) (fun c49 => ?_)
  refine tp_let (fun u2 eu2 => ?_)
  have hc : fm_cl S u0 u2 := eu2 ▸ fm_cl_w hS hc h0.1 (by decide)
  exact tp_some hc
  refine tp_bind (jT11 hS h0 h1 hc) (fun p3 ep3 hc => ?_)
  refine tp_ite (fun c57 => ?_) (fun c57 => ?_)
  refine tp_let (fun u5 eu5 => ?_)
  have hc : fm_cl S u0 u5 := eu5 ▸ fm_cl_w hS hc h0.1 (by decide)
  exact tp_some hc
  exact tp_some hc
  refine tp_ite (fun w4_1 => ?_) (fun w4_1 => ?_)
  refine tp_ite (fun c74 => ?_) (fun c74 => ?_)
  refine tp_let (fun u7 eu7 => ?_)
  have hc : fm_cl S u0 u7 := eu7 ▸ fm_cl_w hS hc h0.1 (by decide)
  exact tp_some hc
  refine tp_let (fun p8 ep8 => ?_)
  have hc : fm_cl S u0 p8.2 := ep8 ▸ jT12 hS h0 h1 hc
  refine tp_ite (fun c82 => ?_) (fun c82 => ?_)
  refine tp_let (fun u10 eu10 => ?_)
  have hc : fm_cl S u0 u10 := eu10 ▸ fm_cl_w hS hc h0.1 (by decide)
  exact tp_some hc
  exact tp_some hc
  refine tp_ite (fun w4_2 => ?_) (fun w4_2 => ?_)
  refine tp_ite (fun c99 => ?_) (fun c99 => ?_)
  refine tp_let (fun u12 eu12 => ?_)
  have hc : fm_cl S u0 u12 := eu12 ▸ fm_cl_w hS hc h0.1 (by decide)
  exact tp_some hc
  refine tp_bind (jT13 hS h0 h1 hc) (fun p13 ep13 hc => ?_)
  refine tp_ite (fun c107 => ?_) (fun c107 => ?_)
  refine tp_let (fun u15 eu15 => ?_)
  have hc : fm_cl S u0 u15 := eu15 ▸ fm_cl_w hS hc h0.1 (by decide)
  exact tp_some hc
  exact tp_some hc
  refine tp_ite (fun w4_3 => ?_) (fun w4_3 => ?_)
  refine tp_ite (fun c124 => ?_) (fun c124 => ?_)
  refine tp_let (fun u17 eu17 => ?_)
  have hc : fm_cl S u0 u17 := eu17 ▸ fm_cl_w hS hc h0.1 (by decide)
  exact tp_some hc
  refine tp_let (fun p18 ep18 => ?_)
  have hc : fm_cl S u0 p18.2 := ep18 ▸ jT14 hS h0 h1 hc
  refine tp_ite (fun c132 => ?_) (fun c132 => ?_)
  refine tp_let (fun u20 eu20 => ?_)
  have hc : fm_cl S u0 u20 := eu20 ▸ fm_cl_w hS hc h0.1 (by decide)
  exact tp_some hc
  exact tp_some hc
  refine tp_ite (fun w4_4 => ?_) (fun w4_4 => ?_)
  refine tp_ite (fun c174 => ?_) (fun c174 => ?_)
  refine tp_let (fun u22 eu22 => ?_)
  have hc : fm_cl S u0 u22 := eu22 ▸ fm_cl_w hS hc h0.1 (by decide)
  exact tp_some hc
  refine tp_bind (jT15 hS h0 h1 hc) (fun p23 ep23 hc => ?_)
  refine tp_ite (fun c182 => ?_) (fun c182 => ?_)
  refine tp_let (fun p25 ep25 => ?_)
  have hc : fm_cl S u0 p25.2 := ep25 ▸ jT17 hS h0 h1 hc
  refine tp_ite (fun c190 => ?_) (fun c190 => ?_)
  refine tp_let (fun u27 eu27 => ?_)
  have hc : fm_cl S u0 u27 := eu27 ▸ fm_cl_w hS hc h0.1 (by decide)
  exact tp_some hc
  exact tp_some hc
  exact tp_some hc
  refine tp_ite (fun w4_5 => ?_) (fun w4_5 => ?_)
  refine tp_ite (fun c149 => ?_) (fun c149 => ?_)
  refine tp_let (fun u29 eu29 => ?_)
  have hc : fm_cl S u0 u29 := eu29 ▸ fm_cl_w hS hc h0.1 (by decide)
  exact tp_some hc
  refine tp_bind (jT16 hS h0 h1 hc) (fun p30 ep30 hc => ?_)
  refine tp_ite (fun c157 => ?_) (fun c157 => ?_)
  refine tp_let (fun u32 eu32 => ?_)
  have hc : fm_cl S u0 u32 := eu32 ▸ fm_cl_w hS hc h0.1 (by decide)
  exact tp_some hc
  exact tp_some hc
  refine tp_ite (fun c207 => ?_) (fun c207 => ?_)
  refine tp_let (fun u34 eu34 => ?_)
  have hc : fm_cl S u0 u34 := eu34 ▸ fm_cl_w hS hc h0.1 (by decide)
  exact tp_some hc
  refine tp_let (fun p35 ep35 => ?_)
  have hc : fm_cl S u0 p35.2 := ep35 ▸ jT17 hS h0 h1 hc
  refine tp_ite (fun c215 => ?_) (fun c215 => ?_)
  refine tp_let (fun u37 eu37 => ?_)
  have hc : fm_cl S u0 u37 := eu37 ▸ fm_cl_w hS hc h0.1 (by decide)
  exact tp_some hc
  exact tp_some hc
/-- CallAgents$Media addOwn -/
theorem jT37_12 {S : Nat → Nat → Prop} (hS : fm_sub S) {u0 : fm} : ∀ (n : Nat) (a0 : Nat) (x2 : Int32) (x3 : Int32) (u : fm) (h0 : fm_isD a0) (n_a0 : ¬ S a0 1) (hm : 2147483648 - x3.toInt < (n : Int)) (hp : 0 < (n : Int)) (hc : fm_cl S u0 u), fm_tp (fun p => fm_cl S u0 p.2) (jF37_12 n a0 x2 x3 u) := by
  intro n
  induction n with
  | zero =>
    intro a0 x2 x3 u h0 n_a0 hm hp hc
    omega
  | succ n ih =>
  intro a0 x2 x3 u h0 n_a0 hm hp hc
  unfold jF37_12
  have z_1 : ((n + 1 : Nat) : Int) = (n : Int) + 1 := by omega
  refine tp_ite (fun c15 => ?_) (fun c15 => ?_)
  have l_8 : (8 : Int32).toInt = 8 := rfl
  have d_c15 := i_lt c15
  refine tp_ite (fun c24 => ?_) (fun c24 => ?_)
  have l_1 : (1 : Int32).toInt = 1 := rfl
  have d_c24 := i_eq c24
  refine tp_bind (jT36 hS h0 hc) (fun p3 ep3 hc => ?_)
  have w_1 := i_lo x3
  have w_2 := i_hi x3
  have l_1 : (1 : Int32).toInt = 1 := rfl
  try have e_2 := i_add (a := x3) (b := 1) (by omega) (by omega)
  have b_1 := i_lo x2
  have b_2 := i_hi x2
  have b_1 := i_lo (x3 + 1)
  have b_2 := i_hi (x3 + 1)
  exact ih a0 x2 (x3 + 1) p3 h0 n_a0 (by omega) (by omega) hc
  have l_1 : (1 : Int32).toInt = 1 := rfl
  have d_c24 := i_ne c24
  have w_1 := i_lo x3
  have w_2 := i_hi x3
  have l_1 : (1 : Int32).toInt = 1 := rfl
  try have e_1 := i_add (a := x3) (b := 1) (by omega) (by omega)
  have b_1 := i_lo x2
  have b_2 := i_hi x2
  have b_1 := i_lo (x3 + 1)
  have b_2 := i_hi (x3 + 1)
  exact ih a0 x2 (x3 + 1) u h0 n_a0 (by omega) (by omega) hc
  have l_8 : (8 : Int32).toInt = 8 := rfl
  have d_c15 := i_nlt c15
  exact tp_some hc
theorem jT37 {S : Nat → Nat → Prop} (hS : fm_sub S) {a0 : Nat} {x1 : Int32} {x2 : Int32} {u0 u : fm} (h0 : fm_isD a0) (n_a0 : ¬ S a0 1) (hc : fm_cl S u0 u) : fm_tp (fun p => fm_cl S u0 p.2) (jF37 a0 x1 x2 u) := by
  unfold jF37
  refine tp_bind (jT35 hS h0 n_a0 hc) (fun p1 ep1 hc => ?_)
  refine tp_ite (fun c5 => ?_) (fun c5 => ?_)
  have l_0 : (0 : Int32).toInt = 0 := rfl
  have d_c5 := i_eq c5
  exact tp_some hc
  have l_0 : (0 : Int32).toInt = 0 := rfl
  have d_c5 := i_ne c5
  have l_0 : (0 : Int32).toInt = 0 := rfl
  have b_1 := i_lo x2
  have b_2 := i_hi x2
  have k_N : ((fm_N : Nat) : Int) = 4294967296 := rfl
  exact jT37_12 hS fm_N a0 x2 0 p1.2 h0 n_a0 (by omega) (by omega) hc
/-- CallAgents$Text add -/
theorem jT73 {S : Nat → Nat → Prop} (hS : fm_sub S) {a0 : Nat} {x1 : Int32} {u0 u : fm} (h0 : fm_isT a0) (n_a0 : ¬ S a0 1) (hc : fm_cl S u0 u) : fm_tp (fun p => fm_cl S u0 p.2) (jF73 a0 x1 u) := by
  unfold jF73
  refine tp_ite (fun c4 => ?_) (fun c4 => ?_)
  have l_0 : (0 : Int32).toInt = 0 := rfl
  have d_c4 := i_lt c4
  exact tp_some hc
  have l_0 : (0 : Int32).toInt = 0 := rfl
  have d_c4 := i_nlt c4
  refine tp_ite (fun c16 => ?_) (fun c16 => ?_)
  have y_1 := i_ln (a0 + 1)
  have d_c16 := i_lt c16
  have h_c16 := i_hi (Int32.ofNat (fm_ln (a0 + 1)))
  refine tp_if (c := fm_in (fI u a0 1) (fm_ln (a0 + 1))) (by have y_1 := i_ln (a0 + 1); exact ⟨by omega, by omega⟩) (fun g1 => ?_)
  refine tp_let (fun u2 eu2 => ?_)
  have hc : fm_cl S u0 u2 := eu2 ▸ fm_cl_rT hc h0.1
  refine tp_let (fun u3 eu3 => ?_)
  have hc : fm_cl S u0 u3 := eu3 ▸ fm_cl_wT hc h0.1 n_a0
  exact tp_some hc
  have y_1 := i_ln (a0 + 1)
  have d_c16 := i_nlt c16
  exact tp_some hc
/-- CallAgents$Text addWord -/
theorem jT74_2 {S : Nat → Nat → Prop} (hS : fm_sub S) {u0 : fm} : ∀ (n : Nat) (a0 : Nat) (w1 : Nat) (x2 : Int32) (u : fm) (h0 : fm_isT a0) (h1 : fm_isS w1) (n_a0 : ¬ S a0 1) (hm : 2147483648 - x2.toInt < (n : Int)) (hp : 0 < (n : Int)) (v0 : 0 ≤ x2.toInt) (hc : fm_cl S u0 u), fm_tp (fun p => fm_cl S u0 p) (jF74_2 n a0 w1 x2 u) := by
  intro n
  induction n with
  | zero =>
    intro a0 w1 x2 u h0 h1 n_a0 hm hp v0 hc
    omega
  | succ n ih =>
  intro a0 w1 x2 u h0 h1 n_a0 hm hp v0 hc
  unfold jF74_2
  have z_1 : ((n + 1 : Nat) : Int) = (n : Int) + 1 := by omega
  refine tp_ite (fun c7 => ?_) (fun c7 => ?_)
  have y_2 := i_sl h1
  have d_c7 := i_lt c7
  have h_c7 := i_hi (nI (fm_sl w1))
  refine tp_if (c := fm_in x2 (fm_sl w1)) (by have y_2 := i_sl h1; exact ⟨by omega, by omega⟩) (fun g1 => ?_)
  refine tp_bind (jT73 hS h0 n_a0 hc) (fun p2 ep2 hc => ?_)
  have w_1 := i_lo x2
  have w_2 := i_hi x2
  have l_1 : (1 : Int32).toInt = 1 := rfl
  try have e_1 := i_add (a := x2) (b := 1) (by omega) (by omega)
  have b_1 := i_lo (x2 + 1)
  have b_2 := i_hi (x2 + 1)
  exact ih a0 w1 (x2 + 1) p2.2 h0 h1 n_a0 (by omega) (by omega) (by omega) hc
  have y_2 := i_sl h1
  have d_c7 := i_nlt c7
  exact tp_some hc
theorem jT74 {S : Nat → Nat → Prop} (hS : fm_sub S) {a0 : Nat} {w1 : Nat} {u0 u : fm} (h0 : fm_isT a0) (h1 : fm_isS w1) (n_a0 : ¬ S a0 1) (hc : fm_cl S u0 u) : fm_tp (fun p => fm_cl S u0 p) (jF74 a0 w1 u) := by
  unfold jF74
  have l_0 : (0 : Int32).toInt = 0 := rfl
  have k_N : ((fm_N : Nat) : Int) = 4294967296 := rfl
  exact jT74_2 hS fm_N a0 w1 0 u h0 h1 n_a0 (by omega) (by omega) (by omega) hc
/-- CallAgents$Text addNumber -/
theorem jT75_31 {S : Nat → Nat → Prop} (hS : fm_sub S) {u0 : fm} {n5 : Nat} {k5 : Nat → Int32 → Int32 → Int32 → fm → Option (fm)} (a0 : Nat) (x1 : Int32) (x3 : Int32) (x4 : Int32) (u : fm) (h0 : fm_isT a0) (n_a0 : ¬ S a0 1) (v0 : 0 < x3.toInt) (v1 : x3.toInt < (n5 : Int) + 1) (hc : fm_cl S u0 u) (hk5 : ∀ (a0 : Nat) (x1 : Int32) (x2 : Int32) (x3 : Int32) (u : fm) (h0 : fm_isT a0) (n_a0 : ¬ S a0 1) (hm : x3.toInt < (n5 : Int)) (hp : 0 < (n5 : Int)) (hc : fm_cl S u0 u), fm_tp (fun p => fm_cl S u0 p) (k5 a0 x1 x2 x3 u)) : fm_tp (fun p => fm_cl S u0 p) (jF75_31 k5 a0 x1 x3 x4 u) := by
  unfold jF75_31
  refine tp_bind (jT73 hS h0 n_a0 hc) (fun p2 ep2 hc => ?_)
  have l_1 : (1 : Int32).toInt = 1 := rfl
  have w_1 := i_lo x3
  have w_2 := i_hi x3
  have l_10 : (10 : Int32).toInt = 10 := rfl
  try have e_1 := i_div (a := x3) (b := 10) (k := 10) rfl (by omega) (by omega)
  have b_1 := i_lo x1
  have b_2 := i_hi x1
  have b_1 := i_lo (x3 / 10)
  have b_2 := i_hi (x3 / 10)
  exact hk5 a0 x1 1 (x3 / 10) p2.2 h0 n_a0 (by omega) (by omega) hc
theorem jT75_5 {S : Nat → Nat → Prop} (hS : fm_sub S) {u0 : fm} : ∀ (n : Nat) (a0 : Nat) (x1 : Int32) (x2 : Int32) (x3 : Int32) (u : fm) (h0 : fm_isT a0) (n_a0 : ¬ S a0 1) (hm : x3.toInt < (n : Int)) (hp : 0 < (n : Int)) (hc : fm_cl S u0 u), fm_tp (fun p => fm_cl S u0 p) (jF75_5 n a0 x1 x2 x3 u) := by
  intro n
  induction n with
  | zero =>
    intro a0 x1 x2 x3 u h0 n_a0 hm hp hc
    omega
  | succ n ih =>
  intro a0 x1 x2 x3 u h0 n_a0 hm hp hc
  unfold jF75_5
  have z_1 : ((n + 1 : Nat) : Int) = (n : Int) + 1 := by omega
  refine tp_ite (fun c6 => ?_) (fun c6 => ?_)
  have l_0 : (0 : Int32).toInt = 0 := rfl
  have d_c6 := i_lt c6
  have h_c6 := i_hi x3
  refine tp_ifn (c := x3 = 0) (by intro q; have q1 := i_eq q; have l_0 : (0 : Int32).toInt = 0 := rfl; omega) (fun g1 => ?_)
  refine tp_ite (fun c18 => ?_) (fun c18 => ?_)
  have l_0 : (0 : Int32).toInt = 0 := rfl
  have d_c18 := i_eq c18
  refine tp_ite (fun c23 => ?_) (fun c23 => ?_)
  have l_0 : (0 : Int32).toInt = 0 := rfl
  have d_c23 := i_eq c23
  refine tp_ite (fun c28 => ?_) (fun c28 => ?_)
  have l_1 : (1 : Int32).toInt = 1 := rfl
  have d_c28 := i_eq c28
  exact jT75_31 hS a0 x1 x3 (fm_rem (x1 / x3) 10) u h0 n_a0 (by omega) (by omega) hc ih
  have l_1 : (1 : Int32).toInt = 1 := rfl
  have d_c28 := i_ne c28
  have l_0 : (0 : Int32).toInt = 0 := rfl
  have w_1 := i_lo x3
  have w_2 := i_hi x3
  have l_10 : (10 : Int32).toInt = 10 := rfl
  try have e_2 := i_div (a := x3) (b := 10) (k := 10) rfl (by omega) (by omega)
  have b_1 := i_lo x1
  have b_2 := i_hi x1
  have b_1 := i_lo (x3 / 10)
  have b_2 := i_hi (x3 / 10)
  exact ih a0 x1 0 (x3 / 10) u h0 n_a0 (by omega) (by omega) hc
  have l_0 : (0 : Int32).toInt = 0 := rfl
  have d_c23 := i_ne c23
  exact jT75_31 hS a0 x1 x3 (fm_rem (x1 / x3) 10) u h0 n_a0 (by omega) (by omega) hc ih
  have l_0 : (0 : Int32).toInt = 0 := rfl
  have d_c18 := i_ne c18
  exact jT75_31 hS a0 x1 x3 (fm_rem (x1 / x3) 10) u h0 n_a0 (by omega) (by omega) hc ih
  have l_0 : (0 : Int32).toInt = 0 := rfl
  have d_c6 := i_nlt c6
  exact tp_some hc
theorem jT75 {S : Nat → Nat → Prop} (hS : fm_sub S) {a0 : Nat} {x1 : Int32} {u0 u : fm} (h0 : fm_isT a0) (n_a0 : ¬ S a0 1) (hc : fm_cl S u0 u) : fm_tp (fun p => fm_cl S u0 p) (jF75 a0 x1 u) := by
  unfold jF75
  have l_0 : (0 : Int32).toInt = 0 := rfl
  have l_1000000000 : (1000000000 : Int32).toInt = 1000000000 := rfl
  have b_1 := i_lo x1
  have b_2 := i_hi x1
  have k_N : ((fm_N : Nat) : Int) = 4294967296 := rfl
  exact jT75_5 hS fm_N a0 x1 0 1000000000 u h0 n_a0 (by omega) (by omega) hc
/-- CallAgents$Media write -/
theorem jT43_28 {S : Nat → Nat → Prop} (hS : fm_sub S) {u0 : fm} {n2 : Nat} {k2 : Nat → Nat → Int32 → fm → Option (fm)} : ∀ (n : Nat) (a0 : Nat) (a1 : Nat) (x2 : Int32) (x3 : Int32) (u : fm) (h0 : fm_isD a0) (h1 : fm_isT a1) (n_a1 : ¬ S a1 1) (hm : 2147483648 - x3.toInt < (n : Int)) (hp : 0 < (n : Int)) (v0 : x2.toInt < 2147483647) (v1 : 2147483648 - x2.toInt < (n2 : Int) + 1) (hc : fm_cl S u0 u) (hk2 : ∀ (a0 : Nat) (a1 : Nat) (x2 : Int32) (u : fm) (h0 : fm_isD a0) (h1 : fm_isT a1) (n_a1 : ¬ S a1 1) (hm : 2147483648 - x2.toInt < (n2 : Int)) (hp : 0 < (n2 : Int)) (hc : fm_cl S u0 u), fm_tp (fun p => fm_cl S u0 p) (k2 a0 a1 x2 u)), fm_tp (fun p => fm_cl S u0 p) (jF43_28 n k2 a0 a1 x2 x3 u) := by
  intro n
  induction n with
  | zero =>
    intro a0 a1 x2 x3 u h0 h1 n_a1 hm hp v0 v1 hc hk2
    omega
  | succ n ih =>
  intro a0 a1 x2 x3 u h0 h1 n_a1 hm hp v0 v1 hc hk2
  unfold jF43_28
  have z_1 : ((n + 1 : Nat) : Int) = (n : Int) + 1 := by omega
  refine tp_bind (jT34 h0) (fun p4 ep4 _ => ?_)
  refine tp_ite (fun c35 => ?_) (fun c35 => ?_)
  have d_c35 := i_lt c35
  have h_c35 := i_hi p4
  refine tp_bind (jT73 hS h1 n_a1 hc) (fun p7 ep7 hc => ?_)
  refine tp_bind (jT34 h0) (fun p9 ep9 _ => ?_)
  refine tp_bind (jT75 hS h1 n_a1 hc) (fun p10 ep10 hc => ?_)
  have w_1 := i_lo x3
  have w_2 := i_hi x3
  have l_1 : (1 : Int32).toInt = 1 := rfl
  try have e_2 := i_add (a := x3) (b := 1) (by omega) (by omega)
  have b_1 := i_lo x2
  have b_2 := i_hi x2
  have b_1 := i_lo (x3 + 1)
  have b_2 := i_hi (x3 + 1)
  exact ih a0 a1 x2 (x3 + 1) p10 h0 h1 n_a1 (by omega) (by omega) (by omega) (by omega) hc hk2
  have d_c35 := i_nlt c35
  refine tp_bind (jT73 hS h1 n_a1 hc) (fun p5 ep5 hc => ?_)
  have w_1 := i_lo x2
  have w_2 := i_hi x2
  have l_1 : (1 : Int32).toInt = 1 := rfl
  try have e_1 := i_add (a := x2) (b := 1) (by omega) (by omega)
  have b_1 := i_lo (x2 + 1)
  have b_2 := i_hi (x2 + 1)
  exact hk2 a0 a1 (x2 + 1) p5.2 h0 h1 n_a1 (by omega) (by omega) hc
theorem jT43_2 {S : Nat → Nat → Prop} (hS : fm_sub S) {u0 : fm} : ∀ (n : Nat) (a0 : Nat) (a1 : Nat) (x2 : Int32) (u : fm) (h0 : fm_isD a0) (h1 : fm_isT a1) (n_a1 : ¬ S a1 1) (hm : 2147483648 - x2.toInt < (n : Int)) (hp : 0 < (n : Int)) (hc : fm_cl S u0 u), fm_tp (fun p => fm_cl S u0 p) (jF43_2 n a0 a1 x2 u) := by
  intro n
  induction n with
  | zero =>
    intro a0 a1 x2 u h0 h1 n_a1 hm hp hc
    omega
  | succ n ih =>
  intro a0 a1 x2 u h0 h1 n_a1 hm hp hc
  unfold jF43_2
  have z_1 : ((n + 1 : Nat) : Int) = (n : Int) + 1 := by omega
  refine tp_ite (fun c7 => ?_) (fun c7 => ?_)
  have d_c7 := i_lt c7
  have h_c7 := i_hi (fI u a0 1)
  refine tp_bind (jT74 hS h1 ⟨by decide, by decide⟩ n_a1 hc) (fun p1 ep1 hc => ?_)
  refine tp_bind (jT34 h0) (fun p2 ep2 _ => ?_)
  refine tp_bind (jT75 hS h1 n_a1 hc) (fun p3 ep3 hc => ?_)
  have l_0 : (0 : Int32).toInt = 0 := rfl
  have b_1 := i_lo x2
  have b_2 := i_hi x2
  have k_N : ((fm_N : Nat) : Int) = 4294967296 := rfl
  exact jT43_28 hS fm_N a0 a1 x2 0 p3 h0 h1 n_a1 (by omega) (by omega) (by omega) (by omega) hc ih
  have d_c7 := i_nlt c7
  exact tp_some hc
theorem jT43 {S : Nat → Nat → Prop} (hS : fm_sub S) {a0 : Nat} {a1 : Nat} {u0 u : fm} (h0 : fm_isD a0) (h1 : fm_isT a1) (n_a1 : ¬ S a1 1) (hc : fm_cl S u0 u) : fm_tp (fun p => fm_cl S u0 p) (jF43 a0 a1 u) := by
  unfold jF43
  have l_0 : (0 : Int32).toInt = 0 := rfl
  have k_N : ((fm_N : Nat) : Int) = 4294967296 := rfl
  exact jT43_2 hS fm_N a0 a1 0 u h0 h1 n_a1 (by omega) (by omega) hc
/-- CallAgents$Message writeAddresses -/
theorem jT51 {S : Nat → Nat → Prop} (hS : fm_sub S) {a0 : Nat} {a1 : Nat} {u0 u : fm} (h0 : fm_isM a0) (h1 : fm_isT a1) (n_a1 : ¬ S a1 1) (hc : fm_cl S u0 u) : fm_tp (fun p => fm_cl S u0 p) (jF51 a0 a1 u) := by
  unfold jF51
  refine tp_let (fun w1 ew1 => ?_)
  have hw1 : fm_isS w1 := jP84 ew1
  refine tp_bind (jT74 hS h1 hw1 n_a1 hc) (fun p2 ep2 hc => ?_)
  refine tp_bind (jT74 hS h1 ⟨by decide, by decide⟩ n_a1 hc) (fun p3 ep3 hc => ?_)
  refine tp_bind (jT75 hS h1 n_a1 hc) (fun p4 ep4 hc => ?_)
  refine tp_bind (jT74 hS h1 ⟨by decide, by decide⟩ n_a1 hc) (fun p5 ep5 hc => ?_)
  refine tp_bind (jT75 hS h1 n_a1 hc) (fun p6 ep6 hc => ?_)
  refine tp_bind (jT73 hS h1 n_a1 hc) (fun p7 ep7 hc => ?_)
  refine tp_let (fun w9 ew9 => ?_)
  have hw9 : fm_isS w9 := jP84 ew9
  refine tp_bind (jT74 hS h1 hw9 n_a1 hc) (fun p10 ep10 hc => ?_)
  refine tp_bind (jT74 hS h1 ⟨by decide, by decide⟩ n_a1 hc) (fun p11 ep11 hc => ?_)
  refine tp_bind (jT75 hS h1 n_a1 hc) (fun p12 ep12 hc => ?_)
  refine tp_bind (jT74 hS h1 ⟨by decide, by decide⟩ n_a1 hc) (fun p13 ep13 hc => ?_)
  refine tp_bind (jT75 hS h1 n_a1 hc) (fun p14 ep14 hc => ?_)
  refine tp_bind (jT73 hS h1 n_a1 hc) (fun p15 ep15 hc => ?_)
  refine tp_let (fun w17 ew17 => ?_)
  have hw17 : fm_isS w17 := jP84 ew17
  refine tp_bind (jT74 hS h1 hw17 n_a1 hc) (fun p18 ep18 hc => ?_)
  refine tp_bind (jT74 hS h1 ⟨by decide, by decide⟩ n_a1 hc) (fun p19 ep19 hc => ?_)
  refine tp_bind (jT75 hS h1 n_a1 hc) (fun p20 ep20 hc => ?_)
  refine tp_ite (fun c116 => ?_) (fun c116 => ?_)
  refine tp_bind (jT74 hS h1 ⟨by decide, by decide⟩ n_a1 hc) (fun p21 ep21 hc => ?_)
  refine tp_ite (fun c133 => ?_) (fun c133 => ?_)
  refine tp_bind (jT73 hS h1 n_a1 hc) (fun p22 ep22 hc => ?_)
  exact tp_some hc
  refine tp_bind (jT75 hS h1 n_a1 hc) (fun p24 ep24 hc => ?_)
  refine tp_bind (jT73 hS h1 n_a1 hc) (fun p25 ep25 hc => ?_)
  exact tp_some hc
  refine tp_bind (jT74 hS h1 ⟨by decide, by decide⟩ n_a1 hc) (fun p27 ep27 hc => ?_)
  refine tp_ite (fun c133 => ?_) (fun c133 => ?_)
  refine tp_bind (jT73 hS h1 n_a1 hc) (fun p28 ep28 hc => ?_)
  exact tp_some hc
  refine tp_bind (jT75 hS h1 n_a1 hc) (fun p30 ep30 hc => ?_)
  refine tp_bind (jT73 hS h1 n_a1 hc) (fun p31 ep31 hc => ?_)
  exact tp_some hc
/-- CallAgents$Message writeCounts -/
theorem jT52 {S : Nat → Nat → Prop} (hS : fm_sub S) {a0 : Nat} {a1 : Nat} {x2 : Int32} {u0 u : fm} (h0 : fm_isM a0) (h1 : fm_isT a1) (n_a1 : ¬ S a1 1) (hc : fm_cl S u0 u) : fm_tp (fun p => fm_cl S u0 p) (jF52 a0 a1 x2 u) := by
  unfold jF52
  refine tp_let (fun w1 ew1 => ?_)
  have hw1 : fm_isS w1 := jP84 ew1
  refine tp_bind (jT74 hS h1 hw1 n_a1 hc) (fun p2 ep2 hc => ?_)
  refine tp_bind (jT75 hS h1 n_a1 hc) (fun p3 ep3 hc => ?_)
  refine tp_bind (jT73 hS h1 n_a1 hc) (fun p4 ep4 hc => ?_)
  refine tp_let (fun w6 ew6 => ?_)
  have hw6 : fm_isS w6 := jP84 ew6
  refine tp_bind (jT74 hS h1 hw6 n_a1 hc) (fun p7 ep7 hc => ?_)
  refine tp_bind (jT75 hS h1 n_a1 hc) (fun p8 ep8 hc => ?_)
  refine tp_bind (jT73 hS h1 n_a1 hc) (fun p9 ep9 hc => ?_)
  refine tp_let (fun w11 ew11 => ?_)
  have hw11 : fm_isS w11 := jP84 ew11
  refine tp_bind (jT74 hS h1 hw11 n_a1 hc) (fun p12 ep12 hc => ?_)
  refine tp_bind (jT73 hS h1 n_a1 hc) (fun p13 ep13 hc => ?_)
  refine tp_let (fun w15 ew15 => ?_)
  have hw15 : fm_isS w15 := jP84 ew15
  refine tp_bind (jT74 hS h1 hw15 n_a1 hc) (fun p16 ep16 hc => ?_)
  refine tp_bind (jT75 hS h1 n_a1 hc) (fun p17 ep17 hc => ?_)
  refine tp_bind (jT73 hS h1 n_a1 hc) (fun p18 ep18 hc => ?_)
  exact tp_some hc
/-- CallAgents$Text clear -/
theorem jT71 {S : Nat → Nat → Prop} (hS : fm_sub S) {a0 : Nat} {u0 u : fm} (h0 : fm_isT a0) (n_a0 : ¬ S a0 1) (hc : fm_cl S u0 u) : fm_tq (fun p => fm_cl S u0 p) (jF71 a0 u) := by
  unfold jF71
  refine tq_let (fun u1 eu1 => ?_)
  have hc : fm_cl S u0 u1 := eu1 ▸ fm_cl_wT hc h0.1 n_a0
  exact hc
/-- CallAgents$Text at -/
theorem jT72 {a0 : Nat} {x1 : Int32} {u : fm} (h0 : fm_isT a0) : fm_tp (fun _ => True) (jF72 a0 x1 u) := by
  unfold jF72
  refine tp_ite (fun c1 => ?_) (fun c1 => ?_)
  have l_0 : (0 : Int32).toInt = 0 := rfl
  have d_c1 := i_lt c1
  exact tp_some trivial
  have l_0 : (0 : Int32).toInt = 0 := rfl
  have d_c1 := i_nlt c1
  refine tp_ite (fun c9 => ?_) (fun c9 => ?_)
  have d_c9 := i_lt c9
  have h_c9 := i_hi (fI u a0 1)
  refine tp_ite (fun c18 => ?_) (fun c18 => ?_)
  have y_1 := i_ln (a0 + 1)
  have d_c18 := i_lt c18
  have h_c18 := i_hi (Int32.ofNat (fm_ln (a0 + 1)))
  refine tp_if (c := fm_in x1 (fm_ln (a0 + 1))) (by have y_1 := i_ln (a0 + 1); exact ⟨by omega, by omega⟩) (fun g1 => ?_)
  exact tp_some trivial
  have y_1 := i_ln (a0 + 1)
  have d_c18 := i_nlt c18
  exact tp_some trivial
  have d_c9 := i_nlt c9
  exact tp_some trivial
/-- CallAgents$Text addText -/
theorem jT76_2 {S : Nat → Nat → Prop} (hS : fm_sub S) {u0 : fm} : ∀ (n : Nat) (a0 : Nat) (a1 : Nat) (x2 : Int32) (u : fm) (h0 : fm_isT a0) (h1 : fm_isT a1) (n_a0 : ¬ S a0 1) (hm : 2147483648 - x2.toInt < (n : Int)) (hp : 0 < (n : Int)) (hc : fm_cl S u0 u), fm_tp (fun p => fm_cl S u0 p) (jF76_2 n a0 a1 x2 u) := by
  intro n
  induction n with
  | zero =>
    intro a0 a1 x2 u h0 h1 n_a0 hm hp hc
    omega
  | succ n ih =>
  intro a0 a1 x2 u h0 h1 n_a0 hm hp hc
  unfold jF76_2
  have z_1 : ((n + 1 : Nat) : Int) = (n : Int) + 1 := by omega
  refine tp_ite (fun c7 => ?_) (fun c7 => ?_)
  have d_c7 := i_lt c7
  have h_c7 := i_hi (fI u a1 1)
  refine tp_bind (jT72 h1) (fun p1 ep1 _ => ?_)
  refine tp_bind (jT73 hS h0 n_a0 hc) (fun p2 ep2 hc => ?_)
  have w_1 := i_lo x2
  have w_2 := i_hi x2
  have l_1 : (1 : Int32).toInt = 1 := rfl
  try have e_1 := i_add (a := x2) (b := 1) (by omega) (by omega)
  have b_1 := i_lo (x2 + 1)
  have b_2 := i_hi (x2 + 1)
  exact ih a0 a1 (x2 + 1) p2.2 h0 h1 n_a0 (by omega) (by omega) hc
  have d_c7 := i_nlt c7
  exact tp_some hc
theorem jT76 {S : Nat → Nat → Prop} (hS : fm_sub S) {a0 : Nat} {a1 : Nat} {u0 u : fm} (h0 : fm_isT a0) (h1 : fm_isT a1) (n_a0 : ¬ S a0 1) (hc : fm_cl S u0 u) : fm_tp (fun p => fm_cl S u0 p) (jF76 a0 a1 u) := by
  unfold jF76
  have l_0 : (0 : Int32).toInt = 0 := rfl
  have k_N : ((fm_N : Nat) : Int) = 4294967296 := rfl
  exact jT76_2 hS fm_N a0 a1 0 u h0 h1 n_a0 (by omega) (by omega) hc
/-- CallAgents$Message write -/
theorem jT50_50 {S : Nat → Nat → Prop} (hS : fm_sub S) {u0 : fm} (a0 : Nat) (a1 : Nat) (a2 : Nat) (u : fm) (h0 : fm_isM a0) (h1 : fm_isT a1) (h2 : fm_isT a2) (n_a1 : ¬ S a1 1) (n_a2 : ¬ S a2 1) (hc : fm_cl S u0 u) : fm_tp (fun p => fm_cl S u0 p) (jF50_50 a0 a1 a2 u) := by
  unfold jF50_50
  refine tp_bind (jT73 hS h1 n_a1 hc) (fun p7 ep7 hc => ?_)
  refine tp_bind (jT51 hS h0 h1 n_a1 hc) (fun p9 ep9 hc => ?_)
  refine tp_bind (jT52 hS h0 h1 n_a1 hc) (fun p10 ep10 hc => ?_)
  refine tp_bind (jT73 hS h1 n_a1 hc) (fun p11 ep11 hc => ?_)
  refine tp_bind (jT76 hS h1 h2 n_a1 hc) (fun p13 ep13 hc => ?_)
  exact tp_some hc
theorem jT50 {S : Nat → Nat → Prop} (hS : fm_sub S) {a0 : Nat} {a1 : Nat} {a2 : Nat} {u0 u : fm} (h0 : fm_isM a0) (h1 : fm_isT a1) (h2 : fm_isT a2) (n_a1 : ¬ S a1 1) (n_a2 : ¬ S a2 1) (hc : fm_cl S u0 u) : fm_tp (fun p => fm_cl S u0 p) (jF50 a0 a1 a2 u) := by
  unfold jF50
  refine tp_let (fun p1 ep1 => ?_)
  have hc : fm_cl S u0 p1 := ep1 ▸ jT71 hS h2 n_a2 hc
  refine tp_bind (jT43 hS ⟨h0.2.1, h0.2.2⟩ h2 n_a2 hc) (fun p2 ep2 hc => ?_)
  refine tp_let (fun p3 ep3 => ?_)
  have hc : fm_cl S u0 p3 := ep3 ▸ jT71 hS h1 n_a1 hc
  refine tp_let (fun w4 ew4 => ?_)
  have hw4 : fm_isS w4 := jP84 ew4
  refine tp_bind (jT74 hS h1 hw4 n_a1 hc) (fun p5 ep5 hc => ?_)
  refine tp_ite (fun c33 => ?_) (fun c33 => ?_)
  exact jT50_50 hS a0 a1 a2 p5 h0 h1 h2 n_a1 n_a2 hc
  refine tp_bind (jT75 hS h1 n_a1 hc) (fun p14 ep14 hc => ?_)
  refine tp_bind (jT74 hS h1 ⟨by decide, by decide⟩ n_a1 hc) (fun p15 ep15 hc => ?_)
  exact jT50_50 hS a0 a1 a2 p15 h0 h1 h2 n_a1 n_a2 hc
/-- CallAgents$Reader here -/
theorem jT68 {u : fm} : fm_tp (fun _ => True) (jF68 u) := by
  unfold jF68
  refine tp_ite (fun c8 => ?_) (fun c8 => ?_)
  refine tp_bind (jT72 ⟨t_213, t_214⟩) (fun p1 ep1 _ => ?_)
  exact tp_some trivial
  exact tp_some trivial
/-- CallAgents$Reader fail -/
theorem jT69 {S : Nat → Nat → Prop} (hS : fm_sub S) {x1 : Int32} {u0 u : fm} (hc : fm_cl S u0 u) : fm_tq (fun p => fm_cl S u0 p) (jF69 x1 u) := by
  unfold jF69
  refine tq_ite (fun c4 => ?_) (fun c4 => ?_)
  refine tq_let (fun u1 eu1 => ?_)
  have hc : fm_cl S u0 u1 := eu1 ▸ fm_cl_w hS hc t_219 (by decide)
  exact hc
  exact hc
/-- CallAgents$Reader readDigit -/
theorem jT62 {S : Nat → Nat → Prop} (hS : fm_sub S) {x1 : Int32} {u0 u : fm} (hc : fm_cl S u0 u) : fm_tp (fun p => fm_cl S u0 p.2) (jF62 x1 u) := by
  unfold jF62
  refine tp_bind (jT68) (fun p1 ep1 _ => ?_)
  refine tp_ite (fun c8 => ?_) (fun c8 => ?_)
  refine tp_let (fun p2 ep2 => ?_)
  have hc : fm_cl S u0 p2 := ep2 ▸ jT69 hS  hc
  exact tp_some hc
  refine tp_ite (fun c13 => ?_) (fun c13 => ?_)
  refine tp_let (fun p4 ep4 => ?_)
  have hc : fm_cl S u0 p4 := ep4 ▸ jT69 hS  hc
  exact tp_some hc
  refine tp_let (fun u3 eu3 => ?_)
  have hc : fm_cl S u0 u3 := eu3 ▸ fm_cl_w hS hc t_219 (by decide)
  exact tp_some hc
/-- CallAgents$Reader readAgent -/
theorem jT61 {S : Nat → Nat → Prop} (hS : fm_sub S) {u0 u : fm} (hc : fm_cl S u0 u) : fm_tp (fun p => fm_cl S u0 p.2) (jF61 u) := by
  unfold jF61
  refine tp_bind (jT62 hS  hc) (fun p1 ep1 hc => ?_)
  exact tp_some hc
/-- CallAgents$Reader fits -/
theorem jT67_2 {u : fm} : ∀ (n : Nat) (w1 : Nat) (x2 : Int32) (h1 : fm_isS w1) (hm : 2147483648 - x2.toInt < (n : Int)) (hp : 0 < (n : Int)) (v0 : 0 ≤ x2.toInt), fm_tp (fun _ => True) (jF67_2 n w1 x2 u) := by
  intro n
  induction n with
  | zero =>
    intro w1 x2 h1 hm hp v0
    omega
  | succ n ih =>
  intro w1 x2 h1 hm hp v0
  unfold jF67_2
  have z_1 : ((n + 1 : Nat) : Int) = (n : Int) + 1 := by omega
  refine tp_ite (fun c7 => ?_) (fun c7 => ?_)
  have y_2 := i_sl h1
  have d_c7 := i_lt c7
  have h_c7 := i_hi (nI (fm_sl w1))
  refine tp_ite (fun c20 => ?_) (fun c20 => ?_)
  have w_1 := i_lo (fI u 219 1)
  have w_2 := i_hi (fI u 219 1)
  have w_1 := i_lo x2
  have w_2 := i_hi x2
  try have e_2 := i_add (a := (fI u 219 1)) (b := x2) (by omega) (by omega)
  have d_c20 := i_lt c20
  have h_c20 := i_hi (fI u 219 2)
  refine tp_bind (jT72 ⟨t_213, t_214⟩) (fun p1 ep1 _ => ?_)
  refine tp_if (c := fm_in x2 (fm_sl w1)) (by have y_2 := i_sl h1; exact ⟨by omega, by omega⟩) (fun g2 => ?_)
  refine tp_ite (fun c41 => ?_) (fun c41 => ?_)
  have d_c41 := i_eq c41
  have w_1 := i_lo x2
  have w_2 := i_hi x2
  have l_1 : (1 : Int32).toInt = 1 := rfl
  try have e_1 := i_add (a := x2) (b := 1) (by omega) (by omega)
  have b_1 := i_lo (x2 + 1)
  have b_2 := i_hi (x2 + 1)
  exact ih w1 (x2 + 1) h1 (by omega) (by omega) (by omega)
  have d_c41 := i_ne c41
  exact tp_some trivial
  have w_1 := i_lo (fI u 219 1)
  have w_2 := i_hi (fI u 219 1)
  have w_1 := i_lo x2
  have w_2 := i_hi x2
  try have e_3 := i_add (a := (fI u 219 1)) (b := x2) (by omega) (by omega)
  have d_c20 := i_nlt c20
  exact tp_some trivial
  have y_2 := i_sl h1
  have d_c7 := i_nlt c7
  exact tp_some trivial
theorem jT67 {w1 : Nat} {u : fm} (h1 : fm_isS w1) : fm_tp (fun _ => True) (jF67 w1 u) := by
  unfold jF67
  have l_0 : (0 : Int32).toInt = 0 := rfl
  have k_N : ((fm_N : Nat) : Int) = 4294967296 := rfl
  exact jT67_2 fm_N w1 0 h1 (by omega) (by omega) (by omega)
/-- CallAgents$Reader expect -/
theorem jT64 {S : Nat → Nat → Prop} (hS : fm_sub S) {w1 : Nat} {u0 u : fm} (h1 : fm_isS w1) (hc : fm_cl S u0 u) : fm_tp (fun p => fm_cl S u0 p) (jF64 w1 u) := by
  unfold jF64
  refine tp_bind (jT67 h1) (fun p1 ep1 _ => ?_)
  refine tp_ite (fun c11 => ?_) (fun c11 => ?_)
  refine tp_let (fun p3 ep3 => ?_)
  have hc : fm_cl S u0 p3 := ep3 ▸ jT69 hS  hc
  refine tp_let (fun u4 eu4 => ?_)
  have hc : fm_cl S u0 u4 := eu4 ▸ fm_cl_w hS hc t_219 (by decide)
  exact tp_some hc
  refine tp_let (fun u2 eu2 => ?_)
  have hc : fm_cl S u0 u2 := eu2 ▸ fm_cl_w hS hc t_219 (by decide)
  exact tp_some hc
/-- CallAgents$Reader expectSign -/
theorem jT65 {S : Nat → Nat → Prop} (hS : fm_sub S) {x1 : Int32} {u0 u : fm} (hc : fm_cl S u0 u) : fm_tp (fun p => fm_cl S u0 p) (jF65 x1 u) := by
  unfold jF65
  refine tp_bind (jT68) (fun p1 ep1 _ => ?_)
  refine tp_ite (fun c5 => ?_) (fun c5 => ?_)
  refine tp_let (fun u3 eu3 => ?_)
  have hc : fm_cl S u0 u3 := eu3 ▸ fm_cl_w hS hc t_219 (by decide)
  exact tp_some hc
  refine tp_let (fun p2 ep2 => ?_)
  have hc : fm_cl S u0 p2 := ep2 ▸ jT69 hS  hc
  exact tp_some hc
/-- CallAgents$Reader choose -/
theorem jT66_5 {S : Nat → Nat → Prop} (hS : fm_sub S) {u0 : fm} : ∀ (n : Nat) (x1 : Int32) (x2 : Int32) (x3 : Int32) (x4 : Int32) (u : fm) (hm : 1000 - x4.toInt < (n : Int)) (hp : 0 < (n : Int)) (v0 : x2.toInt ≤ 100) (hc : fm_cl S u0 u), fm_tp (fun p => fm_cl S u0 p.2) (jF66_5 n x1 x2 x3 x4 u) := by
  intro n
  induction n with
  | zero =>
    intro x1 x2 x3 x4 u hm hp v0 hc
    omega
  | succ n ih =>
  intro x1 x2 x3 x4 u hm hp v0 hc
  unfold jF66_5
  have z_1 : ((n + 1 : Nat) : Int) = (n : Int) + 1 := by omega
  refine tp_ite (fun c8 => ?_) (fun c8 => ?_)
  have d_c8 := i_lt c8
  have h_c8 := i_hi x4
  refine tp_let (fun p1 ep1 => ?_)
  have hc : fm_cl S u0 p1 := ep1 ▸ jT69 hS  hc
  exact tp_some hc
  have d_c8 := i_nlt c8
  refine tp_let (fun w2 ew2 => ?_)
  have hw2 : fm_isS w2 := jP84 ew2
  refine tp_bind (jT67 hw2) (fun p3 ep3 _ => ?_)
  refine tp_let (fun w4 ew4 => ?_)
  have hw4 : fm_isS w4 := jP84 ew4
  refine tp_ite (fun c32 => ?_) (fun c32 => ?_)
  have y_2 := i_sl hw4
  have d_c32 := i_eq c32
  refine tp_let (fun u5 eu5 => ?_)
  have hc : fm_cl S u0 u5 := eu5 ▸ fm_cl_w hS hc t_219 (by decide)
  exact tp_some hc
  have y_2 := i_sl hw4
  have d_c32 := i_ne c32
  have w_1 := i_lo x4
  have w_2 := i_hi x4
  have l_1 : (1 : Int32).toInt = 1 := rfl
  try have e_1 := i_add (a := x4) (b := 1) (by omega) (by omega)
  have b_1 := i_lo x1
  have b_2 := i_hi x1
  have b_1 := i_lo x2
  have b_2 := i_hi x2
  have b_1 := i_lo (fm_max x3 p3)
  have b_2 := i_hi (fm_max x3 p3)
  have b_1 := i_lo (x4 + 1)
  have b_2 := i_hi (x4 + 1)
  exact ih x1 x2 (fm_max x3 p3) (x4 + 1) u (by omega) (by omega) (by omega) hc
theorem jT66 {S : Nat → Nat → Prop} (hS : fm_sub S) {x1 : Int32} {x2 : Int32} {u0 u : fm} (v_0 : x2.toInt ≤ 100) (hc : fm_cl S u0 u) : fm_tp (fun p => fm_cl S u0 p.2) (jF66 x1 x2 u) := by
  unfold jF66
  have l_0 : (0 : Int32).toInt = 0 := rfl
  have b_1 := i_lo x1
  have b_2 := i_hi x1
  have b_1 := i_lo x2
  have b_2 := i_hi x2
  have b_1 := i_lo x1
  have b_2 := i_hi x1
  have k_N : ((fm_N : Nat) : Int) = 4294967296 := rfl
  exact jT66_5 hS fm_N x1 x2 0 x1 u (by omega) (by omega) (by omega) hc
/-- CallAgents$Reader readStart -/
theorem jT55 {S : Nat → Nat → Prop} (hS : fm_sub S) {a1 : Nat} {u0 u : fm} (h1 : fm_isM a1) (hc : fm_cl S u0 u) : fm_tp (fun p => fm_cl S u0 p) (jF55 a1 u) := by
  unfold jF55
  refine tp_bind (jT66 hS (by decide) hc) (fun p1 ep1 hc => ?_)
  refine tp_let (fun u2 eu2 => ?_)
  have hc : fm_cl S u0 u2 := eu2 ▸ fm_cl_w hS hc h1.1 (by decide)
  refine tp_let (fun u3 eu3 => ?_)
  have hc : fm_cl S u0 u3 := eu3 ▸ fm_cl_w hS hc h1.1 (by decide)
  refine tp_ite (fun c20 => ?_) (fun c20 => ?_)
  refine tp_bind (jT65 hS  hc) (fun p5 ep5 hc => ?_)
  exact tp_some hc
  refine tp_bind (jT61 hS  hc) (fun p6 ep6 hc => ?_)
  refine tp_let (fun u7 eu7 => ?_)
  have hc : fm_cl S u0 u7 := eu7 ▸ fm_cl_w hS hc h1.1 (by decide)
  refine tp_bind (jT64 hS ⟨by decide, by decide⟩ hc) (fun p8 ep8 hc => ?_)
  refine tp_bind (jT65 hS  hc) (fun p9 ep9 hc => ?_)
  exact tp_some hc
/-- CallAgents$Reader readNumber -/
theorem jT63_81 {S : Nat → Nat → Prop} (hS : fm_sub S) {u0 : fm} (x1 : Int32) (x2 : Int32) (x3 : Int32) (u : fm) (hc : fm_cl S u0 u) : fm_tp (fun p => fm_cl S u0 p.2) (jF63_81 x1 x2 x3 u) := by
  unfold jF63_81
  refine tp_ite (fun c91 => ?_) (fun c91 => ?_)
  have w_1 := i_lo (fI u 219 1)
  have w_2 := i_hi (fI u 219 1)
  have w_1 := i_lo x2
  have w_2 := i_hi x2
  try have e_5 := i_sub (a := (fI u 219 1)) (b := x2) (by omega) (by omega)
  have l_0 : (0 : Int32).toInt = 0 := rfl
  have d_c91 := i_eq c91
  refine tp_let (fun p1 ep1 => ?_)
  have hc : fm_cl S u0 p1 := ep1 ▸ jT69 hS  hc
  exact tp_some hc
  have w_1 := i_lo (fI u 219 1)
  have w_2 := i_hi (fI u 219 1)
  have w_1 := i_lo x2
  have w_2 := i_hi x2
  try have e_6 := i_sub (a := (fI u 219 1)) (b := x2) (by omega) (by omega)
  have l_0 : (0 : Int32).toInt = 0 := rfl
  have d_c91 := i_ne c91
  refine tp_ite (fun c98 => ?_) (fun c98 => ?_)
  have l_9 : (9 : Int32).toInt = 9 := rfl
  have w_1 := i_lo (fI u 219 1)
  have w_2 := i_hi (fI u 219 1)
  have w_1 := i_lo x2
  have w_2 := i_hi x2
  try have e_3 := i_sub (a := (fI u 219 1)) (b := x2) (by omega) (by omega)
  have d_c98 := i_lt c98
  have h_c98 := i_hi ((fI u 219 1) - x2)
  refine tp_let (fun p2 ep2 => ?_)
  have hc : fm_cl S u0 p2 := ep2 ▸ jT69 hS  hc
  exact tp_some hc
  have l_9 : (9 : Int32).toInt = 9 := rfl
  have w_1 := i_lo (fI u 219 1)
  have w_2 := i_hi (fI u 219 1)
  have w_1 := i_lo x2
  have w_2 := i_hi x2
  try have e_4 := i_sub (a := (fI u 219 1)) (b := x2) (by omega) (by omega)
  have d_c98 := i_nlt c98
  refine tp_ite (fun c103 => ?_) (fun c103 => ?_)
  have d_c103 := i_lt c103
  have h_c103 := i_hi x3
  refine tp_let (fun p3 ep3 => ?_)
  have hc : fm_cl S u0 p3 := ep3 ▸ jT69 hS  hc
  exact tp_some hc
  have d_c103 := i_nlt c103
  refine tp_ite (fun c109 => ?_) (fun c109 => ?_)
  have l_1 : (1 : Int32).toInt = 1 := rfl
  have w_1 := i_lo (fI u 219 1)
  have w_2 := i_hi (fI u 219 1)
  have w_1 := i_lo x2
  have w_2 := i_hi x2
  try have e_1 := i_sub (a := (fI u 219 1)) (b := x2) (by omega) (by omega)
  have d_c109 := i_lt c109
  have h_c109 := i_hi ((fI u 219 1) - x2)
  refine tp_bind (jT72 ⟨t_213, t_214⟩) (fun p4 ep4 _ => ?_)
  refine tp_ite (fun c122 => ?_) (fun c122 => ?_)
  have l_48 : (48 : Int32).toInt = 48 := rfl
  have d_c122 := i_eq c122
  refine tp_let (fun p5 ep5 => ?_)
  have hc : fm_cl S u0 p5 := ep5 ▸ jT69 hS  hc
  exact tp_some hc
  have l_48 : (48 : Int32).toInt = 48 := rfl
  have d_c122 := i_ne c122
  exact tp_some hc
  have l_1 : (1 : Int32).toInt = 1 := rfl
  have w_1 := i_lo (fI u 219 1)
  have w_2 := i_hi (fI u 219 1)
  have w_1 := i_lo x2
  have w_2 := i_hi x2
  try have e_2 := i_sub (a := (fI u 219 1)) (b := x2) (by omega) (by omega)
  have d_c109 := i_nlt c109
  exact tp_some hc
theorem jT63_10 {S : Nat → Nat → Prop} (hS : fm_sub S) {u0 : fm} : ∀ (n : Nat) (x1 : Int32) (x2 : Int32) (x3 : Int32) (x4 : Int32) (u : fm) (hm : 2147483648 - x4.toInt < (n : Int)) (hp : 0 < (n : Int)) (hc : fm_cl S u0 u), fm_tp (fun p => fm_cl S u0 p.2) (jF63_10 n x1 x2 x3 x4 u) := by
  intro n
  induction n with
  | zero =>
    intro x1 x2 x3 x4 u hm hp hc
    omega
  | succ n ih =>
  intro x1 x2 x3 x4 u hm hp hc
  unfold jF63_10
  have z_1 : ((n + 1 : Nat) : Int) = (n : Int) + 1 := by omega
  refine tp_ite (fun c16 => ?_) (fun c16 => ?_)
  have d_c16 := i_lt c16
  have h_c16 := i_hi (fI u 219 2)
  refine tp_bind (jT68) (fun p6 ep6 _ => ?_)
  refine tp_ite (fun c25 => ?_) (fun c25 => ?_)
  have l_48 : (48 : Int32).toInt = 48 := rfl
  have d_c25 := i_lt c25
  exact jT63_81 hS x1 x2 x3 u hc
  have l_48 : (48 : Int32).toInt = 48 := rfl
  have d_c25 := i_nlt c25
  refine tp_bind (jT68) (fun p7 ep7 _ => ?_)
  refine tp_ite (fun c34 => ?_) (fun c34 => ?_)
  have l_57 : (57 : Int32).toInt = 57 := rfl
  have d_c34 := i_lt c34
  have h_c34 := i_hi p7
  exact jT63_81 hS x1 x2 x3 u hc
  have l_57 : (57 : Int32).toInt = 57 := rfl
  have d_c34 := i_nlt c34
  refine tp_ite (fun c45 => ?_) (fun c45 => ?_)
  have w_1 := i_lo (fI u 219 1)
  have w_2 := i_hi (fI u 219 1)
  have w_1 := i_lo x2
  have w_2 := i_hi x2
  try have e_12 := i_sub (a := (fI u 219 1)) (b := x2) (by omega) (by omega)
  have l_9 : (9 : Int32).toInt = 9 := rfl
  have d_c45 := i_lt c45
  refine tp_bind (jT68) (fun p9 ep9 _ => ?_)
  refine tp_let (fun u10 eu10 => ?_)
  have hc : fm_cl S u0 u10 := eu10 ▸ fm_cl_w hS hc t_219 (by decide)
  have l_10 : (10 : Int32).toInt = 10 := rfl
  have w_1 := i_lo x3
  have w_2 := i_hi x3
  try have e_8 := i_mull (a := 10) (b := x3) (k := 10) rfl (by omega) (by omega)
  have w_1 := i_lo p9
  have w_2 := i_hi p9
  try have e_9 := i_add (a := (10 * x3)) (b := p9) (by omega) (by omega)
  have l_48 : (48 : Int32).toInt = 48 := rfl
  try have e_10 := i_sub (a := ((10 * x3) + p9)) (b := 48) (by omega) (by omega)
  have w_1 := i_lo x4
  have w_2 := i_hi x4
  have l_1 : (1 : Int32).toInt = 1 := rfl
  try have e_11 := i_add (a := x4) (b := 1) (by omega) (by omega)
  have b_1 := i_lo x1
  have b_2 := i_hi x1
  have b_1 := i_lo x2
  have b_2 := i_hi x2
  have b_1 := i_lo (((10 * x3) + p9) - 48)
  have b_2 := i_hi (((10 * x3) + p9) - 48)
  have b_1 := i_lo (x4 + 1)
  have b_2 := i_hi (x4 + 1)
  exact ih x1 x2 (((10 * x3) + p9) - 48) (x4 + 1) u10 (by omega) (by omega) hc
  have w_1 := i_lo (fI u 219 1)
  have w_2 := i_hi (fI u 219 1)
  have w_1 := i_lo x2
  have w_2 := i_hi x2
  try have e_13 := i_sub (a := (fI u 219 1)) (b := x2) (by omega) (by omega)
  have l_9 : (9 : Int32).toInt = 9 := rfl
  have d_c45 := i_nlt c45
  refine tp_let (fun u8 eu8 => ?_)
  have hc : fm_cl S u0 u8 := eu8 ▸ fm_cl_w hS hc t_219 (by decide)
  have w_1 := i_lo x4
  have w_2 := i_hi x4
  have l_1 : (1 : Int32).toInt = 1 := rfl
  try have e_7 := i_add (a := x4) (b := 1) (by omega) (by omega)
  have b_1 := i_lo x1
  have b_2 := i_hi x1
  have b_1 := i_lo x2
  have b_2 := i_hi x2
  have b_1 := i_lo x3
  have b_2 := i_hi x3
  have b_1 := i_lo (x4 + 1)
  have b_2 := i_hi (x4 + 1)
  exact ih x1 x2 x3 (x4 + 1) u8 (by omega) (by omega) hc
  have d_c16 := i_nlt c16
  exact jT63_81 hS x1 x2 x3 u hc
theorem jT63 {S : Nat → Nat → Prop} (hS : fm_sub S) {x1 : Int32} {u0 u : fm} (hc : fm_cl S u0 u) : fm_tp (fun p => fm_cl S u0 p.2) (jF63 x1 u) := by
  unfold jF63
  have l_0 : (0 : Int32).toInt = 0 := rfl
  have l_0 : (0 : Int32).toInt = 0 := rfl
  have b_1 := i_lo x1
  have b_2 := i_hi x1
  have b_1 := i_lo (fI u 219 1)
  have b_2 := i_hi (fI u 219 1)
  have k_N : ((fm_N : Nat) : Int) = 4294967296 := rfl
  exact jT63_10 hS fm_N x1 (fI u 219 1) 0 0 u (by omega) (by omega) hc
/-- CallAgents$Reader readToTag -/
theorem jT57_15 {S : Nat → Nat → Prop} (hS : fm_sub S) {u0 : fm} (a1 : Nat) (s1 : Int32) (u : fm) (h1 : fm_isM a1) (hc : fm_cl S u0 u) : fm_tp (fun p => fm_cl S u0 p) (jF57_15 a1 s1 u) := by
  unfold jF57_15
  refine tp_let (fun u2 eu2 => ?_)
  have hc : fm_cl S u0 u2 := eu2 ▸ fm_cl_w hS hc h1.1 (by decide)
  refine tp_let (fun u3 eu3 => ?_)
  have hc : fm_cl S u0 u3 := eu3 ▸ fm_cl_w hS hc h1.1 (by decide)
  refine tp_ite (fun c27 => ?_) (fun c27 => ?_)
  exact tp_some hc
  refine tp_bind (jT64 hS ⟨by decide, by decide⟩ hc) (fun p4 ep4 hc => ?_)
  refine tp_bind (jT63 hS  hc) (fun p5 ep5 hc => ?_)
  refine tp_let (fun u6 eu6 => ?_)
  have hc : fm_cl S u0 u6 := eu6 ▸ fm_cl_w hS hc h1.1 (by decide)
  exact tp_some hc
theorem jT57 {S : Nat → Nat → Prop} (hS : fm_sub S) {a1 : Nat} {u0 u : fm} (h1 : fm_isM a1) (hc : fm_cl S u0 u) : fm_tp (fun p => fm_cl S u0 p) (jF57 a1 u) := by
  unfold jF57
  refine tp_bind (jT68) (fun p1 ep1 _ => ?_)
  refine tp_ite (fun c7 => ?_) (fun c7 => ?_)
  have l_0 : (0 : Int32).toInt = 0 := rfl
  exact jT57_15 hS a1 0 u h1 hc
  have l_1 : (1 : Int32).toInt = 1 := rfl
  exact jT57_15 hS a1 1 u h1 hc
/-- CallAgents$Reader readCSeq -/
theorem jT58 {S : Nat → Nat → Prop} (hS : fm_sub S) {a1 : Nat} {u0 u : fm} (h1 : fm_isM a1) (hc : fm_cl S u0 u) : fm_tp (fun p => fm_cl S u0 p) (jF58 a1 u) := by
  unfold jF58
  refine tp_bind (jT63 hS  hc) (fun p1 ep1 hc => ?_)
  refine tp_let (fun u2 eu2 => ?_)
  have hc : fm_cl S u0 u2 := eu2 ▸ fm_cl_w hS hc h1.1 (by decide)
  refine tp_bind (jT65 hS  hc) (fun p3 ep3 hc => ?_)
  refine tp_bind (jT66 hS (by decide) hc) (fun p4 ep4 hc => ?_)
  refine tp_let (fun u5 eu5 => ?_)
  have hc : fm_cl S u0 u5 := eu5 ▸ fm_cl_w hS hc h1.1 (by decide)
  refine tp_ite (fun c37 => ?_) (fun c37 => ?_)
  exact tp_some hc
  refine tp_ite (fun c48 => ?_) (fun c48 => ?_)
  exact tp_some hc
  refine tp_let (fun p7 ep7 => ?_)
  have hc : fm_cl S u0 p7 := ep7 ▸ jT69 hS  hc
  exact tp_some hc
/-- CallAgents$Reader readHeader -/
theorem jT56_33 {S : Nat → Nat → Prop} (hS : fm_sub S) {u0 : fm} (a1 : Nat) (x4 : Int32) (x5 : Int32) (u : fm) (h1 : fm_isM a1) (hc : fm_cl S u0 u) : fm_tp (fun p => fm_cl S u0 p.2) (jF56_33 a1 x4 x5 u) := by
  unfold jF56_33
  refine tp_ite (fun w38_7 => ?_) (fun w38_7 => ?_)
  refine tp_bind (jT64 hS ⟨by decide, by decide⟩ hc) (fun p2 ep2 hc => ?_)
  refine tp_bind (jT61 hS  hc) (fun p3 ep3 hc => ?_)
  refine tp_let (fun u4 eu4 => ?_)
  have hc : fm_cl S u0 u4 := eu4 ▸ fm_cl_w hS hc h1.1 (by decide)
  refine tp_bind (jT64 hS ⟨by decide, by decide⟩ hc) (fun p5 ep5 hc => ?_)
  refine tp_bind (jT63 hS  hc) (fun p6 ep6 hc => ?_)
  refine tp_let (fun u7 eu7 => ?_)
  have hc : fm_cl S u0 u7 := eu7 ▸ fm_cl_w hS hc h1.1 (by decide)
  exact tp_some hc
  refine tp_ite (fun w38_8 => ?_) (fun w38_8 => ?_)
  refine tp_bind (jT64 hS ⟨by decide, by decide⟩ hc) (fun p8 ep8 hc => ?_)
  refine tp_bind (jT61 hS  hc) (fun p9 ep9 hc => ?_)
  refine tp_let (fun u10 eu10 => ?_)
  have hc : fm_cl S u0 u10 := eu10 ▸ fm_cl_w hS hc h1.1 (by decide)
  refine tp_bind (jT64 hS ⟨by decide, by decide⟩ hc) (fun p11 ep11 hc => ?_)
  refine tp_bind (jT63 hS  hc) (fun p12 ep12 hc => ?_)
  refine tp_let (fun u13 eu13 => ?_)
  have hc : fm_cl S u0 u13 := eu13 ▸ fm_cl_w hS hc h1.1 (by decide)
  exact tp_some hc
  refine tp_ite (fun w38_9 => ?_) (fun w38_9 => ?_)
  refine tp_bind (jT64 hS ⟨by decide, by decide⟩ hc) (fun p14 ep14 hc => ?_)
  refine tp_bind (jT61 hS  hc) (fun p15 ep15 hc => ?_)
  refine tp_let (fun u16 eu16 => ?_)
  have hc : fm_cl S u0 u16 := eu16 ▸ fm_cl_w hS hc h1.1 (by decide)
  refine tp_bind (jT64 hS ⟨by decide, by decide⟩ hc) (fun p17 ep17 hc => ?_)
  refine tp_bind (jT57 hS h1 hc) (fun p18 ep18 hc => ?_)
  exact tp_some hc
  refine tp_ite (fun w38_10 => ?_) (fun w38_10 => ?_)
  refine tp_bind (jT63 hS  hc) (fun p19 ep19 hc => ?_)
  refine tp_let (fun u20 eu20 => ?_)
  have hc : fm_cl S u0 u20 := eu20 ▸ fm_cl_w hS hc h1.1 (by decide)
  exact tp_some hc
  refine tp_ite (fun w38_11 => ?_) (fun w38_11 => ?_)
  refine tp_bind (jT58 hS h1 hc) (fun p21 ep21 hc => ?_)
  exact tp_some hc
  refine tp_bind (jT63 hS  hc) (fun p22 ep22 hc => ?_)
  refine tp_let (fun u23 eu23 => ?_)
  have hc : fm_cl S u0 u23 := eu23 ▸ fm_cl_w hS hc t_219 (by decide)
  exact tp_some hc
theorem jT56 {S : Nat → Nat → Prop} (hS : fm_sub S) {a1 : Nat} {x2 : Int32} {u0 u : fm} (h1 : fm_isM a1) (hc : fm_cl S u0 u) : fm_tp (fun p => fm_cl S u0 p.2) (jF56 a1 x2 u) := by
  unfold jF56
  refine tp_bind (jT66 hS (by decide) hc) (fun p1 ep1 hc => ?_)
  refine tp_ite (fun c25 => ?_) (fun c25 => ?_)
  exact jT56_33 hS a1 p1.1 (fm_shl 1 p1.1) p1.2 h1 hc
  refine tp_let (fun p24 ep24 => ?_)
  have hc : fm_cl S u0 p24 := ep24 ▸ jT69 hS  hc
  exact jT56_33 hS a1 p1.1 (fm_shl 1 p1.1) p24 h1 hc
/-- CallAgents$Reader readLine -/
theorem jT60_35 {S : Nat → Nat → Prop} (hS : fm_sub S) {u0 : fm} : ∀ (n : Nat) (a1 : Nat) (x2 : Int32) (u : fm) (h1 : fm_isD a1) (n_a1 : ¬ S a1 1) (hm : 2147483648 - x2.toInt < (n : Int)) (hp : 0 < (n : Int)) (hc : fm_cl S u0 u), fm_tp (fun p => fm_cl S u0 p) (jF60_35 n a1 x2 u) := by
  intro n
  induction n with
  | zero =>
    intro a1 x2 u h1 n_a1 hm hp hc
    omega
  | succ n ih =>
  intro a1 x2 u h1 n_a1 hm hp hc
  unfold jF60_35
  have z_1 : ((n + 1 : Nat) : Int) = (n : Int) + 1 := by omega
  refine tp_ite (fun c38 => ?_) (fun c38 => ?_)
  have l_8 : (8 : Int32).toInt = 8 := rfl
  have d_c38 := i_lt c38
  refine tp_bind (jT68) (fun p9 ep9 _ => ?_)
  refine tp_ite (fun c47 => ?_) (fun c47 => ?_)
  have l_32 : (32 : Int32).toInt = 32 := rfl
  have d_c47 := i_eq c47
  refine tp_bind (jT65 hS  hc) (fun p11 ep11 hc => ?_)
  refine tp_bind (jT62 hS  hc) (fun p12 ep12 hc => ?_)
  refine tp_bind (jT36 hS h1 hc) (fun p13 ep13 hc => ?_)
  have w_1 := i_lo x2
  have w_2 := i_hi x2
  have l_1 : (1 : Int32).toInt = 1 := rfl
  try have e_1 := i_add (a := x2) (b := 1) (by omega) (by omega)
  have b_1 := i_lo (x2 + 1)
  have b_2 := i_hi (x2 + 1)
  exact ih a1 (x2 + 1) p13 h1 n_a1 (by omega) (by omega) hc
  have l_32 : (32 : Int32).toInt = 32 := rfl
  have d_c47 := i_ne c47
  refine tp_bind (jT65 hS  hc) (fun p10 ep10 hc => ?_)
  exact tp_some hc
  have l_8 : (8 : Int32).toInt = 8 := rfl
  have d_c38 := i_nlt c38
  refine tp_bind (jT65 hS  hc) (fun p8 ep8 hc => ?_)
  exact tp_some hc
theorem jT60 {S : Nat → Nat → Prop} (hS : fm_sub S) {a1 : Nat} {u0 u : fm} (h1 : fm_isD a1) (n_a1 : ¬ S a1 1) (hc : fm_cl S u0 u) : fm_tp (fun p => fm_cl S u0 p) (jF60 a1 u) := by
  unfold jF60
  refine tp_bind (jT64 hS ⟨by decide, by decide⟩ hc) (fun p1 ep1 hc => ?_)
  refine tp_bind (jT63 hS  hc) (fun p2 ep2 hc => ?_)
  refine tp_bind (jT35 hS h1 n_a1 hc) (fun p3 ep3 hc => ?_)
  refine tp_bind (jT65 hS  hc) (fun p5 ep5 hc => ?_)
  refine tp_bind (jT62 hS  hc) (fun p6 ep6 hc => ?_)
  refine tp_bind (jT36 hS h1 hc) (fun p7 ep7 hc => ?_)
  have l_1 : (1 : Int32).toInt = 1 := rfl
  have k_N : ((fm_N : Nat) : Int) = 4294967296 := rfl
  exact jT60_35 hS fm_N a1 1 p7 h1 n_a1 (by omega) (by omega) hc
/-- CallAgents$Reader readBody -/
theorem jT59_59 {S : Nat → Nat → Prop} (hS : fm_sub S) {u0 : fm} (x2 : Int32) (u : fm) (hc : fm_cl S u0 u) : fm_tp (fun p => fm_cl S u0 p) (jF59_59 x2 u) := by
  unfold jF59_59
  refine tp_ite (fun c64 => ?_) (fun c64 => ?_)
  have d_c64 := i_lt c64
  have h_c64 := i_hi x2
  refine tp_let (fun p3 ep3 => ?_)
  have hc : fm_cl S u0 p3 := ep3 ▸ jT69 hS  hc
  exact tp_some hc
  have d_c64 := i_nlt c64
  refine tp_ite (fun c78 => ?_) (fun c78 => ?_)
  have d_c78 := i_lt c78
  have h_c78 := i_hi (fI u 213 1)
  refine tp_let (fun p4 ep4 => ?_)
  have hc : fm_cl S u0 p4 := ep4 ▸ jT69 hS  hc
  exact tp_some hc
  have d_c78 := i_nlt c78
  exact tp_some hc
theorem jT59_28 {S : Nat → Nat → Prop} (hS : fm_sub S) {u0 : fm} : ∀ (n : Nat) (a1 : Nat) (x2 : Int32) (x3 : Int32) (u : fm) (h1 : fm_isD a1) (n_a1 : ¬ S a1 1) (hm : 2147483648 - x3.toInt < (n : Int)) (hp : 0 < (n : Int)) (hc : fm_cl S u0 u), fm_tp (fun p => fm_cl S u0 p) (jF59_28 n a1 x2 x3 u) := by
  intro n
  induction n with
  | zero =>
    intro a1 x2 x3 u h1 n_a1 hm hp hc
    omega
  | succ n ih =>
  intro a1 x2 x3 u h1 n_a1 hm hp hc
  unfold jF59_28
  have z_1 : ((n + 1 : Nat) : Int) = (n : Int) + 1 := by omega
  refine tp_ite (fun c30 => ?_) (fun c30 => ?_)
  have l_3 : (3 : Int32).toInt = 3 := rfl
  have d_c30 := i_lt c30
  refine tp_ite (fun c38 => ?_) (fun c38 => ?_)
  have d_c38 := i_lt c38
  have h_c38 := i_hi x2
  refine tp_ite (fun c45 => ?_) (fun c45 => ?_)
  have l_0 : (0 : Int32).toInt = 0 := rfl
  have d_c45 := i_lt c45
  refine tp_bind (jT60 hS h1 n_a1 hc) (fun p5 ep5 hc => ?_)
  have w_1 := i_lo x3
  have w_2 := i_hi x3
  have l_1 : (1 : Int32).toInt = 1 := rfl
  try have e_1 := i_add (a := x3) (b := 1) (by omega) (by omega)
  have b_1 := i_lo x2
  have b_2 := i_hi x2
  have b_1 := i_lo (x3 + 1)
  have b_2 := i_hi (x3 + 1)
  exact ih a1 x2 (x3 + 1) p5 h1 n_a1 (by omega) (by omega) hc
  have l_0 : (0 : Int32).toInt = 0 := rfl
  have d_c45 := i_nlt c45
  exact jT59_59 hS x2 u hc
  have d_c38 := i_nlt c38
  exact jT59_59 hS x2 u hc
  have l_3 : (3 : Int32).toInt = 3 := rfl
  have d_c30 := i_nlt c30
  exact jT59_59 hS x2 u hc
theorem jT59 {S : Nat → Nat → Prop} (hS : fm_sub S) {a1 : Nat} {u0 u : fm} (h1 : fm_isD a1) (n_a1 : ¬ S a1 1) (hc : fm_cl S u0 u) : fm_tp (fun p => fm_cl S u0 p) (jF59 a1 u) := by
  unfold jF59
  refine tp_let (fun p1 ep1 => ?_)
  have hc : fm_cl S u0 p1 := ep1 ▸ jT38 hS h1 n_a1 hc
  refine tp_let (fun u2 eu2 => ?_)
  have hc : fm_cl S u0 u2 := eu2 ▸ fm_cl_w hS hc t_219 (by decide)
  have w_1 := i_lo (fI u 219 1)
  have w_2 := i_hi (fI u 219 1)
  have w_1 := i_lo (fI u 219 4)
  have w_2 := i_hi (fI u 219 4)
  try have e_2 := i_add (a := (fI u 219 1)) (b := (fI u 219 4)) (by omega) (by omega)
  have l_0 : (0 : Int32).toInt = 0 := rfl
  have b_1 := i_lo ((fI u 219 1) + (fI u 219 4))
  have b_2 := i_hi ((fI u 219 1) + (fI u 219 4))
  have k_N : ((fm_N : Nat) : Int) = 4294967296 := rfl
  exact jT59_28 hS fm_N a1 ((fI u 219 1) + (fI u 219 4)) 0 u2 h1 n_a1 (by omega) (by omega) hc
/-- CallAgents$Reader read -/
theorem jT54_36 {S : Nat → Nat → Prop} (hS : fm_sub S) {u0 : fm} : ∀ (n : Nat) (a1 : Nat) (x2 : Int32) (x3 : Int32) (u : fm) (h1 : fm_isM a1) (hm : 2147483648 - x3.toInt < (n : Int)) (hp : 0 < (n : Int)) (hc : fm_cl S u0 u), fm_tp (fun p => fm_cl S u0 p.2) (jF54_36 n a1 x2 x3 u) := by
  intro n
  induction n with
  | zero =>
    intro a1 x2 x3 u h1 hm hp hc
    omega
  | succ n ih =>
  intro a1 x2 x3 u h1 hm hp hc
  unfold jF54_36
  have z_1 : ((n + 1 : Nat) : Int) = (n : Int) + 1 := by omega
  refine tp_ite (fun c39 => ?_) (fun c39 => ?_)
  have l_12 : (12 : Int32).toInt = 12 := rfl
  have d_c39 := i_lt c39
  have h_c39 := i_hi x3
  refine tp_bind (jT65 hS  hc) (fun p6 ep6 hc => ?_)
  refine tp_bind (jT59 hS ⟨h1.2.1, h1.2.2⟩ (fm_M_n hS h1) hc) (fun p7 ep7 hc => ?_)
  exact tp_some hc
  have l_12 : (12 : Int32).toInt = 12 := rfl
  have d_c39 := i_nlt c39
  refine tp_ite (fun c46 => ?_) (fun c46 => ?_)
  have l_0 : (0 : Int32).toInt = 0 := rfl
  have d_c46 := i_lt c46
  refine tp_bind (jT56 hS h1 hc) (fun p10 ep10 hc => ?_)
  refine tp_bind (jT65 hS  hc) (fun p11 ep11 hc => ?_)
  have w_1 := i_lo x3
  have w_2 := i_hi x3
  have l_1 : (1 : Int32).toInt = 1 := rfl
  try have e_1 := i_add (a := x3) (b := 1) (by omega) (by omega)
  have b_1 := i_lo (x2 ||| p10.1)
  have b_2 := i_hi (x2 ||| p10.1)
  have b_1 := i_lo (x3 + 1)
  have b_2 := i_hi (x3 + 1)
  exact ih a1 (x2 ||| p10.1) (x3 + 1) p11 h1 (by omega) (by omega) hc
  have l_0 : (0 : Int32).toInt = 0 := rfl
  have d_c46 := i_nlt c46
  refine tp_bind (jT65 hS  hc) (fun p8 ep8 hc => ?_)
  refine tp_bind (jT59 hS ⟨h1.2.1, h1.2.2⟩ (fm_M_n hS h1) hc) (fun p9 ep9 hc => ?_)
  exact tp_some hc
theorem jT54 {S : Nat → Nat → Prop} (hS : fm_sub S) {a1 : Nat} {u0 u : fm} (h1 : fm_isM a1) (hc : fm_cl S u0 u) : fm_tp (fun p => fm_cl S u0 p.2) (jF54 a1 u) := by
  unfold jF54
  refine tp_let (fun u1 eu1 => ?_)
  have hc : fm_cl S u0 u1 := eu1 ▸ fm_cl_w hS hc t_219 (by decide)
  refine tp_let (fun u2 eu2 => ?_)
  have hc : fm_cl S u0 u2 := eu2 ▸ fm_cl_w hS hc t_219 (by decide)
  refine tp_let (fun u3 eu3 => ?_)
  have hc : fm_cl S u0 u3 := eu3 ▸ fm_cl_w hS hc t_219 (by decide)
  refine tp_let (fun u4 eu4 => ?_)
  have hc : fm_cl S u0 u4 := eu4 ▸ fm_cl_w hS hc t_219 (by decide)
  refine tp_bind (jT55 hS h1 hc) (fun p5 ep5 hc => ?_)
  have l_0 : (0 : Int32).toInt = 0 := rfl
  have l_7 : (7 : Int32).toInt = 7 := rfl
  have k_N : ((fm_N : Nat) : Int) = 4294967296 := rfl
  exact jT54_36 hS fm_N a1 0 7 p5 h1 (by omega) (by omega) hc
/-- CallAgents media -/
theorem jT86 {S : Nat → Nat → Prop} (hS : fm_sub S) {x1 : Int32} {x2 : Int32} {x3 : Int32} {u0 u : fm} (n_184 : ¬ S 184 1) (n_199 : ¬ S 199 1) (hc : fm_cl S u0 u) : fm_tp (fun p => fm_cl S u0 p.2) (jF86 x1 x2 x3 u) := by
  unfold jF86
  refine tp_opt (fun eq1 => ?_) (fun q1 eq1 => ?_)
  exact tp_some hc
  have hq1 := jP101 eq1
  refine tp_ite (fun c14 => ?_) (fun c14 => ?_)
  exact tp_some hc
  refine tp_ite (fun c20 => ?_) (fun c20 => ?_)
  exact tp_some hc
  refine tp_ite (fun c25 => ?_) (fun c25 => ?_)
  exact tp_some hc
  refine tp_ite (fun c32 => ?_) (fun c32 => ?_)
  exact tp_some hc
  refine tp_bind (jT37 hS ⟨hq1.2.1, hq1.2.2.1⟩ (fm_A_n1 hq1 n_184 n_199) hc) (fun p2 ep2 hc => ?_)
  refine tp_ite (fun c47 => ?_) (fun c47 => ?_)
  exact tp_some hc
  exact tp_some hc
/-- CallAgents invite -/
theorem jT87 {S : Nat → Nat → Prop} (hS : fm_sub S) {x1 : Int32} {u0 u : fm} (hc : fm_cl S u0 u) : fm_tp (fun p => fm_cl S u0 p.2) (jF87 x1 u) := by
  unfold jF87
  refine tp_opt (fun eq1 => ?_) (fun q1 eq1 => ?_)
  exact tp_some hc
  have hq1 := jP101 eq1
  refine tp_bind (jT2 hS hq1 hc) (fun p2 ep2 hc => ?_)
  refine tp_ite (fun c18 => ?_) (fun c18 => ?_)
  exact tp_some hc
  exact tp_some hc
/-- CallAgents accept -/
theorem jT88 {S : Nat → Nat → Prop} (hS : fm_sub S) {x1 : Int32} {u0 u : fm} (hc : fm_cl S u0 u) : fm_tp (fun p => fm_cl S u0 p.2) (jF88 x1 u) := by
  unfold jF88
  refine tp_opt (fun eq1 => ?_) (fun q1 eq1 => ?_)
  exact tp_some hc
  have hq1 := jP101 eq1
  refine tp_bind (jT3 hS hq1 hc) (fun p2 ep2 hc => ?_)
  refine tp_ite (fun c18 => ?_) (fun c18 => ?_)
  exact tp_some hc
  exact tp_some hc
/-- CallAgents refuse -/
theorem jT89 {S : Nat → Nat → Prop} (hS : fm_sub S) {x1 : Int32} {u0 u : fm} (hc : fm_cl S u0 u) : fm_tp (fun p => fm_cl S u0 p.2) (jF89 x1 u) := by
  unfold jF89
  refine tp_opt (fun eq1 => ?_) (fun q1 eq1 => ?_)
  exact tp_some hc
  have hq1 := jP101 eq1
  refine tp_bind (jT4 hS hq1 hc) (fun p2 ep2 hc => ?_)
  refine tp_ite (fun c18 => ?_) (fun c18 => ?_)
  exact tp_some hc
  exact tp_some hc
/-- CallAgents hang -/
theorem jT90 {S : Nat → Nat → Prop} (hS : fm_sub S) {x1 : Int32} {u0 u : fm} (hc : fm_cl S u0 u) : fm_tp (fun p => fm_cl S u0 p.2) (jF90 x1 u) := by
  unfold jF90
  refine tp_opt (fun eq1 => ?_) (fun q1 eq1 => ?_)
  exact tp_some hc
  have hq1 := jP101 eq1
  refine tp_bind (jT5 hS hq1 hc) (fun p2 ep2 hc => ?_)
  refine tp_ite (fun c18 => ?_) (fun c18 => ?_)
  exact tp_some hc
  exact tp_some hc
/-- CallAgents receiverOf -/
theorem jT102 {S : Nat → Nat → Prop} (hS : fm_sub S) {x1 : Int32} {u0 u : fm} (hc : fm_cl S u0 u) : fm_tp (fun p => fm_cl S u0 p.2) (jF102 x1 u) := by
  unfold jF102
  refine tp_bind (jT30) (fun p1 ep1 _ => ?_)
  refine tp_opt (fun eq2 => ?_) (fun q2 eq2 => ?_)
  exact tp_some hc
  have hq2 := jP30 ep1 eq2
  have r_q2 := jP30i ep1 eq2
  refine tp_bind (jT47 hS ⟨t_220, t_221, t_222⟩ (fm_isL_M hq2) hc) (fun p3 ep3 hc => ?_)
  refine tp_opt (fun eq4 => ?_) (fun q4 eq4 => ?_)
  exact tp_some hc
  have hq4 := jP101 eq4
  exact tp_some hc
/-- CallAgents bring -/
theorem jT91 {S : Nat → Nat → Prop} (hS : fm_sub S) {x1 : Int32} {u0 u : fm} (hc : fm_cl S u0 u) : fm_tp (fun p => fm_cl S u0 p.2) (jF91 x1 u) := by
  unfold jF91
  refine tp_bind (jT102 hS  hc) (fun p1 ep1 hc => ?_)
  refine tp_opt (fun eq2 => ?_) (fun q2 eq2 => ?_)
  exact tp_some hc
  have hq2 := jP102 ep1 eq2
  refine tp_bind (jT31 hS  hc) (fun p3 ep3 hc => ?_)
  refine tp_bind (jT7 hS hq2 ⟨t_220, t_221, t_222⟩ hc) (fun p5 ep5 hc => ?_)
  exact tp_some hc
/-- CallAgents twice -/
theorem jT92 {S : Nat → Nat → Prop} (hS : fm_sub S) {x1 : Int32} {u0 u : fm} (hc : fm_cl S u0 u) : fm_tp (fun p => fm_cl S u0 p.2) (jF92 x1 u) := by
  unfold jF92
  refine tp_bind (jT102 hS  hc) (fun p1 ep1 hc => ?_)
  refine tp_opt (fun eq2 => ?_) (fun q2 eq2 => ?_)
  exact tp_some hc
  have hq2 := jP102 ep1 eq2
  refine tp_bind (jT7 hS hq2 ⟨t_220, t_221, t_222⟩ hc) (fun p3 ep3 hc => ?_)
  exact tp_some hc
/-- CallAgents lose -/
theorem jT93 {S : Nat → Nat → Prop} (hS : fm_sub S) {x1 : Int32} {u0 u : fm} (hc : fm_cl S u0 u) : fm_tp (fun p => fm_cl S u0 p.2) (jF93 x1 u) := by
  unfold jF93
  refine tp_bind (jT31 hS  hc) (fun p1 ep1 hc => ?_)
  refine tp_ite (fun c8 => ?_) (fun c8 => ?_)
  exact tp_some hc
  exact tp_some hc
/-- CallAgents sign -/
theorem jT95 {S : Nat → Nat → Prop} (hS : fm_sub S) {x1 : Int32} {x2 : Int32} {u0 u : fm} (hc : fm_cl S u0 u) : fm_tp (fun p => fm_cl S u0 p.2) (jF95 x1 x2 u) := by
  unfold jF95
  refine tp_bind (jT30) (fun p1 ep1 _ => ?_)
  refine tp_opt (fun eq2 => ?_) (fun q2 eq2 => ?_)
  exact tp_some hc
  have hq2 := jP30 ep1 eq2
  have r_q2 := jP30i ep1 eq2
  refine tp_bind (jT50 hS (fm_isL_M hq2) ⟨t_215, t_216⟩ ⟨t_217, t_218⟩ (fm_S_no hS (by unfold fm_PS; decide)) (fm_S_no hS (by unfold fm_PS; decide)) hc) (fun p3 ep3 hc => ?_)
  refine tp_bind (jT72 ⟨t_215, t_216⟩) (fun p4 ep4 _ => ?_)
  exact tp_some hc
/-- CallAgents unit -/
theorem jT96 {S : Nat → Nat → Prop} (hS : fm_sub S) {x1 : Int32} {u0 u : fm} (n_213 : ¬ S 213 1) (hc : fm_cl S u0 u) : fm_tp (fun p => fm_cl S u0 p.2) (jF96 x1 u) := by
  unfold jF96
  refine tp_ite (fun c3 => ?_) (fun c3 => ?_)
  refine tp_bind (jT73 hS ⟨t_213, t_214⟩ n_213 hc) (fun p1 ep1 hc => ?_)
  refine tp_ite (fun c36 => ?_) (fun c36 => ?_)
  exact tp_some hc
  exact tp_some hc
  refine tp_ite (fun c9 => ?_) (fun c9 => ?_)
  exact tp_some hc
  refine tp_ite (fun c15 => ?_) (fun c15 => ?_)
  exact tp_some hc
  refine tp_bind (jT73 hS ⟨t_213, t_214⟩ n_213 hc) (fun p3 ep3 hc => ?_)
  refine tp_ite (fun c36 => ?_) (fun c36 => ?_)
  exact tp_some hc
  exact tp_some hc
/-- CallAgents inject -/
theorem jT97 {S : Nat → Nat → Prop} (hS : fm_sub S) {x1 : Int32} {u0 u : fm} (n_213 : ¬ S 213 1) (hc : fm_cl S u0 u) : fm_tp (fun p => fm_cl S u0 p.2) (jF97 x1 u) := by
  unfold jF97
  refine tp_opt (fun eq1 => ?_) (fun q1 eq1 => ?_)
  exact tp_some hc
  have hq1 := jP101 eq1
  refine tp_bind (jT54 hS ⟨t_220, t_221, t_222⟩ hc) (fun p2 ep2 hc => ?_)
  refine tp_let (fun p3 ep3 => ?_)
  have hc : fm_cl S u0 p3 := ep3 ▸ jT71 hS ⟨t_213, t_214⟩ n_213 hc
  refine tp_ite (fun c33 => ?_) (fun c33 => ?_)
  refine tp_bind (jT7 hS hq1 ⟨t_220, t_221, t_222⟩ hc) (fun p4 ep4 hc => ?_)
  exact tp_some hc
  exact tp_some hc
/-- CallAgents pass -/
theorem jT98_22 {S : Nat → Nat → Prop} (hS : fm_sub S) (n_0 : ¬ S 0 8) {u0 : fm} : ∀ (n : Nat) (x2 : Int32) (x3 : Int32) (u : fm) (hm : 2147483648 - x3.toInt < (n : Int)) (hp : 0 < (n : Int)) (hc : fm_cl S u0 u), fm_tp (fun p => fm_cl S u0 p.2) (jF98_22 n x2 x3 u) := by
  intro n
  induction n with
  | zero =>
    intro x2 x3 u hm hp hc
    omega
  | succ n ih =>
  intro x2 x3 u hm hp hc
  unfold jF98_22
  have z_1 : ((n + 1 : Nat) : Int) = (n : Int) + 1 := by omega
  refine tp_ite (fun c26 => ?_) (fun c26 => ?_)
  have l_1000 : (1000 : Int32).toInt = 1000 := rfl
  have d_c26 := i_lt c26
  refine tp_opt (fun eq2 => ?_) (fun q2 eq2 => ?_)
  refine tp_let (fun u3 eu3 => ?_)
  have hc : fm_cl S u0 u3 := eu3 ▸ fm_cl_w0 hc n_0
  exact tp_some hc
  have hq2 := jP103 eq2
  refine tp_bind (jT6 hS hq2 hc) (fun p4 ep4 hc => ?_)
  have w_1 := i_lo x3
  have w_2 := i_hi x3
  have l_1 : (1 : Int32).toInt = 1 := rfl
  try have e_1 := i_add (a := x3) (b := 1) (by omega) (by omega)
  have b_1 := i_lo x2
  have b_2 := i_hi x2
  have b_1 := i_lo (x3 + 1)
  have b_2 := i_hi (x3 + 1)
  exact ih x2 (x3 + 1) p4 (by omega) (by omega) hc
  have l_1000 : (1000 : Int32).toInt = 1000 := rfl
  have d_c26 := i_nlt c26
  refine tp_let (fun u1 eu1 => ?_)
  have hc : fm_cl S u0 u1 := eu1 ▸ fm_cl_w0 hc n_0
  exact tp_some hc
theorem jT98 {S : Nat → Nat → Prop} (hS : fm_sub S) {x1 : Int32} {u0 u : fm} (n_0 : ¬ S 0 8) (hc : fm_cl S u0 u) : fm_tp (fun p => fm_cl S u0 p.2) (jF98 x1 u) := by
  unfold jF98
  refine tp_ite (fun c2 => ?_) (fun c2 => ?_)
  have l_1 : (1 : Int32).toInt = 1 := rfl
  have d_c2 := i_lt c2
  exact tp_some hc
  have l_1 : (1 : Int32).toInt = 1 := rfl
  have d_c2 := i_nlt c2
  refine tp_ite (fun c8 => ?_) (fun c8 => ?_)
  have l_100000 : (100000 : Int32).toInt = 100000 := rfl
  have d_c8 := i_lt c8
  have h_c8 := i_hi x1
  exact tp_some hc
  have l_100000 : (100000 : Int32).toInt = 100000 := rfl
  have d_c8 := i_nlt c8
  have w_1 := i_lo (fI u 0 8)
  have w_2 := i_hi (fI u 0 8)
  have w_1 := i_lo x1
  have w_2 := i_hi x1
  try have e_2 := i_add (a := (fI u 0 8)) (b := x1) (by omega) (by omega)
  have l_0 : (0 : Int32).toInt = 0 := rfl
  have b_1 := i_lo ((fI u 0 8) + x1)
  have b_2 := i_hi ((fI u 0 8) + x1)
  have k_N : ((fm_N : Nat) : Int) = 4294967296 := rfl
  exact jT98_22 hS n_0 fm_N ((fI u 0 8) + x1) 0 u (by omega) (by omega) hc
/-- CallAgents line -/
theorem jT100 {x1 : Int32} {x2 : Int32} {x3 : Int32} {u : fm} : fm_tp (fun _ => True) (jF100 x1 x2 x3 u) := by
  unfold jF100
  refine tp_opt (fun eq1 => ?_) (fun q1 eq1 => ?_)
  exact tp_some trivial
  have hq1 := jP101 eq1
  refine tp_bind (jT34 ⟨hq1.2.2.2.2.2.2.1, hq1.2.2.2.2.2.2.2.1⟩) (fun p2 ep2 _ => ?_)
  exact tp_some trivial
