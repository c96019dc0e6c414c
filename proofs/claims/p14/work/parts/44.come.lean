set_option maxRecDepth 8000
section MD
variable {s n m : Prop} {B : Int} {W : fm}
/-- comeInvite -/
theorem jT125_234 (x1 : Int32) (u : fm) (p1 : 0 ≤ x1.toInt) (p2 : x1.toInt ≤ 1) (hH : mS u 251 0) (hc : mJ s n m B W u) : fm_tp (fun p => mJ s n m B W p.2) (jF125_234 x1 u) := by
  unfold jF125_234
  have l_0 : (0 : Int32).toInt = 0 := rfl
  refine tp_bind (jT113 (by omega) (by omega) hc) (fun p5 ep5 hp5 => ?_)
  have hc : mJ s n m B W p5.2 := hp5.1
  have hH : mS p5.2 251 0 := mS_H hH hp5.2
  have l_5 : (5 : Int32).toInt = 5 := rfl
  have l_0 : (0 : Int32).toInt = 0 := rfl
  have k_ln : fm_ln 251 = 50 := rfl
  refine tp_bind (jT114 (by omega) (by omega) (by omega) (by omega) hc) (fun p6 ep6 hp6 => ?_)
  have hc : mJ s n m B W p6 := hp6.1
  have hM : mS p6 252 0 := hp6.2.1
  have hH : mS p6 251 0 := mS_same hH hp6.2.2
  have l_0 : (0 : Int32).toInt = 0 := rfl
  have k_ln : fm_ln 252 = 50 := rfl
  refine tp_bind (jT109 (Or.inl rfl) (by omega) (by omega) (by omega) hM hc) (fun p7 ep7 hp7 => ?_)
  have hc : mJ s n m B W p7 := hp7.1
  have hM : mS p7 252 0 := mS_K hM hp7.2
  have hH : mS p7 251 0 := mS_H hH hp7.2
  exact tp_some hc
theorem jT125_198 (x1 : Int32) (x2 : Int32) (s0 : Int32) (u : fm) (p1 : 0 ≤ x1.toInt) (p2 : x1.toInt ≤ 1) (hH : mS u 251 0) (hc : mJ s n m B W u) : fm_tp (fun p => mJ s n m B W p.2) (jF125_198 x1 x2 s0 u) := by
  unfold jF125_198
  have l_0 : (0 : Int32).toInt = 0 := rfl
  refine tp_ite (fun c200 => ?_) (fun c200 => ?_)
  have l_0 : (0 : Int32).toInt = 0 := rfl
  have d_c200 := i_eq c200
  exact jT125_234 x1 u (by omega) (by omega) hH hc
  have l_0 : (0 : Int32).toInt = 0 := rfl
  have d_c200 := i_ne c200
  refine tp_ite (fun c205 => ?_) (fun c205 => ?_)
  have l_5 : (5 : Int32).toInt = 5 := rfl
  have d_c205 := i_eq c205
  have l_50 : (50 : Int32).toInt = 50 := rfl
  have w_1 := i_lo x1
  have w_2 := i_hi x1
  try have e_14 := i_mull (a := 50) (b := x1) (k := 50) rfl (by omega) (by omega)
  have k_ln : fm_ln 244 = 100 := rfl
  refine tp_bind (jT109 (Or.inr (Or.inl rfl)) (by omega) (by omega) (by omega) (mS_244 hc (by omega)) hc) (fun p8 ep8 hp8 => ?_)
  have hc : mJ s n m B W p8 := hp8.1
  have hH : mS p8 251 0 := mS_H hH hp8.2
  exact tp_some hc
  have l_5 : (5 : Int32).toInt = 5 := rfl
  have d_c205 := i_ne c205
  refine tp_ite (fun c211 => ?_) (fun c211 => ?_)
  have l_6 : (6 : Int32).toInt = 6 := rfl
  have d_c211 := i_eq c211
  have l_50 : (50 : Int32).toInt = 50 := rfl
  have w_1 := i_lo x1
  have w_2 := i_hi x1
  try have e_15 := i_mull (a := 50) (b := x1) (k := 50) rfl (by omega) (by omega)
  have k_ln : fm_ln 244 = 100 := rfl
  refine tp_bind (jT109 (Or.inr (Or.inl rfl)) (by omega) (by omega) (by omega) (mS_244 hc (by omega)) hc) (fun p9 ep9 hp9 => ?_)
  have hc : mJ s n m B W p9 := hp9.1
  have hH : mS p9 251 0 := mS_H hH hp9.2
  exact tp_some hc
  have l_6 : (6 : Int32).toInt = 6 := rfl
  have d_c211 := i_ne c211
  refine tp_ite (fun c217 => ?_) (fun c217 => ?_)
  have l_7 : (7 : Int32).toInt = 7 := rfl
  have d_c217 := i_eq c217
  have l_50 : (50 : Int32).toInt = 50 := rfl
  have w_1 := i_lo x1
  have w_2 := i_hi x1
  try have e_16 := i_mull (a := 50) (b := x1) (k := 50) rfl (by omega) (by omega)
  have k_ln : fm_ln 244 = 100 := rfl
  refine tp_bind (jT109 (Or.inr (Or.inl rfl)) (by omega) (by omega) (by omega) (mS_244 hc (by omega)) hc) (fun p10 ep10 hp10 => ?_)
  have hc : mJ s n m B W p10 := hp10.1
  have hH : mS p10 251 0 := mS_H hH hp10.2
  exact tp_some hc
  have l_7 : (7 : Int32).toInt = 7 := rfl
  have d_c217 := i_ne c217
  exact jT125_234 x1 u (by omega) (by omega) hH hc
theorem jT125_197 (x1 : Int32) (x2 : Int32) (u : fm) (p1 : 0 ≤ x1.toInt) (p2 : x1.toInt ≤ 1) (hH : mS u 251 0) (hc : mJ s n m B W u) : fm_tp (fun p => mJ s n m B W p.2) (jF125_197 x1 x2 u) := by
  unfold jF125_197
  have l_0 : (0 : Int32).toInt = 0 := rfl
  have l_0 : (0 : Int32).toInt = 0 := rfl
  exact jT125_198 x1 x2 0 u (by omega) (by omega) hH hc
theorem jT125_88 : ∀ (f : Nat) (x1 : Int32) (x3 : Int32) (u : fm) (p1 : 0 ≤ x1.toInt) (p2 : x1.toInt ≤ 1) (hm : 2147483648 - x3.toInt < (f : Int)) (hp : 0 < (f : Int)) (v0 : 0 ≤ x3.toInt) (hH : mS u 251 0) (hc : mJ s n m B W u), fm_tp (fun p => mJ s n m B W p.2) (jF125_88 f x1 x3 u) := by
  intro f
  induction f with
  | zero =>
    intro x1 x3 u p1 p2 hm hp v0 hH hc
    omega
  | succ f ih =>
  intro x1 x3 u p1 p2 hm hp v0 hH hc
  unfold jF125_88
  have l_0 : (0 : Int32).toInt = 0 := rfl
  refine tp_ite (fun c91 => ?_) (fun c91 => ?_)
  have l_50 : (50 : Int32).toInt = 50 := rfl
  have d_c91 := i_lt c91
  refine tp_if (c := fm_in x3 50) (by exact ⟨by omega, by omega⟩) (fun g23 => ?_)
  refine tp_if (c := fm_in ((50 * x1) + x3) 100) (by have l_50 : (50 : Int32).toInt = 50 := rfl; have w_1 := i_lo x1; have w_2 := i_hi x1; (try have e_17 := i_mull (a := 50) (b := x1) (k := 50) rfl (by omega) (by omega)); have w_1 := i_lo x3; have w_2 := i_hi x3; (try have e_18 := i_add (a := (50 * x1)) (b := x3) (by omega) (by omega)); exact ⟨by omega, by omega⟩) (fun g24 => ?_)
  refine tp_let (fun u25 eu25 => ?_)
  have l_50 : (50 : Int32).toInt = 50 := rfl
  have w_1 := i_lo x1
  have w_2 := i_hi x1
  try have e_19 := i_mull (a := 50) (b := x1) (k := 50) rfl (by omega) (by omega)
  have w_1 := i_lo x3
  have w_2 := i_hi x3
  try have e_20 := i_add (a := (50 * x1)) (b := x3) (by omega) (by omega)
  have hc : mJ s n m B W u25 := eu25 ▸ mJ_R hc (by decide) (mCol_ix (i := x3) (mS_at hH (by omega) (by omega) (by omega)) (by omega) (by omega) (by omega))
  have hH : mS u25 251 0 := eu25 ▸ mS_A hH (by decide)
  have w_1 := i_lo x3
  have w_2 := i_hi x3
  have l_1 : (1 : Int32).toInt = 1 := rfl
  try have e_21 := i_add (a := x3) (b := 1) (by omega) (by omega)
  have b_1 := i_lo x1
  have b_2 := i_hi x1
  have b_1 := i_lo (x3 + 1)
  have b_2 := i_hi (x3 + 1)
  exact ih x1 (x3 + 1) u25 (by omega) (by omega) (by omega) (by omega) (by omega) hH hc
  have l_50 : (50 : Int32).toInt = 50 := rfl
  have d_c91 := i_nlt c91
  refine tp_if (c := fm_in x1 2) (by exact ⟨by omega, by omega⟩) (fun g18 => ?_)
  have l_3 : (3 : Int32).toInt = 3 := rfl
  have l_0 : (0 : Int32).toInt = 0 := rfl
  have k_ln : fm_ln 251 = 50 := rfl
  refine tp_bind (jT114 (by omega) (by omega) (by omega) (by omega) hc) (fun p19 ep19 hp19 => ?_)
  have hc : mJ s n m B W p19 := hp19.1
  have hM : mS p19 252 0 := hp19.2.1
  have hH : mS p19 251 0 := mS_same hH hp19.2.2
  refine tp_bind (jT119 (by omega) (by omega) hM hc) (fun p20 ep20 hp20 => ?_)
  have hc : mJ s n m B W p20 := hp20.1
  have hM : mS p20 252 0 := mS_K hM hp20.2
  have hH : mS p20 251 0 := mS_H hH hp20.2
  refine tp_let (fun u21 eu21 => ?_)
  have hc : mJ s n m B W u21 := eu21 ▸ mJ_A hc rfl
  have hM : mS u21 252 0 := eu21 ▸ mS_A hM (by decide)
  have hH : mS u21 251 0 := eu21 ▸ mS_A hH (by decide)
  have l_0 : (0 : Int32).toInt = 0 := rfl
  have k_ln : fm_ln 252 = 50 := rfl
  refine tp_bind (jT109 (Or.inl rfl) (by omega) (by omega) (by omega) hM hc) (fun p22 ep22 hp22 => ?_)
  have hc : mJ s n m B W p22 := hp22.1
  have hM : mS p22 252 0 := mS_K hM hp22.2
  have hH : mS p22 251 0 := mS_H hH hp22.2
  exact tp_some hc
theorem jT125 {x1 : Int32} {u : fm} (p1 : 0 ≤ x1.toInt) (p2 : x1.toInt ≤ 1) (hH : mS u 251 0) (hc : mJ s n m B W u) : fm_tp (fun p => mJ s n m B W p.2) (jF125 x1 u) := by
  unfold jF125
  have l_0 : (0 : Int32).toInt = 0 := rfl
  refine tp_if (c := fm_in x1 2) (by exact ⟨by omega, by omega⟩) (fun g1 => ?_)
  refine tp_ite (fun c15 => ?_) (fun c15 => ?_)
  have l_m1 : ((-1) : Int32).toInt = -1 := rfl
  have d_c15 := i_eq c15
  refine tp_bind (jT106 (by omega) (by omega)) (fun p2 ep2 _ => ?_)
  refine tp_ite (fun c25 => ?_) (fun c25 => ?_)
  have l_0 : (0 : Int32).toInt = 0 := rfl
  have d_c25 := i_eq c25
  refine tp_if (c := fm_in ((50 * x1) + 4) 100) (by have l_50 : (50 : Int32).toInt = 50 := rfl; have w_1 := i_lo x1; have w_2 := i_hi x1; (try have e_12 := i_mull (a := 50) (b := x1) (k := 50) rfl (by omega) (by omega)); have l_4 : (4 : Int32).toInt = 4 := rfl; (try have e_13 := i_add (a := (50 * x1)) (b := 4) (by omega) (by omega)); exact ⟨by omega, by omega⟩) (fun g4 => ?_)
  refine tp_ite (fun c174 => ?_) (fun c174 => ?_)
  have d_c174 := i_eq c174
  refine tp_ite (fun c190 => ?_) (fun c190 => ?_)
  have d_c190 := i_eq c190
  have l_1 : (1 : Int32).toInt = 1 := rfl
  exact jT125_198 x1 (fA u 225 (Int32.toNatClampNeg x1)) 1 u (by omega) (by omega) hH hc
  have d_c190 := i_ne c190
  exact jT125_197 x1 (fA u 225 (Int32.toNatClampNeg x1)) u (by omega) (by omega) hH hc
  have d_c174 := i_ne c174
  exact jT125_197 x1 (fA u 225 (Int32.toNatClampNeg x1)) u (by omega) (by omega) hH hc
  have l_0 : (0 : Int32).toInt = 0 := rfl
  have d_c25 := i_ne c25
  refine tp_let (fun u11 eu11 => ?_)
  have hc : mJ s n m B W u11 := eu11 ▸ mJ_ac hc ⟨by decide, by decide⟩
  have hH : mS u11 251 0 := eu11 ▸ mS_A hH (by decide)
  refine tp_let (fun u12 eu12 => ?_)
  have hc : mJ s n m B W u12 := eu12 ▸ mJ_A hc rfl
  have hH : mS u12 251 0 := eu12 ▸ mS_A hH (by decide)
  refine tp_let (fun u13 eu13 => ?_)
  have hc : mJ s n m B W u13 := eu13 ▸ mJ_A hc rfl
  have hH : mS u13 251 0 := eu13 ▸ mS_A hH (by decide)
  refine tp_bind (jT113 (by omega) (by omega) hc) (fun p14 ep14 hp14 => ?_)
  have hc : mJ s n m B W p14.2 := hp14.1
  have hH : mS p14.2 251 0 := mS_H hH hp14.2
  refine tp_let (fun u15 eu15 => ?_)
  have hc : mJ s n m B W u15 := eu15 ▸ mJ_A hc rfl
  have hH : mS u15 251 0 := eu15 ▸ mS_A hH (by decide)
  refine tp_let (fun u16 eu16 => ?_)
  have hc : mJ s n m B W u16 := eu16 ▸ mJ_A hc rfl
  have hH : mS u16 251 0 := eu16 ▸ mS_A hH (by decide)
  refine tp_let (fun u17 eu17 => ?_)
  have hc : mJ s n m B W u17 := eu17 ▸ mJ_A hc rfl
  have hH : mS u17 251 0 := eu17 ▸ mS_A hH (by decide)
  have l_0 : (0 : Int32).toInt = 0 := rfl
  have b_1 := i_lo x1
  have b_2 := i_hi x1
  have k_N : ((fm_N : Nat) : Int) = 4294967296 := rfl
  exact jT125_88 fm_N x1 0 u17 (by omega) (by omega) (by omega) (by omega) (by omega) hH hc
  have l_m1 : ((-1) : Int32).toInt = -1 := rfl
  have d_c15 := i_ne c15
  exact tp_some hc
/-- comeRequest -/
theorem jT124_274 (x1 : Int32) (u : fm) (p1 : 0 ≤ x1.toInt) (p2 : x1.toInt ≤ 1) (hH : mS u 251 0) (hc : mJ s n m B W u) : fm_tp (fun p => mJ s n m B W p.2) (jF124_274 x1 u) := by
  unfold jF124_274
  have l_0 : (0 : Int32).toInt = 0 := rfl
  have l_6 : (6 : Int32).toInt = 6 := rfl
  have l_0 : (0 : Int32).toInt = 0 := rfl
  have k_ln : fm_ln 251 = 50 := rfl
  refine tp_bind (jT114 (by omega) (by omega) (by omega) (by omega) hc) (fun p2 ep2 hp2 => ?_)
  have hc : mJ s n m B W p2 := hp2.1
  have hM : mS p2 252 0 := hp2.2.1
  have hH : mS p2 251 0 := mS_same hH hp2.2.2
  have l_0 : (0 : Int32).toInt = 0 := rfl
  have k_ln : fm_ln 252 = 50 := rfl
  refine tp_bind (jT109 (Or.inl rfl) (by omega) (by omega) (by omega) hM hc) (fun p3 ep3 hp3 => ?_)
  have hc : mJ s n m B W p3 := hp3.1
  have hM : mS p3 252 0 := mS_K hM hp3.2
  have hH : mS p3 251 0 := mS_H hH hp3.2
  exact tp_some hc
theorem jT124_241 (x1 : Int32) (u : fm) (p1 : 0 ≤ x1.toInt) (p2 : x1.toInt ≤ 1) (hH : mS u 251 0) (hc : mJ s n m B W u) : fm_tp (fun p => mJ s n m B W p.2) (jF124_241 x1 u) := by
  unfold jF124_241
  have l_0 : (0 : Int32).toInt = 0 := rfl
  refine tp_if (c := fm_in x1 2) (by exact ⟨by omega, by omega⟩) (fun g4 => ?_)
  have l_4 : (4 : Int32).toInt = 4 := rfl
  have l_0 : (0 : Int32).toInt = 0 := rfl
  have k_ln : fm_ln 251 = 50 := rfl
  refine tp_bind (jT114 (by omega) (by omega) (by omega) (by omega) hc) (fun p5 ep5 hp5 => ?_)
  have hc : mJ s n m B W p5 := hp5.1
  have hM : mS p5 252 0 := hp5.2.1
  have hH : mS p5 251 0 := mS_same hH hp5.2.2
  refine tp_let (fun u6 eu6 => ?_)
  have hc : mJ s n m B W u6 := eu6 ▸ mJ_A hc rfl
  have hM : mS u6 252 0 := eu6 ▸ mS_A hM (by decide)
  have hH : mS u6 251 0 := eu6 ▸ mS_A hH (by decide)
  refine tp_bind (jT107 (by omega) (by omega) hc) (fun p7 ep7 hp7 => ?_)
  have hc : mJ s n m B W p7 := hp7.1
  have hM : mS p7 252 0 := mS_K hM hp7.2
  have hH : mS p7 251 0 := mS_H hH hp7.2
  have l_0 : (0 : Int32).toInt = 0 := rfl
  have k_ln : fm_ln 252 = 50 := rfl
  refine tp_bind (jT109 (Or.inl rfl) (by omega) (by omega) (by omega) hM hc) (fun p8 ep8 hp8 => ?_)
  have hc : mJ s n m B W p8 := hp8.1
  have hM : mS p8 252 0 := mS_K hM hp8.2
  have hH : mS p8 251 0 := mS_H hH hp8.2
  exact tp_some hc
theorem jT124_219 (x1 : Int32) (x2 : Int32) (s0 : Int32) (u : fm) (p1 : 0 ≤ x1.toInt) (p2 : x1.toInt ≤ 1) (hH : mS u 251 0) (hc : mJ s n m B W u) : fm_tp (fun p => mJ s n m B W p.2) (jF124_219 x1 x2 s0 u) := by
  unfold jF124_219
  have l_0 : (0 : Int32).toInt = 0 := rfl
  refine tp_ite (fun c221 => ?_) (fun c221 => ?_)
  have l_0 : (0 : Int32).toInt = 0 := rfl
  have d_c221 := i_eq c221
  exact jT124_274 x1 u (by omega) (by omega) hH hc
  have l_0 : (0 : Int32).toInt = 0 := rfl
  have d_c221 := i_ne c221
  refine tp_ite (fun c226 => ?_) (fun c226 => ?_)
  have l_3 : (3 : Int32).toInt = 3 := rfl
  have d_c226 := i_eq c226
  exact jT124_241 x1 u (by omega) (by omega) hH hc
  have l_3 : (3 : Int32).toInt = 3 := rfl
  have d_c226 := i_ne c226
  refine tp_ite (fun c232 => ?_) (fun c232 => ?_)
  have l_6 : (6 : Int32).toInt = 6 := rfl
  have d_c232 := i_eq c232
  exact jT124_241 x1 u (by omega) (by omega) hH hc
  have l_6 : (6 : Int32).toInt = 6 := rfl
  have d_c232 := i_ne c232
  refine tp_ite (fun c238 => ?_) (fun c238 => ?_)
  have l_8 : (8 : Int32).toInt = 8 := rfl
  have d_c238 := i_eq c238
  exact jT124_241 x1 u (by omega) (by omega) hH hc
  have l_8 : (8 : Int32).toInt = 8 := rfl
  have d_c238 := i_ne c238
  exact jT124_274 x1 u (by omega) (by omega) hH hc
theorem jT124_218 (x1 : Int32) (x2 : Int32) (u : fm) (p1 : 0 ≤ x1.toInt) (p2 : x1.toInt ≤ 1) (hH : mS u 251 0) (hc : mJ s n m B W u) : fm_tp (fun p => mJ s n m B W p.2) (jF124_218 x1 x2 u) := by
  unfold jF124_218
  have l_0 : (0 : Int32).toInt = 0 := rfl
  have l_0 : (0 : Int32).toInt = 0 := rfl
  exact jT124_219 x1 x2 0 u (by omega) (by omega) hH hc
theorem jT124_141 (x1 : Int32) (x2 : Int32) (u : fm) (p1 : 0 ≤ x1.toInt) (p2 : x1.toInt ≤ 1) (hH : mS u 251 0) (hc : mJ s n m B W u) : fm_tp (fun p => mJ s n m B W p.2) (jF124_141 x1 x2 u) := by
  unfold jF124_141
  have l_0 : (0 : Int32).toInt = 0 := rfl
  refine tp_ite (fun c149 => ?_) (fun c149 => ?_)
  have l_6 : (6 : Int32).toInt = 6 := rfl
  have d_c149 := i_eq c149
  refine tp_if (c := fm_in x1 2) (by exact ⟨by omega, by omega⟩) (fun g12 => ?_)
  refine tp_let (fun u13 eu13 => ?_)
  have hc : mJ s n m B W u13 := eu13 ▸ mJ_A hc rfl
  have hH : mS u13 251 0 := eu13 ▸ mS_A hH (by decide)
  refine tp_bind (jT107 (by omega) (by omega) hc) (fun p14 ep14 hp14 => ?_)
  have hc : mJ s n m B W p14 := hp14.1
  have hH : mS p14 251 0 := mS_H hH hp14.2
  exact tp_some hc
  have l_6 : (6 : Int32).toInt = 6 := rfl
  have d_c149 := i_ne c149
  refine tp_if (c := fm_in x1 2) (by exact ⟨by omega, by omega⟩) (fun g9 => ?_)
  refine tp_let (fun u10 eu10 => ?_)
  have hc : mJ s n m B W u10 := eu10 ▸ mJ_A hc rfl
  have hH : mS u10 251 0 := eu10 ▸ mS_A hH (by decide)
  refine tp_bind (jT107 (by omega) (by omega) hc) (fun p11 ep11 hp11 => ?_)
  have hc : mJ s n m B W p11 := hp11.1
  have hH : mS p11 251 0 := mS_H hH hp11.2
  exact tp_some hc
theorem jT124_122 (x1 : Int32) (x2 : Int32) (s0 : Int32) (u : fm) (p1 : 0 ≤ x1.toInt) (p2 : x1.toInt ≤ 1) (hH : mS u 251 0) (hc : mJ s n m B W u) : fm_tp (fun p => mJ s n m B W p.2) (jF124_122 x1 x2 s0 u) := by
  unfold jF124_122
  have l_0 : (0 : Int32).toInt = 0 := rfl
  refine tp_ite (fun c124 => ?_) (fun c124 => ?_)
  have l_0 : (0 : Int32).toInt = 0 := rfl
  have d_c124 := i_eq c124
  exact tp_some hc
  have l_0 : (0 : Int32).toInt = 0 := rfl
  have d_c124 := i_ne c124
  refine tp_ite (fun c130 => ?_) (fun c130 => ?_)
  have l_6 : (6 : Int32).toInt = 6 := rfl
  have d_c130 := i_eq c130
  exact jT124_141 x1 x2 u (by omega) (by omega) hH hc
  have l_6 : (6 : Int32).toInt = 6 := rfl
  have d_c130 := i_ne c130
  refine tp_ite (fun c136 => ?_) (fun c136 => ?_)
  have l_7 : (7 : Int32).toInt = 7 := rfl
  have d_c136 := i_eq c136
  exact jT124_141 x1 x2 u (by omega) (by omega) hH hc
  have l_7 : (7 : Int32).toInt = 7 := rfl
  have d_c136 := i_ne c136
  exact tp_some hc
theorem jT124_121 (x1 : Int32) (x2 : Int32) (u : fm) (p1 : 0 ≤ x1.toInt) (p2 : x1.toInt ≤ 1) (hH : mS u 251 0) (hc : mJ s n m B W u) : fm_tp (fun p => mJ s n m B W p.2) (jF124_121 x1 x2 u) := by
  unfold jF124_121
  have l_0 : (0 : Int32).toInt = 0 := rfl
  have l_0 : (0 : Int32).toInt = 0 := rfl
  exact jT124_122 x1 x2 0 u (by omega) (by omega) hH hc
theorem jT124 {x1 : Int32} {u : fm} (p1 : 0 ≤ x1.toInt) (p2 : x1.toInt ≤ 1) (hH : mS u 251 0) (hc : mJ s n m B W u) : fm_tp (fun p => mJ s n m B W p.2) (jF124 x1 u) := by
  unfold jF124
  have l_0 : (0 : Int32).toInt = 0 := rfl
  refine tp_ite (fun c7 => ?_) (fun c7 => ?_)
  have d_c7 := i_eq c7
  refine tp_ite (fun c18 => ?_) (fun c18 => ?_)
  have d_c18 := i_eq c18
  refine tp_ite (fun c30 => ?_) (fun c30 => ?_)
  have l_1 : (1 : Int32).toInt = 1 := rfl
  have w_1 := i_lo x1
  have w_2 := i_hi x1
  try have e_5 := i_sub (a := 1) (b := x1) (by omega) (by omega)
  have d_c30 := i_eq c30
  refine tp_ite (fun c42 => ?_) (fun c42 => ?_)
  have l_1 : (1 : Int32).toInt = 1 := rfl
  have w_1 := i_lo x1
  have w_2 := i_hi x1
  try have e_3 := i_sub (a := 1) (b := x1) (by omega) (by omega)
  have d_c42 := i_eq c42
  refine tp_ite (fun c53 => ?_) (fun c53 => ?_)
  have l_0 : (0 : Int32).toInt = 0 := rfl
  have d_c53 := i_eq c53
  refine tp_bind (jT125 (by omega) (by omega) hH hc) (fun p16 ep16 hp16 => ?_)
  have hc : mJ s n m B W p16.2 := hp16
  exact tp_some hc
  have l_0 : (0 : Int32).toInt = 0 := rfl
  have d_c53 := i_ne c53
  refine tp_if (c := fm_in x1 2) (by exact ⟨by omega, by omega⟩) (fun g1 => ?_)
  refine tp_ite (fun c76 => ?_) (fun c76 => ?_)
  have l_1 : (1 : Int32).toInt = 1 := rfl
  have d_c76 := i_eq c76
  refine tp_ite (fun c92 => ?_) (fun c92 => ?_)
  have d_c92 := i_eq c92
  refine tp_if (c := fm_in ((50 * x1) + 10) 100) (by have l_50 : (50 : Int32).toInt = 50 := rfl; have w_1 := i_lo x1; have w_2 := i_hi x1; (try have e_1 := i_mull (a := 50) (b := x1) (k := 50) rfl (by omega) (by omega)); have l_10 : (10 : Int32).toInt = 10 := rfl; (try have e_2 := i_add (a := (50 * x1)) (b := 10) (by omega) (by omega)); exact ⟨by omega, by omega⟩) (fun g15 => ?_)
  refine tp_ite (fun c114 => ?_) (fun c114 => ?_)
  have d_c114 := i_eq c114
  have l_1 : (1 : Int32).toInt = 1 := rfl
  exact jT124_122 x1 (fA u 225 (Int32.toNatClampNeg x1)) 1 u (by omega) (by omega) hH hc
  have d_c114 := i_ne c114
  exact jT124_121 x1 (fA u 225 (Int32.toNatClampNeg x1)) u (by omega) (by omega) hH hc
  have d_c92 := i_ne c92
  exact jT124_121 x1 (fA u 225 (Int32.toNatClampNeg x1)) u (by omega) (by omega) hH hc
  have l_1 : (1 : Int32).toInt = 1 := rfl
  have d_c76 := i_ne c76
  refine tp_ite (fun c179 => ?_) (fun c179 => ?_)
  have d_c179 := i_eq c179
  refine tp_ite (fun c195 => ?_) (fun c195 => ?_)
  have d_c195 := i_eq c195
  refine tp_ite (fun c211 => ?_) (fun c211 => ?_)
  have d_c211 := i_eq c211
  have l_1 : (1 : Int32).toInt = 1 := rfl
  exact jT124_219 x1 (fA u 225 (Int32.toNatClampNeg x1)) 1 u (by omega) (by omega) hH hc
  have d_c211 := i_ne c211
  exact jT124_218 x1 (fA u 225 (Int32.toNatClampNeg x1)) u (by omega) (by omega) hH hc
  have d_c195 := i_ne c195
  exact jT124_218 x1 (fA u 225 (Int32.toNatClampNeg x1)) u (by omega) (by omega) hH hc
  have d_c179 := i_ne c179
  exact jT124_218 x1 (fA u 225 (Int32.toNatClampNeg x1)) u (by omega) (by omega) hH hc
  have l_1 : (1 : Int32).toInt = 1 := rfl
  have w_1 := i_lo x1
  have w_2 := i_hi x1
  try have e_4 := i_sub (a := 1) (b := x1) (by omega) (by omega)
  have d_c42 := i_ne c42
  exact tp_some hc
  have l_1 : (1 : Int32).toInt = 1 := rfl
  have w_1 := i_lo x1
  have w_2 := i_hi x1
  try have e_6 := i_sub (a := 1) (b := x1) (by omega) (by omega)
  have d_c30 := i_ne c30
  exact tp_some hc
  have d_c18 := i_ne c18
  exact tp_some hc
  have d_c7 := i_ne c7
  exact tp_some hc
/-- comeResponse -/
theorem jT127_534 (x1 : Int32) (x2 : Int32) (x8 : Int32) (s0 : Int32) (u : fm) (p1 : 0 ≤ x1.toInt) (p2 : x1.toInt ≤ 1) (hH : mS u 251 0) (hc : mJ s n m B W u) : fm_tp (fun p => mJ s n m B W p.2) (jF127_534 x1 x2 x8 s0 u) := by
  unfold jF127_534
  have l_0 : (0 : Int32).toInt = 0 := rfl
  refine tp_ite (fun c538 => ?_) (fun c538 => ?_)
  have l_0 : (0 : Int32).toInt = 0 := rfl
  have d_c538 := i_eq c538
  exact tp_some hc
  have l_0 : (0 : Int32).toInt = 0 := rfl
  have d_c538 := i_ne c538
  refine tp_ite (fun c543 => ?_) (fun c543 => ?_)
  have l_0 : (0 : Int32).toInt = 0 := rfl
  have d_c543 := i_eq c543
  exact tp_some hc
  have l_0 : (0 : Int32).toInt = 0 := rfl
  have d_c543 := i_ne c543
  refine tp_ite (fun c549 => ?_) (fun c549 => ?_)
  have l_8 : (8 : Int32).toInt = 8 := rfl
  have d_c549 := i_eq c549
  refine tp_if (c := fm_in x1 2) (by exact ⟨by omega, by omega⟩) (fun g3 => ?_)
  refine tp_let (fun u4 eu4 => ?_)
  have hc : mJ s n m B W u4 := eu4 ▸ mJ_A hc rfl
  have hH : mS u4 251 0 := eu4 ▸ mS_A hH (by decide)
  refine tp_bind (jT107 (by omega) (by omega) hc) (fun p5 ep5 hp5 => ?_)
  have hc : mJ s n m B W p5 := hp5.1
  have hH : mS p5 251 0 := mS_H hH hp5.2
  exact tp_some hc
  have l_8 : (8 : Int32).toInt = 8 := rfl
  have d_c549 := i_ne c549
  exact tp_some hc
theorem jT127_533 (x1 : Int32) (x2 : Int32) (x8 : Int32) (u : fm) (p1 : 0 ≤ x1.toInt) (p2 : x1.toInt ≤ 1) (hH : mS u 251 0) (hc : mJ s n m B W u) : fm_tp (fun p => mJ s n m B W p.2) (jF127_533 x1 x2 x8 u) := by
  unfold jF127_533
  have l_0 : (0 : Int32).toInt = 0 := rfl
  have l_0 : (0 : Int32).toInt = 0 := rfl
  exact jT127_534 x1 x2 x8 0 u (by omega) (by omega) hH hc
theorem jT127_469 (x1 : Int32) (x2 : Int32) (s0 : Int32) (u : fm) (p1 : 0 ≤ x1.toInt) (p2 : x1.toInt ≤ 1) (hH : mS u 251 0) (hc : mJ s n m B W u) : fm_tp (fun p => mJ s n m B W p.2) (jF127_469 x1 x2 s0 u) := by
  unfold jF127_469
  have l_0 : (0 : Int32).toInt = 0 := rfl
  refine tp_ite (fun c479 => ?_) (fun c479 => ?_)
  have l_2 : (2 : Int32).toInt = 2 := rfl
  have d_c479 := i_eq c479
  refine tp_if (c := fm_in x1 2) (by exact ⟨by omega, by omega⟩) (fun g6 => ?_)
  refine tp_ite (fun c494 => ?_) (fun c494 => ?_)
  have d_c494 := i_eq c494
  refine tp_ite (fun c510 => ?_) (fun c510 => ?_)
  have d_c510 := i_eq c510
  refine tp_ite (fun c526 => ?_) (fun c526 => ?_)
  have d_c526 := i_eq c526
  have l_1 : (1 : Int32).toInt = 1 := rfl
  exact jT127_534 x1 x2 s0 1 u (by omega) (by omega) hH hc
  have d_c526 := i_ne c526
  exact jT127_533 x1 x2 s0 u (by omega) (by omega) hH hc
  have d_c510 := i_ne c510
  exact jT127_533 x1 x2 s0 u (by omega) (by omega) hH hc
  have d_c494 := i_ne c494
  exact jT127_533 x1 x2 s0 u (by omega) (by omega) hH hc
  have l_2 : (2 : Int32).toInt = 2 := rfl
  have d_c479 := i_ne c479
  exact jT127_533 x1 x2 s0 u (by omega) (by omega) hH hc
theorem jT127_464 (x1 : Int32) (x2 : Int32) (u : fm) (p1 : 0 ≤ x1.toInt) (p2 : x1.toInt ≤ 1) (hH : mS u 251 0) (hc : mJ s n m B W u) : fm_tp (fun p => mJ s n m B W p.2) (jF127_464 x1 x2 u) := by
  unfold jF127_464
  have l_0 : (0 : Int32).toInt = 0 := rfl
  have l_1 : (1 : Int32).toInt = 1 := rfl
  exact jT127_469 x1 x2 1 u (by omega) (by omega) hH hc
theorem jT127_443 (x1 : Int32) (x2 : Int32) (u : fm) (p1 : 0 ≤ x1.toInt) (p2 : x1.toInt ≤ 1) (hH : mS u 251 0) (hc : mJ s n m B W u) : fm_tp (fun p => mJ s n m B W p.2) (jF127_443 x1 x2 u) := by
  unfold jF127_443
  have l_0 : (0 : Int32).toInt = 0 := rfl
  refine tp_ite (fun c450 => ?_) (fun c450 => ?_)
  have l_4 : (4 : Int32).toInt = 4 := rfl
  have d_c450 := i_eq c450
  exact jT127_464 x1 x2 u (by omega) (by omega) hH hc
  have l_4 : (4 : Int32).toInt = 4 := rfl
  have d_c450 := i_ne c450
  refine tp_ite (fun c461 => ?_) (fun c461 => ?_)
  have l_6 : (6 : Int32).toInt = 6 := rfl
  have d_c461 := i_eq c461
  exact jT127_464 x1 x2 u (by omega) (by omega) hH hc
  have l_6 : (6 : Int32).toInt = 6 := rfl
  have d_c461 := i_ne c461
  have l_0 : (0 : Int32).toInt = 0 := rfl
  exact jT127_469 x1 x2 0 u (by omega) (by omega) hH hc
theorem jT127_400 (x1 : Int32) (x2 : Int32) (x7 : Int32) (u : fm) (p1 : 0 ≤ x1.toInt) (p2 : x1.toInt ≤ 1) (hH : mS u 251 0) (hc : mJ s n m B W u) : fm_tp (fun p => mJ s n m B W p.2) (jF127_400 x1 x2 x7 u) := by
  unfold jF127_400
  have l_0 : (0 : Int32).toInt = 0 := rfl
  refine tp_ite (fun c407 => ?_) (fun c407 => ?_)
  have l_5 : (5 : Int32).toInt = 5 := rfl
  have d_c407 := i_eq c407
  refine tp_ite (fun c412 => ?_) (fun c412 => ?_)
  have l_0 : (0 : Int32).toInt = 0 := rfl
  have d_c412 := i_eq c412
  exact jT127_443 x1 x2 u (by omega) (by omega) hH hc
  have l_0 : (0 : Int32).toInt = 0 := rfl
  have d_c412 := i_ne c412
  refine tp_ite (fun c417 => ?_) (fun c417 => ?_)
  have l_4 : (4 : Int32).toInt = 4 := rfl
  have d_c417 := i_eq c417
  refine tp_if (c := fm_in x1 2) (by exact ⟨by omega, by omega⟩) (fun g7 => ?_)
  refine tp_ite (fun c426 => ?_) (fun c426 => ?_)
  have l_0 : (0 : Int32).toInt = 0 := rfl
  have d_c426 := i_eq c426
  exact jT127_443 x1 x2 u (by omega) (by omega) hH hc
  have l_0 : (0 : Int32).toInt = 0 := rfl
  have d_c426 := i_ne c426
  have l_50 : (50 : Int32).toInt = 50 := rfl
  have w_1 := i_lo x1
  have w_2 := i_hi x1
  try have e_1 := i_mull (a := 50) (b := x1) (k := 50) rfl (by omega) (by omega)
  have k_ln : fm_ln 245 = 100 := rfl
  refine tp_bind (jT109 (Or.inr (Or.inr rfl)) (by omega) (by omega) (by omega) (mS_245 hc (by omega)) hc) (fun p8 ep8 hp8 => ?_)
  have hc : mJ s n m B W p8 := hp8.1
  have hH : mS p8 251 0 := mS_H hH hp8.2
  exact tp_some hc
  have l_4 : (4 : Int32).toInt = 4 := rfl
  have d_c417 := i_ne c417
  exact jT127_443 x1 x2 u (by omega) (by omega) hH hc
  have l_5 : (5 : Int32).toInt = 5 := rfl
  have d_c407 := i_ne c407
  exact jT127_443 x1 x2 u (by omega) (by omega) hH hc
theorem jT127_349 (x1 : Int32) (x2 : Int32) (x3 : Int32) (x7 : Int32) (u : fm) (p1 : 0 ≤ x1.toInt) (p2 : x1.toInt ≤ 1) (hH : mS u 251 0) (hc : mJ s n m B W u) : fm_tp (fun p => mJ s n m B W p.2) (jF127_349 x1 x2 x3 x7 u) := by
  unfold jF127_349
  have l_0 : (0 : Int32).toInt = 0 := rfl
  refine tp_ite (fun c356 => ?_) (fun c356 => ?_)
  have l_5 : (5 : Int32).toInt = 5 := rfl
  have d_c356 := i_eq c356
  refine tp_ite (fun c361 => ?_) (fun c361 => ?_)
  have l_0 : (0 : Int32).toInt = 0 := rfl
  have d_c361 := i_eq c361
  exact jT127_400 x1 x2 x7 u (by omega) (by omega) hH hc
  have l_0 : (0 : Int32).toInt = 0 := rfl
  have d_c361 := i_ne c361
  refine tp_ite (fun c365 => ?_) (fun c365 => ?_)
  have l_0 : (0 : Int32).toInt = 0 := rfl
  have d_c365 := i_eq c365
  exact jT127_400 x1 x2 x7 u (by omega) (by omega) hH hc
  have l_0 : (0 : Int32).toInt = 0 := rfl
  have d_c365 := i_ne c365
  refine tp_if (c := fm_in x1 2) (by exact ⟨by omega, by omega⟩) (fun g9 => ?_)
  refine tp_let (fun u10 eu10 => ?_)
  have hc : mJ s n m B W u10 := eu10 ▸ mJ_A hc rfl
  have hH : mS u10 251 0 := eu10 ▸ mS_A hH (by decide)
  refine tp_bind (jT107 (by omega) (by omega) hc) (fun p11 ep11 hp11 => ?_)
  have hc : mJ s n m B W p11 := hp11.1
  have hH : mS p11 251 0 := mS_H hH hp11.2
  refine tp_bind (jT126 (by omega) (by omega) hc) (fun p12 ep12 hp12 => ?_)
  have hc : mJ s n m B W p12 := hp12
  exact tp_some hc
  have l_5 : (5 : Int32).toInt = 5 := rfl
  have d_c356 := i_ne c356
  exact jT127_400 x1 x2 x7 u (by omega) (by omega) hH hc
theorem jT127_290 (x1 : Int32) (x2 : Int32) (x3 : Int32) (x6 : Int32) (x7 : Int32) (u : fm) (p1 : 0 ≤ x1.toInt) (p2 : x1.toInt ≤ 1) (hH : mS u 251 0) (hc : mJ s n m B W u) : fm_tp (fun p => mJ s n m B W p.2) (jF127_290 x1 x2 x3 x6 x7 u) := by
  unfold jF127_290
  have l_0 : (0 : Int32).toInt = 0 := rfl
  refine tp_ite (fun c297 => ?_) (fun c297 => ?_)
  have l_4 : (4 : Int32).toInt = 4 := rfl
  have d_c297 := i_eq c297
  refine tp_ite (fun c302 => ?_) (fun c302 => ?_)
  have l_0 : (0 : Int32).toInt = 0 := rfl
  have d_c302 := i_eq c302
  exact jT127_349 x1 x2 x3 x7 u (by omega) (by omega) hH hc
  have l_0 : (0 : Int32).toInt = 0 := rfl
  have d_c302 := i_ne c302
  refine tp_ite (fun c307 => ?_) (fun c307 => ?_)
  have l_3 : (3 : Int32).toInt = 3 := rfl
  have d_c307 := i_eq c307
  refine tp_if (c := fm_in x1 2) (by exact ⟨by omega, by omega⟩) (fun g13 => ?_)
  refine tp_ite (fun c316 => ?_) (fun c316 => ?_)
  have l_0 : (0 : Int32).toInt = 0 := rfl
  have d_c316 := i_eq c316
  exact jT127_349 x1 x2 x3 x7 u (by omega) (by omega) hH hc
  have l_0 : (0 : Int32).toInt = 0 := rfl
  have d_c316 := i_ne c316
  refine tp_ite (fun c332 => ?_) (fun c332 => ?_)
  have d_c332 := i_eq c332
  have l_50 : (50 : Int32).toInt = 50 := rfl
  have w_1 := i_lo x1
  have w_2 := i_hi x1
  try have e_2 := i_mull (a := 50) (b := x1) (k := 50) rfl (by omega) (by omega)
  have k_ln : fm_ln 245 = 100 := rfl
  refine tp_bind (jT109 (Or.inr (Or.inr rfl)) (by omega) (by omega) (by omega) (mS_245 hc (by omega)) hc) (fun p14 ep14 hp14 => ?_)
  have hc : mJ s n m B W p14 := hp14.1
  have hH : mS p14 251 0 := mS_H hH hp14.2
  exact tp_some hc
  have d_c332 := i_ne c332
  exact jT127_349 x1 x2 x3 x7 u (by omega) (by omega) hH hc
  have l_3 : (3 : Int32).toInt = 3 := rfl
  have d_c307 := i_ne c307
  exact jT127_349 x1 x2 x3 x7 u (by omega) (by omega) hH hc
  have l_4 : (4 : Int32).toInt = 4 := rfl
  have d_c297 := i_ne c297
  exact jT127_349 x1 x2 x3 x7 u (by omega) (by omega) hH hc
theorem jT127_219 (x1 : Int32) (x2 : Int32) (x3 : Int32) (x6 : Int32) (x7 : Int32) (u : fm) (p1 : 0 ≤ x1.toInt) (p2 : x1.toInt ≤ 1) (hH : mS u 251 0) (hc : mJ s n m B W u) : fm_tp (fun p => mJ s n m B W p.2) (jF127_219 x1 x2 x3 x6 x7 u) := by
  unfold jF127_219
  have l_0 : (0 : Int32).toInt = 0 := rfl
  refine tp_ite (fun c226 => ?_) (fun c226 => ?_)
  have l_4 : (4 : Int32).toInt = 4 := rfl
  have d_c226 := i_eq c226
  refine tp_ite (fun c231 => ?_) (fun c231 => ?_)
  have l_0 : (0 : Int32).toInt = 0 := rfl
  have d_c231 := i_eq c231
  exact jT127_290 x1 x2 x3 x6 x7 u (by omega) (by omega) hH hc
  have l_0 : (0 : Int32).toInt = 0 := rfl
  have d_c231 := i_ne c231
  refine tp_ite (fun c235 => ?_) (fun c235 => ?_)
  have l_0 : (0 : Int32).toInt = 0 := rfl
  have d_c235 := i_eq c235
  exact jT127_290 x1 x2 x3 x6 x7 u (by omega) (by omega) hH hc
  have l_0 : (0 : Int32).toInt = 0 := rfl
  have d_c235 := i_ne c235
  refine tp_if (c := fm_in x1 2) (by exact ⟨by omega, by omega⟩) (fun g15 => ?_)
  refine tp_let (fun u16 eu16 => ?_)
  have hc : mJ s n m B W u16 := eu16 ▸ mJ_A hc rfl
  have hH : mS u16 251 0 := eu16 ▸ mS_A hH (by decide)
  refine tp_bind (jT118 (Or.inr rfl) (by omega) (by omega) hH hc) (fun p17 ep17 hp17 => ?_)
  have hc : mJ s n m B W p17 := hp17.1
  have hH : mS p17 251 0 := mS_H hH hp17.2
  refine tp_let (fun u18 eu18 => ?_)
  have hc : mJ s n m B W u18 := eu18 ▸ mJ_A hc rfl
  have hH : mS u18 251 0 := eu18 ▸ mS_A hH (by decide)
  refine tp_bind (jT107 (by omega) (by omega) hc) (fun p19 ep19 hp19 => ?_)
  have hc : mJ s n m B W p19 := hp19.1
  have hH : mS p19 251 0 := mS_H hH hp19.2
  refine tp_bind (jT112 (by omega) (by omega) hc) (fun p20 ep20 hp20 => ?_)
  have hc : mJ s n m B W p20.2 := hp20.1
  have hH : mS p20.2 251 0 := mS_H hH hp20.2
  refine tp_bind (jT126 (by omega) (by omega) hc) (fun p21 ep21 hp21 => ?_)
  have hc : mJ s n m B W p21 := hp21
  exact tp_some hc
  have l_4 : (4 : Int32).toInt = 4 := rfl
  have d_c226 := i_ne c226
  exact jT127_290 x1 x2 x3 x6 x7 u (by omega) (by omega) hH hc
theorem jT127_183 (x1 : Int32) (x2 : Int32) (x3 : Int32) (x6 : Int32) (s0 : Int32) (u : fm) (p1 : 0 ≤ x1.toInt) (p2 : x1.toInt ≤ 1) (hH : mS u 251 0) (hc : mJ s n m B W u) : fm_tp (fun p => mJ s n m B W p.2) (jF127_183 x1 x2 x3 x6 s0 u) := by
  unfold jF127_183
  have l_0 : (0 : Int32).toInt = 0 := rfl
  refine tp_ite (fun c192 => ?_) (fun c192 => ?_)
  have l_3 : (3 : Int32).toInt = 3 := rfl
  have d_c192 := i_eq c192
  refine tp_ite (fun c197 => ?_) (fun c197 => ?_)
  have l_1 : (1 : Int32).toInt = 1 := rfl
  have d_c197 := i_eq c197
  refine tp_ite (fun c202 => ?_) (fun c202 => ?_)
  have l_0 : (0 : Int32).toInt = 0 := rfl
  have d_c202 := i_eq c202
  exact jT127_219 x1 x2 x3 x6 s0 u (by omega) (by omega) hH hc
  have l_0 : (0 : Int32).toInt = 0 := rfl
  have d_c202 := i_ne c202
  refine tp_if (c := fm_in x1 2) (by exact ⟨by omega, by omega⟩) (fun g22 => ?_)
  refine tp_let (fun u23 eu23 => ?_)
  have hc : mJ s n m B W u23 := eu23 ▸ mJ_A hc rfl
  have hH : mS u23 251 0 := eu23 ▸ mS_A hH (by decide)
  refine tp_bind (jT107 (by omega) (by omega) hc) (fun p24 ep24 hp24 => ?_)
  have hc : mJ s n m B W p24 := hp24.1
  have hH : mS p24 251 0 := mS_H hH hp24.2
  exact tp_some hc
  have l_1 : (1 : Int32).toInt = 1 := rfl
  have d_c197 := i_ne c197
  exact jT127_219 x1 x2 x3 x6 s0 u (by omega) (by omega) hH hc
  have l_3 : (3 : Int32).toInt = 3 := rfl
  have d_c192 := i_ne c192
  exact jT127_219 x1 x2 x3 x6 s0 u (by omega) (by omega) hH hc
theorem jT127_182 (x1 : Int32) (x2 : Int32) (x3 : Int32) (x6 : Int32) (u : fm) (p1 : 0 ≤ x1.toInt) (p2 : x1.toInt ≤ 1) (hH : mS u 251 0) (hc : mJ s n m B W u) : fm_tp (fun p => mJ s n m B W p.2) (jF127_182 x1 x2 x3 x6 u) := by
  unfold jF127_182
  have l_0 : (0 : Int32).toInt = 0 := rfl
  have l_0 : (0 : Int32).toInt = 0 := rfl
  exact jT127_183 x1 x2 x3 x6 0 u (by omega) (by omega) hH hc
theorem jT127_156 (x1 : Int32) (x2 : Int32) (x3 : Int32) (x5 : Int32) (s0 : Int32) (u : fm) (p1 : 0 ≤ x1.toInt) (p2 : x1.toInt ≤ 1) (hH : mS u 251 0) (hc : mJ s n m B W u) : fm_tp (fun p => mJ s n m B W p.2) (jF127_156 x1 x2 x3 x5 s0 u) := by
  unfold jF127_156
  have l_0 : (0 : Int32).toInt = 0 := rfl
  refine tp_ite (fun c160 => ?_) (fun c160 => ?_)
  have l_0 : (0 : Int32).toInt = 0 := rfl
  have d_c160 := i_eq c160
  exact jT127_182 x1 x2 x3 s0 u (by omega) (by omega) hH hc
  have l_0 : (0 : Int32).toInt = 0 := rfl
  have d_c160 := i_ne c160
  refine tp_if (c := fm_in x1 2) (by exact ⟨by omega, by omega⟩) (fun g25 => ?_)
  refine tp_ite (fun c175 => ?_) (fun c175 => ?_)
  have d_c175 := i_eq c175
  have l_1 : (1 : Int32).toInt = 1 := rfl
  exact jT127_183 x1 x2 x3 s0 1 u (by omega) (by omega) hH hc
  have d_c175 := i_ne c175
  exact jT127_182 x1 x2 x3 s0 u (by omega) (by omega) hH hc
theorem jT127_155 (x1 : Int32) (x2 : Int32) (x3 : Int32) (x5 : Int32) (u : fm) (p1 : 0 ≤ x1.toInt) (p2 : x1.toInt ≤ 1) (hH : mS u 251 0) (hc : mJ s n m B W u) : fm_tp (fun p => mJ s n m B W p.2) (jF127_155 x1 x2 x3 x5 u) := by
  unfold jF127_155
  have l_0 : (0 : Int32).toInt = 0 := rfl
  have l_0 : (0 : Int32).toInt = 0 := rfl
  exact jT127_156 x1 x2 x3 x5 0 u (by omega) (by omega) hH hc
theorem jT127_133 (x1 : Int32) (x2 : Int32) (x3 : Int32) (s0 : Int32) (u : fm) (p1 : 0 ≤ x1.toInt) (p2 : x1.toInt ≤ 1) (hH : mS u 251 0) (hc : mJ s n m B W u) : fm_tp (fun p => mJ s n m B W p.2) (jF127_133 x1 x2 x3 s0 u) := by
  unfold jF127_133
  have l_0 : (0 : Int32).toInt = 0 := rfl
  refine tp_ite (fun c137 => ?_) (fun c137 => ?_)
  have l_0 : (0 : Int32).toInt = 0 := rfl
  have d_c137 := i_eq c137
  exact jT127_155 x1 x2 x3 s0 u (by omega) (by omega) hH hc
  have l_0 : (0 : Int32).toInt = 0 := rfl
  have d_c137 := i_ne c137
  refine tp_ite (fun c148 => ?_) (fun c148 => ?_)
  have l_m1 : ((-1) : Int32).toInt = -1 := rfl
  have d_c148 := i_eq c148
  exact jT127_155 x1 x2 x3 s0 u (by omega) (by omega) hH hc
  have l_m1 : ((-1) : Int32).toInt = -1 := rfl
  have d_c148 := i_ne c148
  have l_1 : (1 : Int32).toInt = 1 := rfl
  exact jT127_156 x1 x2 x3 s0 1 u (by omega) (by omega) hH hc
theorem jT127_132 (x1 : Int32) (x2 : Int32) (x3 : Int32) (u : fm) (p1 : 0 ≤ x1.toInt) (p2 : x1.toInt ≤ 1) (hH : mS u 251 0) (hc : mJ s n m B W u) : fm_tp (fun p => mJ s n m B W p.2) (jF127_132 x1 x2 x3 u) := by
  unfold jF127_132
  have l_0 : (0 : Int32).toInt = 0 := rfl
  have l_0 : (0 : Int32).toInt = 0 := rfl
  exact jT127_133 x1 x2 x3 0 u (by omega) (by omega) hH hc
theorem jT127_111 (x1 : Int32) (x2 : Int32) (x3 : Int32) (s0 : Int32) (u : fm) (p1 : 0 ≤ x1.toInt) (p2 : x1.toInt ≤ 1) (hH : mS u 251 0) (hc : mJ s n m B W u) : fm_tp (fun p => mJ s n m B W p.2) (jF127_111 x1 x2 x3 s0 u) := by
  unfold jF127_111
  have l_0 : (0 : Int32).toInt = 0 := rfl
  refine tp_ite (fun c115 => ?_) (fun c115 => ?_)
  have l_0 : (0 : Int32).toInt = 0 := rfl
  have d_c115 := i_eq c115
  exact jT127_132 x1 x2 x3 u (by omega) (by omega) hH hc
  have l_0 : (0 : Int32).toInt = 0 := rfl
  have d_c115 := i_ne c115
  refine tp_ite (fun c125 => ?_) (fun c125 => ?_)
  have l_0 : (0 : Int32).toInt = 0 := rfl
  have d_c125 := i_eq c125
  have l_1 : (1 : Int32).toInt = 1 := rfl
  exact jT127_133 x1 x2 x3 1 u (by omega) (by omega) hH hc
  have l_0 : (0 : Int32).toInt = 0 := rfl
  have d_c125 := i_ne c125
  exact jT127_132 x1 x2 x3 u (by omega) (by omega) hH hc
theorem jT127_110 (x1 : Int32) (x2 : Int32) (x3 : Int32) (u : fm) (p1 : 0 ≤ x1.toInt) (p2 : x1.toInt ≤ 1) (hH : mS u 251 0) (hc : mJ s n m B W u) : fm_tp (fun p => mJ s n m B W p.2) (jF127_110 x1 x2 x3 u) := by
  unfold jF127_110
  have l_0 : (0 : Int32).toInt = 0 := rfl
  have l_0 : (0 : Int32).toInt = 0 := rfl
  exact jT127_111 x1 x2 x3 0 u (by omega) (by omega) hH hc
theorem jT127_57 (x1 : Int32) (x2 : Int32) (s0 : Int32) (u : fm) (p1 : 0 ≤ x1.toInt) (p2 : x1.toInt ≤ 1) (hH : mS u 251 0) (hc : mJ s n m B W u) : fm_tp (fun p => mJ s n m B W p.2) (jF127_57 x1 x2 s0 u) := by
  unfold jF127_57
  have l_0 : (0 : Int32).toInt = 0 := rfl
  refine tp_if (c := fm_in x1 2) (by exact ⟨by omega, by omega⟩) (fun g2 => ?_)
  refine tp_ite (fun c71 => ?_) (fun c71 => ?_)
  have d_c71 := i_eq c71
  refine tp_ite (fun c87 => ?_) (fun c87 => ?_)
  have d_c87 := i_eq c87
  refine tp_ite (fun c103 => ?_) (fun c103 => ?_)
  have d_c103 := i_eq c103
  have l_1 : (1 : Int32).toInt = 1 := rfl
  exact jT127_111 x1 x2 s0 1 u (by omega) (by omega) hH hc
  have d_c103 := i_ne c103
  exact jT127_110 x1 x2 s0 u (by omega) (by omega) hH hc
  have d_c87 := i_ne c87
  exact jT127_110 x1 x2 s0 u (by omega) (by omega) hH hc
  have d_c71 := i_ne c71
  exact jT127_110 x1 x2 s0 u (by omega) (by omega) hH hc
theorem jT127_52 (x1 : Int32) (x2 : Int32) (u : fm) (p1 : 0 ≤ x1.toInt) (p2 : x1.toInt ≤ 1) (hH : mS u 251 0) (hc : mJ s n m B W u) : fm_tp (fun p => mJ s n m B W p.2) (jF127_52 x1 x2 u) := by
  unfold jF127_52
  have l_0 : (0 : Int32).toInt = 0 := rfl
  have l_1 : (1 : Int32).toInt = 1 := rfl
  exact jT127_57 x1 x2 1 u (by omega) (by omega) hH hc
theorem jT127 {x1 : Int32} {u : fm} (p1 : 0 ≤ x1.toInt) (p2 : x1.toInt ≤ 1) (hH : mS u 251 0) (hc : mJ s n m B W u) : fm_tp (fun p => mJ s n m B W p.2) (jF127 x1 u) := by
  unfold jF127
  have l_0 : (0 : Int32).toInt = 0 := rfl
  refine tp_ite (fun c7 => ?_) (fun c7 => ?_)
  have d_c7 := i_eq c7
  refine tp_ite (fun c17 => ?_) (fun c17 => ?_)
  have d_c17 := i_eq c17
  refine tp_ite (fun c30 => ?_) (fun c30 => ?_)
  have l_1 : (1 : Int32).toInt = 1 := rfl
  have w_1 := i_lo x1
  have w_2 := i_hi x1
  try have e_3 := i_sub (a := 1) (b := x1) (by omega) (by omega)
  have d_c30 := i_eq c30
  refine tp_if (c := fm_in x1 2) (by exact ⟨by omega, by omega⟩) (fun g1 => ?_)
  refine tp_ite (fun c44 => ?_) (fun c44 => ?_)
  have l_1 : (1 : Int32).toInt = 1 := rfl
  have d_c44 := i_eq c44
  exact jT127_52 x1 (fA u 225 (Int32.toNatClampNeg x1)) u (by omega) (by omega) hH hc
  have l_1 : (1 : Int32).toInt = 1 := rfl
  have d_c44 := i_ne c44
  refine tp_ite (fun c49 => ?_) (fun c49 => ?_)
  have l_2 : (2 : Int32).toInt = 2 := rfl
  have d_c49 := i_eq c49
  exact jT127_52 x1 (fA u 225 (Int32.toNatClampNeg x1)) u (by omega) (by omega) hH hc
  have l_2 : (2 : Int32).toInt = 2 := rfl
  have d_c49 := i_ne c49
  have l_0 : (0 : Int32).toInt = 0 := rfl
  exact jT127_57 x1 (fA u 225 (Int32.toNatClampNeg x1)) 0 u (by omega) (by omega) hH hc
  have l_1 : (1 : Int32).toInt = 1 := rfl
  have w_1 := i_lo x1
  have w_2 := i_hi x1
  try have e_4 := i_sub (a := 1) (b := x1) (by omega) (by omega)
  have d_c30 := i_ne c30
  exact tp_some hc
  have d_c17 := i_ne c17
  exact tp_some hc
  have d_c7 := i_ne c7
  exact tp_some hc
/-- come -/
theorem jT123 {x1 : Int32} {u : fm} (p1 : 0 ≤ x1.toInt) (p2 : x1.toInt ≤ 1) (hH : mS u 251 0) (hc : mJ s n m B W u) : fm_tp (fun p => mJ s n m B W p) (jF123 x1 u) := by
  unfold jF123
  have l_0 : (0 : Int32).toInt = 0 := rfl
  refine tp_ite (fun c7 => ?_) (fun c7 => ?_)
  have l_3 : (3 : Int32).toInt = 3 := rfl
  have d_c7 := i_lt c7
  refine tp_bind (jT124 (by omega) (by omega) hH hc) (fun p5 ep5 hp5 => ?_)
  have hc : mJ s n m B W p5.2 := hp5
  refine tp_ite (fun c25 => ?_) (fun c25 => ?_)
  have l_0 : (0 : Int32).toInt = 0 := rfl
  have d_c25 := i_eq c25
  refine tp_if (c := fm_in x1 2) (by exact ⟨by omega, by omega⟩) (fun g7 => ?_)
  refine tp_let (fun u8 eu8 => ?_)
  have hc : mJ s n m B W u8 := eu8 ▸ mJ_A hc rfl
  exact tp_some hc
  have l_0 : (0 : Int32).toInt = 0 := rfl
  have d_c25 := i_ne c25
  exact tp_some hc
  have l_3 : (3 : Int32).toInt = 3 := rfl
  have d_c7 := i_nlt c7
  refine tp_bind (jT127 (by omega) (by omega) hH hc) (fun p1 ep1 hp1 => ?_)
  have hc : mJ s n m B W p1.2 := hp1
  refine tp_ite (fun c25 => ?_) (fun c25 => ?_)
  have l_0 : (0 : Int32).toInt = 0 := rfl
  have d_c25 := i_eq c25
  refine tp_if (c := fm_in x1 2) (by exact ⟨by omega, by omega⟩) (fun g3 => ?_)
  refine tp_let (fun u4 eu4 => ?_)
  have hc : mJ s n m B W u4 := eu4 ▸ mJ_A hc rfl
  exact tp_some hc
  have l_0 : (0 : Int32).toInt = 0 := rfl
  have d_c25 := i_ne c25
  exact tp_some hc
end MD
