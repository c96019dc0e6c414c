section MW2
variable {s n m : Prop} {B : Int} {W : fm}
theorem jT154_50 {x2 : Int32} {u : fm} (q1 : 0 ≤ x2.toInt) (q2 : x2.toInt < 3000) (q3 : x2.toInt % 50 = 0) (q4 : 0 ≤ mL u) (q5 : mL u ≤ 43) (hc : mJ s n m B W u) : fm_tp (fun p => mJ s n m B W p ∧ 0 ≤ mL p ∧ mL p ≤ 500) (jF154_50 x2 u) := by
  unfold jF154_50
  refine tp_bind (jT134 (by omega) (by omega) hc) (fun p4 ep4 kp4 => ?_)
  have hc := kp4.1
  refine tp_bind (jT150 (by omega) (by omega) hc) (fun p5 ep5 kp5 => ?_)
  have hc := kp5.1
  refine tp_if (c := fm_in (x2 + 3) 3050) (by have w_1 := i_lo x2; have w_2 := i_hi x2; have l_3 : (3 : Int32).toInt = 3 := rfl; (try have e_3 := i_add (a := x2) (b := 3) (by omega) (by omega)); exact ⟨by omega, by omega⟩) (fun g6 => ?_)
  refine tp_bind (jT134 (by omega) (by omega) hc) (fun p7 ep7 kp7 => ?_)
  have hc := kp7.1
  refine tp_bind (jT150 (by omega) (by omega) hc) (fun p8 ep8 kp8 => ?_)
  have hc := kp8.1
  refine tp_if (c := fm_in (x2 + 4) 3050) (by have w_1 := i_lo x2; have w_2 := i_hi x2; have l_4 : (4 : Int32).toInt = 4 := rfl; (try have e_4 := i_add (a := x2) (b := 4) (by omega) (by omega)); exact ⟨by omega, by omega⟩) (fun g9 => ?_)
  refine tp_bind (jT135 (by omega) (by omega) hc) (fun p10 ep10 kp10 => ?_)
  have hc := kp10.1
  refine tp_bind (jT134 (by omega) (by omega) hc) (fun p11 ep11 kp11 => ?_)
  have hc := kp11.1
  refine tp_if (c := fm_in (x2 + 5) 3050) (by have w_1 := i_lo x2; have w_2 := i_hi x2; have l_5 : (5 : Int32).toInt = 5 := rfl; (try have e_5 := i_add (a := x2) (b := 5) (by omega) (by omega)); exact ⟨by omega, by omega⟩) (fun g12 => ?_)
  refine tp_if (c := fm_in (x2 + 6) 3050) (by have w_1 := i_lo x2; have w_2 := i_hi x2; have l_6 : (6 : Int32).toInt = 6 := rfl; (try have e_6 := i_add (a := x2) (b := 6) (by omega) (by omega)); exact ⟨by omega, by omega⟩) (fun g13 => ?_)
  refine tp_bind (jT151 (by omega) (by omega) hc) (fun p14 ep14 kp14 => ?_)
  have hc := kp14.1
  refine tp_if (c := fm_in (x2 + 7) 3050) (by have w_1 := i_lo x2; have w_2 := i_hi x2; have l_7 : (7 : Int32).toInt = 7 := rfl; (try have e_7 := i_add (a := x2) (b := 7) (by omega) (by omega)); exact ⟨by omega, by omega⟩) (fun g15 => ?_)
  refine tp_if (c := fm_in (x2 + 8) 3050) (by have w_1 := i_lo x2; have w_2 := i_hi x2; have l_8 : (8 : Int32).toInt = 8 := rfl; (try have e_8 := i_add (a := x2) (b := 8) (by omega) (by omega)); exact ⟨by omega, by omega⟩) (fun g16 => ?_)
  refine tp_bind (jT151 (by omega) (by omega) hc) (fun p17 ep17 kp17 => ?_)
  have hc := kp17.1
  refine tp_bind (jT150 (by omega) (by omega) hc) (fun p18 ep18 kp18 => ?_)
  have hc := kp18.1
  refine tp_if (c := fm_in (x2 + 9) 3050) (by have w_1 := i_lo x2; have w_2 := i_hi x2; have l_9 : (9 : Int32).toInt = 9 := rfl; (try have e_9 := i_add (a := x2) (b := 9) (by omega) (by omega)); exact ⟨by omega, by omega⟩) (fun g19 => ?_)
  refine tp_bind (jT135 (by omega) (by omega) hc) (fun p20 ep20 kp20 => ?_)
  have hc := kp20.1
  refine tp_bind (jT134 (by omega) (by omega) hc) (fun p21 ep21 kp21 => ?_)
  have hc := kp21.1
  refine tp_bind (jT150 (by omega) (by omega) hc) (fun p22 ep22 kp22 => ?_)
  have hc := kp22.1
  refine tp_if (c := fm_in (x2 + 10) 3050) (by have w_1 := i_lo x2; have w_2 := i_hi x2; have l_10 : (10 : Int32).toInt = 10 := rfl; (try have e_10 := i_add (a := x2) (b := 10) (by omega) (by omega)); exact ⟨by omega, by omega⟩) (fun g23 => ?_)
  refine tp_bind (jT135 (by omega) (by omega) hc) (fun p24 ep24 kp24 => ?_)
  have hc := kp24.1
  refine tp_bind (jT134 (by omega) (by omega) hc) (fun p25 ep25 kp25 => ?_)
  have hc := kp25.1
  refine tp_if (c := fm_in (x2 + 11) 3050) (by have w_1 := i_lo x2; have w_2 := i_hi x2; have l_11 : (11 : Int32).toInt = 11 := rfl; (try have e_11 := i_add (a := x2) (b := 11) (by omega) (by omega)); exact ⟨by omega, by omega⟩) (fun g26 => ?_)
  refine tp_bind (jT150 (by omega) (by omega) hc) (fun p27 ep27 kp27 => ?_)
  have hc := kp27.1
  refine tp_bind (jT134 (by omega) (by omega) hc) (fun p28 ep28 kp28 => ?_)
  have hc := kp28.1
  refine tp_bind (jT150 (by omega) (by omega) hc) (fun p29 ep29 kp29 => ?_)
  have hc := kp29.1
  refine tp_bind (jT152 (by omega) (by omega) (by omega) (by omega) (by omega) hc) (fun p30 ep30 kp30 => ?_)
  have hc := kp30.1
  refine tp_bind (jT135 (by omega) (by omega) hc) (fun p31 ep31 kp31 => ?_)
  have hc := kp31.1
  refine tp_bind (jT134 (by omega) (by omega) hc) (fun p32 ep32 kp32 => ?_)
  have hc := kp32.1
  refine tp_bind (jT134 (by omega) (by omega) hc) (fun p33 ep33 kp33 => ?_)
  have hc := kp33.1
  refine tp_bind (jT153 (by omega) (by omega) (by omega) (by omega) (by omega) hc) (fun p34 ep34 kp34 => ?_)
  have hc := kp34.1
  exact tp_some ⟨hc, by omega, by omega⟩
theorem jT154 {x1 : Int32} {u : fm} (q1 : 0 ≤ x1.toInt) (q2 : x1.toInt < 60) (hc : mJ s n m B W u) : fm_tp (fun p => mJ s n m B W p ∧ 0 ≤ mL p ∧ mL p ≤ 500) (jF154 x1 u) := by
  unfold jF154
  refine tp_let (fun u1 eu1 => ?_)
  have hc : mJ s n m B W u1 := eu1 ▸ mJ_I hc (by decide)
  have hL : mL u1 = 0 := by unfold mL; rw [← eu1, fI_eq]; rfl
  refine tp_if (c := fm_in ((50 * x1) + 0) 3050) (by have l_50 : (50 : Int32).toInt = 50 := rfl; have w_1 := i_lo x1; have w_2 := i_hi x1; (try have e_1 := i_mull (a := 50) (b := x1) (k := 50) rfl (by omega) (by omega)); have l_0 : (0 : Int32).toInt = 0 := rfl; (try have e_2 := i_add (a := (50 * x1)) (b := 0) (by omega) (by omega)); exact ⟨by omega, by omega⟩) (fun g2 => ?_)
  refine tp_bind (jT150 (by omega) (by omega) hc) (fun p3 ep3 kp3 => ?_)
  have hc := kp3.1
  refine tp_ite (fun c26 => ?_) (fun c26 => ?_)
  have l_3 : (3 : Int32).toInt = 3 := rfl
  have d_c26 := i_lt c26
  refine tp_if (c := fm_in ((50 * x1) + 2) 3050) (by have l_50 : (50 : Int32).toInt = 50 := rfl; have w_1 := i_lo x1; have w_2 := i_hi x1; (try have e_13 := i_mull (a := 50) (b := x1) (k := 50) rfl (by omega) (by omega)); have l_2 : (2 : Int32).toInt = 2 := rfl; (try have e_14 := i_add (a := (50 * x1)) (b := 2) (by omega) (by omega)); exact ⟨by omega, by omega⟩) (fun g35 => ?_)
  refine tp_bind (jT134 (by omega) (by omega) hc) (fun p36 ep36 kp36 => ?_)
  have hc := kp36.1
  refine tp_bind (jT150 (by omega) (by omega) hc) (fun p37 ep37 kp37 => ?_)
  have hc := kp37.1
  have l_50 : (50 : Int32).toInt = 50 := rfl
  have w_1 := i_lo x1
  have w_2 := i_hi x1
  try have e_15 := i_mull (a := 50) (b := x1) (k := 50) rfl (by omega) (by omega)
  exact tp_mono (jT154_50 (x2 := (50 * x1)) (by omega) (by omega) (by omega) (by omega) (by omega) hc) (fun q hq => ⟨hq.1, by omega, by omega⟩)
  have l_3 : (3 : Int32).toInt = 3 := rfl
  have d_c26 := i_nlt c26
  have l_50 : (50 : Int32).toInt = 50 := rfl
  have w_1 := i_lo x1
  have w_2 := i_hi x1
  try have e_12 := i_mull (a := 50) (b := x1) (k := 50) rfl (by omega) (by omega)
  exact tp_mono (jT154_50 (x2 := (50 * x1)) (by omega) (by omega) (by omega) (by omega) (by omega) hc) (fun q hq => ⟨hq.1, by omega, by omega⟩)
theorem jT155 {x1 x2 : Int32} {u : fm} (hc : mJ s n m B W u) : fm_tp (fun p => mJ s n m B W p.2) (jF155 x1 x2 u) := by
  unfold jF155
  refine tp_ite (fun c => tp_some hc) (fun c => ?_)
  have h1 := jP129 c
  have kf := mJ_fl hc
  refine tp_bind (jT154 (by omega) (by omega) hc) (fun p e k => ?_)
  refine tp_ite (fun c => tp_some k.1) (fun c => ?_)
  have d := i_nlt c
  have l_0 : (0 : Int32).toInt = 0 := rfl
  refine tp_ite (fun c => ?_) (fun c => tp_some k.1)
  have d2 := i_lt c
  have k2 := k.2.2
  unfold mL at k2
  exact tp_if ⟨by omega, by omega⟩ (fun _ => tp_some k.1)
theorem jT173 {x1 x2 : Int32} {u : fm} : fm_tp (fun _ => True) (jF173 x1 x2 u) := by
  unfold jF173
  refine tp_ite (fun c => tp_some trivial) (fun c => ?_)
  have h1 := jP105 c
  repeat refine tp_ite (fun c => tp_if ⟨by omega, by omega⟩ (fun _ => tp_some trivial)) (fun c => ?_)
  exact tp_some trivial
theorem jT174 {x1 x2 x3 : Int32} {u : fm} (hc : mJ s n m B W u) : fm_tp (fun _ => True) (jF174 x1 x2 x3 u) := by
  unfold jF174
  refine tp_ite (fun c => tp_some trivial) (fun c => ?_)
  have h1 := jP105 c
  have l_0 : (0 : Int32).toInt = 0 := rfl
  have l_1 : (1 : Int32).toInt = 1 := rfl
  have l_2 : (2 : Int32).toInt = 2 := rfl
  refine tp_ite (fun c => tp_some trivial) (fun c => ?_)
  have d1 := i_nlt c
  refine tp_if ⟨by omega, by omega⟩ (fun g1 => ?_)
  have k1 := mJ_246 hc (fm_in_nat g1)
  refine tp_ite (fun c => ?_) (fun c => tp_some trivial)
  have d2 := i_lt c
  refine tp_ite (fun c => tp_some trivial) (fun c => ?_)
  have d3 := i_nlt c
  have e_0 := i_mull (a := 30) (b := x1) (k := 30) rfl (by omega) (by omega)
  have e_1 := i_mull (a := 10) (b := x2) (k := 10) rfl (by omega) (by omega)
  have e_2 := i_add (a := 30 * x1) (b := 10 * x2) (by omega) (by omega)
  have e_3 := i_add (a := 30 * x1 + 10 * x2) (b := 1) (by omega) (by omega)
  refine tp_ite (fun c => ?_) (fun c => ?_)
  · have d4 := i_lt c
    have e_4 := i_add (a := 30 * x1 + 10 * x2) (b := x3) (by omega) (by omega)
    exact tp_if ⟨by omega, by omega⟩ (fun _ => tp_some trivial)
  · refine tp_if ⟨by omega, by omega⟩ (fun g2 => ?_)
    have i1 := fm_ixN (30 * x1 + 10 * x2 + 1) (by omega)
    have k2 := mJ_247 hc (fm_in_nat g2) (by omega)
    refine tp_ite (fun c => ?_) (fun c => tp_some trivial)
    have d4 := i_lt c
    have hh := i_hi x3
    have e_5 := i_sub (a := x3) (b := 2) (by omega) (by omega)
    have e_4 := i_add (a := 30 * x1 + 10 * x2) (b := x3) (by omega) (by omega)
    exact tp_if ⟨by omega, by omega⟩ (fun _ => tp_some trivial)
end MW2
