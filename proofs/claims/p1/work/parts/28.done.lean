theorem pb_15 : ax_good (mm_bx (-2147483648, 2147483647) (-2147483648, 2147483647) (-2147483648, 2147483647)) 503 ax_M0 = true := by decide +kernel
theorem ps_0 : ax_good (0, fun _ => ax_top) 18 ax_M0 = true := by decide +kernel
theorem ps_1 : ax_good (1, fun _ => ax_top) 18 ax_M0 = true := by decide +kernel
theorem ps_2 : ax_good (2, fun _ => ax_top) 18 ax_M0 = true := by decide +kernel
theorem ps_3 : ax_good (3, fun _ => ax_top) 18 ax_M0 = true := by decide +kernel
/-! every call on fresh objects -/
section PD
variable {X : Nat × (Nat → Int32)}
theorem mm_rng (x : Int32) : (-2147483648 : Int) ≤ x.toInt ∧ x.toInt ≤ 2147483647 := by
  have h1 := Int32.le_toInt x
  have h2 := Int32.toInt_lt x
  constructor <;> omega
theorem mm_op_0 (h4 : X.1 = 4) : ∃ S, mm_to X 175 108 mm_L0 [] mm_M0 S ∧ mm_fin S := by
  have r1 := mm_rng (X.2 1)
  rcases (show (X.2 1).toInt ≤ -1 ∨ ((0 : Int) ≤ (X.2 1).toInt ∧ (X.2 1).toInt ≤ 0) ∨ ((1 : Int) ≤ (X.2 1).toInt ∧ (X.2 1).toInt ≤ 1) ∨ (2 : Int) ≤ (X.2 1).toInt by omega) with h_0 | h_0 | h_0 | h_0
  · exact mm_box pb_0_0 h4 ⟨by omega, by omega⟩ (mm_rng _) (mm_rng _)
  · have r2 := mm_rng (X.2 2)
    rcases (show (X.2 2).toInt ≤ 0 ∨ ((1 : Int) ≤ (X.2 2).toInt ∧ (X.2 2).toInt ≤ 65535) ∨ (65536 : Int) ≤ (X.2 2).toInt by omega) with h_1 | h_1 | h_1
    · exact mm_box pb_0_2 h4 ⟨by omega, by omega⟩ ⟨by omega, by omega⟩ (mm_rng _)
    · have r3 := mm_rng (X.2 3)
      rcases (show (X.2 3).toInt ≤ 0 ∨ ((1 : Int) ≤ (X.2 3).toInt ∧ (X.2 3).toInt ≤ 255) ∨ (256 : Int) ≤ (X.2 3).toInt by omega) with h_2 | h_2 | h_2
      · exact mm_box pb_0_4 h4 ⟨by omega, by omega⟩ ⟨by omega, by omega⟩ ⟨by omega, by omega⟩
      · exact pm_law pm_all0 h4 ⟨by omega, by omega⟩ ⟨by omega, by omega⟩ ⟨by omega, by omega⟩
      · exact mm_box pb_0_5 h4 ⟨by omega, by omega⟩ ⟨by omega, by omega⟩ ⟨by omega, by omega⟩
    · exact mm_box pb_0_3 h4 ⟨by omega, by omega⟩ ⟨by omega, by omega⟩ (mm_rng _)
  · have r2 := mm_rng (X.2 2)
    rcases (show (X.2 2).toInt ≤ 0 ∨ ((1 : Int) ≤ (X.2 2).toInt ∧ (X.2 2).toInt ≤ 65535) ∨ (65536 : Int) ≤ (X.2 2).toInt by omega) with h_1 | h_1 | h_1
    · exact mm_box pb_0_6 h4 ⟨by omega, by omega⟩ ⟨by omega, by omega⟩ (mm_rng _)
    · have r3 := mm_rng (X.2 3)
      rcases (show (X.2 3).toInt ≤ 0 ∨ ((1 : Int) ≤ (X.2 3).toInt ∧ (X.2 3).toInt ≤ 255) ∨ (256 : Int) ≤ (X.2 3).toInt by omega) with h_2 | h_2 | h_2
      · exact mm_box pb_0_8 h4 ⟨by omega, by omega⟩ ⟨by omega, by omega⟩ ⟨by omega, by omega⟩
      · exact pm_law pm_all1 h4 ⟨by omega, by omega⟩ ⟨by omega, by omega⟩ ⟨by omega, by omega⟩
      · exact mm_box pb_0_9 h4 ⟨by omega, by omega⟩ ⟨by omega, by omega⟩ ⟨by omega, by omega⟩
    · exact mm_box pb_0_7 h4 ⟨by omega, by omega⟩ ⟨by omega, by omega⟩ (mm_rng _)
  · exact mm_box pb_0_1 h4 ⟨by omega, by omega⟩ (mm_rng _) (mm_rng _)
theorem mm_op_1 (h4 : X.1 = 4) : ∃ S, mm_to X 175 151 mm_L0 [] mm_M0 S ∧ mm_fin S := by
  have r1 := mm_rng (X.2 1)
  rcases (show (X.2 1).toInt ≤ -1 ∨ ((0 : Int) ≤ (X.2 1).toInt ∧ (X.2 1).toInt ≤ 0) ∨ ((1 : Int) ≤ (X.2 1).toInt ∧ (X.2 1).toInt ≤ 1) ∨ (2 : Int) ≤ (X.2 1).toInt by omega) with h_0 | h_0 | h_0 | h_0
  · exact mm_box pb_1_0 h4 ⟨by omega, by omega⟩ (mm_rng _) (mm_rng _)
  · exact mm_box pb_1_1 h4 ⟨by omega, by omega⟩ (mm_rng _) (mm_rng _)
  · exact mm_box pb_1_2 h4 ⟨by omega, by omega⟩ (mm_rng _) (mm_rng _)
  · exact mm_box pb_1_3 h4 ⟨by omega, by omega⟩ (mm_rng _) (mm_rng _)
theorem mm_op_2 (h4 : X.1 = 4) : ∃ S, mm_to X 175 174 mm_L0 [] mm_M0 S ∧ mm_fin S := by
  have r1 := mm_rng (X.2 1)
  rcases (show (X.2 1).toInt ≤ -1 ∨ ((0 : Int) ≤ (X.2 1).toInt ∧ (X.2 1).toInt ≤ 0) ∨ ((1 : Int) ≤ (X.2 1).toInt ∧ (X.2 1).toInt ≤ 1) ∨ (2 : Int) ≤ (X.2 1).toInt by omega) with h_0 | h_0 | h_0 | h_0
  · exact mm_box pb_2_0 h4 ⟨by omega, by omega⟩ (mm_rng _) (mm_rng _)
  · exact mm_box pb_2_1 h4 ⟨by omega, by omega⟩ (mm_rng _) (mm_rng _)
  · exact mm_box pb_2_2 h4 ⟨by omega, by omega⟩ (mm_rng _) (mm_rng _)
  · exact mm_box pb_2_3 h4 ⟨by omega, by omega⟩ (mm_rng _) (mm_rng _)
theorem mm_op_3 (h4 : X.1 = 4) : ∃ S, mm_to X 175 197 mm_L0 [] mm_M0 S ∧ mm_fin S := by
  have r1 := mm_rng (X.2 1)
  rcases (show (X.2 1).toInt ≤ -1 ∨ ((0 : Int) ≤ (X.2 1).toInt ∧ (X.2 1).toInt ≤ 0) ∨ ((1 : Int) ≤ (X.2 1).toInt ∧ (X.2 1).toInt ≤ 1) ∨ (2 : Int) ≤ (X.2 1).toInt by omega) with h_0 | h_0 | h_0 | h_0
  · exact mm_box pb_3_0 h4 ⟨by omega, by omega⟩ (mm_rng _) (mm_rng _)
  · exact mm_box pb_3_1 h4 ⟨by omega, by omega⟩ (mm_rng _) (mm_rng _)
  · exact mm_box pb_3_2 h4 ⟨by omega, by omega⟩ (mm_rng _) (mm_rng _)
  · exact mm_box pb_3_3 h4 ⟨by omega, by omega⟩ (mm_rng _) (mm_rng _)
theorem mm_op_4 (h4 : X.1 = 4) : ∃ S, mm_to X 175 220 mm_L0 [] mm_M0 S ∧ mm_fin S := by
  have r1 := mm_rng (X.2 1)
  rcases (show (X.2 1).toInt ≤ -1 ∨ ((0 : Int) ≤ (X.2 1).toInt ∧ (X.2 1).toInt ≤ 0) ∨ ((1 : Int) ≤ (X.2 1).toInt ∧ (X.2 1).toInt ≤ 1) ∨ (2 : Int) ≤ (X.2 1).toInt by omega) with h_0 | h_0 | h_0 | h_0
  · exact mm_box pb_4_0 h4 ⟨by omega, by omega⟩ (mm_rng _) (mm_rng _)
  · exact mm_box pb_4_1 h4 ⟨by omega, by omega⟩ (mm_rng _) (mm_rng _)
  · exact mm_box pb_4_2 h4 ⟨by omega, by omega⟩ (mm_rng _) (mm_rng _)
  · exact mm_box pb_4_3 h4 ⟨by omega, by omega⟩ (mm_rng _) (mm_rng _)
theorem mm_op_5 (h4 : X.1 = 4) : ∃ S, mm_to X 175 243 mm_L0 [] mm_M0 S ∧ mm_fin S := by
  have r1 := mm_rng (X.2 1)
  rcases (show (X.2 1).toInt ≤ -1 ∨ (0 : Int) ≤ (X.2 1).toInt by omega) with h_0 | h_0
  · exact mm_box pb_5_0 h4 ⟨by omega, by omega⟩ (mm_rng _) (mm_rng _)
  · exact mm_box pb_5_1 h4 ⟨by omega, by omega⟩ (mm_rng _) (mm_rng _)
theorem mm_op_6 (h4 : X.1 = 4) : ∃ S, mm_to X 175 266 mm_L0 [] mm_M0 S ∧ mm_fin S := by
  have r1 := mm_rng (X.2 1)
  rcases (show (X.2 1).toInt ≤ -1 ∨ (0 : Int) ≤ (X.2 1).toInt by omega) with h_0 | h_0
  · exact mm_box pb_6_0 h4 ⟨by omega, by omega⟩ (mm_rng _) (mm_rng _)
  · exact mm_box pb_6_1 h4 ⟨by omega, by omega⟩ (mm_rng _) (mm_rng _)
theorem mm_op_7 (h4 : X.1 = 4) : ∃ S, mm_to X 175 289 mm_L0 [] mm_M0 S ∧ mm_fin S := by
  have r1 := mm_rng (X.2 1)
  rcases (show (X.2 1).toInt ≤ -1 ∨ (0 : Int) ≤ (X.2 1).toInt by omega) with h_0 | h_0
  · exact mm_box pb_7_0 h4 ⟨by omega, by omega⟩ (mm_rng _) (mm_rng _)
  · exact mm_box pb_7_1 h4 ⟨by omega, by omega⟩ (mm_rng _) (mm_rng _)
theorem mm_op_8 (h4 : X.1 = 4) : ∃ S, mm_to X 175 312 mm_L0 [] mm_M0 S ∧ mm_fin S := by
  exact mm_box pb_8_0 h4 (mm_rng _) (mm_rng _) (mm_rng _)
theorem mm_op_9 (h4 : X.1 = 4) : ∃ S, mm_to X 175 325 mm_L0 [] mm_M0 S ∧ mm_fin S := by
  have r1 := mm_rng (X.2 1)
  rcases (show (X.2 1).toInt ≤ -1 ∨ (0 : Int) ≤ (X.2 1).toInt by omega) with h_0 | h_0
  · exact mm_box pb_9_0 h4 ⟨by omega, by omega⟩ (mm_rng _) (mm_rng _)
  · exact mm_box pb_9_1 h4 ⟨by omega, by omega⟩ (mm_rng _) (mm_rng _)
theorem mm_op_10 (h4 : X.1 = 4) : ∃ S, mm_to X 175 358 mm_L0 [] mm_M0 S ∧ mm_fin S := by
  have r1 := mm_rng (X.2 1)
  rcases (show (X.2 1).toInt ≤ 9 ∨ ((10 : Int) ≤ (X.2 1).toInt ∧ (X.2 1).toInt ≤ 10) ∨ ((11 : Int) ≤ (X.2 1).toInt ∧ (X.2 1).toInt ≤ 31) ∨ ((32 : Int) ≤ (X.2 1).toInt ∧ (X.2 1).toInt ≤ 126) ∨ (127 : Int) ≤ (X.2 1).toInt by omega) with h_0 | h_0 | h_0 | h_0 | h_0
  · exact mm_box pb_10_0 h4 ⟨by omega, by omega⟩ (mm_rng _) (mm_rng _)
  · exact mm_box pb_10_1 h4 ⟨by omega, by omega⟩ (mm_rng _) (mm_rng _)
  · exact mm_box pb_10_2 h4 ⟨by omega, by omega⟩ (mm_rng _) (mm_rng _)
  · exact mm_box pb_10_3 h4 ⟨by omega, by omega⟩ (mm_rng _) (mm_rng _)
  · exact mm_box pb_10_4 h4 ⟨by omega, by omega⟩ (mm_rng _) (mm_rng _)
theorem mm_op_11 (h4 : X.1 = 4) : ∃ S, mm_to X 175 381 mm_L0 [] mm_M0 S ∧ mm_fin S := by
  have r1 := mm_rng (X.2 1)
  rcases (show (X.2 1).toInt ≤ -1 ∨ ((0 : Int) ≤ (X.2 1).toInt ∧ (X.2 1).toInt ≤ 0) ∨ ((1 : Int) ≤ (X.2 1).toInt ∧ (X.2 1).toInt ≤ 1) ∨ (2 : Int) ≤ (X.2 1).toInt by omega) with h_0 | h_0 | h_0 | h_0
  · exact mm_box pb_11_0 h4 ⟨by omega, by omega⟩ (mm_rng _) (mm_rng _)
  · exact mm_box pb_11_1 h4 ⟨by omega, by omega⟩ (mm_rng _) (mm_rng _)
  · exact mm_box pb_11_2 h4 ⟨by omega, by omega⟩ (mm_rng _) (mm_rng _)
  · exact mm_box pb_11_3 h4 ⟨by omega, by omega⟩ (mm_rng _) (mm_rng _)
theorem mm_op_12 (h4 : X.1 = 4) : ∃ S, mm_to X 175 404 mm_L0 [] mm_M0 S ∧ mm_fin S := by
  have r1 := mm_rng (X.2 1)
  rcases (show (X.2 1).toInt ≤ 0 ∨ ((1 : Int) ≤ (X.2 1).toInt ∧ (X.2 1).toInt ≤ 100000) ∨ (100001 : Int) ≤ (X.2 1).toInt by omega) with h_0 | h_0 | h_0
  · exact mm_box pb_12_0 h4 ⟨by omega, by omega⟩ (mm_rng _) (mm_rng _)
  · exact mm_box pb_12_1 h4 ⟨by omega, by omega⟩ (mm_rng _) (mm_rng _)
  · exact mm_box pb_12_2 h4 ⟨by omega, by omega⟩ (mm_rng _) (mm_rng _)
theorem mm_op_13 (h4 : X.1 = 4) : ∃ S, mm_to X 175 427 mm_L0 [] mm_M0 S ∧ mm_fin S := by
  have r1 := mm_rng (X.2 1)
  rcases (show (X.2 1).toInt ≤ -1 ∨ ((0 : Int) ≤ (X.2 1).toInt ∧ (X.2 1).toInt ≤ 0) ∨ ((1 : Int) ≤ (X.2 1).toInt ∧ (X.2 1).toInt ≤ 1) ∨ (2 : Int) ≤ (X.2 1).toInt by omega) with h_0 | h_0 | h_0 | h_0
  · exact mm_box pb_13_0 h4 ⟨by omega, by omega⟩ (mm_rng _) (mm_rng _)
  · have r2 := mm_rng (X.2 2)
    rcases (show (X.2 2).toInt ≤ -1 ∨ ((0 : Int) ≤ (X.2 2).toInt ∧ (X.2 2).toInt ≤ 0) ∨ ((1 : Int) ≤ (X.2 2).toInt ∧ (X.2 2).toInt ≤ 1) ∨ ((2 : Int) ≤ (X.2 2).toInt ∧ (X.2 2).toInt ≤ 2) ∨ ((3 : Int) ≤ (X.2 2).toInt ∧ (X.2 2).toInt ≤ 3) ∨ ((4 : Int) ≤ (X.2 2).toInt ∧ (X.2 2).toInt ≤ 4) ∨ ((5 : Int) ≤ (X.2 2).toInt ∧ (X.2 2).toInt ≤ 5) ∨ ((6 : Int) ≤ (X.2 2).toInt ∧ (X.2 2).toInt ≤ 6) ∨ ((7 : Int) ≤ (X.2 2).toInt ∧ (X.2 2).toInt ≤ 7) ∨ ((8 : Int) ≤ (X.2 2).toInt ∧ (X.2 2).toInt ≤ 8) ∨ (9 : Int) ≤ (X.2 2).toInt by omega) with h_1 | h_1 | h_1 | h_1 | h_1 | h_1 | h_1 | h_1 | h_1 | h_1 | h_1
    · exact mm_box pb_13_2 h4 ⟨by omega, by omega⟩ ⟨by omega, by omega⟩ (mm_rng _)
    · exact mm_box pb_13_3 h4 ⟨by omega, by omega⟩ ⟨by omega, by omega⟩ (mm_rng _)
    · exact mm_box pb_13_4 h4 ⟨by omega, by omega⟩ ⟨by omega, by omega⟩ (mm_rng _)
    · exact mm_box pb_13_5 h4 ⟨by omega, by omega⟩ ⟨by omega, by omega⟩ (mm_rng _)
    · exact mm_box pb_13_6 h4 ⟨by omega, by omega⟩ ⟨by omega, by omega⟩ (mm_rng _)
    · exact mm_box pb_13_7 h4 ⟨by omega, by omega⟩ ⟨by omega, by omega⟩ (mm_rng _)
    · exact mm_box pb_13_8 h4 ⟨by omega, by omega⟩ ⟨by omega, by omega⟩ (mm_rng _)
    · exact mm_box pb_13_9 h4 ⟨by omega, by omega⟩ ⟨by omega, by omega⟩ (mm_rng _)
    · exact mm_box pb_13_10 h4 ⟨by omega, by omega⟩ ⟨by omega, by omega⟩ (mm_rng _)
    · exact mm_box pb_13_11 h4 ⟨by omega, by omega⟩ ⟨by omega, by omega⟩ (mm_rng _)
    · exact mm_box pb_13_12 h4 ⟨by omega, by omega⟩ ⟨by omega, by omega⟩ (mm_rng _)
  · have r2 := mm_rng (X.2 2)
    rcases (show (X.2 2).toInt ≤ -1 ∨ ((0 : Int) ≤ (X.2 2).toInt ∧ (X.2 2).toInt ≤ 0) ∨ ((1 : Int) ≤ (X.2 2).toInt ∧ (X.2 2).toInt ≤ 1) ∨ ((2 : Int) ≤ (X.2 2).toInt ∧ (X.2 2).toInt ≤ 2) ∨ ((3 : Int) ≤ (X.2 2).toInt ∧ (X.2 2).toInt ≤ 3) ∨ ((4 : Int) ≤ (X.2 2).toInt ∧ (X.2 2).toInt ≤ 4) ∨ ((5 : Int) ≤ (X.2 2).toInt ∧ (X.2 2).toInt ≤ 5) ∨ ((6 : Int) ≤ (X.2 2).toInt ∧ (X.2 2).toInt ≤ 6) ∨ ((7 : Int) ≤ (X.2 2).toInt ∧ (X.2 2).toInt ≤ 7) ∨ ((8 : Int) ≤ (X.2 2).toInt ∧ (X.2 2).toInt ≤ 8) ∨ (9 : Int) ≤ (X.2 2).toInt by omega) with h_1 | h_1 | h_1 | h_1 | h_1 | h_1 | h_1 | h_1 | h_1 | h_1 | h_1
    · exact mm_box pb_13_13 h4 ⟨by omega, by omega⟩ ⟨by omega, by omega⟩ (mm_rng _)
    · exact mm_box pb_13_14 h4 ⟨by omega, by omega⟩ ⟨by omega, by omega⟩ (mm_rng _)
    · exact mm_box pb_13_15 h4 ⟨by omega, by omega⟩ ⟨by omega, by omega⟩ (mm_rng _)
    · exact mm_box pb_13_16 h4 ⟨by omega, by omega⟩ ⟨by omega, by omega⟩ (mm_rng _)
    · exact mm_box pb_13_17 h4 ⟨by omega, by omega⟩ ⟨by omega, by omega⟩ (mm_rng _)
    · exact mm_box pb_13_18 h4 ⟨by omega, by omega⟩ ⟨by omega, by omega⟩ (mm_rng _)
    · exact mm_box pb_13_19 h4 ⟨by omega, by omega⟩ ⟨by omega, by omega⟩ (mm_rng _)
    · exact mm_box pb_13_20 h4 ⟨by omega, by omega⟩ ⟨by omega, by omega⟩ (mm_rng _)
    · exact mm_box pb_13_21 h4 ⟨by omega, by omega⟩ ⟨by omega, by omega⟩ (mm_rng _)
    · exact mm_box pb_13_22 h4 ⟨by omega, by omega⟩ ⟨by omega, by omega⟩ (mm_rng _)
    · exact mm_box pb_13_23 h4 ⟨by omega, by omega⟩ ⟨by omega, by omega⟩ (mm_rng _)
  · exact mm_box pb_13_1 h4 ⟨by omega, by omega⟩ (mm_rng _) (mm_rng _)
theorem mm_op_14 (h4 : X.1 = 4) : ∃ S, mm_to X 175 460 mm_L0 [] mm_M0 S ∧ mm_fin S := by
  have r1 := mm_rng (X.2 1)
  rcases (show (X.2 1).toInt ≤ -1 ∨ ((0 : Int) ≤ (X.2 1).toInt ∧ (X.2 1).toInt ≤ 0) ∨ ((1 : Int) ≤ (X.2 1).toInt ∧ (X.2 1).toInt ≤ 1) ∨ (2 : Int) ≤ (X.2 1).toInt by omega) with h_0 | h_0 | h_0 | h_0
  · exact mm_box pb_14_0 h4 ⟨by omega, by omega⟩ (mm_rng _) (mm_rng _)
  · have r2 := mm_rng (X.2 2)
    rcases (show (X.2 2).toInt ≤ -1 ∨ (0 : Int) ≤ (X.2 2).toInt by omega) with h_1 | h_1
    · exact mm_box pb_14_2 h4 ⟨by omega, by omega⟩ ⟨by omega, by omega⟩ (mm_rng _)
    · exact mm_box pb_14_3 h4 ⟨by omega, by omega⟩ ⟨by omega, by omega⟩ (mm_rng _)
  · have r2 := mm_rng (X.2 2)
    rcases (show (X.2 2).toInt ≤ -1 ∨ (0 : Int) ≤ (X.2 2).toInt by omega) with h_1 | h_1
    · exact mm_box pb_14_4 h4 ⟨by omega, by omega⟩ ⟨by omega, by omega⟩ (mm_rng _)
    · exact mm_box pb_14_5 h4 ⟨by omega, by omega⟩ ⟨by omega, by omega⟩ (mm_rng _)
  · exact mm_box pb_14_1 h4 ⟨by omega, by omega⟩ (mm_rng _) (mm_rng _)
theorem mm_op_15 (h4 : X.1 = 4) : ∃ S, mm_to X 175 503 mm_L0 [] mm_M0 S ∧ mm_fin S := mm_box pb_15 h4 (mm_rng _) (mm_rng _) (mm_rng _)
theorem mm_short {n : Nat} (h : ax_good (n, fun _ => ax_top) 18 ax_M0 = true) (hX : X.1 = n) : ∃ S, mm_to X 175 18 mm_L0 [] mm_M0 S ∧ mm_fin S := ax_good_ok (ρ := fun _ => 0) h ⟨hX, fun j _ => ax_top_g _⟩ mm_M0_g rfl
end PD
theorem mm_done : mm_goal 4 := by
  intro X hX
  have key : ∃ S, mm_to X 175 18 mm_L0 [] mm_M0 S ∧ mm_fin S := by
    by_cases h4 : X.1 = 4
    · obtain ⟨j, hj, hx⟩ := pk_andE (X.2 0) (m := 15) 4 (by decide)
      have h16 : j < 16 := hj
      have hop : ∃ S, mm_to X 175 (mm_tg j) mm_L0 [] mm_M0 S ∧ mm_fin S := by
        match j, h16 with
        | 0, _ => exact mm_op_0 h4
        | 1, _ => exact mm_op_1 h4
        | 2, _ => exact mm_op_2 h4
        | 3, _ => exact mm_op_3 h4
        | 4, _ => exact mm_op_4 h4
        | 5, _ => exact mm_op_5 h4
        | 6, _ => exact mm_op_6 h4
        | 7, _ => exact mm_op_7 h4
        | 8, _ => exact mm_op_8 h4
        | 9, _ => exact mm_op_9 h4
        | 10, _ => exact mm_op_10 h4
        | 11, _ => exact mm_op_11 h4
        | 12, _ => exact mm_op_12 h4
        | 13, _ => exact mm_op_13 h4
        | 14, _ => exact mm_op_14 h4
        | 15, _ => exact mm_op_15 h4
        | n + 16, h => exact absurd h (by omega)
      obtain ⟨S, h1, h2⟩ := hop
      exact ⟨S, mm_disp h4 h16 hx h1, h2⟩
    · have h5 : X.1 = 0 ∨ X.1 = 1 ∨ X.1 = 2 ∨ X.1 = 3 := by omega
      rcases h5 with h5 | h5 | h5 | h5
      · exact mm_short ps_0 h5
      · exact mm_short ps_1 h5
      · exact mm_short ps_2 h5
      · exact mm_short ps_3 h5
  obtain ⟨S, h1, len, LF, MF, pcF, rfl, h3, h4, h5⟩ := key
  obtain ⟨n, hn⟩ := mm_head h1
  exact ⟨n, pcF, len, LF, MF, hn, h3, h4, h5⟩
