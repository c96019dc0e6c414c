theorem pb_11_0 : ax_good (mm_bx (-2147483648, -1) (-2147483648, 2147483647) (-2147483648, 2147483647)) 381 ax_M0 = true := by decide +kernel
theorem pb_11_1 : ax_good (mm_bx (0, 0) (-2147483648, 2147483647) (-2147483648, 2147483647)) 381 ax_M0 = true := by decide +kernel
theorem pb_11_2 : ax_good (mm_bx (1, 1) (-2147483648, 2147483647) (-2147483648, 2147483647)) 381 ax_M0 = true := by decide +kernel
theorem pb_11_3 : ax_good (mm_bx (2, 2147483647) (-2147483648, 2147483647) (-2147483648, 2147483647)) 381 ax_M0 = true := by decide +kernel
