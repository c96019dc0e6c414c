theorem fm_M0 : fm_chk fm_0 mm_M0 = true := by decide +kernel
