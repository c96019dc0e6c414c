theorem mm_okM_125 : (List.range 2).all (fun k => mm_okM (125 + k)) = true := by decide +kernel
theorem mm_okP_127_0 : (List.range 180).all (fun k => mm_okE 127 (0 + k)) = true := by decide +kernel
theorem mm_okP_127_180 : (List.range 180).all (fun k => mm_okE 127 (180 + k)) = true := by decide +kernel
theorem mm_okP_127_360 : (List.range 180).all (fun k => mm_okE 127 (360 + k)) = true := by decide +kernel
