theorem mm_okM_158 : (List.range 5).all (fun k => mm_okM (158 + k)) = true := by decide +kernel
theorem mm_okP_163_0 : (List.range 180).all (fun k => mm_okE 163 (0 + k)) = true := by decide +kernel
theorem mm_okP_163_180 : (List.range 180).all (fun k => mm_okE 163 (180 + k)) = true := by decide +kernel
theorem mm_okP_163_360 : (List.range 52).all (fun k => mm_okE 163 (360 + k)) = true := by decide +kernel
