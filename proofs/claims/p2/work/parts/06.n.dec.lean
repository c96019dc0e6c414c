theorem mm_okP_175_0 : (List.range 180).all (fun k => mm_okE 175 (0 + k)) = true := by decide +kernel
theorem mm_okP_175_180 : (List.range 180).all (fun k => mm_okE 175 (180 + k)) = true := by decide +kernel
theorem mm_okP_175_360 : (List.range 151).all (fun k => mm_okE 175 (360 + k)) = true := by decide +kernel
