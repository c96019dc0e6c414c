theorem mm_okM_116 : (List.range 3).all (fun k => mm_okM (116 + k)) = true := by decide +kernel
theorem mm_okM_119 : (List.range 6).all (fun k => mm_okM (119 + k)) = true := by decide +kernel
