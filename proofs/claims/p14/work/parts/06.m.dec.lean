theorem mm_okM_164 : (List.range 4).all (fun k => mm_okM (164 + k)) = true := by decide +kernel
theorem mm_okM_168 : (List.range 5).all (fun k => mm_okM (168 + k)) = true := by decide +kernel
theorem mm_okM_173 : (List.range 2).all (fun k => mm_okM (173 + k)) = true := by decide +kernel
