theorem mm_okM_12 : (List.range 7).all (fun k => mm_okM (12 + k)) = true := by decide +kernel
theorem mm_okM_19 : (List.range 14).all (fun k => mm_okM (19 + k)) = true := by decide +kernel
