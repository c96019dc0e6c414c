theorem mm_okM_0 : (List.range 7).all (fun k => mm_okM (0 + k)) = true := by decide +kernel
theorem mm_okM_7 : (List.range 5).all (fun k => mm_okM (7 + k)) = true := by decide +kernel
