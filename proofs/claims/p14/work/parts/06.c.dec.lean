theorem mm_okM_33 : (List.range 14).all (fun k => mm_okM (33 + k)) = true := by decide +kernel
theorem mm_okM_47 : (List.range 8).all (fun k => mm_okM (47 + k)) = true := by decide +kernel
