theorem mm_okM_55 : (List.range 8).all (fun k => mm_okM (55 + k)) = true := by decide +kernel
theorem mm_okM_63 : (List.range 15).all (fun k => mm_okM (63 + k)) = true := by decide +kernel
