theorem mm_okM_137 : (List.range 14).all (fun k => mm_okM (137 + k)) = true := by decide +kernel
theorem mm_okM_151 : (List.range 7).all (fun k => mm_okM (151 + k)) = true := by decide +kernel
