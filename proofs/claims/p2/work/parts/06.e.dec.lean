theorem mm_okM_78 : (List.range 14).all (fun k => mm_okM (78 + k)) = true := by decide +kernel
theorem mm_okM_92 : (List.range 12).all (fun k => mm_okM (92 + k)) = true := by decide +kernel
