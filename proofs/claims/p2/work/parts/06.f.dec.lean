theorem mm_okM_104 : (List.range 7).all (fun k => mm_okM (104 + k)) = true := by decide +kernel
theorem mm_okM_111 : (List.range 5).all (fun k => mm_okM (111 + k)) = true := by decide +kernel
