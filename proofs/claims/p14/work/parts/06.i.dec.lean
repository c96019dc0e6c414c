theorem mm_okP_127_540 : (List.range 29).all (fun k => mm_okE 127 (540 + k)) = true := by decide +kernel
theorem mm_okM_128 : (List.range 8).all (fun k => mm_okM (128 + k)) = true := by decide +kernel
theorem mm_okP_136_0 : (List.range 180).all (fun k => mm_okE 136 (0 + k)) = true := by decide +kernel
theorem mm_okP_136_180 : (List.range 180).all (fun k => mm_okE 136 (180 + k)) = true := by decide +kernel
