theorem mm_okP_136_360 : (List.range 180).all (fun k => mm_okE 136 (360 + k)) = true := by decide +kernel
theorem mm_okP_136_540 : (List.range 156).all (fun k => mm_okE 136 (540 + k)) = true := by decide +kernel
