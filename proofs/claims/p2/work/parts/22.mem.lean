/-! the memory behind the two constructors -/
def mm_def (ci : Nat) : mm_C := .inl (ci, (mm_fl.getD ci []).map (fun q => mm_dv q.2.2.2.2))
def mm_RC : Option mm_S := mm_runZ 20000 85 0 (mm_locals [.inr (.inl (some 0))]) [] [mm_def 9]
def mm_mem (r : Option mm_S) : mm_M := match r with
  | some s => s.2.2.2
  | none => []
def mm_MC : mm_M := mm_mem mm_RC
def mm_RM : Option mm_S := mm_runZ 20000 104 0 (mm_locals [.inr (.inl (some 223))]) [] (mm_MC ++ [mm_def 10])
def mm_M0 : mm_M := mm_mem mm_RM
theorem mm_f1 : mm_RC.map (fun s => (s.1, s.2.2.1)) = some (119, []) := by decide +kernel
theorem mm_f2 : mm_MC.length = 223 := by decide +kernel
theorem mm_f3 : mm_RM.map (fun s => (s.1, s.2.2.1)) = some (261, []) := by decide +kernel
theorem mm_f5 : mm_M0.length = 256 ∧ (mm_sh mm_M0).sum ≤ 7302250 := by decide +kernel
