/-! one instruction of the small machine is one of the machine's -/
def mm_At (p : Program) (R : Room) (s : State) (m : MethodId) (args : Array Value) (meth : Method) (c : Code) (B b : Nat) (X : Nat × (Nat → Int32)) (aK aV : Nat → Nat) (dC : Nat → ClassId) (dI : Nat → Nat → Nat) (dT : Nat → ClassId) (n0 : Nat) (y : Nat) : Prop :=
  p.tables.exec = Jvm.exec ∧ c.code = mm_by y ∧ c.maxLocals = mm_mx y ∧ s.vm.findClass (mm_cn (mm_own y)) = some m.cls ∧ (∀ w ∈ mm_ts, w.before args s = true) ∧ mm_E B b X aK aV dC dI dT s s.heap ∧ mm_fr y ≤ R.frames ∧ mm_lo y ≤ R.locals ∧ (mm_kd y = 1 → meth.name = "<init>") ∧ s.heap.size = B + n0
/-- from here on the machine comes to Q -/
def mm_G (p : Program) (l : Launch) (e : Env) (R : Room) (s : State) (m : MethodId) (args : Array Value) (below : List Frame) (meth : Method) (c : Code) (B b : Nat) (aK : Nat → Nat) (dC : Nat → ClassId) (dI : Nat → Nat → Nat) (dT : Nat → ClassId) (n0 s0 : Nat) (Q : State → Prop) (y : Nat) (pc : Nat) (L : mm_L) (st : List mm_V) (M : mm_M) : Prop :=
  ∀ (H : Heap) (locs : List Loc) (ls : Array Slot), lv_has ls (mm_mx y) (mm_el (mm_ad B b aK) L) → mm_R B b aK dC dI dT n0 s0 M H → va_S (fun q => B ≤ q) s.heap H locs →
    W p l e R s m args below meth c H locs (M.length - n0) ((mm_sh M).sum - s0) Q (F0 m pc ls (mm_es (mm_ad B b aK) st))
section MMS
variable {p : Program} {l : Launch} {e : Env} {R : Room} {s : State} {m : MethodId} {args : Array Value} {below : List Frame} {meth : Method} {c : Code}
variable {B b : Nat} {X : Nat × (Nat → Int32)} {aK aV : Nat → Nat} {dC : Nat → ClassId} {dI : Nat → Nat → Nat} {dT : Nat → ClassId} {n0 s0 : Nat} {Q : State → Prop} {y : Nat}
variable (hA : mm_At p R s m args meth c B b X aK aV dC dI dT n0 y) {pc pc1 : Nat} {L L1 : mm_L} {st st1 : List mm_V} {M M1 : mm_M}
theorem mm_x_iadd (hA : mm_At p R s m args meth c B b X aK aV dC dI dT n0 y) (hd : decode (mm_by y) pc = .ok (.iadd, 1)) (hs : mm_step X y (.iadd) pc L st M = some (pc1, L1, st1, M1)) (hk : mm_G p l e R s m args below meth c B b aK dC dI dT n0 s0 Q y pc1 L1 st1 M1) : mm_G p l e R s m args below meth c B b aK dC dI dT n0 s0 Q y pc L st M := by
  dsimp only [mm_step] at hs
  rcases st with _ | ⟨(y1 | r1 | y1), _ | ⟨(x1 | r2 | x1), st⟩⟩ <;> dsimp only at hs <;> cases hs
  intro H locs ls hl hR hS
  exact lv_iadd hA.1 hA.2.1 hd (hk H locs ls hl hR hS)
theorem mm_x_isub (hA : mm_At p R s m args meth c B b X aK aV dC dI dT n0 y) (hd : decode (mm_by y) pc = .ok (.isub, 1)) (hs : mm_step X y (.isub) pc L st M = some (pc1, L1, st1, M1)) (hk : mm_G p l e R s m args below meth c B b aK dC dI dT n0 s0 Q y pc1 L1 st1 M1) : mm_G p l e R s m args below meth c B b aK dC dI dT n0 s0 Q y pc L st M := by
  dsimp only [mm_step] at hs
  rcases st with _ | ⟨(y1 | r1 | y1), _ | ⟨(x1 | r2 | x1), st⟩⟩ <;> dsimp only at hs <;> cases hs
  intro H locs ls hl hR hS
  exact lv_isub hA.1 hA.2.1 hd (hk H locs ls hl hR hS)
theorem mm_x_imul (hA : mm_At p R s m args meth c B b X aK aV dC dI dT n0 y) (hd : decode (mm_by y) pc = .ok (.imul, 1)) (hs : mm_step X y (.imul) pc L st M = some (pc1, L1, st1, M1)) (hk : mm_G p l e R s m args below meth c B b aK dC dI dT n0 s0 Q y pc1 L1 st1 M1) : mm_G p l e R s m args below meth c B b aK dC dI dT n0 s0 Q y pc L st M := by
  dsimp only [mm_step] at hs
  rcases st with _ | ⟨(y1 | r1 | y1), _ | ⟨(x1 | r2 | x1), st⟩⟩ <;> dsimp only at hs <;> cases hs
  intro H locs ls hl hR hS
  exact lv_imul hA.1 hA.2.1 hd (hk H locs ls hl hR hS)
theorem mm_x_iand (hA : mm_At p R s m args meth c B b X aK aV dC dI dT n0 y) (hd : decode (mm_by y) pc = .ok (.iand, 1)) (hs : mm_step X y (.iand) pc L st M = some (pc1, L1, st1, M1)) (hk : mm_G p l e R s m args below meth c B b aK dC dI dT n0 s0 Q y pc1 L1 st1 M1) : mm_G p l e R s m args below meth c B b aK dC dI dT n0 s0 Q y pc L st M := by
  dsimp only [mm_step] at hs
  rcases st with _ | ⟨(y1 | r1 | y1), _ | ⟨(x1 | r2 | x1), st⟩⟩ <;> dsimp only at hs <;> cases hs
  intro H locs ls hl hR hS
  exact lv_iand hA.1 hA.2.1 hd (hk H locs ls hl hR hS)
theorem mm_x_ior (hA : mm_At p R s m args meth c B b X aK aV dC dI dT n0 y) (hd : decode (mm_by y) pc = .ok (.ior, 1)) (hs : mm_step X y (.ior) pc L st M = some (pc1, L1, st1, M1)) (hk : mm_G p l e R s m args below meth c B b aK dC dI dT n0 s0 Q y pc1 L1 st1 M1) : mm_G p l e R s m args below meth c B b aK dC dI dT n0 s0 Q y pc L st M := by
  dsimp only [mm_step] at hs
  rcases st with _ | ⟨(y1 | r1 | y1), _ | ⟨(x1 | r2 | x1), st⟩⟩ <;> dsimp only at hs <;> cases hs
  intro H locs ls hl hR hS
  exact lv_ior hA.1 hA.2.1 hd (hk H locs ls hl hR hS)
theorem mm_x_ishl (hA : mm_At p R s m args meth c B b X aK aV dC dI dT n0 y) (hd : decode (mm_by y) pc = .ok (.ishl, 1)) (hs : mm_step X y (.ishl) pc L st M = some (pc1, L1, st1, M1)) (hk : mm_G p l e R s m args below meth c B b aK dC dI dT n0 s0 Q y pc1 L1 st1 M1) : mm_G p l e R s m args below meth c B b aK dC dI dT n0 s0 Q y pc L st M := by
  dsimp only [mm_step] at hs
  rcases st with _ | ⟨(y1 | r1 | y1), _ | ⟨(x1 | r2 | x1), st⟩⟩ <;> dsimp only at hs <;> cases hs
  intro H locs ls hl hR hS
  exact lv_ishl hA.1 hA.2.1 hd (hk H locs ls hl hR hS)
theorem mm_x_ishr (hA : mm_At p R s m args meth c B b X aK aV dC dI dT n0 y) (hd : decode (mm_by y) pc = .ok (.ishr, 1)) (hs : mm_step X y (.ishr) pc L st M = some (pc1, L1, st1, M1)) (hk : mm_G p l e R s m args below meth c B b aK dC dI dT n0 s0 Q y pc1 L1 st1 M1) : mm_G p l e R s m args below meth c B b aK dC dI dT n0 s0 Q y pc L st M := by
  dsimp only [mm_step] at hs
  rcases st with _ | ⟨(y1 | r1 | y1), _ | ⟨(x1 | r2 | x1), st⟩⟩ <;> dsimp only at hs <;> cases hs
  intro H locs ls hl hR hS
  exact lv_ishr hA.1 hA.2.1 hd (hk H locs ls hl hR hS)
theorem mm_x_idiv (hA : mm_At p R s m args meth c B b X aK aV dC dI dT n0 y) (hd : decode (mm_by y) pc = .ok (.idiv, 1)) (hs : mm_step X y (.idiv) pc L st M = some (pc1, L1, st1, M1)) (hk : mm_G p l e R s m args below meth c B b aK dC dI dT n0 s0 Q y pc1 L1 st1 M1) : mm_G p l e R s m args below meth c B b aK dC dI dT n0 s0 Q y pc L st M := by
  dsimp only [mm_step] at hs
  rcases st with _ | ⟨(y1 | r1 | y1), _ | ⟨(x1 | r2 | x1), st⟩⟩ <;> dsimp only at hs <;> first | (cases hs; done) | skip
  split at hs <;> cases hs
  rename_i h0
  intro H locs ls hl hR hS
  exact lv_idiv hA.1 hA.2.1 hd h0 (hk H locs ls hl hR hS)
theorem mm_x_irem (hA : mm_At p R s m args meth c B b X aK aV dC dI dT n0 y) (hd : decode (mm_by y) pc = .ok (.irem, 1)) (hs : mm_step X y (.irem) pc L st M = some (pc1, L1, st1, M1)) (hk : mm_G p l e R s m args below meth c B b aK dC dI dT n0 s0 Q y pc1 L1 st1 M1) : mm_G p l e R s m args below meth c B b aK dC dI dT n0 s0 Q y pc L st M := by
  dsimp only [mm_step] at hs
  rcases st with _ | ⟨(y1 | r1 | y1), _ | ⟨(x1 | r2 | x1), st⟩⟩ <;> dsimp only at hs <;> first | (cases hs; done) | skip
  split at hs <;> cases hs
  rename_i h0
  intro H locs ls hl hR hS
  exact lv_irem hA.1 hA.2.1 hd h0 (hk H locs ls hl hR hS)
theorem mm_x_iload_n (k : Fin 4) (hA : mm_At p R s m args meth c B b X aK aV dC dI dT n0 y) (hd : decode (mm_by y) pc = .ok (.iload_n k, 1)) (hs : mm_step X y (.iload_n k) pc L st M = some (pc1, L1, st1, M1)) (hk : mm_G p l e R s m args below meth c B b aK dC dI dT n0 s0 Q y pc1 L1 st1 M1) : mm_G p l e R s m args below meth c B b aK dC dI dT n0 s0 Q y pc L st M := by
  dsimp only [mm_step] at hs
  split at hs <;> cases hs
  rename_i x1 hx
  intro H locs ls hl hR hS
  exact lv_iload_n hA.1 hA.2.1 hd rfl (mm_lk_at hx hl) (hk H locs ls hl hR hS)
theorem mm_x_iload (k : Nat) (hA : mm_At p R s m args meth c B b X aK aV dC dI dT n0 y) (hd : decode (mm_by y) pc = .ok (.iload k, 2)) (hs : mm_step X y (.iload k) pc L st M = some (pc1, L1, st1, M1)) (hk : mm_G p l e R s m args below meth c B b aK dC dI dT n0 s0 Q y pc1 L1 st1 M1) : mm_G p l e R s m args below meth c B b aK dC dI dT n0 s0 Q y pc L st M := by
  dsimp only [mm_step] at hs
  split at hs <;> cases hs
  rename_i x1 hx
  intro H locs ls hl hR hS
  exact lv_iload hA.1 hA.2.1 hd (mm_lk_at hx hl) (hk H locs ls hl hR hS)
theorem mm_x_lload_n (k : Fin 4) (hA : mm_At p R s m args meth c B b X aK aV dC dI dT n0 y) (hd : decode (mm_by y) pc = .ok (.lload_n k, 1)) (hs : mm_step X y (.lload_n k) pc L st M = some (pc1, L1, st1, M1)) (hk : mm_G p l e R s m args below meth c B b aK dC dI dT n0 s0 Q y pc1 L1 st1 M1) : mm_G p l e R s m args below meth c B b aK dC dI dT n0 s0 Q y pc L st M := by
  dsimp only [mm_step] at hs
  split at hs <;> cases hs
  rename_i x1 hx
  intro H locs ls hl hR hS
  exact lv_lload_n hA.1 hA.2.1 hd rfl (mm_lk_at hx hl) (hk H locs ls hl hR hS)
theorem mm_x_lload (k : Nat) (hA : mm_At p R s m args meth c B b X aK aV dC dI dT n0 y) (hd : decode (mm_by y) pc = .ok (.lload k, 2)) (hs : mm_step X y (.lload k) pc L st M = some (pc1, L1, st1, M1)) (hk : mm_G p l e R s m args below meth c B b aK dC dI dT n0 s0 Q y pc1 L1 st1 M1) : mm_G p l e R s m args below meth c B b aK dC dI dT n0 s0 Q y pc L st M := by
  dsimp only [mm_step] at hs
  split at hs <;> cases hs
  rename_i x1 hx
  intro H locs ls hl hR hS
  exact lv_lload hA.1 hA.2.1 hd (mm_lk_at hx hl) (hk H locs ls hl hR hS)
theorem mm_x_aload_n (k : Fin 4) (hA : mm_At p R s m args meth c B b X aK aV dC dI dT n0 y) (hd : decode (mm_by y) pc = .ok (.aload_n k, 1)) (hs : mm_step X y (.aload_n k) pc L st M = some (pc1, L1, st1, M1)) (hk : mm_G p l e R s m args below meth c B b aK dC dI dT n0 s0 Q y pc1 L1 st1 M1) : mm_G p l e R s m args below meth c B b aK dC dI dT n0 s0 Q y pc L st M := by
  dsimp only [mm_step] at hs
  split at hs <;> cases hs
  rename_i r1 hx
  intro H locs ls hl hR hS
  have h1 := mm_lk_at hx hl
  cases r1 with
  | none => exact lv_aload_nN hA.1 hA.2.1 hd rfl h1 (hk H locs ls hl hR hS)
  | some a => exact lv_aload_n hA.1 hA.2.1 hd rfl h1 (hk H locs ls hl hR hS)
theorem mm_x_aload (k : Nat) (hA : mm_At p R s m args meth c B b X aK aV dC dI dT n0 y) (hd : decode (mm_by y) pc = .ok (.aload k, 2)) (hs : mm_step X y (.aload k) pc L st M = some (pc1, L1, st1, M1)) (hk : mm_G p l e R s m args below meth c B b aK dC dI dT n0 s0 Q y pc1 L1 st1 M1) : mm_G p l e R s m args below meth c B b aK dC dI dT n0 s0 Q y pc L st M := by
  dsimp only [mm_step] at hs
  split at hs <;> cases hs
  rename_i r1 hx
  intro H locs ls hl hR hS
  have h1 := mm_lk_at hx hl
  cases r1 with
  | none => exact lv_aloadN hA.1 hA.2.1 hd h1 (hk H locs ls hl hR hS)
  | some a => exact lv_aload hA.1 hA.2.1 hd h1 (hk H locs ls hl hR hS)
theorem mm_x_istore_n (k : Fin 4) (hA : mm_At p R s m args meth c B b X aK aV dC dI dT n0 y) (hd : decode (mm_by y) pc = .ok (.istore_n k, 1)) (hs : mm_step X y (.istore_n k) pc L st M = some (pc1, L1, st1, M1)) (hk : mm_G p l e R s m args below meth c B b aK dC dI dT n0 s0 Q y pc1 L1 st1 M1) : mm_G p l e R s m args below meth c B b aK dC dI dT n0 s0 Q y pc L st M := by
  dsimp only [mm_step] at hs
  rcases st with _ | ⟨(x1 | r1 | x1), st⟩ <;> dsimp only at hs <;> first | (cases hs; done) | skip
  split at hs <;> cases hs
  rename_i hm
  intro H locs ls hl hR hS
  exact lv_istore_n hA.1 hA.2.1 hd rfl hl hm (mm_st1_el _ _ (.inl x1) _) (fun ls1 hl1 => hk H locs ls1 hl1 hR hS)
theorem mm_x_istore (k : Nat) (hA : mm_At p R s m args meth c B b X aK aV dC dI dT n0 y) (hd : decode (mm_by y) pc = .ok (.istore k, 2)) (hs : mm_step X y (.istore k) pc L st M = some (pc1, L1, st1, M1)) (hk : mm_G p l e R s m args below meth c B b aK dC dI dT n0 s0 Q y pc1 L1 st1 M1) : mm_G p l e R s m args below meth c B b aK dC dI dT n0 s0 Q y pc L st M := by
  dsimp only [mm_step] at hs
  rcases st with _ | ⟨(x1 | r1 | x1), st⟩ <;> dsimp only at hs <;> first | (cases hs; done) | skip
  split at hs <;> cases hs
  rename_i hm
  intro H locs ls hl hR hS
  exact lv_istore hA.1 hA.2.1 hd hl hm (mm_st1_el _ _ (.inl x1) _) (fun ls1 hl1 => hk H locs ls1 hl1 hR hS)
theorem mm_x_lstore_n (k : Fin 4) (hA : mm_At p R s m args meth c B b X aK aV dC dI dT n0 y) (hd : decode (mm_by y) pc = .ok (.lstore_n k, 1)) (hs : mm_step X y (.lstore_n k) pc L st M = some (pc1, L1, st1, M1)) (hk : mm_G p l e R s m args below meth c B b aK dC dI dT n0 s0 Q y pc1 L1 st1 M1) : mm_G p l e R s m args below meth c B b aK dC dI dT n0 s0 Q y pc L st M := by
  dsimp only [mm_step] at hs
  rcases st with _ | ⟨(x1 | r1 | x1), st⟩ <;> dsimp only at hs <;> first | (cases hs; done) | skip
  split at hs <;> cases hs
  rename_i hm
  intro H locs ls hl hR hS
  exact lv_lstore_n hA.1 hA.2.1 hd rfl hl hm (mm_st2_el _ _ (.inr (.inr x1)) _) (fun ls1 hl1 => hk H locs ls1 hl1 hR hS)
theorem mm_x_lstore (k : Nat) (hA : mm_At p R s m args meth c B b X aK aV dC dI dT n0 y) (hd : decode (mm_by y) pc = .ok (.lstore k, 2)) (hs : mm_step X y (.lstore k) pc L st M = some (pc1, L1, st1, M1)) (hk : mm_G p l e R s m args below meth c B b aK dC dI dT n0 s0 Q y pc1 L1 st1 M1) : mm_G p l e R s m args below meth c B b aK dC dI dT n0 s0 Q y pc L st M := by
  dsimp only [mm_step] at hs
  rcases st with _ | ⟨(x1 | r1 | x1), st⟩ <;> dsimp only at hs <;> first | (cases hs; done) | skip
  split at hs <;> cases hs
  rename_i hm
  intro H locs ls hl hR hS
  exact lv_lstore hA.1 hA.2.1 hd hl hm (mm_st2_el _ _ (.inr (.inr x1)) _) (fun ls1 hl1 => hk H locs ls1 hl1 hR hS)
theorem mm_x_astore_n (k : Fin 4) (hA : mm_At p R s m args meth c B b X aK aV dC dI dT n0 y) (hd : decode (mm_by y) pc = .ok (.astore_n k, 1)) (hs : mm_step X y (.astore_n k) pc L st M = some (pc1, L1, st1, M1)) (hk : mm_G p l e R s m args below meth c B b aK dC dI dT n0 s0 Q y pc1 L1 st1 M1) : mm_G p l e R s m args below meth c B b aK dC dI dT n0 s0 Q y pc L st M := by
  dsimp only [mm_step] at hs
  rcases st with _ | ⟨(x1 | r1 | x1), st⟩ <;> dsimp only at hs <;> first | (cases hs; done) | skip
  split at hs <;> cases hs
  rename_i hm
  intro H locs ls hl hR hS
  cases r1 with
  | none => exact lv_astore_nN hA.1 hA.2.1 hd rfl hl hm (mm_st1_el _ _ (.inr (.inl none)) _) (fun ls1 hl1 => hk H locs ls1 hl1 hR hS)
  | some a => exact lv_astore_n hA.1 hA.2.1 hd rfl hl hm (mm_st1_el _ _ (.inr (.inl (some a))) _) (fun ls1 hl1 => hk H locs ls1 hl1 hR hS)
theorem mm_x_astore (k : Nat) (hA : mm_At p R s m args meth c B b X aK aV dC dI dT n0 y) (hd : decode (mm_by y) pc = .ok (.astore k, 2)) (hs : mm_step X y (.astore k) pc L st M = some (pc1, L1, st1, M1)) (hk : mm_G p l e R s m args below meth c B b aK dC dI dT n0 s0 Q y pc1 L1 st1 M1) : mm_G p l e R s m args below meth c B b aK dC dI dT n0 s0 Q y pc L st M := by
  dsimp only [mm_step] at hs
  rcases st with _ | ⟨(x1 | r1 | x1), st⟩ <;> dsimp only at hs <;> first | (cases hs; done) | skip
  split at hs <;> cases hs
  rename_i hm
  intro H locs ls hl hR hS
  cases r1 with
  | none => exact lv_astoreN hA.1 hA.2.1 hd hl hm (mm_st1_el _ _ (.inr (.inl none)) _) (fun ls1 hl1 => hk H locs ls1 hl1 hR hS)
  | some a => exact lv_astore hA.1 hA.2.1 hd hl hm (mm_st1_el _ _ (.inr (.inl (some a))) _) (fun ls1 hl1 => hk H locs ls1 hl1 hR hS)
theorem mm_x_iinc (k : Nat) (n : Int) (hA : mm_At p R s m args meth c B b X aK aV dC dI dT n0 y) (hd : decode (mm_by y) pc = .ok (.iinc k n, 3)) (hs : mm_step X y (.iinc k n) pc L st M = some (pc1, L1, st1, M1)) (hk : mm_G p l e R s m args below meth c B b aK dC dI dT n0 s0 Q y pc1 L1 st1 M1) : mm_G p l e R s m args below meth c B b aK dC dI dT n0 s0 Q y pc L st M := by
  dsimp only [mm_step] at hs
  split at hs
  · rename_i x1 hx
    split at hs <;> cases hs
    rename_i hm
    intro H locs ls hl hR hS
    obtain ⟨j, hj⟩ := mm_lk_ix (ad := mm_ad B b aK) hx
    exact lv_iinc hA.1 hA.2.1 hd hl (k := j) hj rfl hm (mm_st1_el _ _ (.inl (x1 + Int32.ofInt n)) _) (fun ls1 hl1 => hk H locs ls1 hl1 hR hS)
  · cases hs
theorem mm_x_iconst (n : Int) (hA : mm_At p R s m args meth c B b X aK aV dC dI dT n0 y) (hd : decode (mm_by y) pc = .ok (.iconst n, 1)) (hs : mm_step X y (.iconst n) pc L st M = some (pc1, L1, st1, M1)) (hk : mm_G p l e R s m args below meth c B b aK dC dI dT n0 s0 Q y pc1 L1 st1 M1) : mm_G p l e R s m args below meth c B b aK dC dI dT n0 s0 Q y pc L st M := by
  dsimp only [mm_step] at hs
  cases hs
  intro H locs ls hl hR hS
  exact lv_iconst hA.1 hA.2.1 hd rfl (hk H locs ls hl hR hS)
theorem mm_x_bipush (n : Int) (hA : mm_At p R s m args meth c B b X aK aV dC dI dT n0 y) (hd : decode (mm_by y) pc = .ok (.bipush n, 2)) (hs : mm_step X y (.bipush n) pc L st M = some (pc1, L1, st1, M1)) (hk : mm_G p l e R s m args below meth c B b aK dC dI dT n0 s0 Q y pc1 L1 st1 M1) : mm_G p l e R s m args below meth c B b aK dC dI dT n0 s0 Q y pc L st M := by
  dsimp only [mm_step] at hs
  cases hs
  intro H locs ls hl hR hS
  exact lv_bipush hA.1 hA.2.1 hd rfl (hk H locs ls hl hR hS)
theorem mm_x_sipush (n : Int) (hA : mm_At p R s m args meth c B b X aK aV dC dI dT n0 y) (hd : decode (mm_by y) pc = .ok (.sipush n, 3)) (hs : mm_step X y (.sipush n) pc L st M = some (pc1, L1, st1, M1)) (hk : mm_G p l e R s m args below meth c B b aK dC dI dT n0 s0 Q y pc1 L1 st1 M1) : mm_G p l e R s m args below meth c B b aK dC dI dT n0 s0 Q y pc L st M := by
  dsimp only [mm_step] at hs
  cases hs
  intro H locs ls hl hR hS
  exact lv_sipush hA.1 hA.2.1 hd rfl (hk H locs ls hl hR hS)
theorem mm_x_aconst_null (hA : mm_At p R s m args meth c B b X aK aV dC dI dT n0 y) (hd : decode (mm_by y) pc = .ok (.aconst_null, 1)) (hs : mm_step X y (.aconst_null) pc L st M = some (pc1, L1, st1, M1)) (hk : mm_G p l e R s m args below meth c B b aK dC dI dT n0 s0 Q y pc1 L1 st1 M1) : mm_G p l e R s m args below meth c B b aK dC dI dT n0 s0 Q y pc L st M := by
  dsimp only [mm_step] at hs
  cases hs
  intro H locs ls hl hR hS
  exact lv_null hA.1 hA.2.1 hd (hk H locs ls hl hR hS)
theorem mm_x_ladd (hA : mm_At p R s m args meth c B b X aK aV dC dI dT n0 y) (hd : decode (mm_by y) pc = .ok (.ladd, 1)) (hs : mm_step X y (.ladd) pc L st M = some (pc1, L1, st1, M1)) (hk : mm_G p l e R s m args below meth c B b aK dC dI dT n0 s0 Q y pc1 L1 st1 M1) : mm_G p l e R s m args below meth c B b aK dC dI dT n0 s0 Q y pc L st M := by
  dsimp only [mm_step] at hs
  rcases st with _ | ⟨(y1 | r1 | y1), _ | ⟨(x1 | r2 | x1), st⟩⟩ <;> dsimp only at hs <;> cases hs
  intro H locs ls hl hR hS
  exact lv_ladd hA.1 hA.2.1 hd (hk H locs ls hl hR hS)
theorem mm_x_lmul (hA : mm_At p R s m args meth c B b X aK aV dC dI dT n0 y) (hd : decode (mm_by y) pc = .ok (.lmul, 1)) (hs : mm_step X y (.lmul) pc L st M = some (pc1, L1, st1, M1)) (hk : mm_G p l e R s m args below meth c B b aK dC dI dT n0 s0 Q y pc1 L1 st1 M1) : mm_G p l e R s m args below meth c B b aK dC dI dT n0 s0 Q y pc L st M := by
  dsimp only [mm_step] at hs
  rcases st with _ | ⟨(y1 | r1 | y1), _ | ⟨(x1 | r2 | x1), st⟩⟩ <;> dsimp only at hs <;> cases hs
  intro H locs ls hl hR hS
  exact lv_lmul hA.1 hA.2.1 hd (hk H locs ls hl hR hS)
theorem mm_x_i2l (hA : mm_At p R s m args meth c B b X aK aV dC dI dT n0 y) (hd : decode (mm_by y) pc = .ok (.i2l, 1)) (hs : mm_step X y (.i2l) pc L st M = some (pc1, L1, st1, M1)) (hk : mm_G p l e R s m args below meth c B b aK dC dI dT n0 s0 Q y pc1 L1 st1 M1) : mm_G p l e R s m args below meth c B b aK dC dI dT n0 s0 Q y pc L st M := by
  dsimp only [mm_step] at hs
  rcases st with _ | ⟨(y1 | r1 | y1), st⟩ <;> dsimp only at hs <;> cases hs
  intro H locs ls hl hR hS
  exact lv_i2l hA.1 hA.2.1 hd rfl (hk H locs ls hl hR hS)
theorem mm_x_l2i (hA : mm_At p R s m args meth c B b X aK aV dC dI dT n0 y) (hd : decode (mm_by y) pc = .ok (.l2i, 1)) (hs : mm_step X y (.l2i) pc L st M = some (pc1, L1, st1, M1)) (hk : mm_G p l e R s m args below meth c B b aK dC dI dT n0 s0 Q y pc1 L1 st1 M1) : mm_G p l e R s m args below meth c B b aK dC dI dT n0 s0 Q y pc L st M := by
  dsimp only [mm_step] at hs
  rcases st with _ | ⟨(y1 | r1 | y1), st⟩ <;> dsimp only at hs <;> cases hs
  intro H locs ls hl hR hS
  exact lv_l2i hA.1 hA.2.1 hd rfl (hk H locs ls hl hR hS)
theorem mm_x_i2c (hA : mm_At p R s m args meth c B b X aK aV dC dI dT n0 y) (hd : decode (mm_by y) pc = .ok (.i2c, 1)) (hs : mm_step X y (.i2c) pc L st M = some (pc1, L1, st1, M1)) (hk : mm_G p l e R s m args below meth c B b aK dC dI dT n0 s0 Q y pc1 L1 st1 M1) : mm_G p l e R s m args below meth c B b aK dC dI dT n0 s0 Q y pc L st M := by
  dsimp only [mm_step] at hs
  rcases st with _ | ⟨(y1 | r1 | y1), st⟩ <;> dsimp only at hs <;> cases hs
  intro H locs ls hl hR hS
  exact lv_i2c hA.1 hA.2.1 hd rfl (hk H locs ls hl hR hS)
theorem mm_x_dup (hA : mm_At p R s m args meth c B b X aK aV dC dI dT n0 y) (hd : decode (mm_by y) pc = .ok (.dup, 1)) (hs : mm_step X y (.dup) pc L st M = some (pc1, L1, st1, M1)) (hk : mm_G p l e R s m args below meth c B b aK dC dI dT n0 s0 Q y pc1 L1 st1 M1) : mm_G p l e R s m args below meth c B b aK dC dI dT n0 s0 Q y pc L st M := by
  dsimp only [mm_step] at hs
  rcases st with _ | ⟨v, st⟩ <;> dsimp only at hs
  · cases hs
  split at hs <;> cases hs
  rename_i hc
  intro H locs ls hl hR hS
  exact lv_dup hA.1 hA.2.1 hd ((mm_ev_cat _ v).trans hc) (hk H locs ls hl hR hS)
theorem mm_x_pop (hA : mm_At p R s m args meth c B b X aK aV dC dI dT n0 y) (hd : decode (mm_by y) pc = .ok (.pop, 1)) (hs : mm_step X y (.pop) pc L st M = some (pc1, L1, st1, M1)) (hk : mm_G p l e R s m args below meth c B b aK dC dI dT n0 s0 Q y pc1 L1 st1 M1) : mm_G p l e R s m args below meth c B b aK dC dI dT n0 s0 Q y pc L st M := by
  dsimp only [mm_step] at hs
  rcases st with _ | ⟨v, st⟩ <;> dsimp only at hs
  · cases hs
  split at hs <;> cases hs
  rename_i hc
  intro H locs ls hl hR hS
  exact lv_pop hA.1 hA.2.1 hd ((mm_ev_cat _ v).trans hc) (hk H locs ls hl hR hS)
theorem mm_x_dup2 (hA : mm_At p R s m args meth c B b X aK aV dC dI dT n0 y) (hd : decode (mm_by y) pc = .ok (.dup2, 1)) (hs : mm_step X y (.dup2) pc L st M = some (pc1, L1, st1, M1)) (hk : mm_G p l e R s m args below meth c B b aK dC dI dT n0 s0 Q y pc1 L1 st1 M1) : mm_G p l e R s m args below meth c B b aK dC dI dT n0 s0 Q y pc L st M := by
  dsimp only [mm_step] at hs
  rcases st with _ | ⟨v, _ | ⟨w, st⟩⟩ <;> dsimp only at hs
  · cases hs
  · cases hs
  split at hs <;> cases hs
  rename_i hc
  intro H locs ls hl hR hS
  exact lv_dup2_11 hA.1 hA.2.1 hd ((mm_ev_cat _ v).trans hc.1) ((mm_ev_cat _ w).trans hc.2) (hk H locs ls hl hR hS)
theorem mm_tgt_eq {pc t : Nat} {off : Int} (h : mm_tgt pc off = some t) : (pc : Int) + off = (t : Int) := by
  unfold mm_tgt at h
  split at h
  · cases h
    omega
  · cases h
theorem mm_br_e {bb : Bool} {off : Int} (h : mm_br bb pc off L st M = some (pc1, L1, st1, M1)) : ∃ t : Nat, (pc : Int) + off = (t : Int) ∧ pc1 = (if bb = true then t else pc + 3) ∧ L = L1 ∧ st = st1 ∧ M = M1 := by
  unfold mm_br at h
  split at h
  · cases h
  · rename_i t ht
    cases h
    exact ⟨t, mm_tgt_eq ht, rfl, rfl, rfl, rfl⟩
theorem mm_x_goto (off : Int) (hA : mm_At p R s m args meth c B b X aK aV dC dI dT n0 y) (hd : decode (mm_by y) pc = .ok (.goto off, 3)) (hs : mm_step X y (.goto off) pc L st M = some (pc1, L1, st1, M1)) (hk : mm_G p l e R s m args below meth c B b aK dC dI dT n0 s0 Q y pc1 L1 st1 M1) : mm_G p l e R s m args below meth c B b aK dC dI dT n0 s0 Q y pc L st M := by
  dsimp only [mm_step] at hs
  obtain ⟨t, ht, rfl, rfl, rfl, rfl⟩ := mm_br_e hs
  try rw [if_pos rfl] at hk
  intro H locs ls hl hR hS
  exact lv_goto hA.1 hA.2.1 hd ht (hk H locs ls hl hR hS)
theorem mm_x_ifCond (cc : Jvm.ClassFile.Cond) (off : Int) (hA : mm_At p R s m args meth c B b X aK aV dC dI dT n0 y) (hd : decode (mm_by y) pc = .ok (.ifCond cc off, 3)) (hs : mm_step X y (.ifCond cc off) pc L st M = some (pc1, L1, st1, M1)) (hk : mm_G p l e R s m args below meth c B b aK dC dI dT n0 s0 Q y pc1 L1 st1 M1) : mm_G p l e R s m args below meth c B b aK dC dI dT n0 s0 Q y pc L st M := by
  dsimp only [mm_step] at hs
  rcases st with _ | ⟨(x1 | r1 | x1), st⟩ <;> dsimp only at hs <;> first | (cases hs; done) | skip
  obtain ⟨t, ht, rfl, rfl, rfl, rfl⟩ := mm_br_e hs
  intro H locs ls hl hR hS
  cases cc with
  | eq => exact lv_if_eq hA.1 hA.2.1 hd ht (fun q => by rw [if_pos (show mm_cmp .eq x1 0 = true by simp [mm_cmp, q])] at hk; exact hk H locs ls hl hR hS) (fun q => by rw [if_neg (show ¬ mm_cmp .eq x1 0 = true by simp [mm_cmp, q])] at hk; exact hk H locs ls hl hR hS)
  | ne => exact lv_if_ne hA.1 hA.2.1 hd ht (fun q => by rw [if_pos (show mm_cmp .ne x1 0 = true by simp [mm_cmp, q])] at hk; exact hk H locs ls hl hR hS) (fun q => by rw [if_neg (show ¬ mm_cmp .ne x1 0 = true by simp [mm_cmp, q])] at hk; exact hk H locs ls hl hR hS)
  | lt => exact lv_if_lt hA.1 hA.2.1 hd ht (fun q => by rw [if_pos (show mm_cmp .lt x1 0 = true by simp [mm_cmp, q])] at hk; exact hk H locs ls hl hR hS) (fun q => by rw [if_neg (show ¬ mm_cmp .lt x1 0 = true by simp [mm_cmp, q])] at hk; exact hk H locs ls hl hR hS)
  | ge => exact lv_if_ge hA.1 hA.2.1 hd ht (fun q => by rw [if_pos (show mm_cmp .ge x1 0 = true by simp [mm_cmp, q])] at hk; exact hk H locs ls hl hR hS) (fun q => by rw [if_neg (show ¬ mm_cmp .ge x1 0 = true by simp [mm_cmp, q])] at hk; exact hk H locs ls hl hR hS)
  | gt => exact lv_if_gt hA.1 hA.2.1 hd ht (fun q => by rw [if_pos (show mm_cmp .gt x1 0 = true by simp [mm_cmp, q])] at hk; exact hk H locs ls hl hR hS) (fun q => by rw [if_neg (show ¬ mm_cmp .gt x1 0 = true by simp [mm_cmp, q])] at hk; exact hk H locs ls hl hR hS)
  | le => exact lv_if_le hA.1 hA.2.1 hd ht (fun q => by rw [if_pos (show mm_cmp .le x1 0 = true by simp [mm_cmp, q])] at hk; exact hk H locs ls hl hR hS) (fun q => by rw [if_neg (show ¬ mm_cmp .le x1 0 = true by simp [mm_cmp, q])] at hk; exact hk H locs ls hl hR hS)
theorem mm_x_if_icmp (cc : Jvm.ClassFile.Cond) (off : Int) (hA : mm_At p R s m args meth c B b X aK aV dC dI dT n0 y) (hd : decode (mm_by y) pc = .ok (.if_icmp cc off, 3)) (hs : mm_step X y (.if_icmp cc off) pc L st M = some (pc1, L1, st1, M1)) (hk : mm_G p l e R s m args below meth c B b aK dC dI dT n0 s0 Q y pc1 L1 st1 M1) : mm_G p l e R s m args below meth c B b aK dC dI dT n0 s0 Q y pc L st M := by
  dsimp only [mm_step] at hs
  rcases st with _ | ⟨(y1 | r1 | y1), _ | ⟨(x1 | r2 | x1), st⟩⟩ <;> dsimp only at hs <;> first | (cases hs; done) | skip
  obtain ⟨t, ht, rfl, rfl, rfl, rfl⟩ := mm_br_e hs
  intro H locs ls hl hR hS
  cases cc with
  | eq => exact lv_icmp_eq hA.1 hA.2.1 hd ht (fun q => by rw [if_pos (show mm_cmp .eq x1 y1 = true by simp [mm_cmp, q])] at hk; exact hk H locs ls hl hR hS) (fun q => by rw [if_neg (show ¬ mm_cmp .eq x1 y1 = true by simp [mm_cmp, q])] at hk; exact hk H locs ls hl hR hS)
  | ne => exact lv_icmp_ne hA.1 hA.2.1 hd ht (fun q => by rw [if_pos (show mm_cmp .ne x1 y1 = true by simp [mm_cmp, q])] at hk; exact hk H locs ls hl hR hS) (fun q => by rw [if_neg (show ¬ mm_cmp .ne x1 y1 = true by simp [mm_cmp, q])] at hk; exact hk H locs ls hl hR hS)
  | lt => exact lv_icmp_lt hA.1 hA.2.1 hd ht (fun q => by rw [if_pos (show mm_cmp .lt x1 y1 = true by simp [mm_cmp, q])] at hk; exact hk H locs ls hl hR hS) (fun q => by rw [if_neg (show ¬ mm_cmp .lt x1 y1 = true by simp [mm_cmp, q])] at hk; exact hk H locs ls hl hR hS)
  | ge => exact lv_icmp_ge hA.1 hA.2.1 hd ht (fun q => by rw [if_pos (show mm_cmp .ge x1 y1 = true by simp [mm_cmp, q])] at hk; exact hk H locs ls hl hR hS) (fun q => by rw [if_neg (show ¬ mm_cmp .ge x1 y1 = true by simp [mm_cmp, q])] at hk; exact hk H locs ls hl hR hS)
  | gt => exact lv_icmp_gt hA.1 hA.2.1 hd ht (fun q => by rw [if_pos (show mm_cmp .gt x1 y1 = true by simp [mm_cmp, q])] at hk; exact hk H locs ls hl hR hS) (fun q => by rw [if_neg (show ¬ mm_cmp .gt x1 y1 = true by simp [mm_cmp, q])] at hk; exact hk H locs ls hl hR hS)
  | le => exact lv_icmp_le hA.1 hA.2.1 hd ht (fun q => by rw [if_pos (show mm_cmp .le x1 y1 = true by simp [mm_cmp, q])] at hk; exact hk H locs ls hl hR hS) (fun q => by rw [if_neg (show ¬ mm_cmp .le x1 y1 = true by simp [mm_cmp, q])] at hk; exact hk H locs ls hl hR hS)
theorem mm_x_ifnull (off : Int) (hA : mm_At p R s m args meth c B b X aK aV dC dI dT n0 y) (hd : decode (mm_by y) pc = .ok (.ifnull off, 3)) (hs : mm_step X y (.ifnull off) pc L st M = some (pc1, L1, st1, M1)) (hk : mm_G p l e R s m args below meth c B b aK dC dI dT n0 s0 Q y pc1 L1 st1 M1) : mm_G p l e R s m args below meth c B b aK dC dI dT n0 s0 Q y pc L st M := by
  dsimp only [mm_step] at hs
  rcases st with _ | ⟨(x1 | r1 | x1), st⟩ <;> dsimp only at hs <;> first | (cases hs; done) | skip
  obtain ⟨t, ht, rfl, rfl, rfl, rfl⟩ := mm_br_e hs
  intro H locs ls hl hR hS
  cases r1 with
  | none => exact lv_ifnullN hA.1 hA.2.1 hd ht (hk H locs ls hl hR hS)
  | some a => exact lv_ifnull hA.1 hA.2.1 hd (hk H locs ls hl hR hS)
theorem mm_x_ifnonnull (off : Int) (hA : mm_At p R s m args meth c B b X aK aV dC dI dT n0 y) (hd : decode (mm_by y) pc = .ok (.ifnonnull off, 3)) (hs : mm_step X y (.ifnonnull off) pc L st M = some (pc1, L1, st1, M1)) (hk : mm_G p l e R s m args below meth c B b aK dC dI dT n0 s0 Q y pc1 L1 st1 M1) : mm_G p l e R s m args below meth c B b aK dC dI dT n0 s0 Q y pc L st M := by
  dsimp only [mm_step] at hs
  rcases st with _ | ⟨(x1 | r1 | x1), st⟩ <;> dsimp only at hs <;> first | (cases hs; done) | skip
  obtain ⟨t, ht, rfl, rfl, rfl, rfl⟩ := mm_br_e hs
  intro H locs ls hl hR hS
  cases r1 with
  | none => exact lv_ifnonnullN hA.1 hA.2.1 hd (hk H locs ls hl hR hS)
  | some a => exact lv_ifnonnull hA.1 hA.2.1 hd ht (hk H locs ls hl hR hS)
theorem mm_x_tableswitch (d lo hi : Int) (os : Array Int) (len : Nat) (hA : mm_At p R s m args meth c B b X aK aV dC dI dT n0 y) (hd : decode (mm_by y) pc = .ok (.tableswitch d lo hi os, len)) (hs : mm_step X y (.tableswitch d lo hi os) pc L st M = some (pc1, L1, st1, M1)) (hk : mm_G p l e R s m args below meth c B b aK dC dI dT n0 s0 Q y pc1 L1 st1 M1) : mm_G p l e R s m args below meth c B b aK dC dI dT n0 s0 Q y pc L st M := by
  dsimp only [mm_step] at hs
  rcases st with _ | ⟨(x1 | r1 | x1), st⟩ <;> dsimp only at hs <;> first | (cases hs; done) | skip
  split at hs
  · rename_i hx
    split at hs <;> cases hs
    rename_i t ht
    intro H locs ls hl hR hS
    exact lv_tableOut hA.1 hA.2.1 hd hx (mm_tgt_eq ht) (hk H locs ls hl hR hS)
  · rename_i hx
    split at hs
    · cases hs
    · rename_i off ho
      split at hs <;> cases hs
      rename_i t ht
      intro H locs ls hl hR hS
      exact lv_tableIn hA.1 hA.2.1 hd (fun q => hx (Or.inl q)) (fun q => hx (Or.inr q)) ho (mm_tgt_eq ht) (hk H locs ls hl hR hS)
end MMS
