/-! where the machine stands when it stops: in the odd class's clone, called by Floor's constructor, called by WarmFloor's, called by the law -/
def ct_end : State := stepsAlone start1.p0.tables start1.e0 60 ct_s
def ct_where (s : State) : Bool := match s.frames with
  | .java f :: .java g :: .java h :: .java i :: _ => decide (f.method = ⟨23, 0⟩) && decide (f.pc = 0) && decide (g.method = ⟨3, 0⟩) && decide (h.method = ⟨2, 0⟩) && decide (i.method = ⟨0, 0⟩)
  | _ => false
def ct_stopped (s : State) : Bool := match s.status with
  | .stopped (.illTyped _) => true
  | _ => false
set_option maxRecDepth 16384 in
theorem ct_there : ct_where ct_end = true := by decide +kernel
set_option maxRecDepth 16384 in
theorem ct_stops : ct_stopped ct_end = true := by decide +kernel
