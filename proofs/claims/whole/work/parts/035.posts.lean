theorem inw_X0 : ∀ w ∈ u_ws RX0 TX0 7, w ∈ gWd := by decide +kernel
theorem inw_X1 : ∀ w ∈ u_ws RX1 TX1 9, w ∈ gWd := by decide +kernel
theorem inw_X2 : ∀ w ∈ u_ws RX2 TX2 10, w ∈ gWd := by decide +kernel
theorem inw_X3 : ∀ w ∈ u_ws RX3 TX3 6, w ∈ gWd := by decide +kernel
theorem inw_X4 : ∀ w ∈ u_ws RX4 TX4 13, w ∈ gWd := by decide +kernel
theorem inw_X5 : ∀ w ∈ u_ws RX5 TX5 14, w ∈ gWd := by decide +kernel
theorem inw_X6 : ∀ w ∈ u_ws RX6 TX6 2, w ∈ gWd := by decide +kernel
theorem inw_X7 : ∀ w ∈ u_ws RX7 TX7 3, w ∈ gWd := by decide +kernel
theorem inw_X8 : ∀ w ∈ u_ws RX8 TX8 5, w ∈ gWd := by decide +kernel
theorem inw_X9 : ∀ w ∈ u_ws RX9 TX9 7, w ∈ gWd := by decide +kernel
theorem inw_X10 : ∀ w ∈ u_ws RX10 TX10 45, w ∈ gWd := by decide +kernel
def gPi (V : gV) (Po : Int32 → gI → gL → Prop) : gPo := fun r V' I' J' => ∃ x : Int32, r = some (.int x) ∧ V = V' ∧ Po x I' J'
def gPl (V : gV) (Po : Int64 → gI → gL → Prop) : gPo := fun r V' I' J' => ∃ x : Int64, r = some (.long x) ∧ V = V' ∧ Po x I' J'
def gPv (V : gV) (Po : gI → gL → Prop) : gPo := fun r V' I' J' => r = none ∧ V = V' ∧ Po I' J'
