def lw_ok : List Cond := lw_tbl.filter wok
def Cn (c : Nat) : String := (vwCl.getD c (RX0, TX0, 0)).1
def Tn (c : Nat) : u_T := (vwCl.getD c (RX0, TX0, 0)).2.1
def tyF (c : Nat) : Nat → FieldType := cTy.getD c (fun _ => .int)
theorem TB.all {s : State} (h : TB s) (args : Array Value) : ∀ w ∈ lw_ok, w.before args s = true := fun w hw => h.use (List.mem_filter.mp hw).1 (List.mem_filter.mp hw).2 args
theorem cl_at {c : Nat} (h : c < 13) : vwCl[c]? = some (Cn c, Tn c, nF c) := by
  match c, h with
  | 0, _ => rfl
  | 1, _ => rfl
  | 2, _ => rfl
  | 3, _ => rfl
  | 4, _ => rfl
  | 5, _ => rfl
  | 6, _ => rfl
  | 7, _ => rfl
  | 8, _ => rfl
  | 9, _ => rfl
  | 10, _ => rfl
  | 11, _ => rfl
  | 12, _ => rfl
set_option maxRecDepth 100000 in
theorem cl_in0 : ∀ w ∈ u_ws RX0 TX0 8, w ∈ lw_ok := by decide +kernel
set_option maxRecDepth 100000 in
theorem cl_in1 : ∀ w ∈ u_ws RX1 TX1 6, w ∈ lw_ok := by decide +kernel
set_option maxRecDepth 100000 in
theorem cl_in2 : ∀ w ∈ u_ws RX2 TX2 6, w ∈ lw_ok := by decide +kernel
set_option maxRecDepth 100000 in
theorem cl_in3 : ∀ w ∈ u_ws RX3 TX3 6, w ∈ lw_ok := by decide +kernel
set_option maxRecDepth 100000 in
theorem cl_in4 : ∀ w ∈ u_ws RX4 TX4 6, w ∈ lw_ok := by decide +kernel
set_option maxRecDepth 100000 in
theorem cl_in5 : ∀ w ∈ u_ws RX5 TX5 6, w ∈ lw_ok := by decide +kernel
set_option maxRecDepth 100000 in
theorem cl_in6 : ∀ w ∈ u_ws RX6 TX6 6, w ∈ lw_ok := by decide +kernel
set_option maxRecDepth 100000 in
theorem cl_in7 : ∀ w ∈ u_ws RX7 TX7 5, w ∈ lw_ok := by decide +kernel
set_option maxRecDepth 100000 in
theorem cl_in8 : ∀ w ∈ u_ws RX8 TX8 6, w ∈ lw_ok := by decide +kernel
set_option maxRecDepth 100000 in
theorem cl_in9 : ∀ w ∈ u_ws RX9 TX9 6, w ∈ lw_ok := by decide +kernel
set_option maxRecDepth 100000 in
theorem cl_in10 : ∀ w ∈ u_ws RX10 TX10 6, w ∈ lw_ok := by decide +kernel
set_option maxRecDepth 100000 in
theorem cl_in11 : ∀ w ∈ u_ws RX11 TX11 16, w ∈ lw_ok := by decide +kernel
set_option maxRecDepth 100000 in
theorem cl_in12 : ∀ w ∈ u_ws RX12 TX12 55, w ∈ lw_ok := by decide +kernel
theorem cl_in {c : Nat} (h : c < 13) : ∀ w ∈ u_ws (Cn c) (Tn c) (nF c), w ∈ lw_ok := by
  match c, h with
  | 0, _ => exact cl_in0
  | 1, _ => exact cl_in1
  | 2, _ => exact cl_in2
  | 3, _ => exact cl_in3
  | 4, _ => exact cl_in4
  | 5, _ => exact cl_in5
  | 6, _ => exact cl_in6
  | 7, _ => exact cl_in7
  | 8, _ => exact cl_in8
  | 9, _ => exact cl_in9
  | 10, _ => exact cl_in10
  | 11, _ => exact cl_in11
  | 12, _ => exact cl_in12
theorem cl_ty {c : Nat} (h : c < 13) : ∀ k, k < nF c → parseFieldDescriptor (Tn c k).2.2.1 = some (tyF c k) := by
  match c, h with
  | 0, _ => exact tyX0_ok
  | 1, _ => exact tyX1_ok
  | 2, _ => exact tyX2_ok
  | 3, _ => exact tyX3_ok
  | 4, _ => exact tyX4_ok
  | 5, _ => exact tyX5_ok
  | 6, _ => exact tyX6_ok
  | 7, _ => exact tyX7_ok
  | 8, _ => exact tyX8_ok
  | 9, _ => exact tyX9_ok
  | 10, _ => exact tyX10_ok
  | 11, _ => exact tyX11_ok
  | 12, _ => exact tyX12_ok
theorem cl_nm {c : Nat} (h : c < 13) : ∀ a, a < nF c → ∀ b, b < nF c → a ≠ b → (Tn c a).2.1 ≠ (Tn c b).2.1 := by
  match c, h with
  | 0, _ => exact nmX0
  | 1, _ => exact nmX1
  | 2, _ => exact nmX2
  | 3, _ => exact nmX3
  | 4, _ => exact nmX4
  | 5, _ => exact nmX5
  | 6, _ => exact nmX6
  | 7, _ => exact nmX7
  | 8, _ => exact nmX8
  | 9, _ => exact nmX9
  | 10, _ => exact nmX10
  | 11, _ => exact nmX11
  | 12, _ => exact nmX12
