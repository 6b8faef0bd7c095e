/-! the words of the constructors are words of the tables -/
set_option maxRecDepth 100000 in
theorem cTa_sub : ∀ w ∈ cTa, w ∈ lw_tbl := by decide +kernel
set_option maxRecDepth 100000 in
theorem mTa_sub : ∀ w ∈ mTa, w ∈ lw_tbl := by decide +kernel
set_option maxRecDepth 100000 in
theorem uX10_sub : ∀ w ∈ u_ws RX10 TX10 2, w ∈ lw_tbl := by decide +kernel
set_option maxRecDepth 100000 in
theorem uX11_sub : ∀ w ∈ u_ws RX11 TX11 15, w ∈ lw_tbl := by decide +kernel
set_option maxRecDepth 100000 in
theorem uX6_sub : ∀ w ∈ u_ws RX6 TX6 4, w ∈ lw_tbl := by decide +kernel
set_option maxRecDepth 100000 in
theorem uX7_sub : ∀ w ∈ u_ws RX7 TX7 7, w ∈ lw_tbl := by decide +kernel
set_option maxRecDepth 100000 in
theorem uX9_sub : ∀ w ∈ u_ws RX9 TX9 4, w ∈ lw_tbl := by decide +kernel
set_option maxRecDepth 100000 in
theorem uX2_sub : ∀ w ∈ u_ws RX2 TX2 4, w ∈ lw_tbl := by decide +kernel
set_option maxRecDepth 100000 in
theorem uX5_sub : ∀ w ∈ u_ws RX5 TX5 2, w ∈ lw_tbl := by decide +kernel
set_option maxRecDepth 100000 in
theorem uX3_sub : ∀ w ∈ u_ws RX3 TX3 4, w ∈ lw_tbl := by decide +kernel
set_option maxRecDepth 100000 in
theorem uX8_sub : ∀ w ∈ u_ws RX8 TX8 4, w ∈ lw_tbl := by decide +kernel
set_option maxRecDepth 100000 in
theorem uX0_sub : ∀ w ∈ u_ws RX0 TX0 2, w ∈ lw_tbl := by decide +kernel
set_option maxRecDepth 100000 in
theorem uX1_sub : ∀ w ∈ u_ws RX1 TX1 6, w ∈ lw_tbl := by decide +kernel
set_option maxRecDepth 100000 in
theorem uX4_sub : ∀ w ∈ u_ws RX4 TX4 7, w ∈ lw_tbl := by decide +kernel
set_option maxRecDepth 100000 in
theorem uX12_sub : ∀ w ∈ u_ws RX12 TX12 48, w ∈ lw_tbl := by decide +kernel
theorem cT_sub : ∀ w ∈ cT, w ∈ lw_tbl := List.forall_mem_append.mpr ⟨cTa_sub, List.forall_mem_append.mpr ⟨uX10_sub, List.forall_mem_append.mpr ⟨uX11_sub, List.forall_mem_append.mpr ⟨uX6_sub, List.forall_mem_append.mpr ⟨uX7_sub, List.forall_mem_append.mpr ⟨uX9_sub, List.forall_mem_append.mpr ⟨uX2_sub, List.forall_mem_append.mpr ⟨uX5_sub, List.forall_mem_append.mpr ⟨uX3_sub, List.forall_mem_append.mpr ⟨uX8_sub, List.forall_mem_append.mpr ⟨uX0_sub, List.forall_mem_append.mpr ⟨uX1_sub, uX4_sub⟩⟩⟩⟩⟩⟩⟩⟩⟩⟩⟩⟩
theorem mT_sub : ∀ w ∈ mT, w ∈ lw_tbl := List.forall_mem_append.mpr ⟨mTa_sub, uX12_sub⟩
