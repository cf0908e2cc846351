section
theorem pd_0_0 : ∀ e ∈ pt_0_0, decode code e.1 = .ok e.2 := by decide +kernel
theorem pd_0_100 : ∀ e ∈ pt_0_100, decode code e.1 = .ok e.2 := by decide +kernel
theorem pd_0_200 : ∀ e ∈ pt_0_200, decode code e.1 = .ok e.2 := by decide +kernel
theorem pd_0_300 : ∀ e ∈ pt_0_300, decode code e.1 = .ok e.2 := by decide +kernel
theorem pd_0_400 : ∀ e ∈ pt_0_400, decode code e.1 = .ok e.2 := by decide +kernel
theorem pd_0_500 : ∀ e ∈ pt_0_500, decode code e.1 = .ok e.2 := by decide +kernel
theorem pd_0_600 : ∀ e ∈ pt_0_600, decode code e.1 = .ok e.2 := by decide +kernel
theorem pd_0_700 : ∀ e ∈ pt_0_700, decode code e.1 = .ok e.2 := by decide +kernel
theorem pd_0_800 : ∀ e ∈ pt_0_800, decode code e.1 = .ok e.2 := by decide +kernel
theorem pd_0_900 : ∀ e ∈ pt_0_900, decode code e.1 = .ok e.2 := by decide +kernel
theorem pd_0_1000 : ∀ e ∈ pt_0_1000, decode code e.1 = .ok e.2 := by decide +kernel
theorem pd_0_1100 : ∀ e ∈ pt_0_1100, decode code e.1 = .ok e.2 := by decide +kernel
theorem pd_0_1200 : ∀ e ∈ pt_0_1200, decode code e.1 = .ok e.2 := by decide +kernel
theorem pd_0_1300 : ∀ e ∈ pt_0_1300, decode code e.1 = .ok e.2 := by decide +kernel
theorem pd_0_1400 : ∀ e ∈ pt_0_1400, decode code e.1 = .ok e.2 := by decide +kernel
theorem pd_0_1500 : ∀ e ∈ pt_0_1500, decode code e.1 = .ok e.2 := by decide +kernel
theorem pd_0_1600 : ∀ e ∈ pt_0_1600, decode code e.1 = .ok e.2 := by decide +kernel
theorem pd_0 : ∀ e ∈ pt_0, decode code e.1 = .ok e.2 := List.forall_mem_append.mpr ⟨pd_0_0, List.forall_mem_append.mpr ⟨pd_0_100, List.forall_mem_append.mpr ⟨pd_0_200, List.forall_mem_append.mpr ⟨pd_0_300, List.forall_mem_append.mpr ⟨pd_0_400, List.forall_mem_append.mpr ⟨pd_0_500, List.forall_mem_append.mpr ⟨pd_0_600, List.forall_mem_append.mpr ⟨pd_0_700, List.forall_mem_append.mpr ⟨pd_0_800, List.forall_mem_append.mpr ⟨pd_0_900, List.forall_mem_append.mpr ⟨pd_0_1000, List.forall_mem_append.mpr ⟨pd_0_1100, List.forall_mem_append.mpr ⟨pd_0_1200, List.forall_mem_append.mpr ⟨pd_0_1300, List.forall_mem_append.mpr ⟨pd_0_1400, List.forall_mem_append.mpr ⟨pd_0_1500, pd_0_1600⟩⟩⟩⟩⟩⟩⟩⟩⟩⟩⟩⟩⟩⟩⟩⟩
end
