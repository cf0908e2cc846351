section
theorem pd_0_0 : ∀ e ∈ (pt_0.drop 0).take 200, decode code e.1 = .ok e.2 := by decide +kernel
theorem pd_0_200 : ∀ e ∈ (pt_0.drop 200).take 200, decode code e.1 = .ok e.2 := by decide +kernel
theorem pd_0_400 : ∀ e ∈ (pt_0.drop 400).take 200, decode code e.1 = .ok e.2 := by decide +kernel
theorem pd_0_600 : ∀ e ∈ (pt_0.drop 600).take 200, decode code e.1 = .ok e.2 := by decide +kernel
theorem pd_0_800 : ∀ e ∈ (pt_0.drop 800).take 200, decode code e.1 = .ok e.2 := by decide +kernel
theorem pd_0_1000 : ∀ e ∈ (pt_0.drop 1000).take 200, decode code e.1 = .ok e.2 := by decide +kernel
theorem pd_0_1200 : ∀ e ∈ (pt_0.drop 1200).take 200, decode code e.1 = .ok e.2 := by decide +kernel
theorem pd_0_1400 : ∀ e ∈ (pt_0.drop 1400).take 200, decode code e.1 = .ok e.2 := by decide +kernel
theorem pd_0_1600 : ∀ e ∈ (pt_0.drop 1600).take 200, decode code e.1 = .ok e.2 := by decide +kernel
end
