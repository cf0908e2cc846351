/-! Both answer alike: the methods that write nothing. -/
noncomputable section
theorem Inv.c {σ : ex_S} {x : Nat} {T : Tol} {I : Nat → Option Tol} (h : Inv σ x T I) : isX σ x ∧ isT σ (x + 1) T ∧ wT T := ⟨h.1.1, h.1.2.1, h.2.2.1⟩
theorem InvM.a {σ : ex_S} {y : Nat} {T : Tol} {I : Nat → Option Tol} (h : InvM σ y T I) : ∃ g A, isM σ y g A ∧ mT A 0 T := by
  obtain ⟨g, A, -, -, -, -, -, -, -, -, -, -, -, -, -, -, -, a1, a2, -⟩ := h
  exact ⟨g, A, a1, a2⟩
theorem Mid.m {σ : ex_S} {x : Nat} {T T' : Tol} {I I' : Nat → Option Tol} (h : Mid σ x T T' I I') : ∃ g A, isM σ (x + 117) g A ∧ mT A 0 T := InvM.a h.2.1
theorem pr_goes {Γ : ex_G} {x : Nat} (u v : Int32) : Pair Γ x m_SD_goes m_M_goes [.int u, .int v] := by
  intro σ T I h
  obtain ⟨hX, hT, hw⟩ := h.c
  by_cases hg : ∃ i j, gd T u v i j
  · obtain ⟨i, j, hg⟩ := hg
    refine ⟨_, T, I, CallC.pure h (goes_some hX hT hw hg), fun τ hτ => ?_⟩
    obtain ⟨g, A, hM, hmT⟩ := hτ.m
    exact CallM.pure hτ (m_goes_yes hM hmT hw hg)
  · skip
    refine ⟨_, T, I, CallC.pure h (goes_none hX hT hw hg), fun τ hτ => ?_⟩
    obtain ⟨g, A, hM, hmT⟩ := hτ.m
    exact CallM.pure hτ (m_goes_no hM hmT hw hg)
theorem pr_home {Γ : ex_G} {x : Nat} (u v : Int32) : Pair Γ x m_SD_home m_M_home [.int u, .int v] := by
  intro σ T I h
  obtain ⟨hX, hT, hw⟩ := h.c
  by_cases hg : ∃ i j, gd T u v i j
  · obtain ⟨i, j, hg⟩ := hg
    refine ⟨_, T, I, CallC.pure h (home_some hX hT hw hg), fun τ hτ => ?_⟩
    obtain ⟨g, A, hM, hmT⟩ := hτ.m
    exact CallM.pure hτ (m_home_some hM hmT hw hg)
  · skip
    refine ⟨_, T, I, CallC.pure h (home_none hX hT hw hg), fun τ hτ => ?_⟩
    obtain ⟨g, A, hM, hmT⟩ := hτ.m
    exact CallM.pure hτ (m_home_none hM hmT hw hg)
theorem pr_coin {Γ : ex_G} {x : Nat} (u v : Int32) : Pair Γ x m_SD_coin m_M_coin [.int u, .int v] := by
  intro σ T I h
  obtain ⟨hX, hT, hw⟩ := h.c
  by_cases hg : ∃ i j, gd T u v i j
  · obtain ⟨i, j, hg⟩ := hg
    refine ⟨_, T, I, CallC.pure h (coin_some hX hT hw hg), fun τ hτ => ?_⟩
    obtain ⟨g, A, hM, hmT⟩ := hτ.m
    exact CallM.pure hτ (m_coin_some hM hmT hw hg)
  · skip
    refine ⟨_, T, I, CallC.pure h (coin_none hX hT hw hg), fun τ hτ => ?_⟩
    obtain ⟨g, A, hM, hmT⟩ := hτ.m
    exact CallM.pure hτ (m_coin_none hM hmT hw hg)
theorem pr_fit {Γ : ex_G} {x : Nat} (u v : Int32) (k l : Int32) : Pair Γ x m_SD_fit m_M_fit [.int u, .int v, .int k, .int l] := by
  intro σ T I h
  obtain ⟨hX, hT, hw⟩ := h.c
  by_cases hg : ∃ i j, gd T u v i j
  · obtain ⟨i, j, hg⟩ := hg
    refine ⟨_, T, I, CallC.pure h (fit_some hX hT hw hg k l), fun τ hτ => ?_⟩
    obtain ⟨g, A, hM, hmT⟩ := hτ.m
    exact CallM.pure hτ (m_fit1_some hM hmT hw hg k l)
  · skip
    refine ⟨_, T, I, CallC.pure h (fit_none hX hT hw hg k l), fun τ hτ => ?_⟩
    obtain ⟨g, A, hM, hmT⟩ := hτ.m
    exact CallM.pure hτ (m_fit1_none hM hmT hw hg k l)
theorem pr_learnt {Γ : ex_G} {x : Nat} (u v : Int32) (k l : Int32) : Pair Γ x m_SD_learnt m_M_learnt [.int u, .int v, .int k, .int l] := by
  intro σ T I h
  obtain ⟨hX, hT, hw⟩ := h.c
  by_cases hg : ∃ i j, gd T u v i j
  · obtain ⟨i, j, hg⟩ := hg
    refine ⟨_, T, I, CallC.pure h (learnt_some hX hT hw hg k l), fun τ hτ => ?_⟩
    obtain ⟨g, A, hM, hmT⟩ := hτ.m
    exact CallM.pure hτ (m_learnt_some hM hmT hw hg k l)
  · skip
    refine ⟨_, T, I, CallC.pure h (learnt_none hX hT hw hg k l), fun τ hτ => ?_⟩
    obtain ⟨g, A, hM, hmT⟩ := hτ.m
    exact CallM.pure hτ (m_learnt_none hM hmT hw hg k l)
theorem pr_busy {Γ : ex_G} {x : Nat} (u v : Int32) (t : Int32) : Pair Γ x m_SD_busy m_M_busy [.int u, .int v, .int t] := by
  intro σ T I h
  obtain ⟨hX, hT, hw⟩ := h.c
  by_cases hg : ∃ i j, gd T u v i j
  · obtain ⟨i, j, hg⟩ := hg
    refine ⟨_, T, I, CallC.pure h (busy_some hX hT hw hg t), fun τ hτ => ?_⟩
    obtain ⟨g, A, hM, hmT⟩ := hτ.m
    exact CallM.pure hτ (m_busy_some hM hmT hw hg t)
  · skip
    refine ⟨_, T, I, CallC.pure h (busy_none hX hT hw hg t), fun τ hτ => ?_⟩
    obtain ⟨g, A, hM, hmT⟩ := hτ.m
    exact CallM.pure hτ (m_busy_none hM hmT hw hg t)
theorem pr_test {Γ : ex_G} {x : Nat} (u v : Int32) (l : Int32) : Pair Γ x m_SD_test m_M_test [.int u, .int v, .int l] := by
  intro σ T I h
  obtain ⟨hX, hT, hw⟩ := h.c
  by_cases hg : ∃ i j, gd T u v i j
  · obtain ⟨i, j, hg⟩ := hg
    refine ⟨_, T, I, CallC.pure h (test_some hX hT hw hg l), fun τ hτ => ?_⟩
    obtain ⟨g, A, hM, hmT⟩ := hτ.m
    exact CallM.pure hτ (m_test_some hM hmT hw hg l)
  · skip
    refine ⟨_, T, I, CallC.pure h (test_none hX hT hw hg l), fun τ hτ => ?_⟩
    obtain ⟨g, A, hM, hmT⟩ := hτ.m
    exact CallM.pure hτ (m_test_none hM hmT hw hg l)
theorem pr_whom {Γ : ex_G} {x : Nat} (u v : Int32) : Pair Γ x m_SD_whom m_M_whom [.int u, .int v] := by
  intro σ T I h
  obtain ⟨hX, hT, hw⟩ := h.c
  by_cases hg : ∃ i j, gd T u v i j
  · obtain ⟨i, j, hg⟩ := hg
    refine ⟨_, T, I, CallC.pure h (whom_some hX hT hw hg), fun τ hτ => ?_⟩
    obtain ⟨g, A, hM, hmT⟩ := hτ.m
    exact CallM.pure hτ (m_whom_some hM hmT hw hg)
  · skip
    refine ⟨_, T, I, CallC.pure h (whom_none hX hT hw hg), fun τ hτ => ?_⟩
    obtain ⟨g, A, hM, hmT⟩ := hτ.m
    exact CallM.pure hτ (m_whom_none hM hmT hw hg)
theorem pr_toll {Γ : ex_G} {x : Nat} (u v : Int32) : Pair Γ x m_SD_toll m_M_toll [.int u, .int v] := by
  intro σ T I h
  obtain ⟨hX, hT, hw⟩ := h.c
  by_cases hg : ∃ i j, gd T u v i j
  · obtain ⟨i, j, hg⟩ := hg
    refine ⟨_, T, I, CallC.pure h (toll_some hX hT hw hg), fun τ hτ => ?_⟩
    obtain ⟨g, A, hM, hmT⟩ := hτ.m
    have hr := m_toll_some (Γ := Γ) hM hmT hw hg
    rw [toll_eq (hw.2.2.2.1 i hg.2.1) (hw.2.2.2.2 j hg.2.2.2.1).1 hg.2.2.2.2] at hr
    exact CallM.pure hτ hr
  · skip
    refine ⟨_, T, I, CallC.pure h (toll_none hX hT hw hg), fun τ hτ => ?_⟩
    obtain ⟨g, A, hM, hmT⟩ := hτ.m
    exact CallM.pure hτ (m_toll_none hM hmT hw hg)
theorem pr_off {Γ : ex_G} {x : Nat} (u : Int32) (f : Int32) : Pair Γ x m_SD_off m_M_off [.int u, .int f] := by
  intro σ T I h
  obtain ⟨hX, hT, hw⟩ := h.c
  have hn1 := hw.2.1
  have hn2 := hw.2.2.1
  rcases ix_cases u (n := tSn T) (by omega) with hu | hu | ⟨i, hi, rfl⟩
  · skip
    refine ⟨_, T, I, CallC.pure h (off_none hX hT hw (Or.inl hu) f), fun τ hτ => ?_⟩
    obtain ⟨g, A, hM, hmT⟩ := hτ.m
    exact CallM.pure hτ (m_off_none hM hmT hw (Or.inl hu) f)
  · skip
    refine ⟨_, T, I, CallC.pure h (off_none hX hT hw (Or.inr hu) f), fun τ hτ => ?_⟩
    obtain ⟨g, A, hM, hmT⟩ := hτ.m
    exact CallM.pure hτ (m_off_none hM hmT hw (Or.inr hu) f)
  · skip
    refine ⟨_, T, I, CallC.pure h (off_some hX hT hw ⟨rfl, hi⟩ f), fun τ hτ => ?_⟩
    obtain ⟨g, A, hM, hmT⟩ := hτ.m
    exact CallM.pure hτ (m_off_some hM hmT hw ⟨rfl, hi⟩ f)
theorem pr_lacks {Γ : ex_G} {x : Nat} (u : Int32) (e : Int32) : Pair Γ x m_SD_lacks m_M_lacks [.int u, .int e] := by
  intro σ T I h
  obtain ⟨hX, hT, hw⟩ := h.c
  have hn1 := hw.2.1
  have hn2 := hw.2.2.1
  rcases ix_cases u (n := tSn T) (by omega) with hu | hu | ⟨i, hi, rfl⟩
  · skip
    refine ⟨_, T, I, CallC.pure h (lacks_none hX hT hw (Or.inl hu) e), fun τ hτ => ?_⟩
    obtain ⟨g, A, hM, hmT⟩ := hτ.m
    exact CallM.pure hτ (m_lacks_none hM hmT hw (Or.inl hu) e)
  · skip
    refine ⟨_, T, I, CallC.pure h (lacks_none hX hT hw (Or.inr hu) e), fun τ hτ => ?_⟩
    obtain ⟨g, A, hM, hmT⟩ := hτ.m
    exact CallM.pure hτ (m_lacks_none hM hmT hw (Or.inr hu) e)
  · skip
    refine ⟨_, T, I, CallC.pure h (lacks_some hX hT hw ⟨rfl, hi⟩ e), fun τ hτ => ?_⟩
    obtain ⟨g, A, hM, hmT⟩ := hτ.m
    exact CallM.pure hτ (m_lacks_some hM hmT hw ⟨rfl, hi⟩ e)
theorem pr_learner {Γ : ex_G} {x : Nat} (u : Int32) (l w : Int32) : Pair Γ x m_SD_learner m_M_learner [.int u, .int l, .int w] := by
  intro σ T I h
  obtain ⟨hX, hT, hw⟩ := h.c
  have hn1 := hw.2.1
  have hn2 := hw.2.2.1
  rcases ix_cases u (n := tSn T) (by omega) with hu | hu | ⟨i, hi, rfl⟩
  · skip
    refine ⟨_, T, I, CallC.pure h (learner_none hX hT hw (Or.inl hu) l w), fun τ hτ => ?_⟩
    obtain ⟨g, A, hM, hmT⟩ := hτ.m
    exact CallM.pure hτ (m_learner_none hM hmT hw (Or.inl hu) l w)
  · skip
    refine ⟨_, T, I, CallC.pure h (learner_none hX hT hw (Or.inr hu) l w), fun τ hτ => ?_⟩
    obtain ⟨g, A, hM, hmT⟩ := hτ.m
    exact CallM.pure hτ (m_learner_none hM hmT hw (Or.inr hu) l w)
  · skip
    refine ⟨_, T, I, CallC.pure h (learner_some hX hT hw ⟨rfl, hi⟩ l w), fun τ hτ => ?_⟩
    obtain ⟨g, A, hM, hmT⟩ := hτ.m
    exact CallM.pure hτ (m_learner_some hM hmT hw ⟨rfl, hi⟩ l w)
theorem pr_plan {Γ : ex_G} {x : Nat} (u : Int32) (k w : Int32) : Pair Γ x m_SD_plan m_M_plan [.int u, .int k, .int w] := by
  intro σ T I h
  obtain ⟨hX, hT, hw⟩ := h.c
  have hn1 := hw.2.1
  have hn2 := hw.2.2.1
  rcases ix_cases u (n := tPn T) (by omega) with hu | hu | ⟨i, hi, rfl⟩
  · skip
    refine ⟨_, T, I, CallC.pure h (plan_none hX hT hw (Or.inl hu) k w), fun τ hτ => ?_⟩
    obtain ⟨g, A, hM, hmT⟩ := hτ.m
    exact CallM.pure hτ (m_plan_none hM hmT hw (Or.inl hu) k w)
  · skip
    refine ⟨_, T, I, CallC.pure h (plan_none hX hT hw (Or.inr hu) k w), fun τ hτ => ?_⟩
    obtain ⟨g, A, hM, hmT⟩ := hτ.m
    exact CallM.pure hτ (m_plan_none hM hmT hw (Or.inr hu) k w)
  · skip
    refine ⟨_, T, I, CallC.pure h (plan_some hX hT hw ⟨rfl, hi⟩ k w), fun τ hτ => ?_⟩
    obtain ⟨g, A, hM, hmT⟩ := hτ.m
    exact CallM.pure hτ (m_plan_some hM hmT hw ⟨rfl, hi⟩ k w)
theorem pr_lonely {Γ : ex_G} {x : Nat} (u : Int32) : Pair Γ x m_SD_lonely m_M_lonely [.int u] := by
  intro σ T I h
  obtain ⟨hX, hT, hw⟩ := h.c
  have hn1 := hw.2.1
  have hn2 := hw.2.2.1
  rcases ix_cases u (n := tSn T) (by omega) with hu | hu | ⟨i, hi, rfl⟩
  · skip
    refine ⟨_, T, I, CallC.pure h (lonely_none hX hT hw (Or.inl hu)), fun τ hτ => ?_⟩
    obtain ⟨g, A, hM, hmT⟩ := hτ.m
    exact CallM.pure hτ (m_lonely_none hM hmT hw (Or.inl hu))
  · skip
    refine ⟨_, T, I, CallC.pure h (lonely_none hX hT hw (Or.inr hu)), fun τ hτ => ?_⟩
    obtain ⟨g, A, hM, hmT⟩ := hτ.m
    exact CallM.pure hτ (m_lonely_none hM hmT hw (Or.inr hu))
  · skip
    refine ⟨_, T, I, CallC.pure h (lonely_some hX hT hw ⟨rfl, hi⟩), fun τ hτ => ?_⟩
    obtain ⟨g, A, hM, hmT⟩ := hτ.m
    have hr := m_lonely_some (Γ := Γ) hM hmT hw ⟨rfl, hi⟩
    rw [lonely_eq] at hr
    exact CallM.pure hτ hr
theorem pr_about {Γ : ex_G} {x : Nat} (u : Int32) (w : Int32) : Pair Γ x m_SD_about m_M_about [.int u, .int w] := by
  intro σ T I h
  obtain ⟨hX, hT, hw⟩ := h.c
  have hn1 := hw.2.1
  have hn2 := hw.2.2.1
  rcases ix_cases u (n := tSn T) (by omega) with hu | hu | ⟨i, hi, rfl⟩
  · skip
    refine ⟨_, T, I, CallC.pure h (about_none hX hT hw (Or.inl hu) w), fun τ hτ => ?_⟩
    obtain ⟨g, A, hM, hmT⟩ := hτ.m
    exact CallM.pure hτ (m_about_none hM hmT hw (Or.inl hu) w)
  · skip
    refine ⟨_, T, I, CallC.pure h (about_none hX hT hw (Or.inr hu) w), fun τ hτ => ?_⟩
    obtain ⟨g, A, hM, hmT⟩ := hτ.m
    exact CallM.pure hτ (m_about_none hM hmT hw (Or.inr hu) w)
  · skip
    refine ⟨_, T, I, CallC.pure h (about_some hX hT hw ⟨rfl, hi⟩ w), fun τ hτ => ?_⟩
    obtain ⟨g, A, hM, hmT⟩ := hτ.m
    have hr := m_about_some (Γ := Γ) hM hmT hw ⟨rfl, hi⟩ w
    rw [← about_eq (hw.2.2.2.1 i hi)] at hr
    exact CallM.pure hτ hr
theorem pr_fills {Γ : ex_G} {x : Nat} (u : Int32) (b : Int32) : Pair Γ x m_SD_fills m_M_fills [.int u, .int b] := by
  intro σ T I h
  obtain ⟨hX, hT, hw⟩ := h.c
  have hn1 := hw.2.1
  have hn2 := hw.2.2.1
  rcases ix_cases u (n := tSn T) (by omega) with hu | hu | ⟨i, hi, rfl⟩
  · skip
    refine ⟨_, T, I, CallC.pure h (fills_none hX hT hw (Or.inl hu) b), fun τ hτ => ?_⟩
    obtain ⟨g, A, hM, hmT⟩ := hτ.m
    exact CallM.pure hτ (m_fills_none hM hmT hw (Or.inl hu) b)
  · skip
    refine ⟨_, T, I, CallC.pure h (fills_none hX hT hw (Or.inr hu) b), fun τ hτ => ?_⟩
    obtain ⟨g, A, hM, hmT⟩ := hτ.m
    exact CallM.pure hτ (m_fills_none hM hmT hw (Or.inr hu) b)
  · skip
    refine ⟨_, T, I, CallC.pure h (fills_some (b := b) hX hT hw ⟨rfl, hi⟩), fun τ hτ => ?_⟩
    obtain ⟨g, A, hM, hmT⟩ := hτ.m
    have hr := m_fills_some (Γ := Γ) (b := b) hM hmT hw ⟨rfl, hi⟩
    rw [fills_eq (hw.2.2.2.1 i hi)] at hr
    exact CallM.pure hτ hr
theorem pr_count {Γ : ex_G} {x : Nat} (w : Int32) : Pair Γ x m_SD_count m_M_count [.int w] := by
  intro σ T I h
  obtain ⟨hX, hT, hw⟩ := h.c
  refine ⟨_, T, I, CallC.pure h (count_ok hX hT w), fun τ hτ => ?_⟩
  obtain ⟨g, A, hM, hmT⟩ := hτ.m
  exact CallM.pure hτ (m_count_ok hM hmT hw w)
theorem pr_fault {Γ : ex_G} {x : Nat} (w : Int32) : Pair Γ x m_SD_fault m_M_fault [.int w] := by
  intro σ T I h
  obtain ⟨hX, hT, hw⟩ := h.c
  refine ⟨_, T, I, CallC.pure h (fault_ok hX hT w), fun τ hτ => ?_⟩
  obtain ⟨g, A, hM, hmT⟩ := hτ.m
  exact CallM.pure hτ (m_fault_ok hM hmT hw w)
end
