/-! Both sides answer alike: fewest (whether all can sit), the rest. -/
noncomputable section
theorem sub_iff {k s0 : Nat} (hk : k < 65536) (hs : s0 < 65536) : (nI k &&& (nI s0 ^^^ (-1 : Int32)) = 0) ↔ k &&& s0 = k := by
  rw [msk_nI hk hs]
  have hx : k ^^^ (k &&& s0) < 2 ^ 16 := Nat.xor_lt_two_pow (by omega) (Nat.lt_of_le_of_lt Nat.and_le_left (by omega))
  constructor
  · intro h
    have h0 : k ^^^ (k &&& s0) = 0 := nI_injL (a := k ^^^ (k &&& s0)) (b := 0) (by omega) (by omega) h
    apply Nat.eq_of_testBit_eq
    intro b
    have := congrArg (fun v => v.testBit b) h0
    rw [Nat.testBit_xor, Nat.zero_testBit] at this
    revert this
    cases k.testBit b <;> cases (k &&& s0).testBit b <;> simp
  · intro h
    rw [h, Nat.xor_self]
    rfl
theorem allCan_eq {S : Sch} {wh vo : Nat → Int32} {s0 : Nat} (hs : s0 < 64) (hv : ∀ k, k < S.1 → wh k = vo k) : K_allCan S wh s0 = K_m_isEnough S vo s0 := by
  have cnt : ∀ k u, fo (F_m_isEnough_27 S vo s0 k u) S.1 0 ((0 : Int32), (0 : Int32)) = fo (F_allCan_15 S wh s0 (nI k)) S.1 0 ((0 : Int32), (0 : Int32)) := fun k u => fo_cong _ _ _ (fun d y _ hd => by
    unfold F_m_isEnough_27 F_allCan_15
    rw [hv d (by omega)])
  have hF : ∀ k u, k < s0 + 1 → (k &&& s0 = k ∧ badA S wh s0 k → F_m_isEnough_2 S vo s0 k u = .inr 0) ∧ (¬ (k &&& s0 = k ∧ badA S wh s0 k) → F_m_isEnough_2 S vo s0 k u = .inl ()) := fun k u hk => by
    unfold F_m_isEnough_2
    rw [cnt, many_nI (show k < 65536 by omega)]
    by_cases h1 : k &&& s0 = k
    · rw [if_pos ((sub_iff (by omega) (by omega)).mpr h1)]
      by_cases c1 : ((S.2.2 9) 3) * (K_bc (nI k)) < (fo (F_allCan_15 S wh s0 (nI k)) S.1 0 ((0 : Int32), (0 : Int32))).1
      · rw [if_pos c1]
        exact ⟨fun _ => rfl, fun h => absurd ⟨h1, Or.inl c1⟩ h⟩
      · rw [if_neg c1]
        by_cases c2 : (fo (F_allCan_15 S wh s0 (nI k)) S.1 0 ((0 : Int32), (0 : Int32))).2 < ((S.2.2 9) 2) * (K_bc (nI k))
        · rw [if_pos c2]
          exact ⟨fun _ => rfl, fun h => absurd ⟨h1, Or.inr c2⟩ h⟩
        · rw [if_neg c2]
          exact ⟨fun h => by
            rcases h.2 with h | h
            · exact absurd h c1
            · exact absurd h c2, fun _ => rfl⟩
    · rw [if_neg (fun h => h1 ((sub_iff (by omega) (by omega)).mp h))]
      exact ⟨fun h => absurd h.1 h1, fun _ => rfl⟩
  have ti := nI_toInt (show s0 < 2 ^ 31 by omega)
  obtain ⟨a1, a2⟩ := allCan_run (S := S) (wh := wh) hs (s0 + 2) (nI s0) (Or.inr ⟨s0, Nat.le_refl _, Nat.and_self _, rfl⟩) (by unfold mu_sub; rw [if_neg (nI_pos (by omega)), nI_clamp (by omega)]; omega)
  unfold K_m_isEnough
  by_cases hB : ∃ d, d ≤ s0 ∧ d &&& s0 = d ∧ badA S wh s0 d
  · obtain ⟨d, d1, d2, d3⟩ := hB
    have e0 : K_allCan S wh s0 = 0 := a2 ⟨d, d1, d2, by rw [ti]; omega, d3⟩
    rw [e0]
    obtain ⟨b1, b2⟩ := fe_inv (F := F_m_isEnough_2 S vo s0) (fun k _ => ∀ d, d < k → ¬ (d &&& s0 = d ∧ badA S wh s0 d)) (fun r => r = 0) (s0 + 1) 0 () (fun d h => absurd h (Nat.not_lt_zero d)) (fun k u _ hk h => by
      by_cases c : k &&& s0 = k ∧ badA S wh s0 k
      · rw [(hF k u (by omega)).1 c]
        exact ⟨fun z e => (by cases e), fun r e => (Sum.inr.inj e).symm⟩
      · rw [(hF k u (by omega)).2 c]
        refine ⟨fun z e d hd => ?_, fun r e => (by cases e)⟩
        by_cases ed : d = k
        · rw [ed]; exact c
        · exact h d (by omega))
    rcases hf : fe (F_m_isEnough_2 S vo s0) (s0 + 1) 0 () with z | r
    · exact absurd ⟨d2, d3⟩ (b1 z hf d (by omega))
    · rw [Sum.elim_inr]; exact (b2 r hf).symm
  · have e1 : K_allCan S wh s0 = 1 := a1 (fun d d1 d2 _ d4 => hB ⟨d, d1, d2, d4⟩)
    rw [e1]
    obtain ⟨b1, b2⟩ := fe_inv (F := F_m_isEnough_2 S vo s0) (fun _ _ => True) (fun _ => False) (s0 + 1) 0 () trivial (fun k u _ hk _ => by
      rw [(hF k u (by omega)).2 (fun c => hB ⟨k, by omega, c.1, c.2⟩)]
      exact ⟨fun _ _ => trivial, fun r e => (by cases e)⟩)
    rcases hf : fe (F_m_isEnough_2 S vo s0) (s0 + 1) 0 () with z | r
    · rw [Sum.elim_inl]
    · exact absurd (b2 r hf) id
end
