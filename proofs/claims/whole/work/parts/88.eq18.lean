/-! Both sides answer alike: fewest (whether all can sit). -/
noncomputable section
def subC (s : Nat) : Bool := (List.range 64).all (fun m => (List.range 64).all (fun d => !(m &&& s == m) || !(d &&& s == d) || !(decide (d < m)) || decide (d ≤ (m - 1) &&& s)))
theorem subC_all : ∀ s, s < 64 → subC s = true := by decide +kernel
theorem sub_low {s m d : Nat} (hs : s < 64) (hm : m < 64) (hd : d < 64) (h1 : m &&& s = m) (h2 : d &&& s = d) (h3 : d < m) : d ≤ (m - 1) &&& s := by
  have h := subC_all s hs
  unfold subC at h
  rw [List.all_eq_true] at h
  have h := h m (List.mem_range.mpr hm)
  rw [List.all_eq_true] at h
  have h := h d (List.mem_range.mpr hd)
  rw [h1, h2] at h
  simpa [h3] using h
def badA (S : Sch) (wh : Nat → Int32) (s0 k : Nat) : Prop := ((S.2.2 9) 3) * (K_bc (nI k)) < (fo (F_allCan_15 S wh s0 (nI k)) S.1 0 ((0 : Int32), (0 : Int32))).1 ∨ (fo (F_allCan_15 S wh s0 (nI k)) S.1 0 ((0 : Int32), (0 : Int32))).2 < ((S.2.2 9) 2) * (K_bc (nI k))
theorem allCan_run {S : Sch} {wh : Nat → Int32} {s0 : Nat} (hs : s0 < 64) : ∀ n (z : Int32), (z = -1 ∨ ∃ m, m ≤ s0 ∧ m &&& s0 = m ∧ z = nI m) → mu_sub z < n → ((∀ d, d ≤ s0 → d &&& s0 = d → (d : Int) ≤ z.toInt → ¬ badA S wh s0 d) → fw (F_allCan_2 S wh s0) 0 n z = 1) ∧ ((∃ d, d ≤ s0 ∧ d &&& s0 = d ∧ (d : Int) ≤ z.toInt ∧ badA S wh s0 d) → fw (F_allCan_2 S wh s0) 0 n z = 0) := by
  intro n
  induction n with
  | zero => intro z _ h; omega
  | succ n ih =>
    intro z hz hmu
    have step : fw (F_allCan_2 S wh s0) 0 (n + 1) z = Sum.elim (fun z' => fw (F_allCan_2 S wh s0) 0 n z') (fun r => r) (F_allCan_2 S wh s0 z) := by
      first
        | rfl
        | (unfold fw; rcases F_allCan_2 S wh s0 z with a | a <;> rfl)
    rw [step]
    rcases hz with rfl | ⟨m, h1, h2, rfl⟩
    · have hF : F_allCan_2 S wh s0 (-1) = .inr 1 := by unfold F_allCan_2; rw [if_pos (by decide)]
      rw [hF, Sum.elim_inr]
      refine ⟨fun _ => rfl, fun ⟨d, _, _, h, _⟩ => ?_⟩
      rw [show (-1 : Int32).toInt = -1 by decide] at h
      omega
    · have ti := nI_toInt (show m < 2 ^ 31 by omega)
      by_cases hb : badA S wh s0 m
      · have hF : F_allCan_2 S wh s0 (nI m) = .inr 0 := by
          unfold F_allCan_2
          rw [if_neg (nI_pos (by omega))]
          by_cases c1 : ((S.2.2 9) 3) * (K_bc (nI m)) < (fo (F_allCan_15 S wh s0 (nI m)) S.1 0 ((0 : Int32), (0 : Int32))).1
          · rw [if_pos c1]
          · rw [if_neg c1]
            rcases hb with hb | hb
            · exact absurd hb c1
            · rw [if_pos hb]
        rw [hF, Sum.elim_inr]
        exact ⟨fun h => absurd hb (h m h1 h2 (by rw [ti]; exact Int.le_refl _)), fun _ => rfl⟩
      · have c1 : ¬ ((S.2.2 9) 3) * (K_bc (nI m)) < (fo (F_allCan_15 S wh s0 (nI m)) S.1 0 ((0 : Int32), (0 : Int32))).1 := fun h => hb (Or.inl h)
        have c2 : ¬ (fo (F_allCan_15 S wh s0 (nI m)) S.1 0 ((0 : Int32), (0 : Int32))).2 < ((S.2.2 9) 2) * (K_bc (nI m)) := fun h => hb (Or.inr h)
        have J : J_sub s0 (nI m) := Or.inr ⟨m, h1, rfl⟩
        obtain ⟨n1, n2, -⟩ := sub_next2 (z := nI m) (by omega) J (nI_pos (by omega))
        by_cases m0 : m = 0
        · have z0 : nI m = 0 := by rw [m0]; rfl
          have hF : F_allCan_2 S wh s0 (nI m) = .inl (-1) := by
            unfold F_allCan_2
            rw [if_neg (nI_pos (by omega)), if_neg c1, if_neg c2, if_pos z0]
          rw [hF, Sum.elim_inl]
          obtain ⟨a1, a2⟩ := ih (-1) (Or.inl rfl) (by have := (n1 z0).2; omega)
          refine ⟨fun h => a1 (fun d d1 d2 d3 => ?_), fun ⟨d, d1, d2, d3, d4⟩ => ?_⟩
          · rw [show (-1 : Int32).toInt = -1 by decide] at d3; omega
          · rw [ti] at d3
            have : d = m := by omega
            rw [this] at d4
            exact absurd d4 hb
        · have z0 : ¬ nI m = 0 := nI_ne0 (by omega) (by omega)
          obtain ⟨q, rfl⟩ : ∃ q, m = q + 1 := ⟨m - 1, by omega⟩
          have en : (nI (q + 1) - 1) &&& nI s0 = nI (q &&& s0) := by rw [nI_pred, and_nI (by omega) (by omega)]
          have hF : F_allCan_2 S wh s0 (nI (q + 1)) = .inl (nI (q &&& s0)) := by
            unfold F_allCan_2
            rw [if_neg (nI_pos (by omega)), if_neg c1, if_neg c2, if_neg z0, en]
          have hq : q &&& s0 ≤ s0 := Nat.and_le_right
          have hq2 : q &&& s0 ≤ q := Nat.and_le_left
          have tq := nI_toInt (show q &&& s0 < 2 ^ 31 by omega)
          rw [hF, Sum.elim_inl]
          obtain ⟨a1, a2⟩ := ih (nI (q &&& s0)) (Or.inr ⟨_, hq, by rw [Nat.and_assoc, Nat.and_self], rfl⟩) (by have := (n2 z0).2; rw [en] at this; omega)
          refine ⟨fun h => a1 (fun d d1 d2 d3 => h d d1 d2 (by rw [tq] at d3; rw [ti]; omega)), fun ⟨d, d1, d2, d3, d4⟩ => ?_⟩
          rw [ti] at d3
          have hne : d ≠ q + 1 := fun e => hb (by rw [← e]; exact d4)
          have := sub_low hs (show q + 1 < 64 by omega) (show d < 64 by omega) h2 d2 (by omega)
          rw [Nat.add_sub_cancel] at this
          exact a2 ⟨d, d1, d2, by rw [tq]; omega, d4⟩
end
