/-! Both sides answer alike: fills. -/
noncomputable section
def cntN (n : Nat) (q : Nat → Nat) (k : Nat) : Nat := fo (fun i x => x + if k ≤ q i then 1 else 0) n 0 0
theorem cnt_le (n : Nat) (q : Nat → Nat) (k : Nat) : cntN n q k ≤ n := by
  have := fo_inv (F := fun i x => x + if k ≤ q i then 1 else 0) (fun i x => x ≤ i) n 0 0 (Nat.le_refl _) (fun i x _ _ h => by
    show x + (if k ≤ q i then 1 else 0) ≤ i + 1
    split <;> omega)
  rw [Nat.zero_add] at this
  exact this
theorem cnt_all (n : Nat) (q : Nat → Nat) (k : Nat) : cntN n q k = n ↔ ∀ i, i < n → k ≤ q i := by
  have := fo_inv (F := fun i x => x + if k ≤ q i then 1 else 0) (fun i x => x ≤ i ∧ (x = i ↔ ∀ d, d < i → k ≤ q d)) n 0 0 ⟨Nat.le_refl _, fun _ d h => absurd h (Nat.not_lt_zero d), fun _ => rfl⟩ (fun i x _ _ h => by
    obtain ⟨h1, h2⟩ := h
    by_cases c : k ≤ q i
    · show x + (if k ≤ q i then 1 else 0) ≤ i + 1 ∧ (x + (if k ≤ q i then 1 else 0) = i + 1 ↔ _)
      rw [if_pos c]
      refine ⟨by omega, fun e d hd => ?_, fun e => ?_⟩
      · by_cases ed : d = i
        · rw [ed]; exact c
        · exact h2.mp (by omega) d (by omega)
      · have := h2.mpr (fun d hd => e d (by omega))
        omega
    · show x + (if k ≤ q i then 1 else 0) ≤ i + 1 ∧ (x + (if k ≤ q i then 1 else 0) = i + 1 ↔ _)
      rw [if_neg c]
      exact ⟨by omega, fun e => by omega, fun e => absurd (e i (by omega)) c⟩)
  rw [Nat.zero_add] at this
  exact this.2
theorem cnt_pos {n : Nat} {q : Nat → Nat} {k : Nat} (h : 0 < cntN n q k) : ∃ i, i < n ∧ k ≤ q i := by
  have := fo_inv (F := fun i x => x + if k ≤ q i then 1 else 0) (fun i x => 0 < x → ∃ d, d < i ∧ k ≤ q d) n 0 0 (fun h => absurd h (Nat.lt_irrefl 0)) (fun i x _ _ h => by
    show 0 < x + (if k ≤ q i then 1 else 0) → _
    intro hx
    by_cases c : k ≤ q i
    · exact ⟨i, by omega, c⟩
    · rw [if_neg c] at hx
      obtain ⟨d, h1, h2⟩ := h hx
      exact ⟨d, by omega, h2⟩)
  rw [Nat.zero_add] at this
  exact this h
theorem least_of {n : Nat} {q : Nat → Nat} {k : Nat} : ∀ b i, q i ≤ b → i < n → k ≤ q i → ∃ d, d < n ∧ k ≤ q d ∧ ∀ e, e < n → k ≤ q e → q d ≤ q e := by
  intro b
  induction b with
  | zero => exact fun i h1 h2 h3 => ⟨i, h2, h3, fun e _ _ => by omega⟩
  | succ b ih =>
    intro i h1 h2 h3
    by_cases c : ∃ e, e < n ∧ k ≤ q e ∧ q e < q i
    · obtain ⟨e, e1, e2, e3⟩ := c
      exact ih e (by omega) e1 e2
    · exact ⟨i, h2, h3, fun e e1 e2 => by
        by_cases c2 : q i ≤ q e
        · exact c2
        · exact absurd ⟨e, e1, e2, by omega⟩ c⟩
theorem up_pay {n : Nat} {q : Nat → Nat} {k : Nat} (h : 0 < cntN n q k) : ∃ d, d < n ∧ k ≤ q d ∧ cntN n q (q d) = cntN n q k := by
  obtain ⟨i, h1, h2⟩ := cnt_pos h
  obtain ⟨d, d1, d2, d3⟩ := least_of (q i) i (Nat.le_refl _) h1 h2
  refine ⟨d, d1, d2, fo_cong _ _ _ (fun e x _ he => ?_)⟩
  have : (q d ≤ q e) = (k ≤ q e) := propext ⟨fun a => by omega, fun a => d3 e (by omega) a⟩
  simp only [this]
def inc (n : Nat) (q : Nat → Nat) (k : Nat) : Nat := k * cntN n q k
theorem best_one {n : Nat} {q : Nat → Nat} {r r' : Nat} (hq : ∀ i, i < n → q i ≤ 999) (a1 : r ≤ 999) (a2 : ∀ k, k ≤ 999 → inc n q k ≤ inc n q r) (a3 : ∀ k, k < r → inc n q k < inc n q r)
    (b1 : r' = 0 ∨ ∃ i, i < n ∧ r' = q i) (b2 : ∀ i, i < n → inc n q (q i) ≤ inc n q r') (b3 : ∀ i, i < n → inc n q (q i) = inc n q r' → r' ≤ q i) (b4 : inc n q r' = 0 → r' = 0) : r = r' := by
  have b0 : r' ≤ 999 := by
    rcases b1 with e | ⟨i, h, e⟩
    · omega
    · rw [e]; exact hq i h
  have top : ∀ k, inc n q k ≤ inc n q r' := by
    intro k
    by_cases h : 0 < cntN n q k
    · obtain ⟨d, d1, d2, d3⟩ := up_pay h
      refine Nat.le_trans ?_ (b2 d d1)
      unfold inc
      rw [d3]
      exact Nat.mul_le_mul_right _ d2
    · have : cntN n q k = 0 := by omega
      unfold inc
      rw [this, Nat.mul_zero]
      exact Nat.zero_le _
  have same : inc n q r = inc n q r' := Nat.le_antisymm (top r) (a2 r' b0)
  have h1 : r ≤ r' := by
    by_cases c : r' < r
    · have := a3 r' c; omega
    · omega
  have h2 : r' ≤ r := by
    by_cases h0 : inc n q r = 0
    · have := b4 (by omega); omega
    · have hN : 0 < cntN n q r := by
        by_cases c : cntN n q r = 0
        · exact absurd (show inc n q r = 0 by unfold inc; rw [c, Nat.mul_zero]) h0
        · omega
      obtain ⟨d, d1, d2, d3⟩ := up_pay hN
      have e1 : inc n q (q d) ≤ inc n q r := by rw [same]; exact top _
      have e2 : inc n q (q d) = q d * cntN n q r := by unfold inc; rw [d3]
      have e3 : inc n q r = r * cntN n q r := rfl
      have e4 : q d ≤ r := by
        rw [e2, e3] at e1
        exact Nat.le_of_mul_le_mul_right e1 hN
      have e5 : q d = r := by omega
      have := b3 d d1 (by rw [e5]; exact same)
      omega
  omega
end
