/-! Small numbers; who has a neighbour's step. -/
noncomputable section
def rg (x : Int32) (lo hi : Int) : Prop := lo ≤ x.toInt ∧ x.toInt ≤ hi
theorem rg.nat {x : Int32} {lo hi : Int} (h : rg x lo hi) (h0 : 0 ≤ lo) : ∃ q : Nat, x = nI q ∧ lo ≤ q ∧ (q : Int) ≤ hi ∧ q < 2 ^ 31 := by
  obtain ⟨h1, h2⟩ := h
  have hx : ¬ x < 0 := by
    rw [Int32.lt_iff_toInt_lt]
    have : (0 : Int32).toInt = 0 := by decide
    omega
  obtain ⟨j, hj, e⟩ := nI_of hx
  refine ⟨j, e, ?_, ?_, hj⟩
  · rw [e, nI_toInt hj] at h1; exact h1
  · rw [e, nI_toInt hj] at h2; exact h2
theorem sub_toInt {x y : Int32} {a b c d : Int} (hx : rg x a b) (hy : rg y c d) (h1 : -1000000 ≤ a) (h2 : b ≤ 1000000) (h3 : -1000000 ≤ c) (h4 : d ≤ 1000000) : (x - y).toInt = x.toInt - y.toInt := by
  obtain ⟨p1, p2⟩ := hx
  obtain ⟨q1, q2⟩ := hy
  rw [Int32.toInt_sub, Int.bmod_eq_of_le (by omega) (by omega)]
theorem add_toInt {x y : Int32} {a b c d : Int} (hx : rg x a b) (hy : rg y c d) (h1 : -1000000 ≤ a) (h2 : b ≤ 1000000) (h3 : -1000000 ≤ c) (h4 : d ≤ 1000000) : (x + y).toInt = x.toInt + y.toInt := by
  obtain ⟨p1, p2⟩ := hx
  obtain ⟨q1, q2⟩ := hy
  rw [Int32.toInt_add, Int.bmod_eq_of_le (by omega) (by omega)]
theorem lt_toInt {x y : Int32} : x < y ↔ x.toInt < y.toInt := Int32.lt_iff_toInt_lt
theorem le_toInt {x y : Int32} : x ≤ y ↔ x.toInt ≤ y.toInt := Int32.le_iff_toInt_le
theorem eq_toInt {x y : Int32} : x = y ↔ x.toInt = y.toInt := Int32.toInt_inj.symm
theorem shl1_nI : ∀ q, q < 31 → (1 : Int32) <<< (nI q &&& 31) = nI (2 ^ q) := by decide +kernel
/-- the steps' bits as a number -/
def stM (q : Nat → Nat) (b : Nat → Bool) (k i x : Nat) : Nat := fo (fun i x => if b i then x ||| 2 ^ q i else x) k i x
theorem stM_bit (q : Nat → Nat) (b : Nat → Bool) (t : Nat) : ∀ (k i x : Nat), (stM q b k i x).testBit t = true ↔ x.testBit t = true ∨ ∃ j, i ≤ j ∧ j < i + k ∧ b j = true ∧ q j = t := by
  intro k
  induction k with
  | zero =>
    intro i x
    constructor
    · intro h; exact Or.inl h
    · rintro (h | ⟨j, h1, h2, -⟩)
      · exact h
      · omega
  | succ k ih =>
    intro i x
    unfold stM
    rw [fo_succ]
    have h := ih (i + 1) (if b i = true then x ||| 2 ^ q i else x)
    unfold stM at h
    rw [h]
    constructor
    · rintro (h | ⟨j, h1, h2, h3, h4⟩)
      · by_cases hb : b i = true
        · rw [if_pos hb, Nat.testBit_or, Bool.or_eq_true] at h
          rcases h with h | h
          · exact Or.inl h
          · rw [Nat.testBit_two_pow] at h
            exact Or.inr ⟨i, Nat.le_refl _, by omega, hb, by simpa using h⟩
        · rw [if_neg hb] at h
          exact Or.inl h
      · exact Or.inr ⟨j, by omega, by omega, h3, h4⟩
    · rintro (h | ⟨j, h1, h2, h3, h4⟩)
      · left
        split
        · rw [Nat.testBit_or, h]; rfl
        · exact h
      · by_cases hj : j = i
        · subst hj
          left
          rw [if_pos h3, Nat.testBit_or, Nat.testBit_two_pow]
          simp [h4]
        · exact Or.inr ⟨j, by omega, by omega, h3, h4⟩
theorem stM_lt (q : Nat → Nat) (b : Nat → Bool) : ∀ (k i x : Nat), x < 2 ^ 12 → (∀ j, i ≤ j → j < i + k → b j = true → q j < 12) → stM q b k i x < 2 ^ 12 := by
  intro k
  induction k with
  | zero => intro i x h _; exact h
  | succ k ih =>
    intro i x h hq
    refine ih (i + 1) _ ?_ (fun j h1 h2 h3 => hq j (by omega) (by omega) h3)
    show (if b i = true then x ||| 2 ^ q i else x) < 2 ^ 12
    split
    · rename_i hb
      exact Nat.or_lt_two_pow h (Nat.pow_lt_pow_right (by decide) (hq i (Nat.le_refl _) (by omega) hb))
    · exact h
theorem K_steps_nI {S : Sch} {w : Int32} (q : Nat → Nat) (hq : ∀ i, i < 17 → ¬ K_bit w (nI i) = 0 → S.2.2 0 i = nI (q i) ∧ q i < 12) : K_steps S w = nI (stM q (fun i => decide (¬ K_bit w (nI i) = 0)) 17 0 0) := by
  have h : ∀ (k i x : Nat), i + k = 17 → x < 2 ^ 12 → fo (F_steps S w) k i (nI x) = nI (stM q (fun i => decide (¬ K_bit w (nI i) = 0)) k i x) := by
    intro k
    induction k with
    | zero => intro i x _ _; rfl
    | succ k ih =>
      intro i x hi hx
      rw [fo_succ]
      unfold stM
      rw [fo_succ]
      unfold F_steps
      by_cases hb : K_bit w (nI i) = 0
      · rw [if_pos hb, if_neg (by simp [hb])]
        exact ih (i + 1) x (by omega) hx
      · obtain ⟨e1, e2⟩ := hq i (by omega) hb
        have hx2 : x ||| 2 ^ q i < 2 ^ 12 := Nat.or_lt_two_pow hx (Nat.pow_lt_pow_right (by decide) e2)
        have hp : 2 ^ q i < 2 ^ 12 := Nat.pow_lt_pow_right (by decide) e2
        rw [if_neg hb, if_pos (by simp [hb]), e1, shl1_nI _ (by omega), or_nI (by omega) (by omega)]
        exact ih (i + 1) _ (by omega) hx2
  exact h 17 0 0 rfl (by decide)
theorem K_told_nI {M q : Nat} (hM : M < 2 ^ 12) (hq : q < 13) : K_told (nI M) (nI q) = nI (if (2 * M ||| M / 2).testBit q then 1 else 0) := by
  unfold K_told
  have e1 : nI M <<< ((1 : Int32) &&& 31) = nI (2 * M) := by
    have := pk_shlN (n := M) ((1 : Int32) &&& 31) 1 (by decide) (by omega)
    rw [this]
    congr 1
    omega
  have e2 : nI M >>> ((1 : Int32) &&& 31) = nI (M / 2) := by
    have := pk_shrN (n := M) (by omega) ((1 : Int32) &&& 31) 1 (by decide)
    rw [this]
  have hor : 2 * M ||| M / 2 < 2 ^ 13 := Nat.or_lt_two_pow (by omega) (by omega)
  rw [e1, e2, or_nI (by omega) (by omega), pk_shrN (by omega) _ q (sh_amt q (by omega)), pk_andN (m := 1) (by have := Nat.div_le_self (2 * M ||| M / 2) (2 ^ q); omega) 1 (by decide)]
  congr 1
  rw [Nat.testBit_eq_decide_div_mod_eq]
  rcases Nat.mod_two_eq_zero_or_one ((2 * M ||| M / 2) / 2 ^ q) with h | h <;> simp [h]
theorem told_bit {M q : Nat} : (2 * M ||| M / 2).testBit q = true ↔ (∃ r, r + 1 = q ∧ M.testBit r = true) ∨ M.testBit (q + 1) = true := by
  rw [Nat.testBit_or, Bool.or_eq_true]
  have h1 : (M / 2).testBit q = M.testBit (q + 1) := by rw [Nat.testBit_succ]
  rw [h1]
  cases q with
  | zero =>
    have : (2 * M).testBit 0 = false := by simp [Nat.testBit_zero]
    rw [this]
    simp
  | succ r =>
    have : (2 * M).testBit (r + 1) = M.testBit r := by rw [Nat.testBit_succ, Nat.mul_div_cancel_left _ (by decide)]
    rw [this]
    simp
/-- told: some of those who sit has a step one apart -/
theorem told_iff {S : Sch} {w : Int32} {own : Nat} (q : Nat → Nat) (hq : ∀ i, i < 17 → ¬ K_bit w (nI i) = 0 → S.2.2 0 i = nI (q i) ∧ q i < 12) (ho : own < 12) : ¬ K_told (K_steps S w) (nI own) = 0 ↔ ∃ i, i < 17 ∧ ¬ K_bit w (nI i) = 0 ∧ (q i + 1 = own ∨ q i = own + 1) := by
  rw [K_steps_nI q hq]
  have hM := stM_lt q (fun i => decide (¬ K_bit w (nI i) = 0)) 17 0 0 (by decide) (fun j _ h2 h3 => (hq j (by omega) (by simpa using h3)).2)
  rw [K_told_nI hM (by omega)]
  have e : (¬ nI (if (2 * stM q (fun i => decide (¬ K_bit w (nI i) = 0)) 17 0 0 ||| stM q (fun i => decide (¬ K_bit w (nI i) = 0)) 17 0 0 / 2).testBit own = true then 1 else 0) = 0) ↔ (2 * stM q (fun i => decide (¬ K_bit w (nI i) = 0)) 17 0 0 ||| stM q (fun i => decide (¬ K_bit w (nI i) = 0)) 17 0 0 / 2).testBit own = true := by
    split
    · rename_i h
      simp only [h, iff_true]
      decide
    · rename_i h
      simp only [h, iff_false]
      decide
  rw [e, told_bit]
  constructor
  · rintro (⟨r, hr, h⟩ | h)
    · rw [stM_bit] at h
      rcases h with h | ⟨j, -, h2, h3, h4⟩
      · simp at h
      · exact ⟨j, by omega, by simpa using h3, Or.inl (by omega)⟩
    · rw [stM_bit] at h
      rcases h with h | ⟨j, -, h2, h3, h4⟩
      · simp at h
      · exact ⟨j, by omega, by simpa using h3, Or.inr h4⟩
  · rintro ⟨i, h1, h2, h3 | h3⟩
    · left
      refine ⟨q i, h3, ?_⟩
      rw [stM_bit]
      exact Or.inr ⟨i, Nat.zero_le _, by omega, by simpa using h2, rfl⟩
    · right
      rw [stM_bit]
      exact Or.inr ⟨i, Nat.zero_le _, by omega, by simpa using h2, h3⟩
end
