/-! Texts: bytes, tokens (where one starts, of which kind, where the next begins, its number or word). -/
noncomputable section
/-- the bytes of a text of n bytes: 256 behind its end -/
def txt (U : Nat → Nat) (n : Nat) : Prop := n ≤ 600 ∧ (∀ p, p < n → U p < 256) ∧ ∀ p, n ≤ p → U p = 256
def blk1 (u : Nat) : Bool := u == 32 || u == 10
def dgt (u : Nat) : Bool := decide (48 ≤ u) && decide (u ≤ 57)
def ltr (u : Nat) : Bool := decide (97 ≤ u) && decide (u ≤ 122)
def skF (P : Nat → Bool) (U : Nat → Nat) : Nat → Nat → Nat
  | 0, a => a
  | k + 1, a => if P (U a) = true then skF P U k (a + 1) else a
/-- the first place from a on that is not P -/
def skp (P : Nat → Bool) (U : Nat → Nat) (n a : Nat) : Nat := skF P U (n - a) a
theorem skF_spec {P : Nat → Bool} {U : Nat → Nat} : ∀ k a, a ≤ skF P U k a ∧ skF P U k a ≤ a + k ∧ (∀ p, a ≤ p → p < skF P U k a → P (U p) = true) ∧ (skF P U k a < a + k → P (U (skF P U k a)) = false)
  | 0, a => ⟨Nat.le_refl _, Nat.le_refl _, fun p h1 h2 => absurd h2 (by show ¬ p < a; omega), fun h => absurd h (by show ¬ a < a + 0; omega)⟩
  | k + 1, a => by
    by_cases c : P (U a) = true
    · have e : skF P U (k + 1) a = skF P U k (a + 1) := if_pos c
      obtain ⟨h1, h2, h3, h4⟩ := skF_spec (P := P) (U := U) k (a + 1)
      rw [e]
      refine ⟨by omega, by omega, fun p p1 p2 => ?_, fun h => h4 (by omega)⟩
      by_cases d : p = a
      · subst d; exact c
      · exact h3 p (by omega) p2
    · have e : skF P U (k + 1) a = a := if_neg c
      rw [e]
      exact ⟨Nat.le_refl _, by omega, fun p p1 p2 => absurd p2 (by omega), fun _ => by simpa using c⟩
theorem skp_spec {P : Nat → Bool} {U : Nat → Nat} {n a : Nat} (hU : P (U n) = false) (ha : a ≤ n) : a ≤ skp P U n a ∧ skp P U n a ≤ n ∧ (∀ p, a ≤ p → p < skp P U n a → P (U p) = true) ∧ P (U (skp P U n a)) = false := by
  obtain ⟨h1, h2, h3, h4⟩ := skF_spec (P := P) (U := U) (n - a) a
  unfold skp
  refine ⟨h1, by omega, h3, ?_⟩
  by_cases c : skF P U (n - a) a < a + (n - a)
  · exact h4 c
  · rw [show skF P U (n - a) a = n by omega]
    exact hU
theorem skp_uniq {P : Nat → Bool} {U : Nat → Nat} {n a b : Nat} (hU : P (U n) = false) (ha : a ≤ n) (h1 : a ≤ b) (h2 : ∀ p, a ≤ p → p < b → P (U p) = true) (h3 : P (U b) = false) : skp P U n a = b := by
  obtain ⟨q1, q2, q3, q4⟩ := skp_spec (P := P) hU ha
  rcases Nat.lt_trichotomy (skp P U n a) b with c | c | c
  · rw [h2 _ q1 c] at q4
    cases q4
  · exact c
  · rw [q3 _ h1 c] at h3
    cases h3
/-- a number's value, a word's value -/
def nvl (U : Nat → Nat) (s : Nat) : Nat → Nat
  | 0 => 0
  | k + 1 => 10 * nvl U s k + (U (s + k) - 48)
def wvl (U : Nat → Nat) (s : Nat) : Nat → Nat
  | 0 => 0
  | k + 1 => 32 * wvl U s k + (U (s + k) - 96)
/-- the words' values, by number from 1 on -/
def wcs : List Nat := [0, 13054326962, 117096837, 17366779411, 21643763890, 1130181, 2273783, 3751652, 632645, 19381683, 114292, 6309, 24286579, 599653, 660876, 409031, 186542, 2702372, 16819795, 21231, 632467]
def wdc (V : Nat) : Nat := if V = 13054326962 then 1 else (if V = 117096837 then 2 else (if V = 17366779411 then 3 else (if V = 21643763890 then 4 else (if V = 1130181 then 5 else (if V = 2273783 then 6 else (if V = 3751652 then 7 else (if V = 632645 then 8 else (if V = 19381683 then 9 else (if V = 114292 then 10 else (if V = 6309 then 11 else (if V = 24286579 then 12 else (if V = 599653 then 13 else (if V = 660876 then 14 else (if V = 409031 then 15 else (if V = 186542 then 16 else (if V = 2702372 then 17 else (if V = 16819795 then 18 else (if V = 21231 then 19 else (if V = 632467 then 20 else 99)))))))))))))))))))
theorem wdc_iff {V w : Nat} (h1 : 1 ≤ w) (h2 : w ≤ 20) : wdc V = w ↔ V = wcs.getD w 0 := by
  have h : ∀ w, w < 21 → 1 ≤ w → wdc (wcs.getD w 0) = w := by decide
  refine ⟨fun e => ?_, fun e => by rw [e]; exact h w (by omega) h1⟩
  unfold wdc at e
  by_cases c0 : V = 13054326962
  · rw [if_pos c0] at e
    subst e
    exact c0
  rw [if_neg c0] at e
  by_cases c1 : V = 117096837
  · rw [if_pos c1] at e
    subst e
    exact c1
  rw [if_neg c1] at e
  by_cases c2 : V = 17366779411
  · rw [if_pos c2] at e
    subst e
    exact c2
  rw [if_neg c2] at e
  by_cases c3 : V = 21643763890
  · rw [if_pos c3] at e
    subst e
    exact c3
  rw [if_neg c3] at e
  by_cases c4 : V = 1130181
  · rw [if_pos c4] at e
    subst e
    exact c4
  rw [if_neg c4] at e
  by_cases c5 : V = 2273783
  · rw [if_pos c5] at e
    subst e
    exact c5
  rw [if_neg c5] at e
  by_cases c6 : V = 3751652
  · rw [if_pos c6] at e
    subst e
    exact c6
  rw [if_neg c6] at e
  by_cases c7 : V = 632645
  · rw [if_pos c7] at e
    subst e
    exact c7
  rw [if_neg c7] at e
  by_cases c8 : V = 19381683
  · rw [if_pos c8] at e
    subst e
    exact c8
  rw [if_neg c8] at e
  by_cases c9 : V = 114292
  · rw [if_pos c9] at e
    subst e
    exact c9
  rw [if_neg c9] at e
  by_cases c10 : V = 6309
  · rw [if_pos c10] at e
    subst e
    exact c10
  rw [if_neg c10] at e
  by_cases c11 : V = 24286579
  · rw [if_pos c11] at e
    subst e
    exact c11
  rw [if_neg c11] at e
  by_cases c12 : V = 599653
  · rw [if_pos c12] at e
    subst e
    exact c12
  rw [if_neg c12] at e
  by_cases c13 : V = 660876
  · rw [if_pos c13] at e
    subst e
    exact c13
  rw [if_neg c13] at e
  by_cases c14 : V = 409031
  · rw [if_pos c14] at e
    subst e
    exact c14
  rw [if_neg c14] at e
  by_cases c15 : V = 186542
  · rw [if_pos c15] at e
    subst e
    exact c15
  rw [if_neg c15] at e
  by_cases c16 : V = 2702372
  · rw [if_pos c16] at e
    subst e
    exact c16
  rw [if_neg c16] at e
  by_cases c17 : V = 16819795
  · rw [if_pos c17] at e
    subst e
    exact c17
  rw [if_neg c17] at e
  by_cases c18 : V = 21231
  · rw [if_pos c18] at e
    subst e
    exact c18
  rw [if_neg c18] at e
  by_cases c19 : V = 632467
  · rw [if_pos c19] at e
    subst e
    exact c19
  rw [if_neg c19] at e
  exfalso
  omega
theorem wdc_cases (V : Nat) : wdc V = 99 ∨ (1 ≤ wdc V ∧ wdc V ≤ 20) := by
  unfold wdc
  by_cases c0 : V = 13054326962
  · rw [if_pos c0]
    exact Or.inr ⟨by decide, by decide⟩
  rw [if_neg c0]
  by_cases c1 : V = 117096837
  · rw [if_pos c1]
    exact Or.inr ⟨by decide, by decide⟩
  rw [if_neg c1]
  by_cases c2 : V = 17366779411
  · rw [if_pos c2]
    exact Or.inr ⟨by decide, by decide⟩
  rw [if_neg c2]
  by_cases c3 : V = 21643763890
  · rw [if_pos c3]
    exact Or.inr ⟨by decide, by decide⟩
  rw [if_neg c3]
  by_cases c4 : V = 1130181
  · rw [if_pos c4]
    exact Or.inr ⟨by decide, by decide⟩
  rw [if_neg c4]
  by_cases c5 : V = 2273783
  · rw [if_pos c5]
    exact Or.inr ⟨by decide, by decide⟩
  rw [if_neg c5]
  by_cases c6 : V = 3751652
  · rw [if_pos c6]
    exact Or.inr ⟨by decide, by decide⟩
  rw [if_neg c6]
  by_cases c7 : V = 632645
  · rw [if_pos c7]
    exact Or.inr ⟨by decide, by decide⟩
  rw [if_neg c7]
  by_cases c8 : V = 19381683
  · rw [if_pos c8]
    exact Or.inr ⟨by decide, by decide⟩
  rw [if_neg c8]
  by_cases c9 : V = 114292
  · rw [if_pos c9]
    exact Or.inr ⟨by decide, by decide⟩
  rw [if_neg c9]
  by_cases c10 : V = 6309
  · rw [if_pos c10]
    exact Or.inr ⟨by decide, by decide⟩
  rw [if_neg c10]
  by_cases c11 : V = 24286579
  · rw [if_pos c11]
    exact Or.inr ⟨by decide, by decide⟩
  rw [if_neg c11]
  by_cases c12 : V = 599653
  · rw [if_pos c12]
    exact Or.inr ⟨by decide, by decide⟩
  rw [if_neg c12]
  by_cases c13 : V = 660876
  · rw [if_pos c13]
    exact Or.inr ⟨by decide, by decide⟩
  rw [if_neg c13]
  by_cases c14 : V = 409031
  · rw [if_pos c14]
    exact Or.inr ⟨by decide, by decide⟩
  rw [if_neg c14]
  by_cases c15 : V = 186542
  · rw [if_pos c15]
    exact Or.inr ⟨by decide, by decide⟩
  rw [if_neg c15]
  by_cases c16 : V = 2702372
  · rw [if_pos c16]
    exact Or.inr ⟨by decide, by decide⟩
  rw [if_neg c16]
  by_cases c17 : V = 16819795
  · rw [if_pos c17]
    exact Or.inr ⟨by decide, by decide⟩
  rw [if_neg c17]
  by_cases c18 : V = 21231
  · rw [if_pos c18]
    exact Or.inr ⟨by decide, by decide⟩
  rw [if_neg c18]
  by_cases c19 : V = 632467
  · rw [if_pos c19]
    exact Or.inr ⟨by decide, by decide⟩
  rw [if_neg c19]
  exact Or.inl rfl
theorem wvl_inj {U B : Nat → Nat} {s f : Nat} : ∀ k m, (∀ i, i < k → 1 ≤ U (s + i) - 96 ∧ U (s + i) - 96 < 32) → (∀ i, i < m → 1 ≤ B (f + i) - 96 ∧ B (f + i) - 96 < 32) → wvl U s k = wvl B f m → k = m ∧ ∀ i, i < k → U (s + i) = B (f + i)
  | 0, 0, _, _, _ => ⟨rfl, fun i h => absurd h (Nat.not_lt_zero _)⟩
  | 0, m + 1, _, h2, e => by
    have := h2 m (by omega)
    have e : 0 = 32 * wvl B f m + (B (f + m) - 96) := e
    omega
  | k + 1, 0, h1, _, e => by
    have := h1 k (by omega)
    have e : 32 * wvl U s k + (U (s + k) - 96) = 0 := e
    omega
  | k + 1, m + 1, h1, h2, e => by
    have a := h1 k (by omega)
    have b := h2 m (by omega)
    have e : 32 * wvl U s k + (U (s + k) - 96) = 32 * wvl B f m + (B (f + m) - 96) := e
    obtain ⟨q1, q2⟩ := wvl_inj k m (fun i h => h1 i (by omega)) (fun i h => h2 i (by omega)) (by omega)
    subst q1
    refine ⟨rfl, fun i hi => ?_⟩
    by_cases c : i = k
    · subst c; omega
    · exact q2 i (by omega)
theorem wvl_cg {U B : Nat → Nat} {s f : Nat} : ∀ k, (∀ i, i < k → U (s + i) = B (f + i)) → wvl U s k = wvl B f k
  | 0, _ => rfl
  | k + 1, h => by
    show 32 * wvl U s k + (U (s + k) - 96) = 32 * wvl B f k + (B (f + k) - 96)
    rw [wvl_cg k (fun i hi => h i (by omega)), h k (by omega)]
theorem wvl_lt {U : Nat → Nat} {s : Nat} : ∀ k, (∀ i, i < k → U (s + i) - 96 < 32) → wvl U s k < 32 ^ k
  | 0, _ => by show 0 < 1; omega
  | k + 1, h => by
    have a := wvl_lt k (fun i hi => h i (by omega))
    have b := h k (by omega)
    have e : 32 ^ (k + 1) = 32 ^ k * 32 := Nat.pow_succ 32 k
    show 32 * wvl U s k + (U (s + k) - 96) < 32 ^ (k + 1)
    omega
theorem nvl_lt {U : Nat → Nat} {s : Nat} : ∀ k, (∀ i, i < k → U (s + i) - 48 < 10) → nvl U s k < 10 ^ k
  | 0, _ => by show 0 < 1; omega
  | k + 1, h => by
    have a := nvl_lt k (fun i hi => h i (by omega))
    have b := h k (by omega)
    have e : 10 ^ (k + 1) = 10 ^ k * 10 := Nat.pow_succ 10 k
    show 10 * nvl U s k + (U (s + k) - 48) < 10 ^ (k + 1)
    omega
/-- a token behind place e: where it starts, its kind (0 none, 1 a number, 2 a semicolon, 3 a word, 4 what can't be), where the next one's search begins, its value, its word -/
def tS0 (U : Nat → Nat) (n e : Nat) : Nat := skp blk1 U n e
def tD (U : Nat → Nat) (n e : Nat) : Nat := skp dgt U n (tS0 U n e)
def tL (U : Nat → Nat) (n e : Nat) : Nat := skp ltr U n (tS0 U n e)
def tW (U : Nat → Nat) (n e : Nat) : Nat := if tL U n e - tS0 U n e ≤ 7 then wdc (wvl U (tS0 U n e) (tL U n e - tS0 U n e)) else 99
def tV (U : Nat → Nat) (n e : Nat) : Nat := nvl U (tS0 U n e) (tD U n e - tS0 U n e)
def tK (U : Nat → Nat) (n e : Nat) : Nat := if U (tS0 U n e) = 256 then 0 else if dgt (U (tS0 U n e)) = true then (if tD U n e - tS0 U n e ≤ 3 then 1 else 4) else if ltr (U (tS0 U n e)) = true then (if tW U n e = 99 then 4 else 3) else if U (tS0 U n e) = 59 then 2 else 4
def tE (U : Nat → Nat) (n e : Nat) : Nat := if U (tS0 U n e) = 256 then tS0 U n e else if dgt (U (tS0 U n e)) = true then tD U n e else if ltr (U (tS0 U n e)) = true then tL U n e else tS0 U n e + 1
section
variable {U : Nat → Nat} {n e : Nat}
theorem txt.b (h : txt U n) : blk1 (U n) = false := by rw [h.2.2 n (Nat.le_refl _)]; decide
theorem txt.d (h : txt U n) : dgt (U n) = false := by rw [h.2.2 n (Nat.le_refl _)]; decide
theorem txt.l (h : txt U n) : ltr (U n) = false := by rw [h.2.2 n (Nat.le_refl _)]; decide
theorem txt.le (h : txt U n) (p : Nat) : U p ≤ 256 := by
  by_cases c : p < n
  · have := h.2.1 p c; omega
  · rw [h.2.2 p (by omega)]; exact Nat.le_refl _
theorem txt.at (h : txt U n) {p : Nat} (hp : p ≤ n) (hu : ¬ U p = 256) : p < n := by
  rcases Nat.lt_or_ge p n with c | c
  · exact c
  · exact absurd (h.2.2 p c) hu
theorem tS0_le (h : txt U n) (he : e ≤ n) : e ≤ tS0 U n e ∧ tS0 U n e ≤ n := by
  obtain ⟨a, b, -, -⟩ := skp_spec (P := blk1) h.b he
  exact ⟨a, b⟩
theorem dgt_iff {u : Nat} : dgt u = true ↔ 48 ≤ u ∧ u ≤ 57 := by unfold dgt; simp
theorem ltr_iff {u : Nat} : ltr u = true ↔ 97 ≤ u ∧ u ≤ 122 := by unfold ltr; simp
theorem blk_iff {u : Nat} : blk1 u = true ↔ u = 32 ∨ u = 10 := by unfold blk1; simp
theorem tD_sp (h : txt U n) (he : e ≤ n) : tS0 U n e ≤ tD U n e ∧ tD U n e ≤ n ∧ (∀ p, tS0 U n e ≤ p → p < tD U n e → dgt (U p) = true) ∧ dgt (U (tD U n e)) = false := skp_spec (P := dgt) h.d (tS0_le h he).2
theorem tL_sp (h : txt U n) (he : e ≤ n) : tS0 U n e ≤ tL U n e ∧ tL U n e ≤ n ∧ (∀ p, tS0 U n e ≤ p → p < tL U n e → ltr (U p) = true) ∧ ltr (U (tL U n e)) = false := skp_spec (P := ltr) h.l (tS0_le h he).2
theorem tE_le (h : txt U n) (he : e ≤ n) : tS0 U n e ≤ tE U n e ∧ tE U n e ≤ n := by
  obtain ⟨a, b⟩ := tS0_le h he
  obtain ⟨d1, d2, -, -⟩ := tD_sp h he
  obtain ⟨l1, l2, -, -⟩ := tL_sp h he
  unfold tE
  split
  · exact ⟨Nat.le_refl _, b⟩
  · rename_i c
    have := h.at b c
    split
    · exact ⟨d1, d2⟩
    · split
      · exact ⟨l1, l2⟩
      · omega
theorem tE_lt (h : txt U n) (he : e ≤ n) (hk : ¬ tK U n e = 0) : tS0 U n e < tE U n e := by
  obtain ⟨a, b⟩ := tS0_le h he
  obtain ⟨d1, d2, d3, d4⟩ := tD_sp h he
  obtain ⟨l1, l2, l3, l4⟩ := tL_sp h he
  unfold tK at hk
  unfold tE
  split
  · rename_i c
    rw [if_pos c] at hk
    exact absurd rfl hk
  · rename_i c
    split
    · rename_i d
      rcases Nat.lt_or_ge (tS0 U n e) (tD U n e) with q | q
      · exact q
      · rw [show tD U n e = tS0 U n e by omega, d] at d4
        cases d4
    · split
      · rename_i d
        rcases Nat.lt_or_ge (tS0 U n e) (tL U n e) with q | q
        · exact q
        · rw [show tL U n e = tS0 U n e by omega, d] at l4
          cases l4
      · omega
theorem tE_st (h : txt U n) (he : e ≤ n) (hk : ¬ tK U n e = 0) : tS0 U n e < tS0 U n (tE U n e) := by
  have a := tE_lt h he hk
  have b := tS0_le h (tE_le h he).2
  omega
theorem tV_le (h : txt U n) (he : e ≤ n) (hk : tK U n e = 1) : tV U n e ≤ 999 := by
  obtain ⟨d1, d2, d3, d4⟩ := tD_sp h he
  have hl : tD U n e - tS0 U n e ≤ 3 := by
    unfold tK at hk
    repeat' split at hk
    all_goals first | assumption | (exfalso; omega)
  have q := nvl_lt (U := U) (s := tS0 U n e) (tD U n e - tS0 U n e) (fun i hi => by
    have := dgt_iff.mp (d3 (tS0 U n e + i) (by omega) (by omega))
    omega)
  have q2 : 10 ^ (tD U n e - tS0 U n e) ≤ 10 ^ 3 := Nat.pow_le_pow_right (by decide) hl
  unfold tV
  omega
theorem tK_le : tK U n e ≤ 4 := by
  unfold tK
  repeat' split
  all_goals decide
end
end
