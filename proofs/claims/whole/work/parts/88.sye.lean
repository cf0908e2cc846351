/-! A teacher who is ill: both sides answer alike. -/
noncomputable section
theorem orf {S : Sch} {P : Pln} {c : Nat → Prop} {F : Nat → Int32 → Int32} (hn : S.1 ≤ 16) (hgo : goP S P) (hF : ∀ k z, k < P.1 → (c k → F k z = z ||| P.2 k 5) ∧ (¬ c k → F k z = z)) : ∃ m, m < 2 ^ S.1 ∧ fo F P.1 0 0 = nI m ∧ ∀ j, m.testBit j = true ↔ ∃ k, k < P.1 ∧ c k ∧ (sN P k).testBit j = true := by
  have hp : 2 ^ S.1 ≤ 2 ^ 16 := Nat.pow_le_pow_right (by decide) hn
  have h := fo_inv (F := F) (fun i z => ∃ m, m < 2 ^ S.1 ∧ z = nI m ∧ ∀ j, m.testBit j = true ↔ ∃ k, k < i ∧ c k ∧ (sN P k).testBit j = true) P.1 0 0 ⟨0, Nat.two_pow_pos _, rfl, fun j => by rw [Nat.zero_testBit]; exact ⟨fun h => (by cases h), fun ⟨k, h, _⟩ => absurd h (Nat.not_lt_zero _)⟩⟩ (fun i z _ hi hz => by
    obtain ⟨m, h1, h2, h3⟩ := hz
    obtain ⟨f1, f2⟩ := hF i z (by omega)
    obtain ⟨s1, s2⟩ := sN_eq hn hgo (k := i) (by omega)
    by_cases cc : c i
    · refine ⟨m ||| sN P i, Nat.or_lt_two_pow h1 s2, ?_, fun j => ?_⟩
      · rw [f1 cc, h2, s1, or_nI (by omega) (by omega)]
      · rw [Nat.testBit_or, Bool.or_eq_true, h3]
        constructor
        · rintro (⟨k, a, b⟩ | b)
          · exact ⟨k, by omega, b⟩
          · exact ⟨i, by omega, cc, b⟩
        · rintro ⟨k, a, b, d⟩
          by_cases e : k = i
          · subst e; exact Or.inr d
          · exact Or.inl ⟨k, by omega, b, d⟩
    · refine ⟨m, h1, ?_, fun j => ?_⟩
      · rw [f2 cc, h2]
      · rw [h3]
        constructor
        · rintro ⟨k, a, b⟩; exact ⟨k, by omega, b⟩
        · rintro ⟨k, a, b, d⟩
          by_cases e : k = i
          · subst e; exact absurd b cc
          · exact ⟨k, by omega, b, d⟩)
  rw [Nat.zero_add] at h
  exact h
theorem moved_eq {S : Sch} {P : Pln} {tc : Int32} (hn : S.1 ≤ 16) (hgo : goP S P) : (K_sits P) &&& ((K_seat P tc) ^^^ (-1 : Int32)) = nI (lst S P tc) := by
  have hp : 2 ^ S.1 ≤ 2 ^ 16 := Nat.pow_le_pow_right (by decide) hn
  obtain ⟨m, m1, m2, m3⟩ := orf (c := fun _ => True) (F := fun k x => x ||| P.2 k 5) hn hgo (fun k z _ => ⟨fun _ => rfl, fun h => absurd trivial h⟩)
  obtain ⟨w, w1, w2, w3⟩ := orf (c := fun k => ¬ P.2 k 1 = tc) (F := fun k x => if P.2 k 1 = tc then x else x ||| P.2 k 5) hn hgo (fun k z _ => ⟨fun h => if_neg h, fun h => if_pos (Classical.byContradiction h)⟩)
  have e1 : K_sits P = nI m := m2
  have e2 : K_seat P tc = nI w := w2
  rw [e1, e2, msk_nI (by omega) (by omega)]
  refine congrArg nI (Nat.eq_of_testBit_eq (fun j => ?_))
  have h1 := m3 j
  have h2 := w3 j
  have h3 := @lst_tb S P tc j
  rw [Nat.testBit_xor, Nat.testBit_and]
  cases a : m.testBit j with
  | false =>
    cases b : (lst S P tc).testBit j with
    | false => rfl
    | true =>
      obtain ⟨-, ⟨k, u, v, -⟩, -⟩ := h3.mp b
      rw [h1.mpr ⟨k, u, trivial, v⟩] at a
      cases a
  | true =>
    obtain ⟨k, u, -, v⟩ := h1.mp a
    cases d : w.testBit j with
    | false =>
      have hno : ¬ othP P tc P.1 j := fun ⟨q, q1, q2, q3⟩ => by rw [h2.mpr ⟨q, q1, q3, q2⟩] at d; cases d
      have hhis : hisP P tc P.1 j := ⟨k, u, v, Classical.byContradiction (fun c => hno ⟨k, u, v, c⟩)⟩
      rw [h3.mpr ⟨tb_lt m1 a, hhis, hno⟩]
      rfl
    | true =>
      obtain ⟨q, q1, q2, q3⟩ := h2.mp d
      cases b : (lst S P tc).testBit j with
      | false => rfl
      | true => exact absurd ⟨q, q1, q3, q2⟩ (h3.mp b).2.2
theorem lOf_nI {n p : Nat} {wo : Nat → Int32} {ω : Nat → Nat} (hn : n ≤ 8) (hp : p < 65536) (hω : ∀ i, i < n → wo i = nI (ω i) ∧ ω i < 16) : K_lOf n wo (nI p) = nI (LO ω p n) := by
  have h := fo_inv (F := F_lOf_4 n wo (nI p)) (fun i z => i ≤ n → z = nI (LO ω p i)) n 0 0 (fun _ => rfl) (fun k z _ hk hz hle => by
    have hb := bit_tb (m := p) (j := k) (by omega) (by omega)
    unfold K_bit at hb
    obtain ⟨w1, w2⟩ := hω k (by omega)
    have hl : LO ω p k < 2 ^ 16 := LO_lt k (fun i hi => (hω i (by omega)).2)
    unfold F_lOf_4
    rw [hz (by omega), hb, w1]
    by_cases b : p.testBit k = true
    · rw [if_pos b, or_bit (by omega) (by omega)]
      exact congrArg nI (if_pos b).symm
    · rw [if_neg b, show (0 : Int32) = nI 0 from rfl, pk_shlN _ (ω k) (sh_amt _ (by omega)) (by rw [Nat.zero_mul]; decide), Nat.zero_mul, or_nI (by omega) (by omega), Nat.or_zero]
      exact congrArg nI (if_neg b).symm)
  rw [Nat.zero_add] at h
  exact h (Nat.le_refl _)
theorem mayCome_iff {S : Sch} {P : Pln} {tc : Int32} {n p k : Nat} {wo : Nat → Int32} {ω : Nat → Nat} (hS : S.1 ≤ 16) (hgo : goP S P) (hk : k < P.1) (hn : n ≤ 8) (hp : p < 2 ^ n) (hω : ∀ i, i < n → wo i = nI (ω i)) (ht : ¬ P.2 k 1 = tc) : K_mayCome n wo S (P.2 k) (nI p) = 0 ↔ ¬ okI S P tc ω n k p := by
  have hpp : 2 ^ n ≤ 2 ^ 8 := Nat.pow_le_pow_right (by decide) hn
  have hp2 : 2 ^ S.1 ≤ 2 ^ 16 := Nat.pow_le_pow_right (by decide) hS
  obtain ⟨s1, s2⟩ := sN_eq hS hgo hk
  have hF := fe_unit (F := F_mayCome_30 n wo S (P.2 k) (nI p)) (bad := fun i => p.testBit i = true ∧ K_can S (P.2 k) (nI (ω i)) = 0) (N := n) (fun i hi => by
    have hb := bit0 (m := p) (j := i) (by omega) (by omega)
    unfold F_mayCome_30
    rw [hω i hi]
    by_cases b : p.testBit i = true
    · rw [if_neg (fun h => by rw [hb.mp h] at b; cases b)]
      by_cases c : K_can S (P.2 k) (nI (ω i)) = 0
      · rw [if_pos c]
        exact ⟨fun _ => rfl, fun h => absurd ⟨b, c⟩ h⟩
      · rw [if_neg c]
        exact ⟨fun h => absurd h.2 c, fun _ => rfl⟩
    · rw [if_pos (hb.mpr (by simpa using b))]
      exact ⟨fun h => absurd h.1 b, fun _ => rfl⟩) n 0 (by omega)
  have hall : (Sum.elim (fun (_ : Unit) => (1 : Int32)) (fun (rx : Int32) => rx) (fe (F_mayCome_30 n wo S (P.2 k) (nI p)) n 0 ()) = 0) ↔ ¬ ∀ i, i < n → p.testBit i = true → ¬ K_can S (P.2 k) (nI (ω i)) = 0 := by
    rcases hF with ⟨h1, h2⟩ | ⟨⟨i, -, h1, h2, h3⟩, h4⟩
    · rw [h2, Sum.elim_inl]
      exact ⟨fun h => absurd h (by decide), fun h => absurd (fun i hi hb c => h1 i (by omega) hi ⟨hb, c⟩) h⟩
    · rw [h4, Sum.elim_inr]
      exact ⟨fun _ h => h i h1 h2 h3, fun _ => rfl⟩
  have hbc : K_bc (P.2 k 5) + K_bc (nI p) = nI (pop (sN P k) + bcn p n) := by
    rw [s1, bc_nI (by omega), bc_nI (by omega), nI_add, pop_bcn p, bcn_top hp 17 (by omega)]
  have hz : nI p = 0 ↔ p = 0 := ⟨fun h => nI_injL (b := 0) (by omega) (by omega) h, fun h => by rw [h]; rfl⟩
  unfold K_mayCome okI
  by_cases c0 : p = 0
  · rw [if_pos (hz.mpr c0), hall]
    simp [ht, c0]
  · rw [if_neg (fun h => c0 (hz.mp h))]
    have hbc' : K_bc ((P.2 k) 5) + K_bc (nI p) = nI (pop (sN P k) + bcn p n) := hbc
    rw [hbc']
    by_cases c1 : S.2.2 9 3 < nI (pop (sN P k) + bcn p n)
    · have c1' : (S.2.2 9) 3 < nI (pop (sN P k) + bcn p n) := c1
      rw [if_pos c1']
      simp [ht, c0, c1]
    · have c1' : ¬ (S.2.2 9) 3 < nI (pop (sN P k) + bcn p n) := c1
      rw [if_neg c1', hall]
      simp [ht, c0, c1]
end
