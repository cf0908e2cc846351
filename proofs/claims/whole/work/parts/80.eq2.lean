/-! Both sides answer alike: years (pass, ladder, order). -/
noncomputable section
theorem or_bit {m k : Nat} (hm : m < 65536) (hk : k < 16) : nI m ||| (1 : Int32) <<< (nI k &&& 31) = nI (m ||| 2 ^ k) := by
  have h : 2 ^ k < 65536 := Nat.pow_lt_pow_right (by decide) hk
  rw [shl1_nI k (by omega), or_nI (by omega) (by omega)]
/-- bits that are gathered one by one -/
theorem bacc {F : Nat → Int32 → Int32} {c : Nat → Prop} {n : Nat} (hn : n ≤ 16) (hF : ∀ k z, k < n → (c k → F k z = z ||| (1 : Int32) <<< (nI k &&& 31)) ∧ (¬ c k → F k z = z)) : ∃ m, m < 2 ^ n ∧ fo F n 0 0 = nI m ∧ ∀ j, m.testBit j = true ↔ j < n ∧ c j := by
  have key := fo_inv (F := F) (fun i z => i ≤ n ∧ ∃ m, m < 2 ^ i ∧ z = nI m ∧ ∀ j, m.testBit j = true ↔ j < i ∧ c j) n 0 0 ⟨Nat.zero_le _, 0, by decide, rfl, fun j => by simp⟩ (fun k z _ hk hz => by
    obtain ⟨h1, m, hm, rfl, hb⟩ := hz
    refine ⟨by omega, ?_⟩
    have hp : 2 ^ k ≤ 2 ^ 15 := Nat.pow_le_pow_right (by decide) (by omega)
    have h2 : 2 ^ (k + 1) = 2 ^ k * 2 := Nat.pow_succ 2 k
    by_cases hc : c k
    · rw [(hF k (nI m) (by omega)).1 hc, or_bit (by omega) (by omega)]
      refine ⟨m ||| 2 ^ k, Nat.or_lt_two_pow (by omega) (by omega), rfl, fun j => ?_⟩
      rw [Nat.testBit_or, Bool.or_eq_true, hb j, Nat.testBit_two_pow]
      constructor
      · rintro (⟨a, b⟩ | a)
        · exact ⟨by omega, b⟩
        · have : k = j := by simpa using a
          subst this
          exact ⟨by omega, hc⟩
      · rintro ⟨a, b⟩
        by_cases e : j < k
        · exact Or.inl ⟨e, b⟩
        · have : k = j := by omega
          exact Or.inr (by simpa using this)
    · rw [(hF k (nI m) (by omega)).2 hc]
      refine ⟨m, by omega, rfl, fun j => ?_⟩
      rw [hb j]
      constructor
      · rintro ⟨a, b⟩
        exact ⟨by omega, b⟩
      · rintro ⟨a, b⟩
        refine ⟨?_, b⟩
        by_cases e : j = k
        · subst e
          exact absurd b hc
        · omega)
  simp only [Nat.zero_add] at key
  exact key.2
theorem bit_tb {m j : Nat} (hm : m < 2 ^ 31) (hj : j < 32) : K_bit (nI m) (nI j) = if m.testBit j = true then 1 else 0 := by
  rw [bit_nI hm hj, Nat.testBit_eq_decide_div_mod_eq]
  have := Nat.mod_lt (m / 2 ^ j) (show 0 < 2 by decide)
  by_cases h : m / 2 ^ j % 2 = 1
  · rw [h]; simp; rfl
  · have h0 : m / 2 ^ j % 2 = 0 := by omega
    rw [h0]; simp; rfl
theorem sum_eq (S : Sch) (P : Pln) (f v : Nat → Int32) (k : Nat) (z : Int32) : fo (F_rising_18 (S_st S f) P k z) P.1 0 0 = fo (F_m_year_18 S P f v k v) P.1 0 0 := by
  refine fo_cong _ _ _ (fun j x _ _ => ?_)
  unfold F_rising_18 F_m_year_18
  show (if (if K_bit (P.2 j 5) (nI k) = 0 then 0 else 1) = (0 : Int32) then x + 0 else x + K_byOne (S_st S f) (P.2 j) k) = if K_bit (P.2 j 5) (nI k) = 1 then x + K_by (S_st S f) (P.2 j) (P.2 j 5) k else x + 0
  rcases bit_cases (P.2 j 5) (nI k) with h | h
  · rw [if_pos h, if_pos rfl, if_neg (by rw [h]; decide)]
  · rw [if_neg (show ¬ K_bit (P.2 j 5) (nI k) = 0 by rw [h]; decide), if_neg (show ¬ (1 : Int32) = 0 by decide), if_pos h]
    rfl
theorem rise_at (n : Nat) (w : Int32) (f : Nat → Int32) (q : Nat) : K_rise n w f q = if q < n then f q + K_bit w (nI q) else f q := by
  unfold K_rise
  rw [fo_updz (F := F_rise_2 n w f) (r := fun k => K_bit w (nI k)) n 0 f (fun k z _ _ => rfl) q]
  by_cases h : q < n
  · rw [if_pos (by omega), if_pos h]
  · rw [if_neg (by omega), if_neg h]
theorem year_out (S : Sch) (P : Pln) (f v : Nat → Int32) (q : Nat) (h : ¬ q < S.1) : (K_m_year S P f v).1 q = f q := by
  show fo (F_m_year_122 S P f v) S.1 0 f q = _
  rw [fo_updz (F := F_m_year_122 S P f v) (r := (K_m_year S P f v).2) S.1 0 f (fun k z _ _ => rfl) q, if_neg (by omega)]
theorem rising_bits (S : Sch) (P : Pln) (f v : Nat → Int32) (hn : S.1 ≤ 16) : ∃ m, m < 2 ^ S.1 ∧ K_rising (S_st S f) P = nI m ∧ ∀ j, m.testBit j = true ↔ j < S.1 ∧ K_up S P f v j = 1 := by
  have h := bacc (F := F_rising_4 (S_st S f) P) (c := fun k => K_up S P f v k = 1) (n := S.1) hn (fun k z _ => by
    have e : F_rising_4 (S_st S f) P k z = if fo (F_m_year_18 S P f v k v) P.1 0 0 < S.2.2 9 8 then z else if f k < 11 then z ||| (1 : Int32) <<< (nI k &&& 31) else z := by
      rw [← sum_eq S P f v k z]
      rfl
    rw [e]
    unfold K_up
    by_cases c1 : fo (F_m_year_18 S P f v k v) P.1 0 0 < S.2.2 9 8
    · simp only [if_pos c1]
      exact ⟨fun q => absurd q (by decide), fun _ => trivial⟩
    · simp only [if_neg c1]
      by_cases c2 : f k < 11
      · simp only [if_pos c2]
        exact ⟨fun _ => trivial, fun q => absurd trivial q⟩
      · simp only [if_neg c2]
        exact ⟨fun q => absurd q (by decide), fun _ => trivial⟩)
  exact h
theorem up_01 (S : Sch) (P : Pln) (f v : Nat → Int32) (k : Nat) : K_up S P f v k = 0 ∨ K_up S P f v k = 1 := by
  unfold K_up
  split
  · exact Or.inl rfl
  · split
    · exact Or.inr rfl
    · exact Or.inl rfl
theorem year_eq (S : Sch) (P : Pln) (f v : Nat → Int32) (hn : S.1 ≤ 16) : K_rise S.1 (K_rising (S_st S f) P) f = (K_m_year S P f v).1 := by
  funext q
  rw [rise_at]
  by_cases h : q < S.1
  · rw [if_pos h, year_at S P f v q h]
    obtain ⟨m, hm, e, hb⟩ := rising_bits S P f v hn
    have hp := p16 hn
    rw [e, bit_tb (by omega) (by omega)]
    congr 1
    rcases up_01 S P f v q with h0 | h1
    · rw [h0, if_neg]
      intro hc
      have := ((hb q).mp hc).2
      rw [h0] at this
      exact absurd this (by decide)
    · rw [h1, if_pos ((hb q).mpr ⟨h, h1⟩)]
  · rw [if_neg h, year_out S P f v q h]
theorem ladder_eq {T : Tol} {i j n : Nat} {v : Nat → Int32} (hn : (tS T i).1 ≤ 16) : (K_m_ladder T i j n v).1 = (K_ladder T i j n).1 := by
  unfold K_m_ladder K_ladder
  have key := fo_rel (F := F_m_ladder_36 T i j n v) (G := F_ladder_53 T i j n) (fun _ a b => a.1 = b) (n - 1) 1 ((tS T i).2.2 0, v) ((tS T i).2.2 0) rfl (fun k a b _ _ h => by
    subst h
    show (K_m_year (tS T i) (tP T j) a.1 a.2).1 = K_rise (tS T i).1 (K_rising (S_st (tS T i) a.1) (tP T j)) a.1
    rw [year_eq _ _ _ a.2 hn])
  show K_inAll (S_st (tS T i) (fo (F_m_ladder_36 T i j n v) (n - 1) 1 ((tS T i).2.2 0, v)).1) (tP T j) = _
  rw [key]
theorem both_eq {S : Sch} {P P2 : Pln} {v : Nat → Int32} (hn : S.1 ≤ 16) : (K_m_both S P P2 v).1 = (K_twoY S P P2).1 := by
  show K_inAll (S_st S (S.2.2 0)) P + K_inAll (S_st S (K_m_year S P (S.2.2 0) v).1) P2 = K_inAll S P + K_inAll (S_st S (K_rise S.1 (K_rising S P) (S.2.2 0))) P2
  rw [← year_eq S P (S.2.2 0) v hn, S_st_self]
theorem pass_eq {T : Tol} {i j : Nat} {v : Nat → Int32} (hw : wS (tS T i)) : (K_m_pass T i j v).1 = K_pass T i j := by
  have hn := hw.1
  show fo (F_m_pass_39 T i j v) (tS T i).1 0 0 = K_rising (tS T i) (tP T j)
  obtain ⟨m, hm, e, hb⟩ := rising_bits (tS T i) (tP T j) ((tS T i).2.2 0) v hn
  rw [S_st_self] at e
  obtain ⟨m2, hm2, e2, hb2⟩ := bacc (F := F_m_pass_39 T i j v) (c := fun k => K_up (tS T i) (tP T j) ((tS T i).2.2 0) v k = 1) (n := (tS T i).1) hn (fun k z hk => by
    have e : F_m_pass_39 T i j v k z = if (tS T i).2.2 0 k < (tS T i).2.2 0 k + K_up (tS T i) (tP T j) ((tS T i).2.2 0) v k then z ||| (1 : Int32) <<< (nI k &&& 31) else z ||| 0 := by
      rw [← year_at (tS T i) (tP T j) ((tS T i).2.2 0) v k hk]
      rfl
    rw [e]
    obtain ⟨q, eq, -, hq, -⟩ := (hw.2.2.1 k hk).1.nat (by decide)
    rcases up_01 (tS T i) (tP T j) ((tS T i).2.2 0) v k with h0 | h1
    · rw [h0, add0, if_neg (by rw [lt_toInt]; omega)]
      exact ⟨fun c => absurd c (by decide), fun _ => by simp⟩
    · rw [h1, eq, nI_1, if_pos (nI_lt (by omega) (by omega))]
      exact ⟨fun _ => rfl, fun c => absurd rfl c⟩)
  rw [e, e2]
  congr 1
  apply Nat.eq_of_testBit_eq
  intro j'
  have := hb j'
  have := hb2 j'
  cases h1 : m.testBit j' <;> cases h2 : m2.testBit j' <;> simp_all
end
