/-! Both sides answer alike: spread. -/
noncomputable section
def spC (M : Nat) : Bool := decide ((31 : Int32) - K_nlz (nI M) = nI ((31 : Int32) - K_nlz (nI M)).toNatClampNeg) && decide (K_ntz (nI M) = nI (K_ntz (nI M)).toNatClampNeg) && M.testBit ((31 : Int32) - K_nlz (nI M)).toNatClampNeg && M.testBit (K_ntz (nI M)).toNatClampNeg && (List.range 12).all (fun r => !M.testBit r || (decide ((K_ntz (nI M)).toNatClampNeg ≤ r) && decide (r ≤ ((31 : Int32) - K_nlz (nI M)).toNatClampNeg)))
def spR (b : Nat) : Bool := (List.range 512).all (fun a => (512 * b + a == 0) || spC (512 * b + a))
theorem sp_0 : spR 0 = true := by decide +kernel
theorem sp_1 : spR 1 = true := by decide +kernel
theorem sp_2 : spR 2 = true := by decide +kernel
theorem sp_3 : spR 3 = true := by decide +kernel
theorem sp_4 : spR 4 = true := by decide +kernel
theorem sp_5 : spR 5 = true := by decide +kernel
theorem sp_6 : spR 6 = true := by decide +kernel
theorem sp_7 : spR 7 = true := by decide +kernel
theorem sp_all {M : Nat} (h : M < 4096) (h0 : ¬ M = 0) : spC M = true := by
  have hb : ∀ b, b < 8 → spR b = true := fun b hb => by
    have : b = 0 ∨ b = 1 ∨ b = 2 ∨ b = 3 ∨ b = 4 ∨ b = 5 ∨ b = 6 ∨ b = 7 := by omega
    rcases this with rfl | rfl | rfl | rfl | rfl | rfl | rfl | rfl
    · exact sp_0
    · exact sp_1
    · exact sp_2
    · exact sp_3
    · exact sp_4
    · exact sp_5
    · exact sp_6
    · exact sp_7
  have h8 := hb (M / 512) (by omega)
  unfold spR at h8
  rw [List.all_eq_true] at h8
  have := h8 (M % 512) (List.mem_range.mpr (Nat.mod_lt _ (by decide)))
  rw [Nat.div_add_mod] at this
  rcases Bool.or_eq_true_iff.mp this with h1 | h1
  · exact absurd (by simpa using h1) h0
  · exact h1
theorem sp_of {M : Nat} (h : M < 4096) (h0 : ¬ M = 0) : ∃ a b, (31 : Int32) - K_nlz (nI M) = nI b ∧ K_ntz (nI M) = nI a ∧ M.testBit a = true ∧ M.testBit b = true ∧ ∀ r, r < 12 → M.testBit r = true → a ≤ r ∧ r ≤ b := by
  have hs := sp_all h h0
  unfold spC at hs
  simp only [Bool.and_eq_true, decide_eq_true_eq] at hs
  obtain ⟨⟨⟨⟨h1, h2⟩, h3⟩, h4⟩, h5⟩ := hs
  refine ⟨_, _, h1, h2, h4, h3, fun r hr hb => ?_⟩
  have := List.all_eq_true.mp h5 r (List.mem_range.mpr hr)
  rw [hb] at this
  simpa using this
theorem spread_eq {T : Tol} {i j k0 : Nat} (hw : wS (tS T i)) (hgo : goP (tS T i) (tP T j)) (hk0 : k0 < (tP T j).1) : K_m_spread T i j k0 = K_spread T i j k0 := by
  obtain ⟨w, hwn, ew⟩ := (hgo k0 hk0).2
  unfold K_m_spread K_spread
  rw [ew]
  generalize hS : tS T i = S at hw hgo hwn
  have hn := hw.1
  have hp := p16 hn
  have hq2 : ∀ k, ∃ t, k < S.1 → S.2.2 0 k = nI t ∧ t < 12 := fun k => by
    by_cases hk : k < S.1
    · obtain ⟨t, h1, h2⟩ := rg_n (hw.2.2.1 k hk).1 (by decide) (b := 11) (by decide)
      exact ⟨t, fun _ => ⟨h2, by omega⟩⟩
    · exact ⟨0, fun h => absurd h hk⟩
  obtain ⟨q, hq⟩ := Classical.axiomOfChoice hq2
  have inw : ∀ k, w.testBit k = true → k < S.1 := fun k h => by
    by_cases c : k < S.1
    · exact c
    · rw [Nat.testBit_lt_two_pow (Nat.lt_of_lt_of_le hwn (Nat.pow_le_pow_right (by decide) (show S.1 ≤ k by omega)))] at h; cases h
  have bit1 : ∀ k, k < 17 → (¬ K_bit (nI w) (nI k) = 0 ↔ w.testBit k = true) := fun k hk => by
    rw [nbit (by omega) hk]; cases w.testBit k <;> simp
  have hst := K_steps_nI (S := S) (w := nI w) q (fun k hk hb => hq k (inw k ((bit1 k hk).mp hb)))
  generalize hM : stM q (fun i => decide (¬ K_bit (nI w) (nI i) = 0)) 17 0 0 = M at hst
  have Mb : ∀ t, M.testBit t = true ↔ ∃ k, w.testBit k = true ∧ q k = t := fun t => by
    rw [← hM, stM_bit, Nat.zero_testBit]
    constructor
    · rintro (h | ⟨k, _, h2, h3, h4⟩)
      · cases h
      · exact ⟨k, (bit1 k (by omega)).mp (by simpa using h3), h4⟩
    · rintro ⟨k, h1, h2⟩
      have := inw k h1
      exact Or.inr ⟨k, Nat.zero_le _, by omega, by simpa using (bit1 k (by omega)).mpr h1, h2⟩
  have Ml : M < 4096 := by
    rw [← hM]
    exact stM_lt q _ 17 0 0 (by decide) (fun k _ hk hb => (hq k (inw k ((bit1 k (by omega)).mp (by simpa using hb)))).2)
  have key := fo_inv (F := F_m_spread_29 T i j k0) (fun k (z : Int32 × Int32) => (z = ((99 : Int32), (-1 : Int32)) ∧ ∀ d, d < k → ¬ w.testBit d = true) ∨ ∃ lo hi, z = (nI lo, nI hi) ∧ (∃ d, w.testBit d = true ∧ q d = lo) ∧ (∃ d, w.testBit d = true ∧ q d = hi) ∧ ∀ d, d < k → w.testBit d = true → lo ≤ q d ∧ q d ≤ hi) S.1 0 ((99 : Int32), (-1 : Int32)) (Or.inl ⟨rfl, fun d h => absurd h (Nat.not_lt_zero d)⟩) (fun k z _ hk h => by
    have hk : k < S.1 := by omega
    obtain ⟨q1, q2⟩ := hq k hk
    unfold F_m_spread_29
    have eb : ((nI w >>> (nI k &&& 31)) &&& (1 : Int32)) = K_bit (nI w) (nI k) := rfl
    rw [hS, ew, eb, q1]
    by_cases c0 : K_bit (nI w) (nI k) = 0
    · rw [if_pos c0]
      have nb : ¬ w.testBit k = true := fun h => (bit1 k (by omega)).mpr h c0
      rcases h with ⟨h1, h2⟩ | ⟨lo, hi, h1, h2, h3, h4⟩
      · refine Or.inl ⟨h1, fun d hd => ?_⟩
        by_cases ed : d = k
        · rw [ed]; exact nb
        · exact h2 d (by omega)
      · refine Or.inr ⟨lo, hi, h1, h2, h3, fun d hd hb => ?_⟩
        by_cases ed : d = k
        · rw [ed] at hb; exact absurd hb nb
        · exact h4 d (by omega) hb
    · rw [if_neg c0]
      have hb := (bit1 k (by omega)).mp c0
      rcases h with ⟨h1, h2⟩ | ⟨lo, hi, h1, ⟨d1, a1, a2⟩, ⟨d2, b1, b2⟩, h4⟩
      · rw [h1]
        dsimp only
        rw [if_pos (show nI (q k) < (99 : Int32) from nI_lt (b := 99) (by omega) (by omega)), if_pos (show (-1 : Int32) < nI (q k) from by
          have := nI_toInt (show q k < 2 ^ 31 by omega)
          rw [lt_toInt, this, show (-1 : Int32).toInt = -1 by decide]; omega)]
        refine Or.inr ⟨q k, q k, rfl, ⟨k, hb, rfl⟩, ⟨k, hb, rfl⟩, fun d hd hb' => ?_⟩
        by_cases ed : d = k
        · rw [ed]; exact ⟨Nat.le_refl _, Nat.le_refl _⟩
        · exact absurd hb' (h2 d (by omega))
      · rw [h1]
        dsimp only
        have l1 := (hq d1 (inw d1 a1)).2
        have l2 := (hq d2 (inw d2 b1)).2
        refine Or.inr ?_
        by_cases c1 : q k < lo
        · rw [if_pos (nI_lt c1 (by omega))]
          by_cases c2 : hi < q k
          · rw [if_pos (nI_lt c2 (by omega))]
            refine ⟨q k, q k, rfl, ⟨k, hb, rfl⟩, ⟨k, hb, rfl⟩, fun d hd hb' => ?_⟩
            by_cases ed : d = k
            · rw [ed]; exact ⟨Nat.le_refl _, Nat.le_refl _⟩
            · have := h4 d (by omega) hb'; omega
          · rw [if_neg (nI_nlt (by omega) (by omega))]
            refine ⟨q k, hi, rfl, ⟨k, hb, rfl⟩, ⟨d2, b1, b2⟩, fun d hd hb' => ?_⟩
            by_cases ed : d = k
            · rw [ed]; omega
            · have := h4 d (by omega) hb'; omega
        · rw [if_neg (nI_nlt (by omega) (by omega))]
          by_cases c2 : hi < q k
          · rw [if_pos (nI_lt c2 (by omega))]
            refine ⟨lo, q k, rfl, ⟨d1, a1, a2⟩, ⟨k, hb, rfl⟩, fun d hd hb' => ?_⟩
            by_cases ed : d = k
            · rw [ed]; omega
            · have := h4 d (by omega) hb'; omega
          · rw [if_neg (nI_nlt (by omega) (by omega))]
            refine ⟨lo, hi, rfl, ⟨d1, a1, a2⟩, ⟨d2, b1, b2⟩, fun d hd hb' => ?_⟩
            by_cases ed : d = k
            · rw [ed]; omega
            · exact h4 d (by omega) hb')
  rw [Nat.zero_add] at key
  generalize fo (F_m_spread_29 T i j k0) S.1 0 ((99 : Int32), (-1 : Int32)) = z at key
  rcases key with ⟨h1, h2⟩ | ⟨lo, hi, h1, ⟨d1, a1, a2⟩, ⟨d2, b1, b2⟩, h4⟩
  · have : w = 0 := by
      apply Nat.eq_of_testBit_eq
      intro k
      rw [Nat.zero_testBit]
      cases h : w.testBit k
      · rfl
      · exact absurd h (h2 k (inw k h))
    rw [h1, this, if_pos (show nI 0 = 0 from rfl)]
    rfl
  · have w0 : ¬ nI w = 0 := fun e => by
      have : w = 0 := nI_injL (a := w) (b := 0) (by omega) (by omega) e
      rw [this, Nat.zero_testBit] at a1
      cases a1
    have M0 : ¬ M = 0 := fun e => by
      have := (Mb lo).mpr ⟨d1, a1, a2⟩
      rw [e, Nat.zero_testBit] at this
      cases this
    obtain ⟨a, b, e1, e2, e3, e4, e5⟩ := sp_of Ml M0
    obtain ⟨da, f1, f2⟩ := (Mb a).mp e3
    obtain ⟨db, g1, g2⟩ := (Mb b).mp e4
    have l1 := (hq d1 (inw d1 a1)).2
    have l2 := (hq d2 (inw d2 b1)).2
    have x1 := e5 lo (by omega) ((Mb lo).mpr ⟨d1, a1, a2⟩)
    have x2 := e5 hi (by omega) ((Mb hi).mpr ⟨d2, b1, b2⟩)
    have x3 := h4 da (inw da f1) f1
    have x4 := h4 db (inw db g1) g1
    rw [if_neg w0, h1, hst, e1, e2, show a = lo by omega, show b = hi by omega]
    dsimp only
    rw [if_neg (nI_pos (by omega))]
end
