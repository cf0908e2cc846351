/-! Both sides answer alike: fills, the rest. -/
noncomputable section
theorem pays_nat {S : Sch} (hw : wS S) : ∃ q : Nat → Nat, ∀ i, i < S.1 → S.2.2 2 i = nI (q i) ∧ q i ≤ 999 := by
  have : ∀ i, ∃ t, i < S.1 → S.2.2 2 i = nI t ∧ t ≤ 999 := fun i => by
    by_cases hi : i < S.1
    · obtain ⟨t, h1, h2⟩ := rg_n (hw.2.2.1 i hi).2.2.1 (by decide) (b := 999) (by decide)
      exact ⟨t, fun _ => ⟨h2, h1⟩⟩
    · exact ⟨0, fun h => absurd h hi⟩
  exact Classical.axiomOfChoice this
theorem m_payers_eq (S : Sch) (fee : Int32) : K_m_payers S fee = K_payers S fee := by
  unfold K_m_payers K_payers
  refine fo_cong _ _ _ (fun k z _ _ => ?_)
  unfold F_m_payers_5
  by_cases c : S.2.2 2 k < fee
  · rw [if_pos c, if_pos c]
  · rw [if_neg c, if_neg c]
theorem payers_cnt {S : Sch} {q : Nat → Nat} (hn : S.1 ≤ 16) (hq : ∀ i, i < S.1 → S.2.2 2 i = nI (q i) ∧ q i ≤ 999) {k : Nat} (hk : k ≤ 1000) : K_payers S (nI k) = nI (cntN S.1 q k) := by
  unfold K_payers cntN
  have := fo_rel (F := fun i x => x + (if S.2.2 2 i < nI k then 0 else 1)) (G := fun i x => x + if k ≤ q i then 1 else 0) (fun i a b => a = nI b ∧ b ≤ i) S.1 0 (0 : Int32) 0 ⟨rfl, Nat.le_refl _⟩ (fun i a b _ hi ⟨h1, h2⟩ => by
    obtain ⟨e1, e2⟩ := hq i (by omega)
    show a + (if S.2.2 2 i < nI k then 0 else 1) = nI (b + if k ≤ q i then 1 else 0) ∧ _ ≤ _
    rw [e1]
    by_cases c : k ≤ q i
    · rw [if_neg (nI_nlt c (by omega)), if_pos c, h1]
      exact ⟨(nI_1 b).symm ▸ rfl, Nat.succ_le_succ h2⟩
    · rw [if_pos (nI_lt (by omega) (by omega)), if_neg c, h1]
      exact ⟨Int32.add_zero _, Nat.le_succ_of_le h2⟩)
  exact this.1
theorem inc_le {n : Nat} {q : Nat → Nat} {k : Nat} (hn : n ≤ 16) (hk : k ≤ 999) : inc n q k ≤ 15984 :=
  (Nat.mul_le_mul hk (Nat.le_trans (cnt_le n q k) hn) : k * cntN n q k ≤ 999 * 16)
theorem least_eq {T : Tol} {i : Nat} (hw : wS (tS T i)) (hn0 : ¬ (tS T i).1 = 0) : fo (F_m_fills_36 T i 0) 999 1 (0 : Int32) = K_least (tS T i) := by
  have hn := hw.1
  obtain ⟨q, hq⟩ := pays_nat hw
  obtain ⟨m, e1, m1, m2, m3⟩ := fo_inv (F := F_m_fills_36 T i 0) (fun k z => ∃ m, z = nI m ∧ m < k ∧ (m = 0 ∨ cntN (tS T i).1 q m = (tS T i).1) ∧ ∀ d, 1 ≤ d → d < k → cntN (tS T i).1 q d = (tS T i).1 → d ≤ m) 999 1 (0 : Int32) ⟨0, rfl, by decide, Or.inl rfl, fun d h1 h2 => by omega⟩ (fun k z h1 h2 ⟨m, e1, e2, e3, e4⟩ => by
    unfold F_m_fills_36
    have hc := cnt_le (tS T i).1 q k
    rw [if_pos rfl, m_payers_eq, payers_cnt hn hq (by omega)]
    by_cases c : cntN (tS T i).1 q k = (tS T i).1
    · rw [if_pos (by rw [c])]
      exact ⟨k, rfl, by omega, Or.inr c, fun d _ h _ => by omega⟩
    · rw [if_neg (fun e => c (nI_injL (by omega) (by omega) e))]
      refine ⟨m, e1, by omega, e3, fun d d1 d2 d3 => ?_⟩
      by_cases ed : d = k
      · rw [ed] at d3; exact absurd d3 c
      · exact e4 d d1 (by omega) d3)
  obtain ⟨L, e2, l1, l2, l3⟩ := fo_inv (F := fun k x => K_min x ((tS T i).2.2 2 k)) (fun k z => ∃ L, z = nI L ∧ L ≤ 999 ∧ (∀ d, d < k → L ≤ q d) ∧ (L = 999 ∨ ∃ d, d < k ∧ L = q d)) (tS T i).1 0 (999 : Int32) ⟨999, rfl, Nat.le_refl _, fun d h => absurd h (Nat.not_lt_zero d), Or.inl rfl⟩ (fun k z _ hk ⟨L, e1, e2, e3, e4⟩ => by
    obtain ⟨p1, p2⟩ := hq k (by omega)
    show ∃ L, K_min z ((tS T i).2.2 2 k) = nI L ∧ _
    unfold K_min
    rw [p1, e1]
    by_cases c : q k < L
    · rw [if_pos (nI_lt c (by omega))]
      refine ⟨q k, rfl, p2, fun d hd => ?_, Or.inr ⟨k, by omega, rfl⟩⟩
      by_cases ed : d = k
      · rw [ed]; exact Nat.le_refl _
      · have := e3 d (by omega); omega
    · rw [if_neg (nI_nlt (by omega) (by omega))]
      refine ⟨L, rfl, e2, fun d hd => ?_, ?_⟩
      · by_cases ed : d = k
        · rw [ed]; omega
        · exact e3 d (by omega)
      · rcases e4 with h | ⟨d, h1, h2⟩
        · exact Or.inl h
        · exact Or.inr ⟨d, by omega, h2⟩)
  have e3 : K_least (tS T i) = nI L := e2
  rw [e1, e3]
  rw [Nat.zero_add] at l2 l3
  have a1 : L ≤ m := by
    by_cases c : L = 0
    · omega
    · exact m3 L (by omega) (by omega) ((cnt_all _ q L).mpr l2)
  have a2 : m ≤ L := by
    rcases m2 with h | h
    · omega
    · have hall := (cnt_all _ q m).mp h
      rcases l3 with h3 | ⟨d, d1, d2⟩
      · omega
      · rw [d2]; exact hall d d1
  rw [show m = L by omega]
theorem paying_eq {T : Tol} {i : Nat} {b : Int32} (hw : wS (tS T i)) (hb : ¬ b = 0) : fo (F_m_fills_36 T i b) 999 1 (0 : Int32) = K_paying (tS T i) := by
  have hn := hw.1
  obtain ⟨q, hq⟩ := pays_nat hw
  generalize hN : (tS T i).1 = n at hn hq
  have iz : inc n q 0 = 0 := Nat.zero_mul _
  have val : ∀ k, k ≤ 999 → nI k * K_payers (tS T i) (nI k) = nI (inc n q k) := fun k hk => by
    rw [payers_cnt (by omega) (q := q) (by rw [hN]; exact hq) (by omega), pk_mul, hN]
    rfl
  obtain ⟨r, e1, r1, r2, r3⟩ := fo_inv (F := F_m_fills_36 T i b) (fun k z => ∃ r, z = nI r ∧ r < k ∧ (∀ d, d < k → inc n q d ≤ inc n q r) ∧ ∀ d, d < r → inc n q d < inc n q r) 999 1 (0 : Int32) ⟨0, rfl, by decide, fun d h => (show inc n q d ≤ inc n q 0 from (show d = 0 from Nat.lt_one_iff.mp h) ▸ Nat.le_refl _), fun d h => absurd h (Nat.not_lt_zero d)⟩ (fun k z h1 h2 ⟨r, e1, e2, e3, e4⟩ => by
    unfold F_m_fills_36
    have b1 := inc_le (n := n) (q := q) hn (show k ≤ 999 by omega)
    have b2 := inc_le (n := n) (q := q) hn (show r ≤ 999 by omega)
    rw [if_neg hb, m_payers_eq, m_payers_eq, e1, val r (by omega), val k (by omega)]
    by_cases c : inc n q r < inc n q k
    · rw [if_pos (nI_lt c (by omega))]
      refine ⟨k, rfl, by omega, fun d hd => ?_, fun d hd => ?_⟩
      · by_cases ed : d = k
        · rw [ed]; exact Nat.le_refl _
        · have := e3 d (by omega); omega
      · have := e3 d (by omega); omega
    · rw [if_neg (nI_nlt (by omega) (by omega))]
      refine ⟨r, rfl, by omega, fun d hd => ?_, e4⟩
      by_cases ed : d = k
      · rw [ed]; omega
      · exact e3 d (by omega))
  obtain ⟨s, f1, f0, s1, s2, s3, s4, s5⟩ := fo_inv (F := F_paying_6 (tS T i)) (fun k (z : Int32 × Int32) => ∃ s, z.2 = nI s ∧ z.1 = nI (inc n q s) ∧ s ≤ 999 ∧ (s = 0 ∨ ∃ d, d < k ∧ s = q d) ∧ (∀ d, d < k → inc n q (q d) ≤ inc n q s) ∧ (∀ d, d < k → inc n q (q d) = inc n q s → s ≤ q d) ∧ (inc n q s = 0 → s = 0)) n 0 ((0 : Int32), (0 : Int32)) ⟨0, rfl, by rw [iz]; rfl, by decide, Or.inl rfl, fun d h => absurd h (Nat.not_lt_zero d), fun d h => absurd h (Nat.not_lt_zero d), fun _ => rfl⟩ (fun k z _ hk ⟨s, f1, f0, s1, s2, s3, s4, s5⟩ => by
    obtain ⟨p1, p2⟩ := hq k (by omega)
    have b1 := inc_le (n := n) (q := q) hn p2
    have b2 := inc_le (n := n) (q := q) hn s1
    unfold F_paying_6
    rw [p1, val (q k) p2, f0, f1]
    by_cases c : inc n q s < inc n q (q k)
    · rw [if_pos (nI_lt c (by omega))]
      refine ⟨q k, rfl, rfl, p2, Or.inr ⟨k, by omega, rfl⟩, fun d hd => ?_, fun d hd e => ?_, fun e => by omega⟩
      · by_cases ed : d = k
        · rw [ed]; exact Nat.le_refl _
        · have := s3 d (by omega); omega
      · by_cases ed : d = k
        · rw [ed]; exact Nat.le_refl _
        · have := s3 d (by omega); omega
    · rw [if_neg (nI_nlt (by omega) (by omega))]
      have keep : (inc n q (q k) = inc n q s → s ≤ q k) → ∃ s', (nI (inc n q s), nI s).2 = nI s' ∧ (nI (inc n q s), nI s).1 = nI (inc n q s') ∧ s' ≤ 999 ∧ (s' = 0 ∨ ∃ d, d < k + 1 ∧ s' = q d) ∧ (∀ d, d < k + 1 → inc n q (q d) ≤ inc n q s') ∧ (∀ d, d < k + 1 → inc n q (q d) = inc n q s' → s' ≤ q d) ∧ (inc n q s' = 0 → s' = 0) := fun hk' => by
        refine ⟨s, rfl, rfl, s1, ?_, fun d hd => ?_, fun d hd e => ?_, s5⟩
        · rcases s2 with h | ⟨d, h1, h2⟩
          · exact Or.inl h
          · exact Or.inr ⟨d, by omega, h2⟩
        · by_cases ed : d = k
          · rw [ed]; omega
          · exact s3 d (by omega)
        · by_cases ed : d = k
          · rw [ed] at e ⊢; exact hk' e
          · exact s4 d (by omega) e
      by_cases c2 : inc n q (q k) = inc n q s
      · rw [c2, if_pos rfl]
        by_cases c3 : q k < s
        · rw [if_pos (nI_lt c3 (by omega))]
          refine ⟨q k, rfl, (by rw [c2]), p2, Or.inr ⟨k, by omega, rfl⟩, fun d hd => ?_, fun d hd e => ?_, fun e => ?_⟩
          · by_cases ed : d = k
            · rw [ed]; exact Nat.le_refl _
            · have := s3 d (by omega); omega
          · by_cases ed : d = k
            · rw [ed]; exact Nat.le_refl _
            · have := s4 d (by omega) (by omega); omega
          · have := s5 (by omega); omega
        · rw [if_neg (nI_nlt (by omega) (by omega))]
          exact keep (fun _ => by omega)
      · rw [if_neg (fun e => c2 (nI_injL (by omega) (by omega) e))]
        exact keep (fun e => absurd e c2))
  have e2 : K_paying (tS T i) = nI s := by
    unfold K_paying
    rw [hN]
    exact f1
  rw [e1, e2]
  rw [Nat.zero_add] at s2 s3 s4
  have hr := best_one (n := n) (q := q) (r := r) (r' := s) (fun i hi => (hq i hi).2) (by omega) (fun k hk => r2 k (by omega)) r3 s2 s3 s4 s5
  rw [hr]
theorem fills_eq {T : Tol} {i : Nat} {b : Int32} (hw : wS (tS T i)) : K_m_fills T i b = K_fills T i b := by
  have hn := hw.1
  unfold K_m_fills K_fills
  by_cases c : nI (tS T i).1 = 0
  · rw [if_pos c, if_pos c]
  · rw [if_neg c, if_neg c]
    by_cases hb : b = 0
    · rw [if_pos hb, hb]
      exact least_eq hw (fun e => c (by rw [e]; rfl))
    · rw [if_neg hb]
      exact paying_eq hw hb
end
