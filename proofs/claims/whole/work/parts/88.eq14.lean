/-! Both sides answer alike: june. -/
noncomputable section
theorem set_tb (m l k : Nat) : (m ||| 2 ^ l).testBit k = (m.testBit k || decide (l = k)) := by
  rw [Nat.testBit_or, Nat.testBit_two_pow]
theorem set_clr (m l : Nat) : (m ||| 2 ^ l) ^^^ ((m ||| 2 ^ l) &&& 2 ^ l) = m ^^^ (m &&& 2 ^ l) := by
  apply Nat.eq_of_testBit_eq
  intro k
  rw [clr_tb, clr_tb, set_tb]
  cases m.testBit k <;> cases decide (l = k) <;> rfl
theorem pop_set {m l : Nat} (hl : l < 16) : pop (m ||| 2 ^ l) = pop (m ^^^ (m &&& 2 ^ l)) + 1 := by
  rw [pop_clr hl (by rw [set_tb]; simp), set_clr]
theorem alone_st (S : Sch) (f : Nat → Int32) (C : Les) (own : Int32) : K_alone (S_st S f) C own = K_alone S C own := rfl
theorem part_st (S : Sch) (f : Nat → Int32) (k : Int32) : K_part (S_st S f) k = K_part S k := rfl
/-- what he learns here does not hang on whether his own step stands among those near him -/
theorem by_own {S : Sch} {C : Les} {m l z : Nat} {f : Nat → Int32} (hw : wS S) (hm : m < 2 ^ S.1) (hl : l < S.1) (hz : z ≤ 11) (hf : ∀ k, f k = if k = l then nI z else S.2.2 0 k) :
    K_by (S_st S f) C (nI m ||| (1 : Int32) <<< (nI l &&& 31)) l = K_fitting S C (nI z) (K_steps S (nI m &&& (((1 : Int32) <<< (nI l &&& 31)) ^^^ (-1 : Int32)))) * K_part S (K_bc (nI m &&& (((1 : Int32) <<< (nI l &&& 31)) ^^^ (-1 : Int32))) + 1) / 100 := by
  have hn := hw.1
  have hp := p16 hn
  have e1 := clr_nI (m := m) (l := l) (by omega) (by omega)
  have e2 : nI m ||| (1 : Int32) <<< (nI l &&& 31) = nI (m ||| 2 ^ l) := or_bit (by omega) (by omega)
  have b1 : m ^^^ (m &&& 2 ^ l) < 65536 := Nat.xor_lt_two_pow (n := 16) (by omega) (Nat.lt_of_le_of_lt Nat.and_le_left (by omega))
  have b2 : m ||| 2 ^ l < 65536 := Nat.or_lt_two_pow (n := 16) (by omega) (Nat.pow_lt_pow_right (by decide) (by omega))
  have hst : ∀ k, k < S.1 → ∃ t, S.2.2 0 k = nI t ∧ t < 12 := fun k hk => by
    obtain ⟨t, h1, h2⟩ := rg_n (hw.2.2.1 k hk).1 (by decide) (b := 11) (by decide)
    exact ⟨t, h2, by omega⟩
  have hst2 : ∀ k, ∃ t, k < S.1 → S.2.2 0 k = nI t ∧ t < 12 := fun k => by
    by_cases hk : k < S.1
    · obtain ⟨t, h⟩ := hst k hk; exact ⟨t, fun _ => h⟩
    · exact ⟨0, fun h => absurd h hk⟩
  obtain ⟨q, hq⟩ := Classical.axiomOfChoice hst2
  have bit : ∀ (v k : Nat), v < 65536 → k < 17 → (¬ K_bit (nI v) (nI k) = 0 ↔ v.testBit k = true) := by
    intro v k hv hk
    rw [bit_tb (by omega) (by omega)]
    by_cases c : v.testBit k = true
    · rw [if_pos c]; exact ⟨fun _ => c, fun _ => (by decide)⟩
    · rw [if_neg c]; exact ⟨fun h => absurd rfl h, fun h => absurd h c⟩
  have inm : ∀ k, m.testBit k = true → k < S.1 := fun k h => by
    by_cases c : k < S.1
    · exact c
    · have := Nat.testBit_lt_two_pow (Nat.lt_of_lt_of_le hm (Nat.pow_le_pow_right (by decide) (show S.1 ≤ k by omega)))
      rw [this] at h; cases h
  have t1 := told_iff (S := S) (w := nI (m ^^^ (m &&& 2 ^ l))) (own := z) q (fun k hk hb => by
    rw [bit _ k b1 hk, clr_tb] at hb
    exact hq k (inm k (by cases hm' : m.testBit k <;> simp_all))) (by omega)
  have t2 := told_iff (S := S_st S f) (w := nI (m ||| 2 ^ l)) (own := z) (fun k => if k = l then z else q k) (fun k hk hb => by
    rw [bit _ k b2 hk, set_tb] at hb
    show f k = nI (if k = l then z else q k) ∧ (if k = l then z else q k) < 12
    rw [hf]
    by_cases c : k = l
    · rw [if_pos c, if_pos c]; exact ⟨rfl, by omega⟩
    · rw [if_neg c, if_neg c]
      exact hq k (inm k (by
        have : decide (l = k) = false := by simp; exact fun e => c e.symm
        rw [this, Bool.or_false] at hb
        exact hb))) (by omega)
  have same : ¬ K_told (K_steps (S_st S f) (nI (m ||| 2 ^ l))) (nI z) = 0 ↔ ¬ K_told (K_steps S (nI (m ^^^ (m &&& 2 ^ l)))) (nI z) = 0 := by
    rw [t1, t2]
    constructor
    · rintro ⟨k, h1, h2, h3⟩
      rw [bit _ k b2 h1, set_tb] at h2
      by_cases c : k = l
      · rw [if_pos c] at h3; omega
      · rw [if_neg c] at h3
        refine ⟨k, h1, ?_, h3⟩
        rw [bit _ k b1 h1, clr_tb]
        have : decide (l = k) = false := by simp; exact fun e => c e.symm
        rw [this, Bool.or_false] at h2
        rw [this, h2]; rfl
    · rintro ⟨k, h1, h2, h3⟩
      rw [bit _ k b1 h1, clr_tb] at h2
      have c : ¬ k = l := fun e => by
        rw [e] at h2
        simp at h2
      refine ⟨k, h1, ?_, ?_⟩
      · rw [bit _ k b2 h1, set_tb]
        have : decide (l = k) = false := by simp; exact fun e => c e.symm
        rw [this] at h2 ⊢
        simp at h2
        rw [h2]; rfl
      · rw [if_neg c]; exact h3
  have hp1 : K_bc (nI (m ||| 2 ^ l)) = K_bc (nI (m ^^^ (m &&& 2 ^ l))) + 1 := by
    have := pop_le (m ^^^ (m &&& 2 ^ l))
    rw [bc_nI (by omega), bc_nI (by omega), pop_set (by omega)]
    exact (nI_1 _).symm
  rw [e1, e2]
  unfold K_by K_fitting
  have e3 : (S_st S f).2.2 0 l = nI z := by show f l = nI z; rw [hf, if_pos rfl]
  rw [e3, alone_st, part_st, hp1]
  have e9 : (S_st S f).2.2 9 9 = S.2.2 9 9 := rfl
  rw [e9]
  by_cases c : K_told (K_steps (S_st S f) (nI (m ||| 2 ^ l))) (nI z) = 0
  · rw [if_pos c, if_pos (Decidable.byContradiction (fun h => same.mpr h c))]
  · rw [if_neg c, if_neg (same.mp c)]
theorem june_eq {T : Tol} {i j k0 l n : Nat} {v : Nat → Int32} (hw : wS (tS T i)) (hgo : goP (tS T i) (tP T j)) (hk0 : k0 < (tP T j).1) (hl : l < (tS T i).1) : (K_m_june T i j k0 l n v).1 = K_june T i j k0 l n := by
  obtain ⟨m, hm, em⟩ := (hgo k0 hk0).2
  obtain ⟨z0, hz0, ez0⟩ := rg_n (hw.2.2.1 l hl).1 (by decide) (b := 11) (by decide)
  have key := fo_rel (F := F_m_june_61 T i j k0 l n v) (G := F_june_110 T i j k0 l n) (fun _ f z => ∃ t : Nat, t ≤ 11 ∧ z = nI t ∧ ∀ k, f k = if k = l then nI t else (tS T i).2.2 0 k) n 0 ((tS T i).2.2 0) ((tS T i).2.2 0 l) ⟨z0, hz0, ez0, fun k => by
    by_cases c : k = l
    · rw [if_pos c, c]; exact ez0
    · rw [if_neg c]⟩ (fun k f z _ _ ⟨t, h1, h2, h3⟩ => by
    unfold F_m_june_61 F_june_110
    rw [em, by_own hw hm hl h1 h3, h2]
    generalize K_fitting (tS T i) ((tP T j).2 k0) (nI t) (K_steps (tS T i) (nI m &&& (((1 : Int32) <<< (nI l &&& 31)) ^^^ (-1 : Int32)))) * K_part (tS T i) (K_bc (nI m &&& (((1 : Int32) <<< (nI l &&& 31)) ^^^ (-1 : Int32))) + 1) / 100 = gain
    by_cases c : gain < (tS T i).2.2 9 8
    · rw [if_pos c, if_pos c]
      exact ⟨t, h1, rfl, h3⟩
    · rw [if_neg c, if_neg c]
      have e3 : (S_st (tS T i) f).2.2 0 l = nI t := by show f l = nI t; rw [h3, if_pos rfl]
      have e4 : f l = nI t := by rw [h3, if_pos rfl]
      have e5 : nI t + 1 = nI (t + 1) := (nI_1 t).symm ▸ rfl
      rw [e3, e4, e5, show (11 : Int32) = nI 11 from rfl]
      by_cases c2 : t < 11
      · rw [if_pos (nI_lt (b := 11) c2 (by omega)), if_neg (nI_nlt (a := 11) (show t + 1 ≤ 11 by omega) (by omega))]
        refine ⟨t + 1, by omega, rfl, fun q => ?_⟩
        by_cases cq : q = l
        · rw [if_pos cq, cq, pk_us]
        · rw [if_neg cq, pk_un cq, h3, if_neg cq]
      · rw [if_neg (nI_nlt (b := 11) (by omega) (by omega)), if_pos (nI_lt (a := 11) (show 11 < t + 1 by omega) (by omega))]
        have : t = 11 := by omega
        exact ⟨t, h1, by rw [this], h3⟩)
  obtain ⟨t, h1, h2, h3⟩ := key
  unfold K_m_june K_june
  rw [h2]
  show (fo (F_m_june_61 T i j k0 l n v) n 0 ((tS T i).2.2 0)) l = nI t
  rw [h3, if_pos rfl]
end
