/-! Both sides answer alike: more. -/
noncomputable section
theorem abs_adj : ∀ a, a < 12 → ∀ b, b < 12 → (K_abs (nI a - nI b) = 1 ↔ (a + 1 = b ∨ a = b + 1)) := by decide +kernel
theorem new_tb {w n : Nat} (hw : w < 2 ^ n) : w.testBit n = false := Nat.testBit_lt_two_pow hw
theorem pop_new {w n : Nat} (hn : n ≤ 16) (hw : w < 2 ^ n) : pop (w ||| 2 ^ n) = pop w + 1 := by
  have key := fo_rel (F := fun k x => x + w / 2 ^ k % 2) (G := fun k x => x + (w ||| 2 ^ n) / 2 ^ k % 2) (fun k a b => b = a + if n < k then 1 else 0) 17 0 0 0 (by rw [if_neg (by omega)]) (fun k a b _ hk h => by
    show b + (w ||| 2 ^ n) / 2 ^ k % 2 = a + w / 2 ^ k % 2 + if n < k + 1 then 1 else 0
    rw [bt, bt, set_tb, h]
    by_cases e : n = k
    · subst e
      rw [if_neg (Nat.lt_irrefl _), new_tb hw, if_pos (by simp), if_neg (by simp), if_pos (by omega)]
    · have e2 : (w.testBit k || decide (n = k)) = w.testBit k := by simp [e]
      rw [e2]
      generalize (if w.testBit k = true then 1 else 0) = t
      by_cases c : n < k
      · rw [if_pos c, if_pos (show n < k + 1 by omega)]; omega
      · rw [if_neg c, if_neg (show ¬ n < k + 1 by omega)]; omega)
  rw [if_pos (by omega)] at key
  exact key
theorem nbit {v k : Nat} (hv : v < 131072) (hk : k < 17) : (K_bit (nI v) (nI k) = 0 ↔ v.testBit k = false) := by
  rw [bit_tb (by omega) (by omega)]
  cases c : v.testBit k
  · rw [if_neg (by decide)]; exact ⟨fun _ => rfl, fun _ => rfl⟩
  · rw [if_pos rfl]; exact ⟨fun h => absurd h (by decide), fun h => (by cases h)⟩
theorem more_eq {T : Tol} {i j k0 : Nat} {st : Int32} (hw : wS (tS T i)) (hgo : goP (tS T i) (tP T j)) (hk0 : k0 < (tP T j).1) (hst : rg st 0 11) : K_m_more T i j k0 st = (K_more T i j k0 st).1 := by
  obtain ⟨w, hwn, ew⟩ := (hgo k0 hk0).2
  obtain ⟨s, hs, rfl⟩ := rg_n hst (by decide) (b := 11) (by decide)
  unfold K_m_more K_more
  rw [ew]
  generalize hS : tS T i = S at hw hgo hwn
  have hn := hw.1
  have hp := p16 hn
  have hq2 : ∀ k, ∃ t, k < S.1 → S.2.2 0 k = nI t ∧ t < 12 := fun k => by
    by_cases hk : k < S.1
    · obtain ⟨t, h1, h2⟩ := rg_n (hw.2.2.1 k hk).1 (by decide) (b := 11) (by decide)
      exact ⟨t, fun _ => ⟨h2, by omega⟩⟩
    · exact ⟨0, fun h => absurd h hk⟩
  obtain ⟨q, hq⟩ := Classical.axiomOfChoice hq2
  have e2 : nI w ||| (1 : Int32) <<< (nI S.1 &&& 31) = nI (w ||| 2 ^ S.1) := by
    rw [shl1_nI _ (by omega)]
    have : 2 ^ S.1 ≤ 65536 := (Nat.pow_le_pow_right (by decide) hn : 2 ^ S.1 ≤ 2 ^ 16)
    exact or_nI (by omega) (by omega)
  have b2 : w ||| 2 ^ S.1 < 131072 := Nat.or_lt_two_pow (n := 17) (by omega) (Nat.pow_lt_pow_right (by decide) (by omega))
  have hbc : K_bc (nI (w ||| 2 ^ S.1)) = K_bc (nI w) + 1 := by
    have := pop_le w
    rw [bc_nI b2, bc_nI (by omega), pop_new hn hwn]
    exact (nI_1 _).symm
  have inw : ∀ k, w.testBit k = true → k < S.1 := fun k h => by
    by_cases c : k < S.1
    · exact c
    · rw [Nat.testBit_lt_two_pow (Nat.lt_of_lt_of_le hwn (Nat.pow_le_pow_right (by decide) (show S.1 ≤ k by omega)))] at h; cases h
  have bit1 : ∀ k, k < 17 → (¬ K_bit (nI w) (nI k) = 0 ↔ w.testBit k = true) := fun k hk => by
    rw [nbit (by omega) hk]; cases w.testBit k <;> simp
  have bit2 : ∀ k, k < 17 → (¬ K_bit (nI (w ||| 2 ^ S.1)) (nI k) = 0 ↔ w.testBit k = true ∨ S.1 = k) := fun k hk => by
    rw [nbit b2 hk, set_tb]; cases w.testBit k <;> simp
  rw [e2]
  generalize hS' : S_st S (upd (S.2.2 0) S.1 (nI s)) = S'
  have st' : ∀ k, S'.2.2 0 k = if k = S.1 then nI s else S.2.2 0 k := fun k => by
    rw [← hS']
    show upd (S.2.2 0) S.1 (nI s) k = _
    by_cases c : k = S.1
    · rw [if_pos c, c, pk_us]
    · rw [if_neg c, pk_un c]
  have t1 : ∀ own, own < 12 → (¬ K_told (K_steps S (nI w)) (nI own) = 0 ↔ ∃ k, w.testBit k = true ∧ (q k + 1 = own ∨ q k = own + 1)) := fun own ho => by
    rw [told_iff (S := S) (w := nI w) q (fun k hk hb => hq k (inw k ((bit1 k hk).mp hb))) ho]
    exact ⟨fun ⟨k, a, b, c⟩ => ⟨k, (bit1 k a).mp b, c⟩, fun ⟨k, b, c⟩ => ⟨k, by have := inw k b; omega, (bit1 k (by have := inw k b; omega)).mpr b, c⟩⟩
  have t2 : ∀ own, own < 12 → (¬ K_told (K_steps S' (nI (w ||| 2 ^ S.1))) (nI own) = 0 ↔ (∃ k, w.testBit k = true ∧ (q k + 1 = own ∨ q k = own + 1)) ∨ (s + 1 = own ∨ s = own + 1)) := fun own ho => by
    rw [told_iff (S := S') (w := nI (w ||| 2 ^ S.1)) (fun k => if k = S.1 then s else q k) (fun k hk hb => by
      rw [st']
      show _ = nI (if k = S.1 then s else q k) ∧ (if k = S.1 then s else q k) < 12
      by_cases c : k = S.1
      · rw [if_pos c, if_pos c]; exact ⟨rfl, by omega⟩
      · rw [if_neg c, if_neg c]
        rcases (bit2 k hk).mp hb with h | h
        · exact hq k (inw k h)
        · exact absurd h.symm c) ho]
    constructor
    · rintro ⟨k, a, b, c⟩
      rcases (bit2 k a).mp b with h | h
      · have := inw k h
        rw [if_neg (show ¬ k = S.1 by omega)] at c
        exact Or.inl ⟨k, h, c⟩
      · rw [if_pos h.symm] at c
        exact Or.inr c
    · rintro (⟨k, h, c⟩ | c)
      · have := inw k h
        exact ⟨k, by omega, (bit2 k (by omega)).mpr (Or.inl h), by rw [if_neg (show ¬ k = S.1 by omega)]; exact c⟩
      · exact ⟨S.1, by omega, (bit2 S.1 (by omega)).mpr (Or.inr rfl), by rw [if_pos rfl]; exact c⟩
  have al : ∀ own, K_alone S' ((tP T j).2 k0) own = K_alone S ((tP T j).2 k0) own := fun own => by rw [← hS']; rfl
  have pt : ∀ k, K_part S' k = K_part S k := fun k => by rw [← hS']; rfl
  have e9 : S'.2.2 9 9 = S.2.2 9 9 := by rw [← hS']; rfl
  have nbitS : K_bit (nI (w ||| 2 ^ S.1)) (nI S.1) = 0 → False := fun h => (bit2 S.1 (by omega)).mpr (Or.inr rfl) h
  have tail : ∀ near x, fo (F_tog S' ((tP T j).2 k0) (nI (w ||| 2 ^ S.1)) near) 17 0 x = fo (F_tog S' ((tP T j).2 k0) (nI (w ||| 2 ^ S.1)) near) S.1 0 x + K_fitting S' ((tP T j).2 k0) (nI s) near * K_part S (K_bc (nI w) + 1) / 100 := fun near x => by
    have e17 : 17 = S.1 + ((16 - S.1) + 1) := by omega
    rw [show fo (F_tog S' ((tP T j).2 k0) (nI (w ||| 2 ^ S.1)) near) 17 0 x = fo (F_tog S' ((tP T j).2 k0) (nI (w ||| 2 ^ S.1)) near) (S.1 + ((16 - S.1) + 1)) 0 x from by rw [← e17], fo_add, Nat.zero_add, fo_succ, fo_id _ _ _ (fun d y h1 h2 => by
      unfold F_tog
      rw [if_pos ((nbit b2 (by omega)).mpr (by
        rw [set_tb]
        have a1 : w.testBit d = false := by
          cases h : w.testBit d
          · rfl
          · have := inw d h; omega
        rw [a1]; simp; omega))])]
    show F_tog S' ((tP T j).2 k0) (nI (w ||| 2 ^ S.1)) near S.1 _ = _
    unfold F_tog
    rw [if_neg (fun h => nbitS h), st', if_pos rfl, pt, hbc]
  have bitk : ∀ k, k < S.1 → (K_bit (nI (w ||| 2 ^ S.1)) (nI k) = 0) = (K_bit (nI w) (nI k) = 0) := fun k hk => by
    rw [nbit b2 (by omega), nbit (show w < 131072 by omega) (by omega), set_tb]
    have : decide (S.1 = k) = false := by simp; omega
    rw [this, Bool.or_false]
  have fit : ∀ C own near, K_fitting S C own near = K_alone S C own + (if C 0 = 4 then (if K_told near own = 0 then 0 else S.2.2 9 9) else 0) := fun _ _ _ => rfl
  have fit' : ∀ own near, K_fitting S' ((tP T j).2 k0) own near = K_alone S ((tP T j).2 k0) own + (if (tP T j).2 k0 0 = 4 then (if K_told near own = 0 then 0 else S.2.2 9 9) else 0) := fun own near => by
    rw [← al own, ← e9]; rfl
  by_cases c4 : (tP T j).2 k0 0 = 4
  · rw [if_pos c4]
    have key := fo_rel (F := F_tog S' ((tP T j).2 k0) (nI (w ||| 2 ^ S.1)) (K_steps S' (nI (w ||| 2 ^ S.1)))) (G := F_m_more_85_2 T i j k0 (nI s)) (fun k a (b : Int32 × Int32) => a = b.2 ∧ ((b.1 = 0 ∧ ∀ d, d < k → w.testBit d = true → ¬ (q d + 1 = s ∨ q d = s + 1)) ∨ (b.1 = 1 ∧ ∃ d, w.testBit d = true ∧ (q d + 1 = s ∨ q d = s + 1)))) S.1 0 (0 : Int32) ((0 : Int32), (0 : Int32)) ⟨rfl, Or.inl ⟨rfl, fun d h => absurd h (Nat.not_lt_zero d)⟩⟩ (fun k a b _ hk ⟨h1, h2⟩ => by
      have hk : k < S.1 := by omega
      obtain ⟨q1, q2⟩ := hq k hk
      unfold F_tog F_m_more_85_2
      have eb : ((nI w >>> (nI k &&& 31)) &&& (1 : Int32)) = K_bit (nI w) (nI k) := rfl
      rw [hS, ew, eb, st', if_neg (show ¬ k = S.1 by omega), q1, pt, hbc, fit', if_pos c4]
      by_cases c0 : K_bit (nI w) (nI k) = 0
      · rw [if_pos ((bitk k hk).mpr c0), if_pos c0]
        refine ⟨h1, ?_⟩
        rcases h2 with ⟨h2, h3⟩ | h2
        · refine Or.inl ⟨h2, fun d hd hb => ?_⟩
          by_cases ed : d = k
          · rw [ed] at hb
            exact absurd c0 ((bit1 k (by omega)).mpr hb)
          · exact h3 d (by omega) hb
        · exact Or.inr h2
      · rw [if_neg (fun h => c0 ((bitk k hk).mp h)), if_neg c0]
        have hb := (bit1 k (by omega)).mp c0
        have ht2 := t2 (q k) q2
        have ht1 := t1 (q k) q2
        by_cases ca : K_abs (nI (q k) - nI s) = 1
        · have adj := (abs_adj (q k) q2 s (by omega)).mp ca
          rw [if_pos ca, if_neg (ht2.mpr (Or.inr (by omega)))]
          have fin : ∀ v : Int32, (if b.1 = (0 : Int32) then ((1 : Int32), v) else ((1 : Int32), v)) = ((1 : Int32), v) := fun v => by split <;> rfl
          rw [fin, h1]
          exact ⟨rfl, Or.inr ⟨rfl, k, hb, adj⟩⟩
        · have adj : ¬ (q k + 1 = s ∨ q k = s + 1) := fun h => ca ((abs_adj (q k) q2 s (by omega)).mpr h)
          rw [if_neg ca, fit, if_pos c4]
          have same : (K_told (K_steps S' (nI (w ||| 2 ^ S.1))) (nI (q k)) = 0) = (K_told (K_steps S (nI w)) (nI (q k)) = 0) := by
            refine propext ⟨fun h => Decidable.byContradiction (fun h' => ht2.mpr (Or.inl (ht1.mp h')) h), fun h => Decidable.byContradiction (fun h' => ?_)⟩
            rcases ht2.mp h' with h3 | h3
            · exact ht1.mpr h3 h
            · exact adj (by omega)
          simp only [same]
          rcases h2 with ⟨h2, h3⟩ | ⟨h2, h3⟩
          · rw [if_pos h2, h1]
            refine ⟨rfl, Or.inl ⟨rfl, fun d hd hb => ?_⟩⟩
            by_cases ed : d = k
            · rw [ed]; exact adj
            · exact h3 d (by omega) hb
          · rw [if_neg (show ¬ b.1 = 0 by rw [h2]; decide), h1]
            exact ⟨rfl, Or.inr ⟨rfl, h3⟩⟩)
    rw [Nat.zero_add] at key
    have togE : K_tog S' ((tP T j).2 k0) (nI (w ||| 2 ^ S.1)) = fo (F_tog S' ((tP T j).2 k0) (nI (w ||| 2 ^ S.1)) (K_steps S' (nI (w ||| 2 ^ S.1)))) 17 0 0 := by
      unfold K_tog; rw [if_pos c4]
    rw [togE, tail, fit', if_pos c4]
    generalize fo (F_m_more_85_2 T i j k0 (nI s)) S.1 0 ((0 : Int32), (0 : Int32)) = b at key
    obtain ⟨h1, h2⟩ := key
    rw [h1]
    have hts := t2 s (by omega)
    rcases h2 with ⟨h2, h3⟩ | ⟨h2, h3⟩
    · rw [if_pos h2]
      have : K_told (K_steps S' (nI (w ||| 2 ^ S.1))) (nI s) = 0 := Decidable.byContradiction (fun h' => by
        rcases hts.mp h' with ⟨d, d1, d2⟩ | h
        · exact h3 d (inw d d1) d1 d2
        · omega)
      rw [if_pos this]
    · rw [if_neg (show ¬ b.1 = 0 by rw [h2]; decide), if_neg (hts.mpr (Or.inl h3))]
  · rw [if_neg c4]
    have key := fo_rel (F := F_tog S' ((tP T j).2 k0) (nI (w ||| 2 ^ S.1)) 0) (G := F_m_more_85 T i j k0 (nI s)) (fun _ a (b : Int32 × Int32) => a = b.2) S.1 0 (0 : Int32) ((0 : Int32), (0 : Int32)) rfl (fun k a b _ hk h1 => by
      have hk : k < S.1 := by omega
      unfold F_tog F_m_more_85
      have eb : ((nI w >>> (nI k &&& 31)) &&& (1 : Int32)) = K_bit (nI w) (nI k) := rfl
      rw [hS, ew, eb, st', if_neg (show ¬ k = S.1 by omega), pt, hbc, fit', if_neg c4]
      by_cases c0 : K_bit (nI w) (nI k) = 0
      · rw [if_pos ((bitk k hk).mpr c0), if_pos c0]
        exact h1
      · rw [if_neg (fun h => c0 ((bitk k hk).mp h)), if_neg c0, fit, if_neg c4, h1]
        split <;> split <;> rfl)
    have togE : K_tog S' ((tP T j).2 k0) (nI (w ||| 2 ^ S.1)) = fo (F_tog S' ((tP T j).2 k0) (nI (w ||| 2 ^ S.1)) 0) 17 0 0 := by
      unfold K_tog; rw [if_neg c4]
    rw [togE, tail, fit', if_neg c4, key]
end
