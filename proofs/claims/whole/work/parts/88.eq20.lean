/-! Both sides answer alike: fewest. -/
noncomputable section
theorem where_m {T : Tol} {i j : Nat} {g vo : Nat → Int32} {k : Nat} (z : Nat → Int32) : F_m_fewest_20 T i j g vo k z = upd z k (K_where (tS T i) (tP T j) k) := by
  have key := fo_rel (F := F_m_fewest_42 T i j g vo k z) (G := fun d x => if K_can (tS T i) ((tP T j).2 d) (nI k) = 0 then x else x ||| (1 : Int32) <<< (nI d &&& 31)) (fun _ a b => a k = b ∧ ∀ q, q ≠ k → a q = z q) (tP T j).1 0 (upd z k (0 : Int32)) (0 : Int32) ⟨pk_us, fun q hq => pk_un hq⟩ (fun d a b _ _ ⟨h1, h2⟩ => by
    unfold F_m_fewest_42
    by_cases c : K_can (tS T i) ((tP T j).2 d) (nI k) = 0
    · rw [if_pos c, if_pos c, h1]
      exact ⟨by rw [pk_us, Int32.or_zero], fun q hq => by rw [pk_un hq]; exact h2 q hq⟩
    · rw [if_neg c, if_neg c, h1]
      exact ⟨pk_us, fun q hq => by rw [pk_un hq]; exact h2 q hq⟩)
  unfold F_m_fewest_20
  funext q
  by_cases hq : q = k
  · rw [hq, pk_us]; exact key.1
  · rw [pk_un hq]; exact key.2 q hq
theorem fewest_eq {T : Tol} {i j : Nat} {g vo wh : Nat → Int32} (h6 : (tP T j).1 ≤ 6) : (K_m_fewest T i j g vo).1 = (K_fewest T i j wh).1 := by
  have hv : ∀ k, k < (tS T i).1 → fo (F_fewestOf_2 (tS T i) (tP T j) wh) (tS T i).1 0 wh k = fo (F_m_fewest_20 T i j g vo) (tS T i).1 0 vo k := fun k hk => by
    rw [fo_upd (F := F_fewestOf_2 (tS T i) (tP T j) wh) (h := K_where (tS T i) (tP T j)) (tS T i).1 0 wh (fun _ _ _ _ => rfl) k, fo_upd (F := F_m_fewest_20 T i j g vo) (h := K_where (tS T i) (tP T j)) (tS T i).1 0 vo (fun k z _ _ => where_m z) k, if_pos (by omega), if_pos (by omega)]
  have h64 : 2 ^ (tP T j).1 ≤ 64 := (Nat.pow_le_pow_right (by decide) h6 : 2 ^ (tP T j).1 ≤ 2 ^ 6)
  have key := fo_rel (F := F_m_fewest_105 T i j g vo) (G := F_fewestOf_33 (tS T i) (tP T j) wh) (fun k a b => a = b ∧ (a = -1 ∨ ∃ m, m < k ∧ a = nI m)) (2 ^ (tP T j).1) 0 (-1 : Int32) (-1 : Int32) ⟨rfl, Or.inl rfl⟩ (fun k a b _ hk ⟨h1, h2⟩ => by
    have hk : k < 64 := by omega
    subst h1
    unfold F_m_fewest_105 F_fewestOf_33
    rw [← allCan_eq (s0 := k) hk hv]
    have fin : (if K_allCan (tS T i) (fo (F_fewestOf_2 (tS T i) (tP T j) wh) (tS T i).1 0 wh) k = 0 then a else nI k) = -1 ∨ ∃ m, m < k + 1 ∧ (if K_allCan (tS T i) (fo (F_fewestOf_2 (tS T i) (tP T j) wh) (tS T i).1 0 wh) k = 0 then a else nI k) = nI m := by
      by_cases c : K_allCan (tS T i) (fo (F_fewestOf_2 (tS T i) (tP T j) wh) (tS T i).1 0 wh) k = 0
      · rw [if_pos c]
        rcases h2 with h | ⟨m, h3, h4⟩
        · exact Or.inl h
        · exact Or.inr ⟨m, by omega, h4⟩
      · rw [if_neg c]
        exact Or.inr ⟨k, by omega, rfl⟩
    rcases h2 with h | ⟨m, h3, h4⟩
    · rw [if_pos (show a < 0 by rw [h]; decide), if_pos h]
      exact ⟨rfl, fin⟩
    · have hneg : ¬ a < 0 := by rw [h4]; exact nI_pos (by omega)
      have hne : ¬ a = -1 := fun e => hneg (by rw [e]; decide)
      have e1 : K_many a = K_bc a := by rw [h4]; exact many_nI (by omega)
      rw [if_neg hneg, if_neg hne, e1, many_nI (show k < 65536 by omega)]
      by_cases c : K_bc (nI k) < K_bc a
      · rw [if_pos c]
        exact ⟨rfl, fin⟩
      · rw [if_neg c]
        exact ⟨rfl, Or.inr ⟨m, by omega, h4⟩⟩)
  exact key.1
end
