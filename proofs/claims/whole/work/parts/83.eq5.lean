/-! Both sides answer alike: shift, lonely, toll, open. -/
noncomputable section
theorem shift_eq {T : Tol} {i j k0 : Nat} : (K_m_shift T i j k0).1 = (K_shift T i j k0).1 := by
  have key := fo_rel (F := F_m_shift_47 T i j k0) (G := F_settle_8 (tS T i) ((tP T j).2 k0) ((tP T j).2 k0 5)) (fun _ a b => a.1 = b.2.1 ∧ a.2.1 = b.1) 12 0 ((0 : Int32), (-1 : Int32), ((tP T j).2 k0 3)) ((-1 : Int32), (0 : Int32), ((tP T j).2 k0 3)) ⟨rfl, rfl⟩ (fun k a b _ _ h => by
    obtain ⟨h1, h2⟩ := h
    unfold F_m_shift_47 F_settle_8
    rw [h2]
    by_cases c : b.1 < K_tog (tS T i) (L_set ((tP T j).2 k0) 3 (nI k)) ((tP T j).2 k0 5)
    · rw [if_pos c, if_pos c]
      exact ⟨rfl, rfl⟩
    · rw [if_neg c, if_neg c]
      exact ⟨h1, rfl⟩)
  exact key.1
theorem lonely_eq {T : Tol} {i : Nat} : K_m_lonely T i = K_lon (tS T i) := by
  unfold K_m_lonely K_lon
  refine fo_cong _ _ _ (fun k z _ _ => ?_)
  unfold F_m_lonely_22 F_lon K_comp
  have e : fo (F_m_lonely_39 T i k z) (tS T i).1 0 0 = fo (F_comp (tS T i) k) (tS T i).1 0 0 := by
    refine fo_cong _ _ _ (fun o w _ _ => ?_)
    unfold F_m_lonely_39 F_comp K_near
    by_cases c1 : w = 0
    · rw [if_pos c1, if_pos c1]
      by_cases c2 : nI o = nI k
      · rw [if_pos c2, if_pos c2]
      · rw [if_neg c2, if_neg c2]
        by_cases c3 : K_abs ((tS T i).2.2 0 o - (tS T i).2.2 0 k) < 2
        · have c3' : ¬ 1 < K_abs ((tS T i).2.2 0 o - (tS T i).2.2 0 k) := fun q => absurd c3 (nlt_le.mpr (two_le.mpr q))
          rw [if_pos c3, if_neg c3']
        · have c3' : 1 < K_abs ((tS T i).2.2 0 o - (tS T i).2.2 0 k) := two_le.mp (nlt_le.mp c3)
          rw [if_neg c3, if_pos c3']
    · rw [if_neg c1, if_neg c1]
  rw [e]
  split
  · rfl
  · simp
/-- the first k with c -/
theorem fe_first {c : Nat → Prop} {M : Nat} {F : Nat → Unit → Unit ⊕ Nat} (hF : ∀ k z, k < M → (c k → F k z = .inr k) ∧ (¬ c k → F k z = .inl ())) : ∀ (n i : Nat), i + n ≤ M → (∀ r, (i ≤ r ∧ r < i + n ∧ c r ∧ ∀ j, i ≤ j → j < r → ¬ c j) → fe F n i () = .inr r) ∧ ((∀ j, i ≤ j → j < i + n → ¬ c j) → fe F n i () = .inl ()) := by
  intro n
  induction n with
  | zero => intro i _; exact ⟨fun r h => by omega, fun _ => rfl⟩
  | succ n ih =>
    intro i hM
    rw [fe_succ]
    by_cases h : c i
    · rw [(hF i () (by omega)).1 h, Sum.elim_inr]
      refine ⟨fun r hr => ?_, fun hr => absurd h (hr i (Nat.le_refl _) (by omega))⟩
      by_cases e : r = i
      · rw [e]
      · exact absurd h (hr.2.2.2 i (Nat.le_refl _) (by omega))
    · rw [(hF i () (by omega)).2 h, Sum.elim_inl]
      refine ⟨fun r hr => (ih (i + 1) (by omega)).1 r ?_, fun hr => (ih (i + 1) (by omega)).2 (fun j h1 h2 => hr j (by omega) (by omega))⟩
      by_cases e : r = i
      · subst e
        exact absurd hr.2.2.1 h
      · exact ⟨by omega, by omega, hr.2.2.1, fun j h1 h2 => hr.2.2.2 j (by omega) h2⟩
theorem sneg_iff {a b : Nat} (ha : a < 2 ^ 30) (hb : b < 2 ^ 30) : nI a - nI b < 0 ↔ a < b := by
  rw [lt_toInt, pk_sub_toInt ha hb]
  have : (0 : Int32).toInt = 0 := by decide
  omega
theorem taken_sn {S : Sch} {P : Pln} (hn : S.1 ≤ 16) (h6 : P.1 ≤ 6) (hgo : goP S P) : sn (K_taken P) 102 := by
  unfold K_taken
  refine (fo_sn (d := 17) P.1 0 0 0 sn_0 (fun j y _ hj c hy => ?_)).mono (by omega)
  obtain ⟨k, hk, e⟩ := bc_inS hn (hgo j (by omega)).2
  exact sn_add hy ⟨k, hk, e⟩
theorem toll_eq {T : Tol} {i j : Nat} (hw : wS (tS T i)) (h6 : (tP T j).1 ≤ 6) (hgo : goP (tS T i) (tP T j)) : K_m_toll T i j = K_toll T i j := by
  have hn := hw.1
  obtain ⟨f, hf, ef⟩ := sn_mul (sn_rg hw.2.2.2.2.2.2.2.2.2.2.2.2.1 (by decide) (b := 999) (by decide)) (taken_sn hn h6 hgo)
  have hf : f ≤ 101898 := hf
  have ef2 : (tS T i).2.2 9 6 * fo (F_m_toll_23 T i j) (tP T j).1 0 0 = nI f := ef
  have hF : ∀ k z, k < 1000 → (f < k * (tP T j).1 → F_m_toll_57 T i j k z = .inr k) ∧ (¬ f < k * (tP T j).1 → F_m_toll_57 T i j k z = .inl ()) := by
    intro k z hk
    have hb : k * (tP T j).1 < 2 ^ 30 := by
      have := Nat.mul_le_mul (show k ≤ 1000 by omega) h6
      omega
    unfold F_m_toll_57
    rw [ef2, pk_mul]
    refine ⟨fun h => ?_, fun h => ?_⟩
    · rw [if_pos ((sneg_iff (by omega) hb).mpr h)]
    · rw [if_neg (fun q => h ((sneg_iff (by omega) hb).mp q))]
  obtain ⟨g1, g2⟩ := fe_first hF 1000 0 (Nat.le_refl _)
  unfold K_m_toll K_toll
  by_cases h0 : (tP T j).1 = 0
  · rw [g2 (fun j' _ _ => by rw [h0]; omega), Sum.elim_inl, h0, if_pos (show nI 0 = 0 from rfl)]
    rfl
  · have hn0 : ¬ nI (tP T j).1 = 0 := nI_ne0 (by omega) (by omega)
    have e1000 : (1000 : Int32) = nI 1000 := rfl
    have ef : (tS T i).2.2 9 6 * K_taken (tP T j) = nI f := ef
    rw [if_neg hn0, ef, pk_div (by omega) (by omega) (by omega), nI_1, e1000]
    have hdm := Nat.div_mul_le_self f (tP T j).1
    by_cases c : f / (tP T j).1 + 1 < 1000
    · rw [g1 (f / (tP T j).1 + 1) ⟨Nat.zero_le _, by omega, ?_, fun j' _ h2 => ?_⟩, Sum.elim_inr, if_pos (nI_lt c (by omega))]
      · rw [Nat.succ_mul]
        have := Nat.div_add_mod f (tP T j).1
        have h3 := Nat.mod_lt f (show 0 < (tP T j).1 by omega)
        rw [Nat.mul_comm] at this
        omega
      · have := Nat.mul_le_mul_right (tP T j).1 (show j' ≤ f / (tP T j).1 by omega)
        omega
    · rw [g2 (fun j' _ h2 => ?_), Sum.elim_inl, if_neg (nI_nlt (by omega) (by
        have := Nat.div_le_self f (tP T j).1
        omega))]
      have := Nat.mul_le_mul_right (tP T j).1 (show j' ≤ f / (tP T j).1 by omega)
      omega
end
