/-! What is told of a school: both sides answer alike. -/
noncomputable section
theorem K_in0 {w a b : Int32} : (K_in w a b = 0) ↔ (w.toInt < a.toInt ∨ b.toInt < w.toInt) := by
  unfold K_in
  by_cases c : w < a
  · rw [if_pos c]
    exact ⟨fun _ => Or.inl (lt_toInt.mp c), fun _ => rfl⟩
  · rw [if_neg c]
    by_cases d : b < w
    · rw [if_pos d]
      exact ⟨fun _ => Or.inr (lt_toInt.mp d), fun _ => rfl⟩
    · rw [if_neg d]
      constructor
      · intro h; exact absurd h (by decide)
      · rintro (h | h)
        · exact absurd (lt_toInt.mpr h) c
        · exact absurd (lt_toInt.mpr h) d
theorem about_eq {T : Tol} {i : Nat} {w : Int32} (hw : wS (tS T i)) : K_about T i w = K_m_about T i w := by
  have h5 := hw.2.1
  have l0 : (0 : Int32).toInt = 0 := by decide
  have l12 : (12 : Int32).toInt = 12 := by decide
  by_cases c : K_in w 0 12 = 0
  · unfold K_m_about
    rw [if_pos c]
    rw [K_in0, l0, l12] at c
    have t20 : ((19 : Int32) + nI (tS T i).2.1).toInt = 19 + ((tS T i).2.1 : Int) := by rw [show (19 : Int32) = nI 19 from rfl, nI_add, nI_toInt (by omega)]; omega
    have t30 : ((29 : Int32) + nI (tS T i).2.1).toInt = 29 + ((tS T i).2.1 : Int) := by rw [show (29 : Int32) = nI 29 from rfl, nI_add, nI_toInt (by omega)]; omega
    have u20 : ((20 : Int32) + nI (tS T i).2.1).toInt = 20 + ((tS T i).2.1 : Int) := by rw [show (20 : Int32) = nI 20 from rfl, nI_add, nI_toInt (by omega)]; omega
    have u30 : ((30 : Int32) + nI (tS T i).2.1).toInt = 30 + ((tS T i).2.1 : Int) := by rw [show (30 : Int32) = nI 30 from rfl, nI_add, nI_toInt (by omega)]; omega
    have w0 : ¬ w = 0 := fun e => by rw [e, l0] at c; omega
    have w1 : ¬ w = 1 := fun e => by rw [e, show (1 : Int32).toInt = 1 from by decide] at c; omega
    have e2 : (w < (2 : Int32)) ↔ w.toInt < 2 := lt_toInt
    have e13 : (w < (13 : Int32)) ↔ w.toInt < 13 := lt_toInt
    have e20 : (w < (20 : Int32)) ↔ w.toInt < 20 := lt_toInt
    have e30 : (w < (30 : Int32)) ↔ w.toInt < 30 := lt_toInt
    have e40 : (w < (40 : Int32)) ↔ w.toInt < 40 := lt_toInt
    have e47 : (w < (47 : Int32)) ↔ w.toInt < 47 := lt_toInt
    have e50 : (w < (50 : Int32)) ↔ w.toInt < 50 := lt_toInt
    have e57 : (w < (57 : Int32)) ↔ w.toInt < 57 := lt_toInt
    have f20 : (w < (20 : Int32) + nI (tS T i).2.1) ↔ w.toInt < 20 + ((tS T i).2.1 : Int) := by rw [lt_toInt, u20]
    have f30 : (w < (30 : Int32) + nI (tS T i).2.1) ↔ w.toInt < 30 + ((tS T i).2.1 : Int) := by rw [lt_toInt, u30]
    have k20 : (K_in w 20 ((19 : Int32) + nI (tS T i).2.1) = 0) ↔ (w.toInt < 20 ∨ 19 + ((tS T i).2.1 : Int) < w.toInt) := by rw [K_in0, t20]; rfl
    have k30 : (K_in w 30 ((29 : Int32) + nI (tS T i).2.1) = 0) ↔ (w.toInt < 30 ∨ 29 + ((tS T i).2.1 : Int) < w.toInt) := by rw [K_in0, t30]; rfl
    have k40 : (K_in w 40 46 = 0) ↔ (w.toInt < 40 ∨ 46 < w.toInt) := by rw [K_in0]; rfl
    have k50 : (K_in w 50 56 = 0) ↔ (w.toInt < 50 ∨ 56 < w.toInt) := by rw [K_in0]; rfl
    unfold K_about K_toldS
    rw [if_neg w0, if_neg w1]
    simp only [e2, e13, e20, e30, e40, e47, e50, e57, f20, f30, k20, k30, k40, k50]
    generalize w.toInt = t at c
    repeat' split
    all_goals first | rfl | (exfalso; omega)
  · unfold K_m_about
    rw [if_neg c]
    obtain ⟨k, hk, rfl⟩ := in0 c
    unfold K_about K_toldS rdv
    rw [nI_clamp (by omega)]
    by_cases k0 : k = 0
    · subst k0
      rw [if_pos rfl, if_pos (show nI 0 = 0 from rfl)]
    · rw [if_neg k0, if_neg (neE (a := k) (b := 0) 0 rfl (by omega))]
      by_cases k1 : k = 1
      · subst k1
        rw [if_pos rfl, if_pos (show nI 1 = 1 from rfl)]
      · rw [if_neg k1, if_neg (neE (a := k) (b := 1) 1 rfl (by omega)), if_neg (nltE (a := k) (b := 2) 2 rfl (by omega)), if_pos (ltE (a := k) (b := 13) 13 rfl (by omega)), show (2 : Int32) = nI 2 from rfl, pk_sub (by omega), nI_clamp (by omega)]
end
