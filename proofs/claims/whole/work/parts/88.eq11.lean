/-! Both sides answer alike: open, the rest; fills. -/
noncomputable section
theorem sits_inS {S : Sch} {P : Pln} (hn : S.1 ≤ 16) (hgo : goP S P) : inS S (K_sits P) :=
  fo_inv (F := fun k x => x ||| P.2 k 5) (fun _ z => inS S z) P.1 0 0 inS_0 (fun k z _ hk h => inS_or hn h (hgo k (by omega)).2)
theorem home_bit {S : Sch} {P : Pln} {k : Nat} (hn : S.1 ≤ 16) (hgo : goP S P) (hk : k < S.1) : K_bit (K_all S &&& (K_sits P ^^^ (-1 : Int32))) (nI k) = 0 ↔ ¬ K_bit (K_sits P) (nI k) = 0 := by
  obtain ⟨w, hw, e⟩ := sits_inS hn hgo
  have hp := p16 hn
  rw [e, all_nI hn, msk_nI (by omega) (by omega)]
  have hx : 2 ^ S.1 - 1 ^^^ (2 ^ S.1 - 1 &&& w) < 2 ^ 16 := Nat.xor_lt_two_pow (by omega) (Nat.lt_of_le_of_lt Nat.and_le_left (by omega))
  rw [bit_tb (by omega) (by omega), bit_tb (by omega) (by omega), Nat.testBit_xor, Nat.testBit_and, Nat.testBit_two_pow_sub_one, decide_eq_true hk]
  cases w.testBit k <;> decide
theorem comers_eq {T : Tol} {i j k : Nat} {st : Int32} {z : Int32 × Int32} (hw : wS (tS T i)) (hgo : goP (tS T i) (tP T j)) : fo (F_m_open_65 T i j st k z) (tS T i).1 0 (0 : Int32) = K_comers (tS T i) (tP T j) (nI k) st := by
  have hn := hw.1
  unfold K_comers
  refine fo_cong _ _ _ (fun l x _ hl => ?_)
  unfold F_m_open_65 F_comers_19
  have hb := home_bit (k := l) hn hgo (by omega)
  have e1 : ((K_all (tS T i) &&& (K_sits (tP T j) ^^^ (-1 : Int32))) >>> (nI l &&& 31)) &&& (1 : Int32) = K_bit (K_all (tS T i) &&& (K_sits (tP T j) ^^^ (-1 : Int32))) (nI l) := rfl
  have e2 : ((K_sits (tP T j)) >>> (nI l &&& 31)) &&& (1 : Int32) = K_bit (K_sits (tP T j)) (nI l) := rfl
  have e3 : (((tS T i).2.2 1 l) >>> (nI k &&& 31)) &&& (1 : Int32) = K_bit ((tS T i).2.2 1 l) (nI k) := rfl
  rw [e1, e2, e3]
  by_cases c1 : K_bit (K_sits (tP T j)) (nI l) = 0
  · rw [if_pos c1, if_neg (show ¬ K_bit (K_all (tS T i) &&& (K_sits (tP T j) ^^^ (-1 : Int32))) (nI l) = 0 from fun q => hb.mp q c1)]
    rcases bit_cases ((tS T i).2.2 1 l) (nI k) with h | h
    · rw [if_pos h, if_neg (show ¬ K_bit ((tS T i).2.2 1 l) (nI k) = 1 by rw [h]; decide), Int32.add_zero]
    · rw [if_neg (show ¬ K_bit ((tS T i).2.2 1 l) (nI k) = 0 by rw [h]; decide), if_pos h, Int32.add_zero]
  · rw [if_neg c1, if_pos (hb.mpr c1), Int32.add_zero]
theorem open_eq {T : Tol} {i j : Nat} {st : Int32} (hw : wS (tS T i)) (hgo : goP (tS T i) (tP T j)) (hwl : ∀ k, k < (tP T j).1 → wL ((tP T j).2 k)) (h0 : ¬ st < 0) (h11 : ¬ (11 : Int32) < st) : K_m_open T i j st = K_open T i j st := by
  unfold K_m_open K_open
  rw [if_neg h0, if_neg h11]
  have h2 := hw.2.2.2.2.2.2.2.1
  have key := fo_rel (F := F_open_49 T i j st) (G := F_m_open_37 T i j st) (fun _ (a b : Int32 × Int32) => a.2 = b.1 ∧ ((a.1 = -1 ∧ b.2 = 0) ∨ a.1 = b.2)) 6 0 ((-1 : Int32), (-1 : Int32)) ((-1 : Int32), (0 : Int32)) ⟨rfl, Or.inl ⟨rfl, rfl⟩⟩ (fun k a b _ hk h => by
    unfold F_open_49 F_m_open_37
    rw [comers_eq hw hgo, isOpen_eq hw hgo hwl (show k < 16 by omega)]
    generalize K_comers (tS T i) (tP T j) (nI k) st = c
    by_cases c1 : c < (tS T i).2.2 9 2
    · rw [if_pos c1, if_pos c1]
      by_cases c2 : K_m_isOpen (tS T i) (tP T j) (nI k) = 0
      · rw [if_pos c2]; exact h
      · rw [if_neg c2]; exact h
    · rw [if_neg c1, if_neg c1]
      have hc : (0 : Int32).toInt < c.toInt ∧ (-1 : Int32).toInt < c.toInt := by
        have a1 := h2.1
        rw [lt_toInt] at c1
        rw [show (0 : Int32).toInt = 0 by decide, show (-1 : Int32).toInt = -1 by decide]
        omega
      have same : a.1 < c ↔ b.2 < c := by
        rcases h.2 with ⟨e1, e2⟩ | e
        · rw [e1, e2, lt_toInt, lt_toInt]
          exact ⟨fun _ => hc.1, fun _ => hc.2⟩
        · rw [e]
      by_cases c2 : K_m_isOpen (tS T i) (tP T j) (nI k) = 0
      · rw [if_pos c2, if_pos c2]
        by_cases c3 : a.1 < c
        · rw [if_pos c3]; exact h
        · rw [if_neg c3]; exact h
      · rw [if_neg c2, if_neg c2]
        by_cases c3 : a.1 < c
        · rw [if_pos c3, if_pos (same.mp c3)]
          exact ⟨rfl, Or.inr rfl⟩
        · rw [if_neg c3, if_neg (fun q => c3 (same.mpr q))]
          exact h)
  exact key.1.symm
end
