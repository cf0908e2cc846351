/-! Both sides answer alike: let, open. -/
noncomputable section
theorem fo_rel {T U : Type} {F : Nat → T → T} {G : Nat → U → U} (R : Nat → T → U → Prop) : ∀ (k i : Nat) (x : T) (y : U), R i x y → (∀ j a b, i ≤ j → j < i + k → R j a b → R (j + 1) (F j a) (G j b)) → R (i + k) (fo F k i x) (fo G k i y) := by
  intro k
  induction k with
  | zero => intro i x y h _; exact h
  | succ k ih =>
    intro i x y h hs
    rw [fo_succ, fo_succ, show i + (k + 1) = i + 1 + k by omega]
    exact ih (i + 1) _ _ (hs i x y (Nat.le_refl _) (by omega) h) (fun j a b h1 h2 => hs j a b (by omega) (by omega))
theorem imp_lt {g : Int32} (h : -1000000 ≤ g.toInt) : (-1000000000 : Int32) < g := by
  have e : (-1000000000 : Int32).toInt = -1000000000 := by decide
  rw [lt_toInt, e]
  omega
theorem let_eq {T : Tol} {i j l : Nat} (hw : wS (tS T i)) (h6 : (tP T j).1 ≤ 6) (hgo : goP (tS T i) (tP T j)) (hl : l < (tS T i).1) : K_m_let T i j l = K_let T i j l := by
  unfold K_m_let K_let
  have hn := hw.1
  have m1 : ((-1 : Int32) < 0) := by decide
  have n0 : ¬ (0 : Int32) = 1 := by decide
  rcases and1_cases (K_sits (tP T j) >>> (nI l &&& 31)) with h | h
  · rw [if_pos h, if_neg (by rw [h]; exact n0)]
    refine (fo_rel (fun q (a b : Int32 × Int32) => a.1 = b.2 ∧ (a.1 < 0 → b.1 = -1000000000) ∧ (¬ a.1 < 0 → a.2 = b.1)) (tP T j).1 0 _ _ ⟨rfl, fun _ => rfl, fun h => absurd m1 h⟩ ?_).1
    intro k a b _ hk ⟨e1, e2, e3⟩
    simp only [F_m_let_49, F_let_62, K_takes]
    have hgr : -1000000 ≤ (K_tog (tS T i) ((tP T j).2 k) ((tP T j).2 k 5 ||| (1 : Int32) <<< (nI l &&& 31)) - K_tog (tS T i) ((tP T j).2 k) ((tP T j).2 k 5)).toInt := by
      have hs := (hgo k (by omega)).2
      have := (sn_sub (tog_inS hw ((tP T j).2 k) (inS_or hn hs (inS_bit hn hl))) (tog_inS hw ((tP T j).2 k) hs) (by decide) (by decide)).1
      omega
    generalize K_tog (tS T i) ((tP T j).2 k) ((tP T j).2 k 5 ||| (1 : Int32) <<< (nI l &&& 31)) - K_tog (tS T i) ((tP T j).2 k) ((tP T j).2 k 5) = gr at hgr
    have hk0 : ¬ nI k < 0 := nI_pos (by omega)
    by_cases c1 : K_can (tS T i) ((tP T j).2 k) (nI l) = 0
    · simp only [if_pos c1, if_true]
      exact ⟨e1, e2, e3⟩
    · by_cases c2 : K_bc ((tP T j).2 k 5) < (tS T i).2.2 9 3
      · have c2' : ¬ (tS T i).2.2 9 3 ≤ K_bc ((tP T j).2 k 5) := fun q => absurd c2 (nlt_le.mpr q)
        have o : ¬ (1 : Int32) = 0 := by decide
        simp only [if_neg c1, if_pos c2, if_neg c2', if_neg o]
        by_cases c3 : a.1 < 0
        · have c4 : b.1 < gr := by rw [e2 c3]; exact imp_lt hgr
          simp only [if_pos c3, if_pos c4]
          exact ⟨trivial, fun q => absurd q hk0, fun _ => trivial⟩
        · have c5 := e3 c3
          by_cases c4 : b.1 < gr
          · simp only [if_neg c3, if_pos c4, c5]
            exact ⟨trivial, fun q => absurd q hk0, fun _ => trivial⟩
          · simp only [if_neg c3, if_neg c4, c5]
            exact ⟨e1, e2, fun _ => trivial⟩
      · have c2' : (tS T i).2.2 9 3 ≤ K_bc ((tP T j).2 k 5) := nlt_le.mp c2
        simp only [if_neg c1, if_neg c2, if_pos c2', if_true]
        exact ⟨e1, e2, e3⟩
  · rw [if_pos h, if_neg (by rw [h]; decide)]
end
