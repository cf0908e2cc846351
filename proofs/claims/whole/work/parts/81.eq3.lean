/-! Both sides answer alike: merge. -/
noncomputable section
def R_mg (a : Int32 × Int32 × Int32) (b : Int32 × (Nat → Int32)) : Prop := (a.1 < 0 ∧ b.1 = -1000000000) ∨ (¬ a.1 < 0 ∧ a.2.2 = b.1 ∧ ¬ b.1 = -1000000000 ∧ b.2 0 = a.1 ∧ b.2 1 = a.2.1 ∧ b.2 2 = a.2.2)
theorem mg_step {a : Int32 × Int32 × Int32} {b : Int32 × (Nat → Int32)} {k k' : Nat} {gr : Int32} (hk : k < 100) (hg : -1000000 ≤ gr.toInt) (h : R_mg a b) : R_mg (if a.1 < (0 : Int32) then (nI k, nI k', gr) else (if a.2.2 < gr then (nI k, nI k', gr) else (a.1, a.2.1, a.2.2))) (if b.1 < gr then (gr, (upd (upd (upd b.2 0 (nI k)) 1 (nI k')) 2 gr)) else (b.1, b.2)) := by
  have hgr := imp_lt hg
  have hne : ¬ gr = -1000000000 := fun e => by rw [e] at hgr; exact absurd hgr (by decide)
  have new : R_mg (nI k, nI k', gr) (gr, (upd (upd (upd b.2 0 (nI k)) 1 (nI k')) 2 gr)) := by
    refine Or.inr ⟨nI_pos (by omega), rfl, hne, ?_, ?_, (pk_us : upd (upd (upd b.2 0 (nI k)) 1 (nI k')) 2 gr 2 = gr)⟩
    · show upd (upd (upd b.2 0 (nI k)) 1 (nI k')) 2 gr 0 = nI k
      rw [pk_un (by decide), pk_un (by decide), pk_us]
    · show upd (upd (upd b.2 0 (nI k)) 1 (nI k')) 2 gr 1 = nI k'
      rw [pk_un (by decide), pk_us]
  rcases h with ⟨h1, h2⟩ | ⟨h1, h2, h3, h4⟩
  · rw [if_pos h1, h2, if_pos hgr]
    exact new
  · rw [if_neg h1, h2]
    by_cases c : b.1 < gr
    · rw [if_pos c, if_pos c]
      exact new
    · rw [if_neg c, if_neg c]
      exact Or.inr ⟨h1, rfl, h3, by rw [h2] at h4; exact h4⟩
theorem merge_eq {T : Tol} {i j w : Nat} {fnd : Nat → Int32} (hw : wS (tS T i)) (h6 : (tP T j).1 ≤ 6) (hgo : goP (tS T i) (tP T j)) (hw3 : w ≤ 2) : K_m_merge T i j w = (K_merge T i j w fnd).1 := by
  have hn := hw.1
  have key := fo_rel (F := F_m_merge_40 T i j w) (G := F_findMerge_7 (tS T i) (tP T j) fnd) (fun _ a b => R_mg a b) (tP T j).1 0 ((-1 : Int32), (-1 : Int32), (0 : Int32)) ((-1000000000 : Int32), fnd) (Or.inl ⟨by decide, rfl⟩) (fun k a b _ hk h => by
    have inner := fo_rel (F := F_m_merge_56 T i j w k a) (G := F_findMerge_31 (tS T i) (tP T j) fnd k b) (fun _ a b => R_mg a b) ((tP T j).1 - (k + 1)) (k + 1) (a.1, a.2.1, a.2.2) (b.1, b.2) h (fun k' a' b' hk1 hk2 h' => by
      unfold F_m_merge_56 F_findMerge_31
      by_cases c1 : (tP T j).2 k 2 = (tP T j).2 k' 2
      · rw [if_pos c1, if_pos c1]
        by_cases c2 : (tS T i).2.2 9 3 < K_bc ((tP T j).2 k 5 ||| (tP T j).2 k' 5)
        · rw [if_pos c2, if_pos c2]
          exact h'
        · rw [if_neg c2, if_neg c2]
          refine mg_step (by omega) ?_ h'
          have s1 := (hgo k (by omega)).2
          have s2 := (hgo k' (by omega)).2
          have t1 := sn_sub (tog_inS hw ((tP T j).2 k) (inS_or hn s1 s2)) (tog_inS hw ((tP T j).2 k) s1) (by decide) (by decide)
          have t2 := (tog_inS hw ((tP T j).2 k') s2).rg (by decide)
          have e := sub_toInt t1 t2 (by decide) (by decide) (by decide) (by decide)
          rw [e]
          have := t1.1
          have := t2.2
          omega
      · rw [if_neg c1, if_neg c1]
        exact h')
    exact inner)
  unfold K_m_merge K_merge K_findMerge
  generalize fo (F_m_merge_40 T i j w) (tP T j).1 0 ((-1 : Int32), (-1 : Int32), (0 : Int32)) = a at key
  generalize fo (F_findMerge_7 (tS T i) (tP T j) fnd) (tP T j).1 0 ((-1000000000 : Int32), fnd) = b at key
  rcases key with ⟨h1, h2⟩ | ⟨h1, h2, h3, h4, h5, h6⟩
  · rw [if_pos h1, if_pos h2, if_pos rfl]
  · rw [if_neg h1, if_neg h3, if_neg (show ¬ ((1 : Int32), b.2).1 = 0 from by show ¬ (1 : Int32) = 0; decide)]
    have hw' : w = 0 ∨ w = 1 ∨ w = 2 := by omega
    rcases hw' with rfl | rfl | rfl
    · rw [if_pos (show nI 0 = 0 from rfl)]
      exact h4.symm
    · rw [if_neg (show ¬ nI 1 = 0 by decide), if_pos (show nI 1 = 1 from rfl)]
      exact h5.symm
    · rw [if_neg (show ¬ nI 2 = 0 by decide), if_neg (show ¬ nI 2 = 1 by decide)]
      exact h6.symm
end
