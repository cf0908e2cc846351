/-! Both sides answer alike: wrong. -/
noncomputable section
theorem wrongC_pos (S : Sch) (P : Pln) (c : Nat) (h : ¬ K_m_wrongC S P c = 0) : (0 : Int32) < K_m_wrongC S P c := by
  unfold K_m_wrongC at h ⊢
  split at h <;> rename_i c1
  · rw [if_pos c1]; decide
  · rw [if_neg c1]
    split at h <;> rename_i c2
    · rw [if_pos c2]
      split at h <;> rename_i c3
      · rw [if_pos c3]
        split at h <;> rename_i c4
        · rw [if_pos c4]; decide
        · rw [if_neg c4]
          split at h <;> rename_i c5
          · rw [if_pos c5]; decide
          · exact absurd rfl h
      · rw [if_neg c3]; decide
    · rw [if_neg c2]; decide
theorem wrongL_eq {S : Sch} {P : Pln} {c : Nat} {z : Int32} {b fnd : Nat → Int32} (hw : wS S) (hz : z = fo (F_m_wrongL_14 S P c b) c 0 0) (hP : P = P) :
    (fe (F_findWrong_50 S P fnd c z) S.1 0 () = .inl () ∧ (K_m_wrongL S P c b).1 = 0) ∨
    ∃ k x, k < S.1 ∧ (0 : Int32) < x ∧ fe (F_findWrong_50 S P fnd c z) S.1 0 () = .inr ((1 : Int32), (upd (upd (upd fnd 0 x) 1 (nI c)) 2 (nI k))) ∧ (K_m_wrongL S P c b).1 = x ∧ (K_m_wrongL S P c b).2 11 = nI k := by
  have key := fe_rel (F := F_findWrong_50 S P fnd c z) (G := F_m_wrongL_41 S P c b) (fun _ _ _ => True) (fun r r' => ∃ k x, k < S.1 ∧ (0 : Int32) < x ∧ r = ((1 : Int32), (upd (upd (upd fnd 0 x) 1 (nI c)) 2 (nI k))) ∧ r'.1 = x ∧ r'.2 11 = nI k) S.1 0 () b trivial (fun k a g _ hk _ => by
    have hk : k < S.1 := by omega
    have hwk := (hw.2.2.1 k hk).2.2.2
    have fin : ∀ x : Int32, (0 : Int32) < x → (∃ k' x', k' < S.1 ∧ (0 : Int32) < x' ∧ ((1 : Int32), (upd (upd (upd fnd 0 x) 1 (nI c)) 2 (nI k))) = ((1 : Int32), (upd (upd (upd fnd 0 x') 1 (nI c)) 2 (nI k'))) ∧ ((x, upd g 11 (nI k)) : Int32 × (Nat → Int32)).1 = x' ∧ ((x, upd g 11 (nI k)) : Int32 × (Nat → Int32)).2 11 = nI k') := fun x hx => ⟨k, x, hk, hx, rfl, rfl, (pk_us : upd g 11 (nI k) 11 = nI k)⟩
    unfold F_findWrong_50 F_m_wrongL_41 K_wrongL
    rw [← hz]
    have eb : ((P.2 c 5 >>> (nI k &&& 31)) &&& (1 : Int32)) = K_bit (P.2 c 5) (nI k) := rfl
    rw [eb]
    by_cases c0 : K_bit (P.2 c 5) (nI k) = 0
    · rw [if_pos c0, if_pos c0, if_pos rfl]
      exact Or.inl ⟨(), g, rfl, rfl, trivial⟩
    · rw [if_neg c0, if_neg c0, if_neg (show ¬ (1 : Int32) = 0 by decide)]
      by_cases c1 : ((S.2.2 1 k >>> (P.2 c 2 &&& 31)) &&& (1 : Int32)) = 0
      · rw [if_pos c1, if_pos c1, if_neg (show ¬ (6 : Int32) = 0 by decide)]
        exact Or.inr ⟨_, _, rfl, rfl, fin 6 (by decide)⟩
      · rw [if_neg c1, if_neg c1]
        have ez : ((z >>> (nI k &&& 31)) &&& (1 : Int32)) = K_bit z (nI k) := rfl
        rw [ez]
        rcases bit_cases z (nI k) with h | h
        · rw [if_pos h, if_neg (show ¬ K_bit z (nI k) = 1 by rw [h]; decide)]
          by_cases c2 : S.2.2 2 k < S.2.2 9 6
          · rw [if_pos c2, if_pos c2, if_neg (show ¬ (8 : Int32) = 0 by decide)]
            exact Or.inr ⟨_, _, rfl, rfl, fin 8 (by decide)⟩
          · rw [if_neg c2, if_neg c2]
            rcases hwk with h3 | ⟨q, hq, _, h3⟩
            · rw [if_pos h3, if_pos rfl, if_pos (show S.2.2 3 k < 0 by rw [h3]; decide)]
              exact Or.inl ⟨(), _, rfl, rfl, trivial⟩
            · have hn := hw.1
              have hneg : ¬ S.2.2 3 k < 0 := by rw [h3.1]; exact nI_pos (by omega)
              rw [if_neg (show ¬ S.2.2 3 k = -1 from fun e => hneg (by rw [e]; decide)), if_neg hneg]
              have ef : ((P.2 c 5 >>> (S.2.2 3 k &&& 31)) &&& (1 : Int32)) = K_bit (P.2 c 5) (S.2.2 3 k) := rfl
              rw [ef]
              by_cases c3 : K_bit (P.2 c 5) (S.2.2 3 k) = 0
              · simp only [if_pos c3]
                rw [if_pos trivial, if_neg (show ¬ (9 : Int32) = 0 by decide)]
                exact Or.inr ⟨_, _, rfl, rfl, fin 9 (by decide)⟩
              · simp only [if_neg c3]
                rw [if_neg (show ¬ (1 : Int32) = 0 by decide), if_pos (rfl : (0 : Int32) = 0)]
                exact Or.inl ⟨(), _, rfl, rfl, trivial⟩
        · rw [if_neg (show ¬ K_bit z (nI k) = 0 by rw [h]; decide), if_pos h, if_neg (show ¬ (7 : Int32) = 0 by decide)]
          exact Or.inr ⟨_, _, rfl, rfl, fin 7 (by decide)⟩)
  unfold K_m_wrongL
  rcases key with ⟨a', b', e1, e2, -⟩ | ⟨r, r', e1, e2, k, x, hk, hx, e3, e4, e5⟩
  · rw [e2, Sum.elim_inl]
    exact Or.inl ⟨e1, rfl⟩
  · rw [e2, Sum.elim_inr]
    refine Or.inr ⟨k, x, hk, hx, ?_, e4, e5⟩
    rw [e1, e3]
theorem or_last (S : Sch) (P : Pln) (c d : Nat) (b b' : Nat → Int32) : fo (F_m_wrongL_14 S P c b) (d + 1) 0 0 = fo (F_m_wrongL_14 S P d b') d 0 0 ||| P.2 d 5 := by
  rw [fo_last, Nat.zero_add]
  rfl
theorem wrong_eq {T : Tol} {i j w : Nat} {g fnd : Nat → Int32} (hw : wS (tS T i)) (hgo : goP (tS T i) (tP T j)) (hw3 : w ≤ 2) : (K_m_wrong T i j w g).1 = (K_wrong T i j w fnd).1 := by
  have hw' : w = 0 ∨ w = 1 ∨ w = 2 := by omega
  have fin : ∀ (x : Int32) (k : Nat) (l : Int32) (h : Nat → Int32), (if nI w = (0 : Int32) then ((.inr (x, h) : (Nat → Int32) ⊕ (Int32 × (Nat → Int32)))) else if nI w = (1 : Int32) then .inr (nI k, h) else .inr (l, h)) = .inr ((upd (upd (upd fnd 0 x) 1 (nI k)) 2 l) w, h) := by
    intro x k l h
    rcases hw' with rfl | rfl | rfl
    · rw [if_pos (show nI 0 = 0 from rfl), pk_un (by decide), pk_un (by decide), pk_us]
    · rw [if_neg (show ¬ nI 1 = 0 by decide), if_pos (show nI 1 = 1 from rfl), pk_un (by decide), pk_us]
    · rw [if_neg (show ¬ nI 2 = 0 by decide), if_neg (show ¬ nI 2 = 1 by decide), pk_us]
  have key := fe_rel (F := F_findWrong_5 (tS T i) (tP T j) fnd) (G := F_m_wrong_30 T i j w g) (fun k a _ => a = fo (F_m_wrongL_14 (tS T i) (tP T j) k g) k 0 0) (fun r r' => r.1 = 1 ∧ r'.1 = r.2 w) (tP T j).1 0 (0 : Int32) g rfl (fun k a b _ hk h => by
    have hk : k < (tP T j).1 := by omega
    have hC := wrongC_eq (c := k) hw (hgo k hk).1
    unfold F_findWrong_5 F_m_wrong_30
    by_cases c0 : K_m_wrongC (tS T i) (tP T j) k = 0
    · rw [if_pos c0, if_pos (hC ▸ c0)]
      rcases wrongL_eq (fnd := fnd) (b := upd b 11 (-1 : Int32)) (c := k) (P := tP T j) hw h rfl with ⟨e1, e2⟩ | ⟨l, x, hl, hx, e1, e2, e3⟩
      · rw [e1, e2, Sum.elim_inl, if_neg (show ¬ (0 : Int32) < 0 by decide)]
        refine Or.inl ⟨_, _, rfl, rfl, ?_⟩
        rw [h]
        exact (or_last _ _ _ _ _ _).symm
      · rw [e1, e2, Sum.elim_inr, if_pos hx, e3, fin]
        exact Or.inr ⟨_, _, rfl, rfl, rfl, rfl⟩
    · rw [if_neg c0, if_pos (wrongC_pos _ _ _ c0), if_neg (fun e => c0 (hC.trans e)), ← hC, fin]
      exact Or.inr ⟨_, _, rfl, rfl, rfl, rfl⟩)
  unfold K_m_wrong K_wrong K_findWrong
  rcases key with ⟨a', b', e1, e2, -⟩ | ⟨r, r', e1, e2, e3, e4⟩
  · rw [e1, e2, Sum.elim_inl, Sum.elim_inl, if_pos (show (((0 : Int32), fnd) : Int32 × (Nat → Int32)).1 = 0 from rfl)]
    by_cases c : nI w = 0
    · rw [if_pos c, if_pos c]
    · rw [if_neg c, if_neg c]
  · rw [e1, e2, Sum.elim_inr, Sum.elim_inr, if_neg (show ¬ r.1 = 0 by rw [e3]; decide)]
    exact e4
end
