/-! Both sides answer alike: order, wrong. -/
noncomputable section
theorem order_eq {T : Tol} {i j j2 : Nat} {v : Nat → Int32} (hn : (tS T i).1 ≤ 16) : (K_m_order T i j j2 v).1 = (K_order T i j j2).1 := by
  unfold K_m_order K_order
  rw [both_eq hn, both_eq hn]
  by_cases c1 : (K_twoY (tS T i) (tP T j2) (tP T j)).1 < (K_twoY (tS T i) (tP T j) (tP T j2)).1
  · rw [if_pos c1, if_pos c1]
  · rw [if_neg c1, if_neg c1]
    by_cases c2 : (K_twoY (tS T i) (tP T j) (tP T j2)).1 < (K_twoY (tS T i) (tP T j2) (tP T j)).1
    · rw [if_pos c2, if_pos c2]
    · rw [if_neg c2, if_neg c2]
theorem fe_fo_rel {T U V : Type} {F : Nat → T → T ⊕ U} {G : Nat → V → V} (R : Nat → T → V → Prop) (E : U → V → Prop) (hE : ∀ j r b, E r b → E r (G j b)) : ∀ (k i : Nat) (x : T) (y : V), R i x y → (∀ j a b, i ≤ j → j < i + k → R j a b → (∀ z, F j a = .inl z → R (j + 1) z (G j b)) ∧ ∀ r, F j a = .inr r → E r (G j b)) → (∀ z, fe F k i x = .inl z → R (i + k) z (fo G k i y)) ∧ ∀ r, fe F k i x = .inr r → E r (fo G k i y) := by
  intro k
  induction k with
  | zero =>
    intro i x y h _
    rw [fe_zero, fo_zero]
    exact ⟨fun z e => by rw [← Sum.inl.inj e]; exact h, fun r e => by cases e⟩
  | succ k ih =>
    intro i x y h hs
    obtain ⟨h1, h2⟩ := hs i x y (Nat.le_refl _) (by omega) h
    rw [fe_succ, fo_succ]
    rcases hf : F i x with z | r
    · rw [Sum.elim_inl]
      have := ih (i + 1) z (G i y) (h1 z hf) (fun j a b p q => hs j a b (by omega) (by omega))
      rw [show i + (k + 1) = i + 1 + k by omega]
      exact this
    · rw [Sum.elim_inr]
      refine ⟨fun z e => (by cases e), fun r' e => ?_⟩
      rw [← Sum.inr.inj e]
      have : ∀ (k i : Nat) (b : V), E r b → E r (fo G k i b) := by
        intro k
        induction k with
        | zero => intro i b h; exact h
        | succ k ih => intro i b h; exact ih (i + 1) _ (hE i r b h)
      exact this k (i + 1) _ (h2 r hf)
theorem fe_rel {T U T' U' : Type} {F : Nat → T → T ⊕ U} {G : Nat → T' → T' ⊕ U'} (R : Nat → T → T' → Prop) (E : U → U' → Prop) : ∀ (k i : Nat) (x : T) (y : T'), R i x y → (∀ j a b, i ≤ j → j < i + k → R j a b → (∃ a' b', F j a = .inl a' ∧ G j b = .inl b' ∧ R (j + 1) a' b') ∨ ∃ r r', F j a = .inr r ∧ G j b = .inr r' ∧ E r r') → (∃ a' b', fe F k i x = .inl a' ∧ fe G k i y = .inl b' ∧ R (i + k) a' b') ∨ ∃ r r', fe F k i x = .inr r ∧ fe G k i y = .inr r' ∧ E r r' := by
  intro k
  induction k with
  | zero =>
    intro i x y h _
    exact Or.inl ⟨x, y, rfl, rfl, h⟩
  | succ k ih =>
    intro i x y h hs
    rw [fe_succ, fe_succ]
    rcases hs i x y (Nat.le_refl _) (by omega) h with ⟨a', b', e1, e2, h'⟩ | ⟨r, r', e1, e2, h'⟩
    · rw [e1, e2, Sum.elim_inl, Sum.elim_inl, show i + (k + 1) = i + 1 + k by omega]
      exact ih (i + 1) a' b' h' (fun j a b p q => hs j a b (by omega) (by omega))
    · rw [e1, e2, Sum.elim_inr, Sum.elim_inr]
      exact Or.inr ⟨r, r', rfl, rfl, h'⟩
theorem hasT_go {S : Sch} (hw : wS S) {C : Les} (h : goT S C) : K_hasT S (C 1) = 1 := by
  obtain ⟨t, ht, e⟩ := h
  have := hw.2.1
  unfold K_hasT
  rw [e]
  rw [if_neg (nI_pos (by omega)), if_neg (nI_ge ht (by omega))]
theorem teaches_eq {S : Sch} (hw : wS S) {C : Les} (h : goT S C) (e : Int32) : (K_teaches S (C 1) e = 0) = (((S.2.2 5 (C 1).toNatClampNeg >>> (e &&& 31)) &&& (1 : Int32)) = 0) := by
  unfold K_teaches
  rw [hasT_go hw h, if_neg (show ¬ (1 : Int32) = 0 by decide)]
  show ((if K_bit (S.2.2 5 (C 1).toNatClampNeg) e = 0 then (0 : Int32) else 1) = 0) = (K_bit (S.2.2 5 (C 1).toNatClampNeg) e = 0)
  by_cases c : K_bit (S.2.2 5 (C 1).toNatClampNeg) e = 0
  · rw [if_pos c]; simp [c]
  · rw [if_neg c]; simp [c]
theorem wrongC_eq {S : Sch} {P : Pln} {c : Nat} (hw : wS S) (hg : goT S (P.2 c)) : K_m_wrongC S P c = K_wrongC S P c := by
  unfold K_m_wrongC K_wrongC
  have ht := teaches_eq hw hg (P.2 c 2)
  obtain ⟨k1, k2⟩ := fe_fo_rel (F := F_wrongC_30 S P c) (G := F_m_wrongC_57 S P c) (fun _ a b => b = (a, (0 : Int32))) (fun r b => r = 2 ∧ b.2 = 1) (fun k r b h => by
    obtain ⟨h1, h2⟩ := h
    refine ⟨h1, ?_⟩
    unfold F_m_wrongC_57
    have h0 : ¬ b.2 = 0 := by rw [h2]; decide
    by_cases c2 : P.2 k 2 = P.2 c 2
    · rw [if_pos c2, if_neg h0]
    · rw [if_neg c2, if_neg h0]) c 0 (0 : Int32) ((0 : Int32), (0 : Int32)) rfl (fun k a b _ _ h => by
    subst h
    unfold F_wrongC_30 F_m_wrongC_57
    by_cases c2 : P.2 k 2 = P.2 c 2
    · simp only [if_pos c2]
      rw [if_pos trivial]
      by_cases c3 : P.2 k 1 = P.2 c 1
      · rw [if_pos c3, if_pos c3]
        exact ⟨fun z e => (by cases e), fun r e => ⟨(Sum.inr.inj e).symm, rfl⟩⟩
      · rw [if_neg c3, if_neg c3]
        exact ⟨fun z e => (by rw [← Sum.inl.inj e]), fun r e => (by cases e)⟩
    · simp only [if_neg c2]
      rw [if_pos trivial]
      exact ⟨fun z e => (by rw [← Sum.inl.inj e]), fun r e => (by cases e)⟩)
  by_cases c1 : K_teaches S (P.2 c 1) (P.2 c 2) = 0
  · rw [if_pos c1, if_pos (ht ▸ c1)]
  · rw [if_neg c1, if_neg (ht ▸ c1)]
    rcases hf : fe (F_wrongC_30 S P c) c 0 (0 : Int32) with z | r
    · rw [k1 z hf, Sum.elim_inl, if_pos (show ((z, (0 : Int32)) : Int32 × Int32).2 = 0 from rfl)]
    · obtain ⟨e1, e2⟩ := k2 r hf
      rw [Sum.elim_inr, if_neg (show ¬ (fo (F_m_wrongC_57 S P c) c 0 ((0 : Int32), (0 : Int32))).2 = 0 by rw [e2]; decide)]
      exact e1.symm
end
