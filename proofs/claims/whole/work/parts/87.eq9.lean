/-! Both sides answer alike: move, the rest. -/
noncomputable section
theorem nI_injL {a b : Nat} (ha : a < 2 ^ 31) (hb : b < 2 ^ 31) (e : nI a = nI b) : a = b := by
  have h := congrArg Int32.toInt e
  rw [nI_toInt ha, nI_toInt hb] at h
  omega
theorem fe_fo_relN {T U V : Type} {F : Nat → T → T ⊕ U} {G : Nat → V → V} (R : Nat → T → V → Prop) (E : Nat → U → V → Prop) (N : Nat) (hE : ∀ j r b, j < N → E j r b → E (j + 1) r (G j b)) : ∀ (k i : Nat) (x : T) (y : V), i + k = N → R i x y → (∀ j a b, j < N → R j a b → (∀ z, F j a = .inl z → R (j + 1) z (G j b)) ∧ ∀ r, F j a = .inr r → E (j + 1) r (G j b)) → (∀ z, fe F k i x = .inl z → R N z (fo G k i y)) ∧ ∀ r, fe F k i x = .inr r → E N r (fo G k i y) := by
  intro k
  induction k with
  | zero =>
    intro i x y hN h _
    rw [fe_zero, fo_zero]
    exact ⟨fun z e => by rw [← Sum.inl.inj e, ← hN]; exact h, fun r e => by cases e⟩
  | succ k ih =>
    intro i x y hN h hs
    obtain ⟨h1, h2⟩ := hs i x y (by omega) h
    rw [fe_succ, fo_succ]
    rcases hf : F i x with z | r
    · rw [Sum.elim_inl]
      exact ih (i + 1) z (G i y) (by omega) (h1 z hf) hs
    · rw [Sum.elim_inr]
      refine ⟨fun z e => (by cases e), fun r' e => ?_⟩
      rw [← Sum.inr.inj e]
      have : ∀ (k i : Nat) (b : V), i + k = N → E i r b → E N r (fo G k i b) := by
        intro k
        induction k with
        | zero => intro i b hN h; rw [← hN]; exact h
        | succ k ih => intro i b hN h; exact ih (i + 1) _ (by omega) (hE i r b (by omega) h)
      exact this k (i + 1) _ (by omega) (h2 r hf)
theorem only_seats {P : Pln} {l : Nat} {g : Nat → Int32} (h6 : P.1 ≤ 6) : (¬ (K_m_seatsOf P l g).1 = 1 → K_only P (nI l) = -1) ∧ ((K_m_seatsOf P l g).1 = 1 → ∃ c, c < P.1 ∧ K_only P (nI l) = nI c ∧ (K_m_seatsOf P l g).2 20 = nI c ∧ K_bit (P.2 c 5) (nI l) = 1 ∧ ∀ d, d < P.1 → d ≠ c → K_bit (P.2 d 5) (nI l) = 0) := by
  obtain ⟨k1, k2⟩ := fe_fo_relN (F := F_only_4 P (nI l)) (G := F_m_seatsOf_5 P l g) (fun i a b => (b.1 = 0 ∧ a = -1 ∧ ∀ d, d < i → K_bit (P.2 d 5) (nI l) = 0) ∨ (b.1 = 1 ∧ ∃ c, c < i ∧ a = nI c ∧ b.2 20 = nI c ∧ K_bit (P.2 c 5) (nI l) = 1 ∧ ∀ d, d < i → d ≠ c → K_bit (P.2 d 5) (nI l) = 0)) (fun i r b => r = -1 ∧ ∃ n, 2 ≤ n ∧ n ≤ i ∧ b.1 = nI n) P.1 (fun k r b hk h => by
    obtain ⟨e, n, h1, h2, h3⟩ := h
    refine ⟨e, ?_⟩
    unfold F_m_seatsOf_5
    by_cases c : ((P.2 k 5 >>> (nI l &&& 31)) &&& 1) = 0
    · rw [if_pos c]
      exact ⟨n, h1, by omega, h3⟩
    · rw [if_neg c]
      refine ⟨n + 1, by omega, by omega, ?_⟩
      show b.1 + 1 = nI (n + 1)
      rw [h3]; exact nI_1 n) P.1 0 (-1) ((0 : Int32), g) (Nat.zero_add _) (Or.inl ⟨rfl, rfl, fun d h => absurd h (Nat.not_lt_zero d)⟩) (fun k a b hk h => by
    unfold F_only_4 F_m_seatsOf_5
    have eb : ((P.2 k 5 >>> (nI l &&& 31)) &&& (1 : Int32)) = K_bit (P.2 k 5) (nI l) := rfl
    rw [eb]
    rcases bit_cases (P.2 k 5) (nI l) with hb | hb
    · rw [if_pos hb, if_pos hb, if_pos rfl]
      refine ⟨fun z e => ?_, fun r e => (by cases e)⟩
      rw [← Sum.inl.inj e]
      rcases h with ⟨h1, h2, h3⟩ | ⟨h1, c, h2, h3, h4, h5, h6⟩
      · refine Or.inl ⟨h1, h2, fun d hd => ?_⟩
        by_cases e : d = k
        · rw [e]; exact hb
        · exact h3 d (by omega)
      · refine Or.inr ⟨h1, c, by omega, h3, h4, h5, fun d hd hn => ?_⟩
        by_cases e : d = k
        · rw [e]; exact hb
        · exact h6 d (by omega) hn
    · have hn : ¬ K_bit (P.2 k 5) (nI l) = 0 := by rw [hb]; decide
      rw [if_neg hn, if_neg hn, if_neg (show ¬ (1 : Int32) = 0 by decide)]
      rcases h with ⟨h1, h2, h3⟩ | ⟨h1, c, h2, h3, h4, h5, h6⟩
      · rw [if_pos h2]
        refine ⟨fun z e => ?_, fun r e => (by cases e)⟩
        rw [← Sum.inl.inj e]
        refine Or.inr ⟨by show b.1 + 1 = 1; rw [h1]; rfl, k, by omega, rfl, (pk_us : upd b.2 20 (nI k) 20 = nI k), hb, fun d hd hn => h3 d (by omega)⟩
      · rw [if_neg (show ¬ a = -1 by rw [h3]; exact fun e => absurd (show nI c < 0 by rw [e]; decide) (nI_pos (by omega)))]
        refine ⟨fun z e => (by cases e), fun r e => ?_⟩
        exact ⟨(Sum.inr.inj e).symm, 2, Nat.le_refl _, by omega, by show b.1 + 1 = nI 2; rw [h1]; rfl⟩)
  have s1 : (K_m_seatsOf P l g).1 = (fo (F_m_seatsOf_5 P l g) P.1 0 ((0 : Int32), g)).1 := rfl
  have s2 : (K_m_seatsOf P l g).2 = (fo (F_m_seatsOf_5 P l g) P.1 0 ((0 : Int32), g)).2 := rfl
  rw [s1, s2]
  unfold K_only
  rcases hf : fe (F_only_4 P (nI l)) P.1 0 (-1) with z | r
  · rw [Sum.elim_inl]
    rcases k1 z hf with ⟨h1, h2, h3⟩ | ⟨h1, h2⟩
    · rw [h1]
      exact ⟨fun _ => h2, fun e => absurd e (by decide)⟩
    · rw [h1]
      exact ⟨fun e => absurd rfl e, fun _ => h2⟩
  · rw [Sum.elim_inr]
    obtain ⟨h1, n, h2, h3, h4⟩ := k2 r hf
    rw [h4]
    refine ⟨fun _ => h1, fun e => ?_⟩
    have := nI_injL (a := n) (b := 1) (by omega) (by omega) e
    omega
theorem gain_eq {S : Sch} {P : Pln} {l c d : Nat} (hw : wS S) (h6 : P.1 ≤ 6) (hgo : goP S P) (hl : l < S.1) (hc : c < P.1) (hd : d < P.1) (hcd : d ≠ c) (hb : K_bit (P.2 c 5) (nI l) = 1) : K_moveG S (P.2 c) (P.2 d) l = K_m_moved S P l c d := by
  have hn := hw.1
  obtain ⟨v, hv, e1, e2, e3⟩ := clr_bc hn (hgo c hc).2 (show l < 16 by omega) hb
  unfold K_moveG K_m_moved K_takes
  rw [if_neg (show ¬ nI d = nI c from fun e => hcd (nI_injL (by omega) (by omega) e)), e1, e2]
  have e4 : nI (v + 1) - 1 = nI v := nI_pred v
  rw [e4, ab4]
  by_cases c1 : K_can S (P.2 d) (nI l) = 0
  · rw [if_pos c1, if_pos c1, if_pos rfl]
  · rw [if_neg c1, if_neg c1]
    by_cases c2 : K_bc (P.2 d 5) < S.2.2 9 3
    · rw [if_pos c2, if_neg (show ¬ S.2.2 9 3 ≤ K_bc (P.2 d 5) from fun q => absurd c2 (nlt_le.mpr q)), if_neg (show ¬ (1 : Int32) = 0 by decide)]
      by_cases c3 : v = 0
      · rw [if_pos (e3.mpr c3), if_neg (show ¬ (0 : Int32) < nI v by rw [c3]; decide)]
      · rw [if_neg (fun q => c3 (e3.mp q)), if_pos (show (0 : Int32) < nI v from nI_lt (a := 0) (by omega) (by omega))]
    · rw [if_neg c2, if_pos (nlt_le.mp c2), if_pos rfl]
theorem move_eq {T : Tol} {i j w : Nat} {g fnd : Nat → Int32} (hw : wS (tS T i)) (h6 : (tP T j).1 ≤ 6) (hgo : goP (tS T i) (tP T j)) (hw3 : w ≤ 2) : (K_m_move T i j w g).1 = (K_move T i j w fnd).1 := by
  have hn := hw.1
  have key := fo_rel (F := F_findMove_5 (tS T i) (tP T j) fnd) (G := F_m_move_39 T i j w g) (fun _ (a : Int32 × (Nat → Int32)) (b : Int32 × Int32 × Int32 × (Nat → Int32)) => a.1 = b.2.2.1 ∧ ¬ a.1 < 0 ∧ ((a.1 = 0 ∧ b.1 < 0) ∨ ((0 : Int32) < a.1 ∧ ¬ b.1 < 0 ∧ a.2 0 = b.1 ∧ a.2 1 = b.2.1 ∧ a.2 2 = b.2.2.1))) (tS T i).1 0 ((0 : Int32), fnd) ((-1 : Int32), (-1 : Int32), (0 : Int32), g) ⟨rfl, (by show ¬ (0 : Int32) < 0; decide), Or.inl ⟨rfl, (by show (-1 : Int32) < 0; decide)⟩⟩ (fun k a b _ hk h => by
    have hk : k < (tS T i).1 := by omega
    obtain ⟨o1, o2⟩ := only_seats (P := tP T j) (l := k) (g := b.2.2.2) h6
    unfold F_findMove_5 F_m_move_39
    by_cases c : (K_m_seatsOf (tP T j) k b.2.2.2).1 = 1
    · obtain ⟨c0, hc0, e1, e2, e3, e4⟩ := o2 c
      rw [if_pos c, if_neg (show ¬ K_only (tP T j) (nI k) = -1 by rw [e1]; exact fun e => absurd (show nI c0 < 0 by rw [e]; decide) (nI_pos (by omega)))]
      have inner := fo_rel (F := F_findMove_25 (tS T i) (tP T j) fnd k a) (G := F_m_move_74 T i j w g k b) (fun _ (a : Int32 × (Nat → Int32)) (b : Int32 × Int32 × Int32) => a.1 = b.2.2 ∧ ¬ a.1 < 0 ∧ ((a.1 = 0 ∧ b.1 < 0) ∨ ((0 : Int32) < a.1 ∧ ¬ b.1 < 0 ∧ a.2 0 = b.1 ∧ a.2 1 = b.2.1 ∧ a.2 2 = b.2.2))) (tP T j).1 0 (a.1, a.2) (b.1, b.2.1, b.2.2.1) h (fun d x y _ hd q => by
        have hd : d < (tP T j).1 := by omega
        unfold F_findMove_25 F_m_move_74
        rw [e1, e2, nI_clamp (by omega)]
        by_cases ec : d = c0
        · subst ec
          rw [if_pos rfl, if_neg q.2.1]
          have z0 : K_m_moved (tS T i) (tP T j) k d d = 0 := by unfold K_m_moved; rw [if_pos rfl]
          rw [z0, ← q.1, if_neg q.2.1]
          exact ⟨rfl, q.2.1, by rw [q.1]; rw [q.1] at q; exact q.2.2⟩
        · rw [if_neg (show ¬ nI d = nI c0 from fun e => ec (nI_injL (by omega) (by omega) e)), gain_eq hw h6 hgo hk hc0 hd ec e3, ← q.1]
          generalize K_m_moved (tS T i) (tP T j) k c0 d = gr
          by_cases c5 : x.1 < gr
          · rw [if_pos c5, if_pos c5]
            have hg : (0 : Int32) < gr := by
              have h1 := q.2.1
              rw [lt_toInt] at h1 c5 ⊢
              omega
            refine ⟨rfl, (by show ¬ gr < 0; rw [lt_toInt] at hg ⊢; omega), Or.inr ⟨hg, nI_pos (by omega), ?_, ?_, ?_⟩⟩
            · show upd (upd (upd x.2 0 (nI k)) 1 (nI d)) 2 gr 0 = nI k
              rw [pk_un (by decide), pk_un (by decide), pk_us]
            · show upd (upd (upd x.2 0 (nI k)) 1 (nI d)) 2 gr 1 = nI d
              rw [pk_un (by decide), pk_us]
            · show upd (upd (upd x.2 0 (nI k)) 1 (nI d)) 2 gr 2 = gr
              rw [pk_us]
          · rw [if_neg c5, if_neg c5]
            exact ⟨rfl, q.2.1, by rw [q.1]; rw [q.1] at q; exact q.2.2⟩)
      exact inner
    · rw [if_neg c, if_pos (o1 c)]
      exact h)
  unfold K_m_move K_move K_findMove
  generalize fo (F_findMove_5 (tS T i) (tP T j) fnd) (tS T i).1 0 ((0 : Int32), fnd) = a at key
  generalize fo (F_m_move_39 T i j w g) (tS T i).1 0 ((-1 : Int32), (-1 : Int32), (0 : Int32), g) = b at key
  obtain ⟨k1, k2, ⟨h1, h2⟩ | ⟨h1, h2, h3, h4, h5⟩⟩ := key
  · rw [if_pos h2, if_neg (show ¬ (0 : Int32) < a.1 by rw [h1]; decide), if_pos (show (((0 : Int32), a.2) : Int32 × (Nat → Int32)).1 = 0 from rfl)]
  · rw [if_neg h2, if_pos h1, if_neg (show ¬ (((1 : Int32), a.2) : Int32 × (Nat → Int32)).1 = 0 from by show ¬ (1 : Int32) = 0; decide)]
    have hw' : w = 0 ∨ w = 1 ∨ w = 2 := by omega
    rcases hw' with rfl | rfl | rfl
    · rw [if_pos (show nI 0 = 0 from rfl)]
      exact h3.symm
    · rw [if_neg (show ¬ nI 1 = 0 by decide), if_pos (show nI 1 = 1 from rfl)]
      exact h4.symm
    · rw [if_neg (show ¬ nI 2 = 0 by decide), if_neg (show ¬ nI 2 = 1 by decide)]
      exact h5.symm
end
