/-! When a row of classes is right (reference): when each class may sit so. -/
noncomputable section
theorem fo_and {F : Nat → Int32 → Int32} {good : Nat → Prop} {N : Nat} (hF : ∀ k, k < N → F k 0 = 0 ∧ (good k → F k 1 = 1) ∧ (¬ good k → F k 1 = 0)) : (fo F N 0 1 = 1 ∧ ∀ k, k < N → good k) ∨ (fo F N 0 1 = 0 ∧ ∃ k, k < N ∧ ¬ good k) := by
  have := fo_inv (F := F) (fun i z => (z = 1 ∧ ∀ k, k < i → good k) ∨ (z = 0 ∧ ∃ k, k < i ∧ ¬ good k)) N 0 1 (Or.inl ⟨rfl, fun k h => by omega⟩) (fun j z _ hj hz => by
    obtain ⟨f0, f1, f2⟩ := hF j (by omega)
    rcases hz with ⟨rfl, h⟩ | ⟨rfl, k, h1, h2⟩
    · by_cases g : good j
      · refine Or.inl ⟨f1 g, fun k hk => ?_⟩
        by_cases e : k = j
        · subst e; exact g
        · exact h k (by omega)
      · exact Or.inr ⟨f2 g, j, by omega, g⟩
    · exact Or.inr ⟨f0, k, by omega, h2⟩)
  rw [Nat.zero_add] at this
  exact this
theorem bc_pos {p : Nat} (hp : p < 65536) : 0 < K_bc (nI p) ↔ ¬ K_bc (nI p) = 0 := by
  rw [bc_nI (by omega)]
  have h := pop_le p
  rw [show (0 : Int32) = nI 0 from rfl, nI_lt_iff (by omega) (by omega)]
  constructor
  · intro a b
    have := nI_injL (by omega) (by omega) b
    omega
  · intro a
    refine Nat.pos_of_ne_zero (fun c => a ?_)
    rw [c]
theorem right_iff {S : Sch} {P : Pln} (hw : wS S) (h6 : P.1 ≤ 6) {d : Nat → Nat} (hd : ∀ l, l < S.1 → d l ≤ P.1) {vt vr : Nat → Int32} (hr : ∀ l, l < S.1 → vr l = nI (d l)) (ht : ∀ k, k < P.1 → vt k = nI (pt d (2 ^ S.1 - 1) k S.1)) : (K_m_right S P vt vr = 0 ∧ ¬ ∀ k, k < P.1 → okS S (P.2 k) (pt d (2 ^ S.1 - 1) k S.1)) ∨ (K_m_right S P vt vr = 1 ∧ ∀ k, k < P.1 → okS S (P.2 k) (pt d (2 ^ S.1 - 1) k S.1)) := by
  have h16 := hw.1
  have hpp : 2 ^ S.1 ≤ 2 ^ 16 := Nat.pow_le_pow_right (by decide) h16
  have hpt : ∀ k, pt d (2 ^ S.1 - 1) k S.1 < 65536 := fun k => by have := @pt_lt d (2 ^ S.1 - 1) k S.1; omega
  have h1 := fe_unit (F := F_m_right_3 S P vt vr) (bad := fun k => ¬ (K_bc (nI (pt d (2 ^ S.1 - 1) k S.1)) = 0 ∨ (¬ K_bc (nI (pt d (2 ^ S.1 - 1) k S.1)) < S.2.2 9 2 ∧ ¬ S.2.2 9 3 < K_bc (nI (pt d (2 ^ S.1 - 1) k S.1))))) (N := P.1) (fun k hk => by
    unfold F_m_right_3 K_in
    rw [ht k hk, many_nI (hpt k)]
    have hbp := bc_pos (hpt k)
    generalize K_bc (nI (pt d (2 ^ S.1 - 1) k S.1)) = v at hbp ⊢
    by_cases c0 : v = 0
    · rw [if_neg (fun h => hbp.mp h c0)]
      exact ⟨fun h => absurd (Or.inl c0) h, fun _ => rfl⟩
    · rw [if_pos (hbp.mpr c0)]
      by_cases c1 : v < S.2.2 9 2
      · rw [if_pos c1, if_pos rfl]
        exact ⟨fun _ => rfl, fun h => absurd (fun g => g.elim c0 (fun q => q.1 c1)) h⟩
      · rw [if_neg c1]
        by_cases c2 : S.2.2 9 3 < v
        · rw [if_pos c2, if_pos rfl]
          exact ⟨fun _ => rfl, fun h => absurd (fun g => g.elim c0 (fun q => q.2 c2)) h⟩
        · rw [if_neg c2, if_neg (by decide)]
          exact ⟨fun h => absurd (Or.inr ⟨c1, c2⟩) h, fun _ => rfl⟩) P.1 0 (by omega)
  have h2 := fo_and (F := F_m_right_64 S P vt vr) (good := fun l => (d l = P.1 ∨ ¬ K_can S (P.2 (d l)) (nI l) = 0) ∧ (S.2.2 3 l = -1 ∨ ∃ q, q < S.1 ∧ S.2.2 3 l = nI q ∧ d q = d l)) (N := S.1) (fun l hl => by
    have e1 : (vr l).toNatClampNeg = d l := by rw [hr l hl, nI_clamp (by have := hd l hl; omega)]
    have hdl := hd l hl
    have hpar : (if (S.2.2 3 l) < (0 : Int32) then (1 : Int32) else (if (vr ((S.2.2 3 l).toNatClampNeg)) = (vr l) then (1 : Int32) else (0 : Int32))) = 1 ∧ (S.2.2 3 l = -1 ∨ ∃ q, q < S.1 ∧ S.2.2 3 l = nI q ∧ d q = d l) ∨ (if (S.2.2 3 l) < (0 : Int32) then (1 : Int32) else (if (vr ((S.2.2 3 l).toNatClampNeg)) = (vr l) then (1 : Int32) else (0 : Int32))) = 0 ∧ ¬ (S.2.2 3 l = -1 ∨ ∃ q, q < S.1 ∧ S.2.2 3 l = nI q ∧ d q = d l) := by
      rcases (hw.2.2.1 l hl).2.2.2.1 with e | ⟨q, q1, -, e, -⟩
      · left
        rw [if_pos (by rw [e]; decide)]
        exact ⟨rfl, Or.inl e⟩
      · have hdq := hd q q1
        rw [e, if_neg (nI_pos (by omega)), nI_clamp (by omega), hr q q1, hr l hl]
        by_cases c : d q = d l
        · left
          rw [if_pos (by rw [c])]
          exact ⟨rfl, Or.inr ⟨q, q1, rfl, c⟩⟩
        · right
          rw [if_neg (fun h => c (nI_injL (by omega) (by omega) h))]
          refine ⟨rfl, ?_⟩
          rintro (h | ⟨q', a, b, f⟩)
          · exact absurd h (nI_ne_neg1 (by omega))
          · rw [← nI_injL (by omega) (by omega) b] at f
            exact c f
    refine ⟨?_, ?_, ?_⟩
    · unfold F_m_right_64
      exact if_pos rfl
    · rintro ⟨a, b⟩
      unfold F_m_right_64
      rw [if_neg (by decide), e1]
      have hp := hpar.resolve_right (fun h => h.2 b)
      rcases a with a | a
      · rw [if_pos (by rw [a])]
        exact hp.1
      · by_cases e : nI (d l) = nI P.1
        · rw [if_pos e]
          exact hp.1
        · rw [if_neg e, if_neg a]
          exact hp.1
    · intro h
      unfold F_m_right_64
      rw [if_neg (by decide), e1]
      rcases hpar with ⟨p1, p2⟩ | ⟨p1, p2⟩
      · have a : ¬ (d l = P.1 ∨ ¬ K_can S (P.2 (d l)) (nI l) = 0) := fun c => h ⟨c, p2⟩
        have a1 : ¬ d l = P.1 := fun c => a (Or.inl c)
        have a2 : K_can S (P.2 (d l)) (nI l) = 0 := Classical.byContradiction (fun c => a (Or.inr c))
        rw [if_neg (fun c => a1 (nI_injL (by omega) (by omega) c)), if_pos a2]
      · by_cases e : nI (d l) = nI P.1
        · rw [if_pos e]
          exact p1
        · rw [if_neg e]
          by_cases c : K_can S (P.2 (d l)) (nI l) = 0
          · rw [if_pos c]
          · rw [if_neg c]
            exact p1)
  unfold K_m_right
  rcases h1 with ⟨g1, g2⟩ | ⟨⟨k, -, g1, g2⟩, g3⟩
  · rw [g2, Sum.elim_inl]
    rcases h2 with ⟨f1, f2⟩ | ⟨f1, l, f2, f3⟩
    · right
      refine ⟨f1, fun k hk => ⟨Classical.byContradiction (g1 k (by omega) hk), fun l hl hb => ?_⟩⟩
      obtain ⟨-, hb2⟩ := ptF.mp hb
      obtain ⟨a, b⟩ := f2 l hl
      refine ⟨?_, b.imp id (fun ⟨q, q1, q2, q3⟩ => ⟨q, q1, q2, ptF.mpr ⟨q1, q3.trans hb2⟩⟩)⟩
      rw [hb2] at a
      exact a.resolve_left (by omega)
    · left
      refine ⟨f1, fun h => f3 ?_⟩
      have hdl := hd l f2
      by_cases e : d l = P.1
      · refine ⟨Or.inl e, ?_⟩
        rcases (hw.2.2.1 l f2).2.2.2.1 with c | ⟨q, q1, -, c, c2⟩
        · exact Or.inl c
        · refine Or.inr ⟨q, q1, c, ?_⟩
          have hdq := hd q q1
          by_cases u : d q = P.1
          · omega
          · obtain ⟨-, v⟩ := h (d q) (by omega)
            obtain ⟨-, w⟩ := v q q1 (ptF.mpr ⟨q1, rfl⟩)
            rcases w with w | ⟨q', w1, w2, w3⟩
            · rw [c2] at w
              exact absurd w (nI_ne_neg1 (by omega))
            · rw [c2] at w2
              rw [← nI_injL (by omega) (by omega) w2] at w3
              exact (ptF.mp w3).2.symm
      · obtain ⟨-, v⟩ := h (d l) (by omega)
        obtain ⟨a, b⟩ := v l f2 (ptF.mpr ⟨f2, rfl⟩)
        exact ⟨Or.inr a, b.imp id (fun ⟨q, q1, q2, q3⟩ => ⟨q, q1, q2, (ptF.mp q3).2⟩)⟩
  · rw [g3, Sum.elim_inr]
    left
    exact ⟨rfl, fun h => g2 (h k g1).1⟩
end
