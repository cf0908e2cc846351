/-! The line of a school: both sides answer alike. -/
noncomputable section
theorem n_lt {a b : Nat} (h : a < b) (hb : b < 2 ^ 31) : nI a < nI b := (nI_lt_iff (by omega) hb).mpr h
theorem n_nlt {a b : Nat} (h : b ≤ a) (ha : a < 2 ^ 31) : ¬ nI a < nI b := fun c => by have := (nI_lt_iff ha (by omega)).mp c; omega
theorem n_ne {a b : Nat} (h : a ≠ b) (ha : a < 2 ^ 31) (hb : b < 2 ^ 31) : ¬ nI a = nI b := fun c => h (nI_injL ha hb c)
theorem neE {a b : Nat} (x : Int32) (hx : x = nI b) (h : a ≠ b ∧ a < 2 ^ 31 ∧ b < 2 ^ 31) : ¬ nI a = x := by rw [hx]; exact n_ne h.1 h.2.1 h.2.2
theorem ltE {a b : Nat} (x : Int32) (hx : x = nI b) (h : a < b ∧ b < 2 ^ 31) : nI a < x := by rw [hx]; exact n_lt h.1 h.2
theorem nltE {a b : Nat} (x : Int32) (hx : x = nI b) (h : b ≤ a ∧ a < 2 ^ 31) : ¬ nI a < x := by rw [hx]; exact n_nlt h.1 h.2
theorem K_in_lo {w a b : Int32} (h : w < a) : K_in w a b = 0 := if_pos h
theorem K_in_hi {w a b : Int32} (h : b < w) : K_in w a b = 0 := by
  unfold K_in
  by_cases c : w < a
  · rw [if_pos c]
  · rw [if_neg c, if_pos h]
theorem K_in_ok {w a b : Int32} (h1 : ¬ w < a) (h2 : ¬ b < w) : ¬ K_in w a b = 0 := by
  unfold K_in
  rw [if_neg h1, if_neg h2]
  decide
theorem toldL_at {n0 c0 : Nat} {lt : Int32} {ro sz st : Nat → Int32} (hn : n0 ≤ 16) (hc : c0 ≤ 6) (w : Int32) : (w = 0 → K_toldL n0 c0 lt ro sz st w = lt) ∧ (w = 1 → K_toldL n0 c0 lt ro sz st w = nI c0) ∧ (∀ q, q < c0 → w = nI (10 + q) → K_toldL n0 c0 lt ro sz st w = sz q) ∧ (∀ q, q < c0 → w = nI (20 + q) → K_toldL n0 c0 lt ro sz st w = st q) ∧ (∀ q, q < n0 → w = nI (30 + q) → K_toldL n0 c0 lt ro sz st w = ro q) ∧ (¬ w = 0 → ¬ w = 1 → (∀ q, q < c0 → ¬ w = nI (10 + q)) → (∀ q, q < c0 → ¬ w = nI (20 + q)) → (∀ q, q < n0 → ¬ w = nI (30 + q)) → K_toldL n0 c0 lt ro sz st w = -1) := by
  have l10 : (10 : Int32) = nI 10 := rfl
  have l20 : (20 : Int32) = nI 20 := rfl
  have l30 : (30 : Int32) = nI 30 := rfl
  have l0 : (0 : Int32) = nI 0 := rfl
  have l1 : (1 : Int32) = nI 1 := rfl
  refine ⟨fun h => ?_, fun h => ?_, fun q hq h => ?_, fun q hq h => ?_, fun q hq h => ?_, fun h0 h1 h2 h3 h4 => ?_⟩
  · unfold K_toldL
    rw [if_pos h]
  · unfold K_toldL
    rw [if_neg (by rw [h]; decide), if_pos h]
  · subst h
    unfold K_toldL
    rw [if_neg (neE (a := 10 + q) 0 l0 (by omega)), if_neg (neE (a := 10 + q) 1 l1 (by omega)), if_neg (nltE (a := 10 + q) 10 l10 (by omega)), if_pos (ltE (a := 10 + q) (b := 10 + c0) (10 + nI c0) (by rw [l10, nI_add]) (by omega)), l10, pk_sub (by omega), nI_clamp (by omega), show 10 + q - 10 = q by omega]
  · subst h
    unfold K_toldL
    rw [if_neg (neE (a := 20 + q) 0 l0 (by omega)), if_neg (neE (a := 20 + q) 1 l1 (by omega)), if_neg (nltE (a := 20 + q) 10 l10 (by omega)), if_neg (nltE (a := 20 + q) (b := 10 + c0) (10 + nI c0) (by rw [l10, nI_add]) (by omega)), if_neg (nltE (a := 20 + q) 20 l20 (by omega)), if_pos (ltE (a := 20 + q) (b := 20 + c0) (20 + nI c0) (by rw [l20, nI_add]) (by omega)), l20, pk_sub (by omega), nI_clamp (by omega), show 20 + q - 20 = q by omega]
  · subst h
    unfold K_toldL
    rw [if_neg (neE (a := 30 + q) 0 l0 (by omega)), if_neg (neE (a := 30 + q) 1 l1 (by omega)), if_neg (nltE (a := 30 + q) 10 l10 (by omega)), if_neg (nltE (a := 30 + q) (b := 10 + c0) (10 + nI c0) (by rw [l10, nI_add]) (by omega)), if_neg (nltE (a := 30 + q) 20 l20 (by omega)), if_neg (nltE (a := 30 + q) (b := 20 + c0) (20 + nI c0) (by rw [l20, nI_add]) (by omega)), if_neg (nltE (a := 30 + q) 30 l30 (by omega)), if_pos (ltE (a := 30 + q) (b := 30 + n0) (30 + nI n0) (by rw [l30, nI_add]) (by omega)), l30, pk_sub (by omega), nI_clamp (by omega), show 30 + q - 30 = q by omega]
  · have tr : ∀ a b : Int32, w < a → a.toInt ≤ b.toInt → w < b := fun a b ha hab => by rw [lt_toInt] at ha ⊢; omega
    have n10 : ¬ w < 10 → ¬ w < (10 : Int32) + nI c0 := fun a b => by
      obtain ⟨q, q1, q2, -⟩ := ix_vp (A := 10) (n := c0) a b rfl (by rw [l10, nI_add]) (by omega)
      exact h2 q q1 q2
    have n20 : ¬ w < 20 → ¬ w < (20 : Int32) + nI c0 := fun a b => by
      obtain ⟨q, q1, q2, -⟩ := ix_vp (A := 20) (n := c0) a b rfl (by rw [l20, nI_add]) (by omega)
      exact h3 q q1 q2
    have n30 : ¬ w < 30 → ¬ w < (30 : Int32) + nI n0 := fun a b => by
      obtain ⟨q, q1, q2, -⟩ := ix_vp (A := 30) (n := n0) a b rfl (by rw [l30, nI_add]) (by omega)
      exact h4 q q1 q2
    unfold K_toldL
    rw [if_neg h0, if_neg h1]
    by_cases a : w < 10
    · rw [if_pos a, if_pos (tr _ _ a (by decide)), if_pos (tr _ _ a (by decide))]
    · rw [if_neg a, if_neg (n10 a)]
      by_cases b : w < 20
      · rw [if_pos b, if_pos (tr _ _ b (by decide))]
      · rw [if_neg b, if_neg (n20 b)]
        by_cases d : w < 30
        · rw [if_pos d]
        · rw [if_neg d, if_neg (n30 d)]
theorem line_eq {T : Tol} {i k0 : Nat} {w : Int32} {D : Les} {ro wo ws be sz st g va bs bm bz : Nat → Int32} {u : Int32} (hw : wS (tS T i)) (hD : D 0 = 0) (hk1 : 1 ≤ k0) (hk6 : k0 ≤ 6) : (K_line T i k0 w D ro wo ws be sz st u).1 = (K_m_line T i k0 w g va bs bm bz).1 := by
  have h16 := hw.1
  have l9 : (9 : Int32) = nI 9 := rfl
  have l10 : (10 : Int32) = nI 10 := rfl
  have l19 : (19 : Int32) = nI 19 := rfl
  have l20 : (20 : Int32) = nI 20 := rfl
  have l29 : (29 : Int32) = nI 29 := rfl
  have l30 : (30 : Int32) = nI 30 := rfl
  -- the class
  obtain ⟨s1, s2⟩ := weigh_sem (D := D) (ro := ro) (wo := wo) (ws := ws) (u := u) hw
  have hwv := weigh_wv (D := D) (ro := ro) (wo := wo) (ws := ws) (u := u) hw
  rw [s1] at hwv
  have hT := fill_tb (be := be) (k0 := k0) hw h16 hk6 hwv
  -- the reference
  have hrow := rows_eq (ro := ro) (g := g) (va := va) hw
  have hR := cuts_sem (S := tS T i) (k0 := k0) (g := g) (va := K_m_lines (tS T i) g va) (bs := bs) (bm := bm) (bz := bz) hw hk6 (stretch_wv (D := D) (ro := ro) (g := g) (va := va) hw hD)
  have hrel := (line_rel hw hk6 hT hR k0 (Nat.le_refl _) 0 (Nat.zero_le _)).1
  have hcut := cut_run (S := tS T i) (n0 := (tS T i).1) (k0 := k0) (wo := (K_weigh (tS T i) D ro wo ws u).2.2.1) (ws := (K_weigh (tS T i) D ro wo ws u).2.2.2.1) (be := be) (sz := sz) (st := st) (fun j hj => (hT.2.1 j 0 hj (Nat.zero_le _)).1) _ rfl
  have hb0 := (hR k0 0 (Nat.le_refl _) (Nat.zero_le _)).1
  have wr1 : (K_weigh (tS T i) D ro wo ws u).2.1 = (K_putRow (tS T i) ro).2 := rfl
  have hK : K_cut (tS T i) (tS T i).1 k0 (K_weigh (tS T i) D ro wo ws u).2.2.1 (K_weigh (tS T i) D ro wo ws u).2.2.2.1 be sz st = (if (fo (F_cut_18 (tS T i) (tS T i).1 k0 (K_weigh (tS T i) D ro wo ws u).2.2.1 (K_weigh (tS T i) D ro wo ws u).2.2.2.1 be sz st) (k0 + 1) 0 ((-1 : Int32), 0)).1 = -1 then 0 else 1, (fo (F_cut_18 (tS T i) (tS T i).1 k0 (K_weigh (tS T i) D ro wo ws u).2.2.1 (K_weigh (tS T i) D ro wo ws u).2.2.2.1 be sz st) (k0 + 1) 0 ((-1 : Int32), 0)).2, (fo (F_cut_18 (tS T i) (tS T i).1 k0 (K_weigh (tS T i) D ro wo ws u).2.2.1 (K_weigh (tS T i) D ro wo ws u).2.2.2.1 be sz st) (k0 + 1) 0 ((-1 : Int32), 0)).1, K_fill (tS T i) (tS T i).1 k0 (K_weigh (tS T i) D ro wo ws u).2.2.1 be, (K_walk (tS T i) (tS T i).1 (fo (F_cut_18 (tS T i) (tS T i).1 k0 (K_weigh (tS T i) D ro wo ws u).2.2.1 (K_weigh (tS T i) D ro wo ws u).2.2.2.1 be sz st) (k0 + 1) 0 ((-1 : Int32), 0)).2 (K_weigh (tS T i) D ro wo ws u).2.2.1 (K_weigh (tS T i) D ro wo ws u).2.2.2.1 (K_fill (tS T i) (tS T i).1 k0 (K_weigh (tS T i) D ro wo ws u).2.2.1 be) sz st).1, (K_walk (tS T i) (tS T i).1 (fo (F_cut_18 (tS T i) (tS T i).1 k0 (K_weigh (tS T i) D ro wo ws u).2.2.1 (K_weigh (tS T i) D ro wo ws u).2.2.2.1 be sz st) (k0 + 1) 0 ((-1 : Int32), 0)).2 (K_weigh (tS T i) D ro wo ws u).2.2.1 (K_weigh (tS T i) D ro wo ws u).2.2.2.1 (K_fill (tS T i) (tS T i).1 k0 (K_weigh (tS T i) D ro wo ws u).2.2.1 be) sz st).2) := by
    unfold K_cut
    by_cases c : (fo (F_cut_18 (tS T i) (tS T i).1 k0 (K_weigh (tS T i) D ro wo ws u).2.2.1 (K_weigh (tS T i) D ro wo ws u).2.2.2.1 be sz st) (k0 + 1) 0 ((-1 : Int32), 0)).1 = -1
    · rw [if_pos c, if_pos c]
    · rw [if_neg c, if_neg c]
  have hG : ∀ k z, F_m_line_156 T i k0 w g va bs bm bz k z = (z.1 + ((K_m_cuts (tS T i) k0 g (K_m_lines (tS T i) g va) bs bm bz).2.2.2 (17 * z.2 + z.1)).toNatClampNeg, z.2 - 1) := fun _ _ => rfl
  unfold K_line K_m_line
  rw [s1, wr1, hK]
  dsimp only
  generalize fo (F_cut_18 (tS T i) (tS T i).1 k0 (K_weigh (tS T i) D ro wo ws u).2.2.1 (K_weigh (tS T i) D ro wo ws u).2.2.2.1 be sz st) (k0 + 1) 0 ((-1 : Int32), 0) = z at hcut ⊢
  generalize K_m_cuts (tS T i) k0 g (K_m_lines (tS T i) g va) bs bm bz = KC at hR hrel hb0 hG ⊢
  obtain ⟨hrA, hrB⟩ := hrel
  have hs17 : KC.2.1 (17 * k0) < 0 ↔ bsI KC.2.1 k0 0 < 0 := lt_toInt
  rcases hrB with hs | ⟨b1, b2, b3, b4⟩
  · have hz1 : z.1 = -1 := by
      rcases hcut with ⟨h, -⟩ | ⟨h1, h2, -⟩
      · exact h
      · have := hrA z.2 h1; omega
    rw [if_pos (by rw [if_pos hz1]), if_pos (hs17.mpr (by omega))]
  · have hcc : z.2 ≤ k0 ∧ z.1.toInt = bsI KC.2.1 k0 0 ∧ z.2 = bmN KC.2.2.1 k0 0 := by
      rcases hcut with ⟨-, -, h⟩ | ⟨h1, h2, h3, h4, h5⟩
      · have := h _ b2; omega
      · have q1 := hrA z.2 h1
        have q2 := h4 _ b2
        have q3 : z.1.toInt = tb (K_fill (tS T i) (tS T i).1 k0 (K_weigh (tS T i) D ro wo ws u).2.2.1 be) z.2 0 := by rw [h3]; rfl
        refine ⟨h1, by omega, ?_⟩
        rcases Nat.lt_trichotomy z.2 (bmN KC.2.2.1 k0 0) with e | e | e
        · have := b4 _ e; omega
        · exact e
        · have := h5 _ e; omega
    obtain ⟨c1, c2, c3⟩ := hcc
    have hzn : ¬ z.1 = -1 := fun e => by rw [e, show (-1 : Int32).toInt = -1 from by decide] at c2; omega
    have hm6 : z.2 ≤ 6 := by omega
    have hbm : KC.2.2.1 (17 * k0) = nI z.2 := by rw [c3]; exact hb0.1
    rw [if_neg (by rw [if_neg hzn]; decide), if_neg (fun h => by have := hs17.mp h; omega)]
    have hwr := (walk_rel (ws := (K_weigh (tS T i) D ro wo ws u).2.2.2.1) (sz := sz) (st := st) hw hk6 hwv hT hR b1 hG (bmN KC.2.2.1 k0 0) (Nat.le_refl _)).2.2
    rw [← c3] at hwr
    have hw1 : ∀ q, q < z.2 → (K_walk (tS T i) (tS T i).1 z.2 (K_weigh (tS T i) D ro wo ws u).2.2.1 (K_weigh (tS T i) D ro wo ws u).2.2.2.1 (K_fill (tS T i) (tS T i).1 k0 (K_weigh (tS T i) D ro wo ws u).2.2.1 be) sz st).1 q = _ := fun q hq => (hwr q hq).2.1
    have hw2 : ∀ q, q < z.2 → (K_walk (tS T i) (tS T i).1 z.2 (K_weigh (tS T i) D ro wo ws u).2.2.1 (K_weigh (tS T i) D ro wo ws u).2.2.2.1 (K_fill (tS T i) (tS T i).1 k0 (K_weigh (tS T i) D ro wo ws u).2.2.1 be) sz st).2 q = _ := fun q hq => (hwr q hq).2.2
    obtain ⟨t1, t2, t3, t4, t5, t6⟩ := toldL_at (n0 := (tS T i).1) (c0 := z.2) (lt := z.1) (ro := (K_putRow (tS T i) ro).2) (sz := (K_walk (tS T i) (tS T i).1 z.2 (K_weigh (tS T i) D ro wo ws u).2.2.1 (K_weigh (tS T i) D ro wo ws u).2.2.2.1 (K_fill (tS T i) (tS T i).1 k0 (K_weigh (tS T i) D ro wo ws u).2.2.1 be) sz st).1) (st := (K_walk (tS T i) (tS T i).1 z.2 (K_weigh (tS T i) D ro wo ws u).2.2.1 (K_weigh (tS T i) D ro wo ws u).2.2.2.1 (K_fill (tS T i) (tS T i).1 k0 (K_weigh (tS T i) D ro wo ws u).2.2.1 be) sz st).2) h16 hm6 w
    have e9 : (9 : Int32) + KC.2.2.1 (17 * k0) = nI (9 + z.2) := by rw [hbm, l9, nI_add]
    have e19 : (19 : Int32) + KC.2.2.1 (17 * k0) = nI (19 + z.2) := by rw [hbm, l19, nI_add]
    have e29 : (29 : Int32) + nI (tS T i).1 = nI (29 + (tS T i).1) := by rw [l29, nI_add]
    rw [e9, e19, e29]
    by_cases w0 : w = 0
    · rw [t1 w0, if_pos w0]
      exact Int32.toInt_inj.mp c2
    · by_cases w1 : w = 1
      · rw [t2 w1, if_neg w0, if_pos w1]
        exact hbm.symm
      · rw [if_neg w0, if_neg w1]
        by_cases d1 : ∃ q, q < z.2 ∧ w = nI (10 + q)
        · obtain ⟨q, q1, q2⟩ := d1
          have hwq : wq w = q := by
            unfold wq
            rw [q2, l10, pk_rem (by omega) (by omega) (by omega), nI_clamp (by omega)]
            omega
          rw [t3 q q1 q2, hw1 q q1, hwq, if_pos (K_in_lo (by rw [q2]; exact ltE (a := 10 + q) 30 l30 (by omega))), if_neg (K_in_ok (by rw [q2]; exact nltE (a := 10 + q) 10 l10 (by omega)) (by rw [q2]; exact n_nlt (by omega) (by omega))), if_pos (by rw [q2]; exact ltE (a := 10 + q) 20 l20 (by omega))]
        · by_cases d2 : ∃ q, q < z.2 ∧ w = nI (20 + q)
          · obtain ⟨q, q1, q2⟩ := d2
            have hwq : wq w = q := by
              unfold wq
              rw [q2, l10, pk_rem (by omega) (by omega) (by omega), nI_clamp (by omega)]
              omega
            have hv := (hwr q q1).1
            rw [t4 q q1 q2, hw2 q q1, hwq, if_pos (K_in_lo (by rw [q2]; exact ltE (a := 20 + q) 30 l30 (by omega))), if_pos (K_in_hi (by rw [q2]; exact n_lt (by omega) (by omega))), if_neg (K_in_ok (by rw [q2]; exact nltE (a := 20 + q) 20 l20 (by omega)) (by rw [q2]; exact n_nlt (by omega) (by omega))), if_neg (by rw [q2]; exact nltE (a := 20 + q) 20 l20 (by omega))]
            rw [(s2 _ _ hv).2]
            exact (stretch_eq (g := KC.1) hw hD hrow (rowN_inj hw) hv.2.2).2.symm
          · by_cases d3 : ∃ q, q < (tS T i).1 ∧ w = nI (30 + q)
            · obtain ⟨q, q1, q2⟩ := d3
              rw [t5 q q1 q2, if_neg (K_in_ok (by rw [q2]; exact nltE (a := 30 + q) 30 l30 (by omega)) (by rw [q2]; exact n_nlt (by omega) (by omega)))]
              have ewq : (w - 30).toNatClampNeg = q := by rw [q2, l30, pk_sub (by omega), nI_clamp (by omega)]; omega
              rw [ewq]
              show _ = K_m_lines (tS T i) g va q
              rw [(hrow q q1).1]
              exact ((rowN_eq (ro := ro) hw).1 q q1).1
            · rw [t6 w0 w1 (fun q a b => d1 ⟨q, a, b⟩) (fun q a b => d2 ⟨q, a, b⟩) (fun q a b => d3 ⟨q, a, b⟩)]
              have k30 : K_in w 30 (nI (29 + (tS T i).1)) = 0 := Classical.byContradiction (fun h => by
                obtain ⟨q, a, b, -⟩ := in_ix (A := 30) (n := (tS T i).1) h l30 (congrArg nI (by omega)) (by omega)
                exact d3 ⟨q, a, b⟩)
              have k10 : K_in w 10 (nI (9 + z.2)) = 0 := Classical.byContradiction (fun h => by
                obtain ⟨q, a, b, -⟩ := in_ix (A := 10) (n := z.2) h l10 (congrArg nI (by omega)) (by omega)
                exact d1 ⟨q, a, b⟩)
              have k20 : K_in w 20 (nI (19 + z.2)) = 0 := Classical.byContradiction (fun h => by
                obtain ⟨q, a, b, -⟩ := in_ix (A := 20) (n := z.2) h l20 (congrArg nI (by omega)) (by omega)
                exact d2 ⟨q, a, b⟩)
              rw [if_pos k30, if_pos k10, if_pos k20]
end
