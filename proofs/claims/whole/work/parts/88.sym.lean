/-! The line of a school (class): the cut and what is told of it (printed by sym.py). -/
noncomputable section
section
variable {Γ : ex_G} {σ : ex_S} {x q a p y : Nat} {S : Sch} {T : Tol} {P : Pln} {g A : Nat → Int32}
def F_cut_18 (S : Sch) (n0 k0 : Nat) (wo ws be sz st : Nat → Int32) : Nat → (Int32 × Nat) → (Int32 × Nat) := fun k z => if z.1 < ((K_fill S n0 k0 wo be) (k * 17)) then ((K_fill S n0 k0 wo be) (k * 17), k) else (z.1, z.2)
theorem cut_run {S : Sch} {n0 k0 : Nat} {wo ws be sz st : Nat → Int32} (hT : ∀ j, j ≤ k0 → -1 ≤ tb (K_fill S n0 k0 wo be) j 0) : ∀ z, z = fo (F_cut_18 S n0 k0 wo ws be sz st) (k0 + 1) 0 ((-1 : Int32), 0) → (z.1 = -1 ∧ z.2 = 0 ∧ ∀ j, j ≤ k0 → tb (K_fill S n0 k0 wo be) j 0 = -1) ∨ (z.2 ≤ k0 ∧ 0 ≤ tb (K_fill S n0 k0 wo be) z.2 0 ∧ z.1 = K_fill S n0 k0 wo be (z.2 * 17) ∧ (∀ j, j ≤ k0 → tb (K_fill S n0 k0 wo be) j 0 ≤ tb (K_fill S n0 k0 wo be) z.2 0) ∧ ∀ j, j < z.2 → tb (K_fill S n0 k0 wo be) j 0 < tb (K_fill S n0 k0 wo be) z.2 0) := by
  intro z hz
  have m1 : (-1 : Int32).toInt = -1 := by decide
  have tbe : ∀ j, (K_fill S n0 k0 wo be (j * 17)).toInt = tb (K_fill S n0 k0 wo be) j 0 := fun j => rfl
  have h := fo_inv (F := F_cut_18 S n0 k0 wo ws be sz st) (fun i z => (z.1 = -1 ∧ z.2 = 0 ∧ ∀ j, j < i → tb (K_fill S n0 k0 wo be) j 0 = -1) ∨ (z.2 < i ∧ 0 ≤ tb (K_fill S n0 k0 wo be) z.2 0 ∧ z.1 = K_fill S n0 k0 wo be (z.2 * 17) ∧ (∀ j, j < i → tb (K_fill S n0 k0 wo be) j 0 ≤ tb (K_fill S n0 k0 wo be) z.2 0) ∧ ∀ j, j < z.2 → tb (K_fill S n0 k0 wo be) j 0 < tb (K_fill S n0 k0 wo be) z.2 0)) (k0 + 1) 0 ((-1 : Int32), 0) (Or.inl ⟨rfl, rfl, fun j h => absurd h (Nat.not_lt_zero _)⟩) (fun i z _ hi hz => by
    have hb := hT i (by omega)
    unfold F_cut_18
    have hlt : z.1 < K_fill S n0 k0 wo be (i * 17) ↔ z.1.toInt < tb (K_fill S n0 k0 wo be) i 0 := lt_toInt
    by_cases c : z.1.toInt < tb (K_fill S n0 k0 wo be) i 0
    · rw [if_pos (hlt.mpr c)]
      right
      rcases hz with ⟨z1, z2, z3⟩ | ⟨z1, z2, z3, z4, z5⟩
      · rw [z1, m1] at c
        refine ⟨by show i < i + 1; omega, by show 0 ≤ tb (K_fill S n0 k0 wo be) i 0; omega, rfl, fun j hj => ?_, fun j hj => ?_⟩
        · by_cases e : j = i
          · subst e; exact Int.le_refl _
          · rw [z3 j (by omega)]; omega
        · rw [z3 j hj]; show -1 < tb (K_fill S n0 k0 wo be) i 0; omega
      · rw [z3, tbe] at c
        refine ⟨by show i < i + 1; omega, by show 0 ≤ tb (K_fill S n0 k0 wo be) i 0; omega, rfl, fun j hj => ?_, fun j hj => ?_⟩
        · show tb (K_fill S n0 k0 wo be) j 0 ≤ tb (K_fill S n0 k0 wo be) i 0
          by_cases e : j = i
          · subst e; exact Int.le_refl _
          · have := z4 j (by omega); omega
        · show tb (K_fill S n0 k0 wo be) j 0 < tb (K_fill S n0 k0 wo be) i 0
          have hj : j < i := hj
          have := z4 j hj; omega
    · rw [if_neg (fun h => c (hlt.mp h))]
      rcases hz with ⟨z1, z2, z3⟩ | ⟨z1, z2, z3, z4, z5⟩
      · left
        rw [z1, m1] at c
        refine ⟨z1, z2, fun j hj => ?_⟩
        by_cases e : j = i
        · subst e; omega
        · exact z3 j (by omega)
      · right
        rw [z3, tbe] at c
        refine ⟨by show z.2 < i + 1; omega, z2, z3, fun j hj => ?_, z5⟩
        by_cases e : j = i
        · subst e; show tb (K_fill S n0 k0 wo be) j 0 ≤ tb (K_fill S n0 k0 wo be) z.2 0; omega
        · exact z4 j (by omega))
  rw [Nat.zero_add, ← hz] at h
  rcases h with ⟨h1, h2, h3⟩ | ⟨h1, h2, h3, h4, h5⟩
  · exact Or.inl ⟨h1, h2, fun j hj => h3 j (by omega)⟩
  · exact Or.inr ⟨by omega, h2, h3, fun j hj => h4 j (by omega), h5⟩
theorem cut_c {S : Sch} {n0 k0 : Nat} {wo ws be sz st : Nat → Int32} (hT : ∀ j, j ≤ k0 → -1 ≤ tb (K_fill S n0 k0 wo be) j 0) : (fo (F_cut_18 S n0 k0 wo ws be sz st) (k0 + 1) 0 ((-1 : Int32), 0)).2 ≤ k0 ∧ ((fo (F_cut_18 S n0 k0 wo ws be sz st) (k0 + 1) 0 ((-1 : Int32), 0)).2 = 0 ∨ 0 ≤ tb (K_fill S n0 k0 wo be) (fo (F_cut_18 S n0 k0 wo ws be sz st) (k0 + 1) 0 ((-1 : Int32), 0)).2 0) := by
  rcases cut_run (ws := ws) (sz := sz) (st := st) hT _ rfl with ⟨-, h, -⟩ | ⟨h1, h2, -⟩
  · exact ⟨by omega, Or.inl h⟩
  · exact ⟨h1, Or.inr h2⟩
def K_cut (S : Sch) (n0 k0 : Nat) (wo ws be sz st : Nat → Int32) : Int32 × Nat × Int32 × (Nat → Int32) × (Nat → Int32) × (Nat → Int32) := if ((fo (F_cut_18 S n0 k0 wo ws be sz st) (k0 + 1) 0 ((-1 : Int32), 0)).1) = (-1 : Int32) then ((0 : Int32), (fo (F_cut_18 S n0 k0 wo ws be sz st) (k0 + 1) 0 ((-1 : Int32), 0)).2, (fo (F_cut_18 S n0 k0 wo ws be sz st) (k0 + 1) 0 ((-1 : Int32), 0)).1, (K_fill S n0 k0 wo be), (K_walk S n0 ((fo (F_cut_18 S n0 k0 wo ws be sz st) (k0 + 1) 0 ((-1 : Int32), 0)).2) wo ws (K_fill S n0 k0 wo be) sz st).1, (K_walk S n0 ((fo (F_cut_18 S n0 k0 wo ws be sz st) (k0 + 1) 0 ((-1 : Int32), 0)).2) wo ws (K_fill S n0 k0 wo be) sz st).2) else ((1 : Int32), (fo (F_cut_18 S n0 k0 wo ws be sz st) (k0 + 1) 0 ((-1 : Int32), 0)).2, (fo (F_cut_18 S n0 k0 wo ws be sz st) (k0 + 1) 0 ((-1 : Int32), 0)).1, (K_fill S n0 k0 wo be), (K_walk S n0 ((fo (F_cut_18 S n0 k0 wo ws be sz st) (k0 + 1) 0 ((-1 : Int32), 0)).2) wo ws (K_fill S n0 k0 wo be) sz st).1, (K_walk S n0 ((fo (F_cut_18 S n0 k0 wo ws be sz st) (k0 + 1) 0 ((-1 : Int32), 0)).2) wo ws (K_fill S n0 k0 wo be) sz st).2)
theorem cut_ok {n0 c0 : Nat} {lt u : Int32} {D : Les} {ro wo ws be sz st : Nat → Int32} (hln : σ.2 (q) = some (.inr (.inr (6, [.ref (q + 1), .ref (q + 2), .ref (q + 3), .ref (q + 4), .ref (q + 5), .ref (q + 6), .ref (q + 7), .int (nI n0), .int (nI c0), .int lt])))) (h_row : σ.2 (q + 1) = some (.inl (0, 16, ro))) (h_worth : σ.2 (q + 2) = some (.inl (0, 272, wo))) (h_wst : σ.2 (q + 3) = some (.inl (0, 272, ws))) (h_best : σ.2 (q + 4) = some (.inl (0, 119, be))) (h_sizes : σ.2 (q + 5) = some (.inl (0, 6, sz))) (h_stp : σ.2 (q + 6) = some (.inl (0, 6, st))) (htr : isL σ (q + 7) (L_set D 3 u)) (hD : D 0 = 0) (hS0 : isS σ a S) (hwS : wS S) (haq : a + 11 ≤ q) (hn0 : n0 ≤ 16) {k0 : Nat} (hk1 : 1 ≤ k0) (hk6 : k0 ≤ 6) {wv : Nat → Nat → Nat} (hwo : ∀ f n, vld S n0 f n → wo (f * 17 + n) = nI (wv f n) ∧ wv f n ≤ 5049) : RetX Γ m_Line_cut [(.ref q), (.ref a), (.int (nI k0))] σ q (q + 8) (some (.int ((K_cut S n0 k0 wo ws be sz st).1))) (fun τ => τ.2 q = some (.inr (.inr (6, [(.ref (q + 1)), (.ref (q + 2)), (.ref (q + 3)), (.ref (q + 4)), (.ref (q + 5)), (.ref (q + 6)), (.ref (q + 7)), (.int (nI n0)), (.int (nI ((K_cut S n0 k0 wo ws be sz st).2.1))), (.int ((K_cut S n0 k0 wo ws be sz st).2.2.1))]))) ∧ τ.2 (q + 4) = some (.inl (0, 119, (K_cut S n0 k0 wo ws be sz st).2.2.2.1)) ∧ τ.2 (q + 5) = some (.inl (0, 6, (K_cut S n0 k0 wo ws be sz st).2.2.2.2.1)) ∧ τ.2 (q + 6) = some (.inl (0, 6, (K_cut S n0 k0 wo ws be sz st).2.2.2.2.2)) ∧ τ.2 (q + 1) = some (.inl (0, 16, ro)) ∧ τ.2 (q + 2) = some (.inl (0, 272, wo)) ∧ τ.2 (q + 3) = some (.inl (0, 272, ws)) ∧ isL τ (q + 7) (L_set D 3 u)) := by
  obtain ⟨hle, hle1, hle2⟩ := le_cl hwS
  obtain ⟨hmo, hmo1, hmo2, hlm⟩ := mo_cl hwS
  have hn := hwS.1
  have hn5 := hwS.2.1
  unfold RetX
  generalize hQ : (fun (r : Option Value) (τ : ex_S) => r = some (.int ((K_cut S n0 k0 wo ws be sz st).1)) ∧ frm σ τ q (q + 8) ∧ (fun τ : ex_S => τ.2 q = some (.inr (.inr (6, [(.ref (q + 1)), (.ref (q + 2)), (.ref (q + 3)), (.ref (q + 4)), (.ref (q + 5)), (.ref (q + 6)), (.ref (q + 7)), (.int (nI n0)), (.int (nI ((K_cut S n0 k0 wo ws be sz st).2.1))), (.int ((K_cut S n0 k0 wo ws be sz st).2.2.1))]))) ∧ τ.2 (q + 4) = some (.inl (0, 119, (K_cut S n0 k0 wo ws be sz st).2.2.2.1)) ∧ τ.2 (q + 5) = some (.inl (0, 6, (K_cut S n0 k0 wo ws be sz st).2.2.2.2.1)) ∧ τ.2 (q + 6) = some (.inl (0, 6, (K_cut S n0 k0 wo ws be sz st).2.2.2.2.2)) ∧ τ.2 (q + 1) = some (.inl (0, 16, ro)) ∧ τ.2 (q + 2) = some (.inl (0, 272, wo)) ∧ τ.2 (q + 3) = some (.inl (0, 272, ws)) ∧ isL τ (q + 7) (L_set D 3 u)) τ) = Q
  refine Ret.start pm_132 rfl ?_
  have fr : frm σ σ q (q + 8) := frm.rf
  have hS := hS0.frm fr (by omega)
  obtain ⟨h0, h1, h2, h3, h4, h5, h6', h7, h8, h9, h10⟩ := id hS
  refine Ev.aload_n rfl rfl ?_
  refine Ev.aload_n rfl rfl ?_
  refine Ev.iload_n rfl rfl ?_
  refine Ev.xV2u rfl rfl hln rfl rfl (by decide) ⟨(Nat.le_refl _), (Nat.le_refl _)⟩ (fill_ok hln h_row h_worth h_wst h_best h_sizes h_stp htr hD hS hwS (by omega) hn0 hk1 hk6) (fun τ1 f1 q1 => ?_)
  obtain ⟨h_best, hln, h_row, h_worth, h_wst, h_sizes, h_stp, htr⟩ := q1
  have fr := fr.step f1 (by omega) (by omega)
  have hS := hS0.frm fr (by omega)
  obtain ⟨h0, h1, h2, h3, h4, h5, h6', h7, h8, h9, h10⟩ := id hS
  have hTB := fill_tb (be := be) hwS hn0 hk6 hwo
  refine Ev.aload_n rfl rfl ?_
  refine Ev.iconst (v := 0) rfl (by decide) ?_
  refine Ev.putE rfl rfl hln rfl rfl rfl (Nat.le_of_ble_eq_true rfl) (fun τ2 f1 hln => ?_)
  replace hln : τ2.2 q = some (.inr (.inr (6, [(.ref (q + 1)), (.ref (q + 2)), (.ref (q + 3)), (.ref (q + 4)), (.ref (q + 5)), (.ref (q + 6)), (.ref (q + 7)), (.int (nI n0)), (.int (0 : Int32)), (.int lt)]))) := hln
  have h_row := frm.cell f1 h_row (by omega)
  have h_worth := frm.cell f1 h_worth (by omega)
  have h_wst := frm.cell f1 h_wst (by omega)
  have h_best := frm.cell f1 h_best (by omega)
  have h_sizes := frm.cell f1 h_sizes (by omega)
  have h_stp := frm.cell f1 h_stp (by omega)
  have htr := isL.frm htr f1 (by omega)
  have fr := fr.step f1 (by omega) (by omega)
  have hS := hS0.frm fr (by omega)
  obtain ⟨h0, h1, h2, h3, h4, h5, h6', h7, h8, h9, h10⟩ := id hS
  refine Ev.aload_n rfl rfl ?_
  refine Ev.iconst (v := (-1)) rfl (by decide) ?_
  refine Ev.putE rfl rfl hln rfl rfl rfl (Nat.le_of_ble_eq_true rfl) (fun τ3 f1 hln => ?_)
  replace hln : τ3.2 q = some (.inr (.inr (6, [(.ref (q + 1)), (.ref (q + 2)), (.ref (q + 3)), (.ref (q + 4)), (.ref (q + 5)), (.ref (q + 6)), (.ref (q + 7)), (.int (nI n0)), (.int (0 : Int32)), (.int (-1 : Int32))]))) := hln
  have h_row := frm.cell f1 h_row (by omega)
  have h_worth := frm.cell f1 h_worth (by omega)
  have h_wst := frm.cell f1 h_wst (by omega)
  have h_best := frm.cell f1 h_best (by omega)
  have h_sizes := frm.cell f1 h_sizes (by omega)
  have h_stp := frm.cell f1 h_stp (by omega)
  have htr := isL.frm htr f1 (by omega)
  have fr := fr.step f1 (by omega) (by omega)
  have hS := hS0.frm fr (by omega)
  obtain ⟨h0, h1, h2, h3, h4, h5, h6', h7, h8, h9, h10⟩ := id hS
  refine Ev.iconst (v := 0) rfl (by decide) ?_
  refine Ev.istore_n rfl rfl rfl ?_
  refine Ev.fg (L := [some (.ref q), some (.ref a), some (.int (nI k0)), some (.int (nI 0))]) ?_ (gs rfl (gs rfl (gs rfl (gs (congrArg Value.int (rfl : (0 : Int32) = nI 0).symm) gz))))
  refine lp (fun (k : Nat) (z : Int32 × Nat) => ∀ τ' : ex_S, frm σ τ' q (q + 8) → τ'.2 q = some (.inr (.inr (6, [(.ref (q + 1)), (.ref (q + 2)), (.ref (q + 3)), (.ref (q + 4)), (.ref (q + 5)), (.ref (q + 6)), (.ref (q + 7)), (.int (nI n0)), (.int (nI z.2)), (.int z.1)]))) → τ'.2 (q + 1) = some (.inl (0, 16, ro)) → τ'.2 (q + 2) = some (.inl (0, 272, wo)) → τ'.2 (q + 3) = some (.inl (0, 272, ws)) → τ'.2 (q + 4) = some (.inl (0, 119, (K_fill S n0 k0 wo be))) → τ'.2 (q + 5) = some (.inl (0, 6, sz)) → τ'.2 (q + 6) = some (.inl (0, 6, st)) → isL τ' (q + 7) (L_set D 3 u) → Ev Γ 0 0 m_Line_cut 0 0 18 [some (.ref q), some (.ref a), some (.int (nI k0)), some (.int (nI k))] [] τ' Q) (F_cut_18 S n0 k0 wo ws be sz st) (k0 + 1) (fun k z hk hx => ?_) (k0 + 1) 0 ((-1 : Int32), 0) (by omega) ?_ τ3 fr hln h_row h_worth h_wst h_best h_sizes h_stp htr
  · skip
    intro τ' fr hln h_row h_worth h_wst h_best h_sizes h_stp htr
    have hS := hS0.frm fr (by omega)
    obtain ⟨h0, h1, h2, h3, h4, h5, h6', h7, h8, h9, h10⟩ := id hS
    refine Ev.iload_n rfl rfl ?_
    refine Ev.iload_n rfl rfl ?_
    refine Ev.jgt (tgt := 69) rfl (by decide) (fun c20 => absurd c20 (nI_nlt (by omega) (by omega))) (fun c20 => ?_)
    refine Ev.iload_n rfl rfl ?_
    refine Ev.bipush (v := 6) rfl (by decide) ?_
    refine Ev.jgt (tgt := 69) rfl (by decide) (fun c26 => absurd c26 (nI_nlt (a := 6) (by omega) (by omega))) (fun c26 => ?_)
    refine Ev.aload_n rfl rfl ?_
    refine Ev.getf rfl rfl hln rfl ?_
    refine Ev.iload_n rfl rfl ?_
    refine Ev.bipush (v := 17) rfl (by decide) ?_
    refine Ev.imul rfl ?_
    refine Ev.ialdN (k := k * 17) rfl h_best (nq_mul (a := k) (b := 17) rfl (rfl : (17 : Int32) = nI 17)) ⟨(by omega), by decide⟩ ?_
    refine Ev.aload_n rfl rfl ?_
    refine Ev.getf rfl rfl hln rfl ?_
    refine Ev.jle (tgt := 63) rfl (by decide) (fun c42 => ?_) (fun c42 => ?_)
    · skip
      refine Ev.iinc (d := 1) rfl rfl rfl (by decide) rfl ?_
      refine Ev.goto (tgt := 18) rfl (by decide) ?_
      have hF : (F_cut_18 S n0 k0 wo ws be sz st) k z = (z.1, z.2) := by
        unfold F_cut_18
        rw [if_neg c42]
      rw [hF] at hx
      exact (hx τ' fr hln h_row h_worth h_wst h_best h_sizes h_stp htr).fg (gs rfl (gs rfl (gs rfl (gs (congrArg Value.int (show nI (k + 1) = (nI k) + (1 : Int32) from (nq_to (a := k + 1) (nq_add (a := k) (b := 1) rfl (rfl : (1 : Int32) = nI 1)) (by omega)).symm)) gz))))
    · skip
      refine Ev.aload_n rfl rfl ?_
      refine Ev.aload_n rfl rfl ?_
      refine Ev.getf rfl rfl hln rfl ?_
      refine Ev.iload_n rfl rfl ?_
      refine Ev.bipush (v := 17) rfl (by decide) ?_
      refine Ev.imul rfl ?_
      refine Ev.ialdN (k := k * 17) rfl h_best (nq_mul (a := k) (b := 17) rfl (rfl : (17 : Int32) = nI 17)) ⟨(by omega), by decide⟩ ?_
      refine Ev.putE rfl rfl hln rfl rfl rfl (Nat.le_of_ble_eq_true rfl) (fun τ4 f1 hln => ?_)
      replace hln : τ4.2 q = some (.inr (.inr (6, [(.ref (q + 1)), (.ref (q + 2)), (.ref (q + 3)), (.ref (q + 4)), (.ref (q + 5)), (.ref (q + 6)), (.ref (q + 7)), (.int (nI n0)), (.int (nI z.2)), (.int ((K_fill S n0 k0 wo be) (k * 17)))]))) := hln
      have h_row := frm.cell f1 h_row (by omega)
      have h_worth := frm.cell f1 h_worth (by omega)
      have h_wst := frm.cell f1 h_wst (by omega)
      have h_best := frm.cell f1 h_best (by omega)
      have h_sizes := frm.cell f1 h_sizes (by omega)
      have h_stp := frm.cell f1 h_stp (by omega)
      have htr := isL.frm htr f1 (by omega)
      have fr := fr.step f1 (by omega) (by omega)
      have hS := hS0.frm fr (by omega)
      obtain ⟨h0, h1, h2, h3, h4, h5, h6', h7, h8, h9, h10⟩ := id hS
      refine Ev.aload_n rfl rfl ?_
      refine Ev.iload_n rfl rfl ?_
      refine Ev.putE rfl rfl hln rfl rfl rfl (Nat.le_of_ble_eq_true rfl) (fun τ5 f1 hln => ?_)
      replace hln : τ5.2 q = some (.inr (.inr (6, [(.ref (q + 1)), (.ref (q + 2)), (.ref (q + 3)), (.ref (q + 4)), (.ref (q + 5)), (.ref (q + 6)), (.ref (q + 7)), (.int (nI n0)), (.int (nI k)), (.int ((K_fill S n0 k0 wo be) (k * 17)))]))) := hln
      have h_row := frm.cell f1 h_row (by omega)
      have h_worth := frm.cell f1 h_worth (by omega)
      have h_wst := frm.cell f1 h_wst (by omega)
      have h_best := frm.cell f1 h_best (by omega)
      have h_sizes := frm.cell f1 h_sizes (by omega)
      have h_stp := frm.cell f1 h_stp (by omega)
      have htr := isL.frm htr f1 (by omega)
      have fr := fr.step f1 (by omega) (by omega)
      have hS := hS0.frm fr (by omega)
      obtain ⟨h0, h1, h2, h3, h4, h5, h6', h7, h8, h9, h10⟩ := id hS
      refine Ev.iinc (d := 1) rfl rfl rfl (by decide) rfl ?_
      refine Ev.goto (tgt := 18) rfl (by decide) ?_
      have hF : (F_cut_18 S n0 k0 wo ws be sz st) k z = ((K_fill S n0 k0 wo be) (k * 17), k) := by
        unfold F_cut_18
        rw [if_pos c42]
      rw [hF] at hx
      exact (hx τ5 fr hln h_row h_worth h_wst h_best h_sizes h_stp htr).fg (gs rfl (gs rfl (gs rfl (gs (congrArg Value.int (show nI (k + 1) = (nI k) + (1 : Int32) from (nq_to (a := k + 1) (nq_add (a := k) (b := 1) rfl (rfl : (1 : Int32) = nI 1)) (by omega)).symm)) gz))))
  · skip
    intro τ' fr hln h_row h_worth h_wst h_best h_sizes h_stp htr
    have hS := hS0.frm fr (by omega)
    obtain ⟨h0, h1, h2, h3, h4, h5, h6', h7, h8, h9, h10⟩ := id hS
    refine Ev.iload_n rfl rfl ?_
    refine Ev.iload_n rfl rfl ?_
    refine Ev.jgt (tgt := 69) rfl (by decide) (fun c20 => ?_) (fun c20 => absurd (nI_lt (by omega) (by omega)) c20)
    obtain ⟨hcc, hc0⟩ := cut_c (S := S) (n0 := n0) (k0 := k0) (wo := wo) (ws := ws) (be := be) (sz := sz) (st := st) (fun j hj => (hTB.2.1 j 0 hj (Nat.zero_le _)).1)
    have hcc2 := Nat.le_trans hcc hk6
    refine Ev.aload_n rfl rfl ?_
    refine Ev.aload_n rfl rfl ?_
    refine Ev.xV1u rfl rfl hln rfl rfl (by decide) ⟨(Nat.le_refl _), (Nat.le_refl _)⟩ (walk_ok hln h_row h_worth h_wst h_best h_sizes h_stp htr hD hS hwS (by omega) hn0 hcc2 (walkP_of hk6 hcc hwo hTB hc0)) (fun τ6 f1 q1 => ?_)
    obtain ⟨h_sizes, h_stp, hln, h_row, h_worth, h_wst, h_best, htr⟩ := q1
    have fr := fr.step f1 (by omega) (by omega)
    have hS := hS0.frm fr (by omega)
    obtain ⟨h0, h1, h2, h3, h4, h5, h6', h7, h8, h9, h10⟩ := id hS
    refine Ev.aload_n rfl rfl ?_
    refine Ev.getf rfl rfl hln rfl ?_
    refine Ev.iconst (v := (-1)) rfl (by decide) ?_
    refine Ev.jeq (tgt := 86) rfl (by decide) (fun c79 => ?_) (fun c79 => ?_)
    · skip
      refine Ev.iconst (v := 0) rfl (by decide) ?_
      refine Ev.iret (ty := .boolean) rfl rfl rfl (Nat.le_refl _) (Nat.le_refl _) ?_
      have hK : (K_cut S n0 k0 wo ws be sz st) = ((0 : Int32), (fo (F_cut_18 S n0 k0 wo ws be sz st) (k0 + 1) 0 ((-1 : Int32), 0)).2, (fo (F_cut_18 S n0 k0 wo ws be sz st) (k0 + 1) 0 ((-1 : Int32), 0)).1, (K_fill S n0 k0 wo be), (K_walk S n0 ((fo (F_cut_18 S n0 k0 wo ws be sz st) (k0 + 1) 0 ((-1 : Int32), 0)).2) wo ws (K_fill S n0 k0 wo be) sz st).1, (K_walk S n0 ((fo (F_cut_18 S n0 k0 wo ws be sz st) (k0 + 1) 0 ((-1 : Int32), 0)).2) wo ws (K_fill S n0 k0 wo be) sz st).2) := by
        unfold K_cut
        rw [if_pos c79]
      rw [← hQ]
      dsimp only
      rw [hK]
      exact ⟨rfl, fr, hln, h_best, h_sizes, h_stp, h_row, h_worth, h_wst, htr⟩
    · skip
      refine Ev.iconst (v := 1) rfl (by decide) ?_
      refine Ev.goto (tgt := 87) rfl (by decide) ?_
      refine Ev.iret (ty := .boolean) rfl rfl rfl (Nat.le_refl _) (Nat.le_refl _) ?_
      have hK : (K_cut S n0 k0 wo ws be sz st) = ((1 : Int32), (fo (F_cut_18 S n0 k0 wo ws be sz st) (k0 + 1) 0 ((-1 : Int32), 0)).2, (fo (F_cut_18 S n0 k0 wo ws be sz st) (k0 + 1) 0 ((-1 : Int32), 0)).1, (K_fill S n0 k0 wo be), (K_walk S n0 ((fo (F_cut_18 S n0 k0 wo ws be sz st) (k0 + 1) 0 ((-1 : Int32), 0)).2) wo ws (K_fill S n0 k0 wo be) sz st).1, (K_walk S n0 ((fo (F_cut_18 S n0 k0 wo ws be sz st) (k0 + 1) 0 ((-1 : Int32), 0)).2) wo ws (K_fill S n0 k0 wo be) sz st).2) := by
        unfold K_cut
        rw [if_neg c79]
      rw [← hQ]
      dsimp only
      rw [hK]
      exact ⟨rfl, fr, hln, h_best, h_sizes, h_stp, h_row, h_worth, h_wst, htr⟩
theorem cut_le {S : Sch} {n0 k0 : Nat} {wo ws be sz st : Nat → Int32} {wv : Nat → Nat → Nat} (hn0 : n0 ≤ 16) (hwS : wS S) (hk1 : 1 ≤ k0) (hk6 : k0 ≤ 6) (hwo : ∀ f n, vld S n0 f n → wo (f * 17 + n) = nI (wv f n) ∧ wv f n ≤ 5049) : (K_cut S n0 k0 wo ws be sz st).2.1 ≤ 6 := by
  have hTB := fill_tb (be := be) hwS hn0 hk6 hwo
  have h := (cut_c (S := S) (n0 := n0) (k0 := k0) (wo := wo) (ws := ws) (be := be) (sz := sz) (st := st) (fun j hj => (hTB.2.1 j 0 hj (Nat.zero_le _)).1)).1
  unfold K_cut
  split <;> exact Nat.le_trans h hk6
def K_toldL (n0 c0 : Nat) (lt : Int32) (ro sz st : Nat → Int32) (w : Int32) : Int32 := if w = (0 : Int32) then lt else (if w = (1 : Int32) then (nI c0) else (if w < (10 : Int32) then (if w < (20 : Int32) then (if w < (30 : Int32) then (-1 : Int32) else (if w < ((30 : Int32) + (nI n0)) then (ro (w - 30).toNatClampNeg) else (-1 : Int32))) else (if w < ((20 : Int32) + (nI c0)) then (st (w - 20).toNatClampNeg) else (if w < (30 : Int32) then (-1 : Int32) else (if w < ((30 : Int32) + (nI n0)) then (ro (w - 30).toNatClampNeg) else (-1 : Int32))))) else (if w < ((10 : Int32) + (nI c0)) then (sz (w - 10).toNatClampNeg) else (if w < (20 : Int32) then (if w < (30 : Int32) then (-1 : Int32) else (if w < ((30 : Int32) + (nI n0)) then (ro (w - 30).toNatClampNeg) else (-1 : Int32))) else (if w < ((20 : Int32) + (nI c0)) then (st (w - 20).toNatClampNeg) else (if w < (30 : Int32) then (-1 : Int32) else (if w < ((30 : Int32) + (nI n0)) then (ro (w - 30).toNatClampNeg) else (-1 : Int32))))))))
theorem told_ln {n0 c0 : Nat} {lt u : Int32} {D : Les} {ro wo ws be sz st : Nat → Int32} (hln : σ.2 (q) = some (.inr (.inr (6, [.ref (q + 1), .ref (q + 2), .ref (q + 3), .ref (q + 4), .ref (q + 5), .ref (q + 6), .ref (q + 7), .int (nI n0), .int (nI c0), .int lt])))) (h_row : σ.2 (q + 1) = some (.inl (0, 16, ro))) (h_worth : σ.2 (q + 2) = some (.inl (0, 272, wo))) (h_wst : σ.2 (q + 3) = some (.inl (0, 272, ws))) (h_best : σ.2 (q + 4) = some (.inl (0, 119, be))) (h_sizes : σ.2 (q + 5) = some (.inl (0, 6, sz))) (h_stp : σ.2 (q + 6) = some (.inl (0, 6, st))) (htr : isL σ (q + 7) (L_set D 3 u)) (hD : D 0 = 0) (hn0 : n0 ≤ 16) (hc0 : c0 ≤ 6) (w : Int32) : RetV Γ m_Line_told [(.ref q), (.int w)] σ (.int (K_toldL n0 c0 lt ro sz st w)) := by
  unfold RetV
  generalize hQ : (fun (r : Option Value) (σ' : ex_S) => r = some ((.int (K_toldL n0 c0 lt ro sz st w)) : Value) ∧ σ' = σ) = Q
  refine Ret.start pm_133 rfl ?_
  refine Ev.iload_n rfl rfl ?_
  refine Ev.zne (tgt := 9) rfl (by decide) (fun c1 => ?_) (fun c1 => ?_)
  · skip
    refine Ev.iload_n rfl rfl ?_
    refine Ev.iconst (v := 1) rfl (by decide) ?_
    refine Ev.jne (tgt := 19) rfl (by decide) (fun c11 => ?_) (fun c11 => ?_)
    · skip
      refine Ev.iload_n rfl rfl ?_
      refine Ev.bipush (v := 10) rfl (by decide) ?_
      refine Ev.jlt (tgt := 46) rfl (by decide) (fun c22 => ?_) (fun c22 => ?_)
      · skip
        refine Ev.iload_n rfl rfl ?_
        refine Ev.bipush (v := 20) rfl (by decide) ?_
        refine Ev.jlt (tgt := 73) rfl (by decide) (fun c49 => ?_) (fun c49 => ?_)
        · skip
          refine Ev.iload_n rfl rfl ?_
          refine Ev.bipush (v := 30) rfl (by decide) ?_
          refine Ev.jlt (tgt := 102) rfl (by decide) (fun c76 => ?_) (fun c76 => ?_)
          · skip
            refine Ev.iconst (v := (-1)) rfl (by decide) ?_
            refine Ev.iret (ty := .int) rfl rfl rfl (Nat.le_refl _) (Nat.le_refl _) ?_
            rw [← hQ]
            refine ⟨congrArg (fun v => some (Value.int v)) (Eq.symm ?_), rfl⟩
            unfold K_toldL
            rw [if_neg c1]
            rw [if_neg c11]
            rw [if_pos c22]
            rw [if_pos c49]
            rw [if_pos c76]
          · skip
            refine Ev.iload_n rfl rfl ?_
            refine Ev.bipush (v := 30) rfl (by decide) ?_
            refine Ev.aload_n rfl rfl ?_
            refine Ev.getf rfl rfl hln rfl ?_
            refine Ev.iadd rfl ?_
            refine Ev.jge (tgt := 102) rfl (by decide) (fun c87 => ?_) (fun c87 => ?_)
            · skip
              refine Ev.iconst (v := (-1)) rfl (by decide) ?_
              refine Ev.iret (ty := .int) rfl rfl rfl (Nat.le_refl _) (Nat.le_refl _) ?_
              rw [← hQ]
              refine ⟨congrArg (fun v => some (Value.int v)) (Eq.symm ?_), rfl⟩
              unfold K_toldL
              rw [if_neg c1]
              rw [if_neg c11]
              rw [if_pos c22]
              rw [if_pos c49]
              rw [if_neg c76]
              rw [if_neg c87]
            · skip
              refine Ev.aload_n rfl rfl ?_
              refine Ev.getf rfl rfl hln rfl ?_
              refine Ev.iload_n rfl rfl ?_
              refine Ev.bipush (v := 30) rfl (by decide) ?_
              refine Ev.isub rfl ?_
              obtain ⟨kk, hkk, -, ekk⟩ := ix_vp (A := 30) (n := n0) c76 c87 rfl (nq_add (a := 30) rfl rfl) (by omega)
              rw [ekk]
              refine Ev.ialdN (k := kk) rfl h_row rfl ⟨(by omega), by decide⟩ ?_
              rw [show kk = (w - 30).toNatClampNeg from by rw [ekk, nI_clamp (by omega)]]
              refine Ev.goto (tgt := 103) rfl (by decide) ?_
              refine Ev.iret (ty := .int) rfl rfl rfl (Nat.le_refl _) (Nat.le_refl _) ?_
              rw [← hQ]
              refine ⟨congrArg (fun v => some (Value.int v)) (Eq.symm ?_), rfl⟩
              unfold K_toldL
              rw [if_neg c1]
              rw [if_neg c11]
              rw [if_pos c22]
              rw [if_pos c49]
              rw [if_neg c76]
              rw [if_pos c87]
        · skip
          refine Ev.iload_n rfl rfl ?_
          refine Ev.bipush (v := 20) rfl (by decide) ?_
          refine Ev.aload_n rfl rfl ?_
          refine Ev.getf rfl rfl hln rfl ?_
          refine Ev.iadd rfl ?_
          refine Ev.jge (tgt := 73) rfl (by decide) (fun c60 => ?_) (fun c60 => ?_)
          · skip
            refine Ev.iload_n rfl rfl ?_
            refine Ev.bipush (v := 30) rfl (by decide) ?_
            refine Ev.jlt (tgt := 102) rfl (by decide) (fun c76 => ?_) (fun c76 => ?_)
            · skip
              refine Ev.iconst (v := (-1)) rfl (by decide) ?_
              refine Ev.iret (ty := .int) rfl rfl rfl (Nat.le_refl _) (Nat.le_refl _) ?_
              rw [← hQ]
              refine ⟨congrArg (fun v => some (Value.int v)) (Eq.symm ?_), rfl⟩
              unfold K_toldL
              rw [if_neg c1]
              rw [if_neg c11]
              rw [if_pos c22]
              rw [if_neg c49]
              rw [if_neg c60]
              rw [if_pos c76]
            · skip
              refine Ev.iload_n rfl rfl ?_
              refine Ev.bipush (v := 30) rfl (by decide) ?_
              refine Ev.aload_n rfl rfl ?_
              refine Ev.getf rfl rfl hln rfl ?_
              refine Ev.iadd rfl ?_
              refine Ev.jge (tgt := 102) rfl (by decide) (fun c87 => ?_) (fun c87 => ?_)
              · skip
                refine Ev.iconst (v := (-1)) rfl (by decide) ?_
                refine Ev.iret (ty := .int) rfl rfl rfl (Nat.le_refl _) (Nat.le_refl _) ?_
                rw [← hQ]
                refine ⟨congrArg (fun v => some (Value.int v)) (Eq.symm ?_), rfl⟩
                unfold K_toldL
                rw [if_neg c1]
                rw [if_neg c11]
                rw [if_pos c22]
                rw [if_neg c49]
                rw [if_neg c60]
                rw [if_neg c76]
                rw [if_neg c87]
              · skip
                refine Ev.aload_n rfl rfl ?_
                refine Ev.getf rfl rfl hln rfl ?_
                refine Ev.iload_n rfl rfl ?_
                refine Ev.bipush (v := 30) rfl (by decide) ?_
                refine Ev.isub rfl ?_
                obtain ⟨kk, hkk, -, ekk⟩ := ix_vp (A := 30) (n := n0) c76 c87 rfl (nq_add (a := 30) rfl rfl) (by omega)
                rw [ekk]
                refine Ev.ialdN (k := kk) rfl h_row rfl ⟨(by omega), by decide⟩ ?_
                rw [show kk = (w - 30).toNatClampNeg from by rw [ekk, nI_clamp (by omega)]]
                refine Ev.goto (tgt := 103) rfl (by decide) ?_
                refine Ev.iret (ty := .int) rfl rfl rfl (Nat.le_refl _) (Nat.le_refl _) ?_
                rw [← hQ]
                refine ⟨congrArg (fun v => some (Value.int v)) (Eq.symm ?_), rfl⟩
                unfold K_toldL
                rw [if_neg c1]
                rw [if_neg c11]
                rw [if_pos c22]
                rw [if_neg c49]
                rw [if_neg c60]
                rw [if_neg c76]
                rw [if_pos c87]
          · skip
            refine Ev.aload_n rfl rfl ?_
            refine Ev.getf rfl rfl hln rfl ?_
            refine Ev.iload_n rfl rfl ?_
            refine Ev.bipush (v := 20) rfl (by decide) ?_
            refine Ev.isub rfl ?_
            obtain ⟨kk, hkk, -, ekk⟩ := ix_vp (A := 20) (n := c0) c49 c60 rfl (nq_add (a := 20) rfl rfl) (by omega)
            rw [ekk]
            refine Ev.ialdN (k := kk) rfl h_stp rfl ⟨(by omega), by decide⟩ ?_
            rw [show kk = (w - 20).toNatClampNeg from by rw [ekk, nI_clamp (by omega)]]
            refine Ev.iret (ty := .int) rfl rfl rfl (Nat.le_refl _) (Nat.le_refl _) ?_
            rw [← hQ]
            refine ⟨congrArg (fun v => some (Value.int v)) (Eq.symm ?_), rfl⟩
            unfold K_toldL
            rw [if_neg c1]
            rw [if_neg c11]
            rw [if_pos c22]
            rw [if_neg c49]
            rw [if_pos c60]
      · skip
        refine Ev.iload_n rfl rfl ?_
        refine Ev.bipush (v := 10) rfl (by decide) ?_
        refine Ev.aload_n rfl rfl ?_
        refine Ev.getf rfl rfl hln rfl ?_
        refine Ev.iadd rfl ?_
        refine Ev.jge (tgt := 46) rfl (by decide) (fun c33 => ?_) (fun c33 => ?_)
        · skip
          refine Ev.iload_n rfl rfl ?_
          refine Ev.bipush (v := 20) rfl (by decide) ?_
          refine Ev.jlt (tgt := 73) rfl (by decide) (fun c49 => ?_) (fun c49 => ?_)
          · skip
            refine Ev.iload_n rfl rfl ?_
            refine Ev.bipush (v := 30) rfl (by decide) ?_
            refine Ev.jlt (tgt := 102) rfl (by decide) (fun c76 => ?_) (fun c76 => ?_)
            · skip
              refine Ev.iconst (v := (-1)) rfl (by decide) ?_
              refine Ev.iret (ty := .int) rfl rfl rfl (Nat.le_refl _) (Nat.le_refl _) ?_
              rw [← hQ]
              refine ⟨congrArg (fun v => some (Value.int v)) (Eq.symm ?_), rfl⟩
              unfold K_toldL
              rw [if_neg c1]
              rw [if_neg c11]
              rw [if_neg c22]
              rw [if_neg c33]
              rw [if_pos c49]
              rw [if_pos c76]
            · skip
              refine Ev.iload_n rfl rfl ?_
              refine Ev.bipush (v := 30) rfl (by decide) ?_
              refine Ev.aload_n rfl rfl ?_
              refine Ev.getf rfl rfl hln rfl ?_
              refine Ev.iadd rfl ?_
              refine Ev.jge (tgt := 102) rfl (by decide) (fun c87 => ?_) (fun c87 => ?_)
              · skip
                refine Ev.iconst (v := (-1)) rfl (by decide) ?_
                refine Ev.iret (ty := .int) rfl rfl rfl (Nat.le_refl _) (Nat.le_refl _) ?_
                rw [← hQ]
                refine ⟨congrArg (fun v => some (Value.int v)) (Eq.symm ?_), rfl⟩
                unfold K_toldL
                rw [if_neg c1]
                rw [if_neg c11]
                rw [if_neg c22]
                rw [if_neg c33]
                rw [if_pos c49]
                rw [if_neg c76]
                rw [if_neg c87]
              · skip
                refine Ev.aload_n rfl rfl ?_
                refine Ev.getf rfl rfl hln rfl ?_
                refine Ev.iload_n rfl rfl ?_
                refine Ev.bipush (v := 30) rfl (by decide) ?_
                refine Ev.isub rfl ?_
                obtain ⟨kk, hkk, -, ekk⟩ := ix_vp (A := 30) (n := n0) c76 c87 rfl (nq_add (a := 30) rfl rfl) (by omega)
                rw [ekk]
                refine Ev.ialdN (k := kk) rfl h_row rfl ⟨(by omega), by decide⟩ ?_
                rw [show kk = (w - 30).toNatClampNeg from by rw [ekk, nI_clamp (by omega)]]
                refine Ev.goto (tgt := 103) rfl (by decide) ?_
                refine Ev.iret (ty := .int) rfl rfl rfl (Nat.le_refl _) (Nat.le_refl _) ?_
                rw [← hQ]
                refine ⟨congrArg (fun v => some (Value.int v)) (Eq.symm ?_), rfl⟩
                unfold K_toldL
                rw [if_neg c1]
                rw [if_neg c11]
                rw [if_neg c22]
                rw [if_neg c33]
                rw [if_pos c49]
                rw [if_neg c76]
                rw [if_pos c87]
          · skip
            refine Ev.iload_n rfl rfl ?_
            refine Ev.bipush (v := 20) rfl (by decide) ?_
            refine Ev.aload_n rfl rfl ?_
            refine Ev.getf rfl rfl hln rfl ?_
            refine Ev.iadd rfl ?_
            refine Ev.jge (tgt := 73) rfl (by decide) (fun c60 => ?_) (fun c60 => ?_)
            · skip
              refine Ev.iload_n rfl rfl ?_
              refine Ev.bipush (v := 30) rfl (by decide) ?_
              refine Ev.jlt (tgt := 102) rfl (by decide) (fun c76 => ?_) (fun c76 => ?_)
              · skip
                refine Ev.iconst (v := (-1)) rfl (by decide) ?_
                refine Ev.iret (ty := .int) rfl rfl rfl (Nat.le_refl _) (Nat.le_refl _) ?_
                rw [← hQ]
                refine ⟨congrArg (fun v => some (Value.int v)) (Eq.symm ?_), rfl⟩
                unfold K_toldL
                rw [if_neg c1]
                rw [if_neg c11]
                rw [if_neg c22]
                rw [if_neg c33]
                rw [if_neg c49]
                rw [if_neg c60]
                rw [if_pos c76]
              · skip
                refine Ev.iload_n rfl rfl ?_
                refine Ev.bipush (v := 30) rfl (by decide) ?_
                refine Ev.aload_n rfl rfl ?_
                refine Ev.getf rfl rfl hln rfl ?_
                refine Ev.iadd rfl ?_
                refine Ev.jge (tgt := 102) rfl (by decide) (fun c87 => ?_) (fun c87 => ?_)
                · skip
                  refine Ev.iconst (v := (-1)) rfl (by decide) ?_
                  refine Ev.iret (ty := .int) rfl rfl rfl (Nat.le_refl _) (Nat.le_refl _) ?_
                  rw [← hQ]
                  refine ⟨congrArg (fun v => some (Value.int v)) (Eq.symm ?_), rfl⟩
                  unfold K_toldL
                  rw [if_neg c1]
                  rw [if_neg c11]
                  rw [if_neg c22]
                  rw [if_neg c33]
                  rw [if_neg c49]
                  rw [if_neg c60]
                  rw [if_neg c76]
                  rw [if_neg c87]
                · skip
                  refine Ev.aload_n rfl rfl ?_
                  refine Ev.getf rfl rfl hln rfl ?_
                  refine Ev.iload_n rfl rfl ?_
                  refine Ev.bipush (v := 30) rfl (by decide) ?_
                  refine Ev.isub rfl ?_
                  obtain ⟨kk, hkk, -, ekk⟩ := ix_vp (A := 30) (n := n0) c76 c87 rfl (nq_add (a := 30) rfl rfl) (by omega)
                  rw [ekk]
                  refine Ev.ialdN (k := kk) rfl h_row rfl ⟨(by omega), by decide⟩ ?_
                  rw [show kk = (w - 30).toNatClampNeg from by rw [ekk, nI_clamp (by omega)]]
                  refine Ev.goto (tgt := 103) rfl (by decide) ?_
                  refine Ev.iret (ty := .int) rfl rfl rfl (Nat.le_refl _) (Nat.le_refl _) ?_
                  rw [← hQ]
                  refine ⟨congrArg (fun v => some (Value.int v)) (Eq.symm ?_), rfl⟩
                  unfold K_toldL
                  rw [if_neg c1]
                  rw [if_neg c11]
                  rw [if_neg c22]
                  rw [if_neg c33]
                  rw [if_neg c49]
                  rw [if_neg c60]
                  rw [if_neg c76]
                  rw [if_pos c87]
            · skip
              refine Ev.aload_n rfl rfl ?_
              refine Ev.getf rfl rfl hln rfl ?_
              refine Ev.iload_n rfl rfl ?_
              refine Ev.bipush (v := 20) rfl (by decide) ?_
              refine Ev.isub rfl ?_
              obtain ⟨kk, hkk, -, ekk⟩ := ix_vp (A := 20) (n := c0) c49 c60 rfl (nq_add (a := 20) rfl rfl) (by omega)
              rw [ekk]
              refine Ev.ialdN (k := kk) rfl h_stp rfl ⟨(by omega), by decide⟩ ?_
              rw [show kk = (w - 20).toNatClampNeg from by rw [ekk, nI_clamp (by omega)]]
              refine Ev.iret (ty := .int) rfl rfl rfl (Nat.le_refl _) (Nat.le_refl _) ?_
              rw [← hQ]
              refine ⟨congrArg (fun v => some (Value.int v)) (Eq.symm ?_), rfl⟩
              unfold K_toldL
              rw [if_neg c1]
              rw [if_neg c11]
              rw [if_neg c22]
              rw [if_neg c33]
              rw [if_neg c49]
              rw [if_pos c60]
        · skip
          refine Ev.aload_n rfl rfl ?_
          refine Ev.getf rfl rfl hln rfl ?_
          refine Ev.iload_n rfl rfl ?_
          refine Ev.bipush (v := 10) rfl (by decide) ?_
          refine Ev.isub rfl ?_
          obtain ⟨kk, hkk, -, ekk⟩ := ix_vp (A := 10) (n := c0) c22 c33 rfl (nq_add (a := 10) rfl rfl) (by omega)
          rw [ekk]
          refine Ev.ialdN (k := kk) rfl h_sizes rfl ⟨(by omega), by decide⟩ ?_
          rw [show kk = (w - 10).toNatClampNeg from by rw [ekk, nI_clamp (by omega)]]
          refine Ev.iret (ty := .int) rfl rfl rfl (Nat.le_refl _) (Nat.le_refl _) ?_
          rw [← hQ]
          refine ⟨congrArg (fun v => some (Value.int v)) (Eq.symm ?_), rfl⟩
          unfold K_toldL
          rw [if_neg c1]
          rw [if_neg c11]
          rw [if_neg c22]
          rw [if_pos c33]
    · skip
      refine Ev.aload_n rfl rfl ?_
      refine Ev.getf rfl rfl hln rfl ?_
      refine Ev.iret (ty := .int) rfl rfl rfl (Nat.le_refl _) (Nat.le_refl _) ?_
      rw [← hQ]
      refine ⟨congrArg (fun v => some (Value.int v)) (Eq.symm ?_), rfl⟩
      unfold K_toldL
      rw [if_neg c1]
      rw [if_pos c11]
  · skip
    refine Ev.aload_n rfl rfl ?_
    refine Ev.getf rfl rfl hln rfl ?_
    refine Ev.iret (ty := .int) rfl rfl rfl (Nat.le_refl _) (Nat.le_refl _) ?_
    rw [← hQ]
    refine ⟨congrArg (fun v => some (Value.int v)) (Eq.symm ?_), rfl⟩
    unfold K_toldL
    rw [if_pos c1]
end
end
