/-! The line of a school (class): the row and what classes of the row are worth (printed by sym.py). -/
noncomputable section
theorem okL_D {S : Sch} {D : Les} {u : Int32} (h : D 0 = 0) : okL S (L_set D 3 u) := by
  intro c
  have e : L_set D 3 u 0 = D 0 := rfl
  rw [e, h] at c
  exact absurd c (by decide)
theorem le_cl {S : Sch} (hw : wS S) : S.2.2 9 2 = nI (S.2.2 9 2).toNatClampNeg ∧ 1 ≤ (S.2.2 9 2).toNatClampNeg ∧ (S.2.2 9 2).toNatClampNeg ≤ 15 := by
  have hr := hw.2.2.2.2.2.2.2.1
  obtain ⟨q, h2, e⟩ := rg_n hr (by decide) (b := 15) (by decide)
  have h1 := hr.1
  rw [e, nI_toInt (by omega)] at h1
  rw [e, nI_clamp (by omega)]
  exact ⟨rfl, by omega, h2⟩
theorem mo_cl {S : Sch} (hw : wS S) : S.2.2 9 3 = nI (S.2.2 9 3).toNatClampNeg ∧ 1 ≤ (S.2.2 9 3).toNatClampNeg ∧ (S.2.2 9 3).toNatClampNeg ≤ 15 ∧ (S.2.2 9 2).toNatClampNeg ≤ (S.2.2 9 3).toNatClampNeg := by
  have hr := hw.2.2.2.2.2.2.2.2.1
  have hl := hw.2.2.2.2.2.2.2.2.2.1
  obtain ⟨hle, hle1, hle2⟩ := le_cl hw
  obtain ⟨q, h2, e⟩ := rg_n hr (by decide) (b := 15) (by decide)
  have h1 := hr.1
  rw [hle, e, le_toInt, nI_toInt (by omega), nI_toInt (by omega)] at hl
  rw [e, nI_toInt (by omega)] at h1
  rw [e, nI_clamp (by omega)]
  exact ⟨rfl, by omega, h2, by omega⟩

section
variable {Γ : ex_G} {σ : ex_S} {x q a p y : Nat} {S : Sch} {T : Tol} {P : Pln} {g A : Nat → Int32}
def F_putRow_15 (S : Sch) (ro : Nat → Int32) (k : Nat) (z : Nat × (Nat → Int32)) : Nat → (Nat × (Nat → Int32)) → (Nat × (Nat → Int32)) ⊕ (Nat × (Nat → Int32)) := fun k' z' => if (nI z'.1) < (16 : Int32) then (if ((S.2.2 0) k') = (nI k) then (.inl (z'.1 + 1, (upd z'.2 z'.1 (nI k')))) else (.inl (z'.1, z'.2))) else (.inr (z'.1, z'.2))
def F_putRow_7 (S : Sch) (ro : Nat → Int32) : Nat → (Nat × (Nat → Int32)) → (Nat × (Nat → Int32)) := fun k z => Sum.elim (fun (zx : Nat × (Nat → Int32)) => (zx.1, zx.2)) (fun (rx : Nat × (Nat → Int32)) => (rx.1, rx.2)) (fe (F_putRow_15 S ro k z) (S.1) 0 (z.1, z.2))
theorem putRow_rx {S : Sch} {ro : Nat → Int32} {k : Nat} {z : Nat × (Nat → Int32)} (h : z.1 ≤ 16) : (∀ zx, fe (F_putRow_15 S ro k z) S.1 0 (z.1, z.2) = .inl zx → zx.1 ≤ 16) ∧ ∀ rx, fe (F_putRow_15 S ro k z) S.1 0 (z.1, z.2) = .inr rx → rx.1 ≤ 16 :=
  fe_inv (F := F_putRow_15 S ro k z) (fun _ z' => z'.1 ≤ 16) (fun r => r.1 ≤ 16) S.1 0 (z.1, z.2) h (fun j z' _ _ hz => by
    have hz : z'.1 ≤ 16 := hz
    unfold F_putRow_15
    by_cases c : nI z'.1 < (16 : Int32)
    · have hz8 := (nI_ltI (a := z'.1) (b := 16) (by omega) (by decide)).mp c
      rw [if_pos c]
      refine ⟨fun z' e => ?_, fun r e => ?_⟩
      · split at e
        · cases e; show z'.1 + 1 ≤ 16; omega
        · cases e; exact hz
      · split at e <;> cases e
    · rw [if_neg c]
      exact ⟨fun z' e => (by cases e), fun r e => (by cases e; exact hz)⟩)
theorem putRow_le (S : Sch) (ro : Nat → Int32) : (fo (F_putRow_7 S ro) 12 0 (0, ro)).1 ≤ 16 :=
  fo_inv (F := F_putRow_7 S ro) (fun _ z => z.1 ≤ 16) 12 0 (0, ro) (Nat.zero_le _) (fun j z _ _ hz => by
    have h := putRow_rx (S := S) (ro := ro) (k := j) (z := z) hz
    unfold F_putRow_7
    generalize fe (F_putRow_15 S ro j z) S.1 0 (z.1, z.2) = s at h ⊢
    rcases s with a | a
    · exact h.1 a rfl
    · exact h.2 a rfl)
def K_putRow (S : Sch) (ro : Nat → Int32) : Nat × (Nat → Int32) := ((fo (F_putRow_7 S ro) (12) 0 (0, ro)).1, (fo (F_putRow_7 S ro) (12) 0 (0, ro)).2)
theorem putRow_ok {n0 c0 : Nat} {lt u : Int32} {D : Les} {ro wo ws be sz st : Nat → Int32} (hln : σ.2 (q) = some (.inr (.inr (6, [.ref (q + 1), .ref (q + 2), .ref (q + 3), .ref (q + 4), .ref (q + 5), .ref (q + 6), .ref (q + 7), .int (nI n0), .int (nI c0), .int lt])))) (h_row : σ.2 (q + 1) = some (.inl (0, 16, ro))) (h_worth : σ.2 (q + 2) = some (.inl (0, 272, wo))) (h_wst : σ.2 (q + 3) = some (.inl (0, 272, ws))) (h_best : σ.2 (q + 4) = some (.inl (0, 119, be))) (h_sizes : σ.2 (q + 5) = some (.inl (0, 6, sz))) (h_stp : σ.2 (q + 6) = some (.inl (0, 6, st))) (htr : isL σ (q + 7) (L_set D 3 u)) (hD : D 0 = 0) (hS0 : isS σ a S) (hwS : wS S) (haq : a + 11 ≤ q) : RetX Γ m_Line_putInRow [(.ref q), (.ref a)] σ q (q + 8) none (fun τ => τ.2 q = some (.inr (.inr (6, [(.ref (q + 1)), (.ref (q + 2)), (.ref (q + 3)), (.ref (q + 4)), (.ref (q + 5)), (.ref (q + 6)), (.ref (q + 7)), (.int (nI ((K_putRow S ro).1))), (.int (nI c0)), (.int lt)]))) ∧ τ.2 (q + 1) = some (.inl (0, 16, (K_putRow S ro).2)) ∧ τ.2 (q + 2) = some (.inl (0, 272, wo)) ∧ τ.2 (q + 3) = some (.inl (0, 272, ws)) ∧ τ.2 (q + 4) = some (.inl (0, 119, be)) ∧ τ.2 (q + 5) = some (.inl (0, 6, sz)) ∧ τ.2 (q + 6) = some (.inl (0, 6, st)) ∧ isL τ (q + 7) (L_set D 3 u)) := by
  obtain ⟨hle, hle1, hle2⟩ := le_cl hwS
  obtain ⟨hmo, hmo1, hmo2, hlm⟩ := mo_cl hwS
  have hn := hwS.1
  have hn5 := hwS.2.1
  unfold RetX
  generalize hQ : (fun (r : Option Value) (τ : ex_S) => r = none ∧ frm σ τ q (q + 8) ∧ (fun τ : ex_S => τ.2 q = some (.inr (.inr (6, [(.ref (q + 1)), (.ref (q + 2)), (.ref (q + 3)), (.ref (q + 4)), (.ref (q + 5)), (.ref (q + 6)), (.ref (q + 7)), (.int (nI ((K_putRow S ro).1))), (.int (nI c0)), (.int lt)]))) ∧ τ.2 (q + 1) = some (.inl (0, 16, (K_putRow S ro).2)) ∧ τ.2 (q + 2) = some (.inl (0, 272, wo)) ∧ τ.2 (q + 3) = some (.inl (0, 272, ws)) ∧ τ.2 (q + 4) = some (.inl (0, 119, be)) ∧ τ.2 (q + 5) = some (.inl (0, 6, sz)) ∧ τ.2 (q + 6) = some (.inl (0, 6, st)) ∧ isL τ (q + 7) (L_set D 3 u)) τ) = Q
  refine Ret.start pm_134 rfl ?_
  have fr : frm σ σ q (q + 8) := frm.rf
  have hS := hS0.frm fr (by omega)
  obtain ⟨h0, h1, h2, h3, h4, h5, h6', h7, h8, h9, h10⟩ := id hS
  refine Ev.aload_n rfl rfl ?_
  refine Ev.iconst (v := 0) rfl (by decide) ?_
  refine Ev.putE rfl rfl hln rfl rfl rfl (Nat.le_of_ble_eq_true rfl) (fun τ1 f1 hln => ?_)
  replace hln : τ1.2 q = some (.inr (.inr (6, [(.ref (q + 1)), (.ref (q + 2)), (.ref (q + 3)), (.ref (q + 4)), (.ref (q + 5)), (.ref (q + 6)), (.ref (q + 7)), (.int (0 : Int32)), (.int (nI c0)), (.int lt)]))) := hln
  have h_row := frm.cell f1 h_row (by omega)
  have h_worth := frm.cell f1 h_worth (by omega)
  have h_wst := frm.cell f1 h_wst (by omega)
  have h_best := frm.cell f1 h_best (by omega)
  have h_sizes := frm.cell f1 h_sizes (by omega)
  have h_stp := frm.cell f1 h_stp (by omega)
  have htr := isL.frm htr f1 (by omega)
  have fr := fr.step f1 (by omega) (by omega)
  have hS := hS0.frm fr (by omega)
  obtain ⟨h0, h1, h2, h3, h4, h5, h6', h7, h8, h9, h10⟩ := id hS
  refine Ev.iconst (v := 0) rfl (by decide) ?_
  refine Ev.istore_n rfl rfl rfl ?_
  refine Ev.fg (L := [some (.ref q), some (.ref a), some (.int (nI 0)), none]) ?_ (gs rfl (gs rfl (gs (congrArg Value.int (rfl : (0 : Int32) = nI 0).symm) (gn gz))))
  refine lp (fun (k : Nat) (z : Nat × (Nat → Int32)) => (z.1 ≤ 16) → ∀ τ' : ex_S, frm σ τ' q (q + 8) → τ'.2 q = some (.inr (.inr (6, [(.ref (q + 1)), (.ref (q + 2)), (.ref (q + 3)), (.ref (q + 4)), (.ref (q + 5)), (.ref (q + 6)), (.ref (q + 7)), (.int (nI z.1)), (.int (nI c0)), (.int lt)]))) → τ'.2 (q + 1) = some (.inl (0, 16, z.2)) → τ'.2 (q + 2) = some (.inl (0, 272, wo)) → τ'.2 (q + 3) = some (.inl (0, 272, ws)) → τ'.2 (q + 4) = some (.inl (0, 119, be)) → τ'.2 (q + 5) = some (.inl (0, 6, sz)) → τ'.2 (q + 6) = some (.inl (0, 6, st)) → isL τ' (q + 7) (L_set D 3 u) → Ev Γ 0 0 m_Line_putInRow 0 0 7 [some (.ref q), some (.ref a), some (.int (nI k)), none] [] τ' Q) (F_putRow_7 S ro) (12) (fun k z hk hx => ?_) (12) 0 (0, ro) (by omega) ?_ (by omega) τ1 fr hln h_row h_worth h_wst h_best h_sizes h_stp htr
  · skip
    intro hI
    intro τ' fr hln h_row h_worth h_wst h_best h_sizes h_stp htr
    have hS := hS0.frm fr (by omega)
    obtain ⟨h0, h1, h2, h3, h4, h5, h6', h7, h8, h9, h10⟩ := id hS
    refine Ev.iload_n rfl rfl ?_
    refine Ev.bipush (v := 12) rfl (by decide) ?_
    refine Ev.jge (tgt := 74) rfl (by decide) (fun c10 => absurd (nI_lt hk (by omega)) c10) (fun c10 => ?_)
    refine Ev.iconst (v := 0) rfl (by decide) ?_
    refine Ev.istore_n rfl rfl rfl ?_
    refine Ev.fg (L := [some (.ref q), some (.ref a), some (.int (nI k)), some (.int (nI 0))]) ?_ (gs rfl (gs rfl (gs rfl (gs (congrArg Value.int (rfl : (0 : Int32) = nI 0).symm) gz))))
    refine lpe (fun (k' : Nat) (z' : Nat × (Nat → Int32)) => (z'.1 ≤ 16) → ∀ τ'' : ex_S, frm σ τ'' q (q + 8) → τ''.2 q = some (.inr (.inr (6, [(.ref (q + 1)), (.ref (q + 2)), (.ref (q + 3)), (.ref (q + 4)), (.ref (q + 5)), (.ref (q + 6)), (.ref (q + 7)), (.int (nI z'.1)), (.int (nI c0)), (.int lt)]))) → τ''.2 (q + 1) = some (.inl (0, 16, z'.2)) → τ''.2 (q + 2) = some (.inl (0, 272, wo)) → τ''.2 (q + 3) = some (.inl (0, 272, ws)) → τ''.2 (q + 4) = some (.inl (0, 119, be)) → τ''.2 (q + 5) = some (.inl (0, 6, sz)) → τ''.2 (q + 6) = some (.inl (0, 6, st)) → isL τ'' (q + 7) (L_set D 3 u) → Ev Γ 0 0 m_Line_putInRow 0 0 15 [some (.ref q), some (.ref a), some (.int (nI k)), some (.int (nI k'))] [] τ'' Q) (fun (r : Nat × (Nat → Int32)) => ∀ τ'' : ex_S, frm σ τ'' q (q + 8) → τ''.2 q = some (.inr (.inr (6, [(.ref (q + 1)), (.ref (q + 2)), (.ref (q + 3)), (.ref (q + 4)), (.ref (q + 5)), (.ref (q + 6)), (.ref (q + 7)), (.int (nI r.1)), (.int (nI c0)), (.int lt)]))) → τ''.2 (q + 1) = some (.inl (0, 16, r.2)) → τ''.2 (q + 2) = some (.inl (0, 272, wo)) → τ''.2 (q + 3) = some (.inl (0, 272, ws)) → τ''.2 (q + 4) = some (.inl (0, 119, be)) → τ''.2 (q + 5) = some (.inl (0, 6, sz)) → τ''.2 (q + 6) = some (.inl (0, 6, st)) → isL τ'' (q + 7) (L_set D 3 u) → Ev Γ 0 0 m_Line_putInRow 0 0 68 [some (.ref q), some (.ref a), some (.int (nI k)), none] [] τ'' Q) (F_putRow_15 S ro k z) (S.1) (fun k' z' hk' hx' he => ?_) (S.1) 0 (z.1, z.2) (by omega) (fun zx hzx => ?_) (fun rx hrx => ?_) (by omega) τ' fr hln h_row h_worth h_wst h_best h_sizes h_stp htr
    · skip
      intro hI'
      intro τ'' fr hln h_row h_worth h_wst h_best h_sizes h_stp htr
      have hS := hS0.frm fr (by omega)
      obtain ⟨h0, h1, h2, h3, h4, h5, h6', h7, h8, h9, h10⟩ := id hS
      refine Ev.iload_n rfl rfl ?_
      refine Ev.aload_n rfl rfl ?_
      refine Ev.getf rfl rfl h0 rfl ?_
      refine Ev.jge (tgt := 68) rfl (by decide) (fun c20 => absurd (nI_lt hk' (by omega)) c20) (fun c20 => ?_)
      refine Ev.aload_n rfl rfl ?_
      refine Ev.getf rfl rfl hln rfl ?_
      refine Ev.bipush (v := 16) rfl (by decide) ?_
      refine Ev.jge (tgt := 68) rfl (by decide) (fun c29 => ?_) (fun c29 => ?_)
      · skip
        have hF : (F_putRow_15 S ro k z) k' z' = .inr (z'.1, z'.2) := by
          unfold F_putRow_15
          rw [if_neg c29]
        exact (he _ hF τ'' fr hln h_row h_worth h_wst h_best h_sizes h_stp htr).fg (gs rfl (gs rfl (gs rfl (gn gz))))
      · skip
        have hz16 := (nI_ltI (a := z'.1) (b := 16) (by omega) (by decide)).mp c29
        refine Ev.aload_n rfl rfl ?_
        refine Ev.getf rfl rfl h0 rfl ?_
        refine Ev.iload_n rfl rfl ?_
        refine Ev.ialdN (k := k') rfl h1 rfl ⟨(by omega), by decide⟩ ?_
        refine Ev.iload_n rfl rfl ?_
        refine Ev.jne (tgt := 62) rfl (by decide) (fun c39 => ?_) (fun c39 => ?_)
        · skip
          refine Ev.iinc (d := 1) rfl rfl rfl (by decide) rfl ?_
          refine Ev.goto (tgt := 15) rfl (by decide) ?_
          have hF : (F_putRow_15 S ro k z) k' z' = .inl (z'.1, z'.2) := by
            unfold F_putRow_15
            rw [if_pos c29]
            rw [if_neg c39]
          exact (hx' _ hF (by show (z'.1 ≤ 16); omega) τ'' fr hln h_row h_worth h_wst h_best h_sizes h_stp htr).fg (gs rfl (gs rfl (gs rfl (gs (congrArg Value.int (show nI (k' + 1) = (nI k') + (1 : Int32) from (nq_to (a := k' + 1) (nq_add (a := k') (b := 1) rfl (rfl : (1 : Int32) = nI 1)) (by omega)).symm)) gz))))
        · skip
          refine Ev.aload_n rfl rfl ?_
          refine Ev.getf rfl rfl hln rfl ?_
          refine Ev.aload_n rfl rfl ?_
          refine Ev.getf rfl rfl hln rfl ?_
          refine Ev.iload_n rfl rfl ?_
          refine Ev.iastE (k := z'.1) rfl h_row rfl ⟨(by omega), by decide⟩ (fun τ2 f1 h_row => ?_)
          have hln := frm.cell f1 hln (by omega)
          have h_worth := frm.cell f1 h_worth (by omega)
          have h_wst := frm.cell f1 h_wst (by omega)
          have h_best := frm.cell f1 h_best (by omega)
          have h_sizes := frm.cell f1 h_sizes (by omega)
          have h_stp := frm.cell f1 h_stp (by omega)
          have htr := isL.frm htr f1 (by omega)
          have fr := fr.step f1 (by omega) (by omega)
          have hS := hS0.frm fr (by omega)
          obtain ⟨h0, h1, h2, h3, h4, h5, h6', h7, h8, h9, h10⟩ := id hS
          refine Ev.aload_n rfl rfl ?_
          refine Ev.dup rfl rfl ?_
          refine Ev.getf rfl rfl hln rfl ?_
          refine Ev.iconst (v := 1) rfl (by decide) ?_
          refine Ev.iadd rfl ?_
          rw [show (nI z'.1) + (1 : Int32) = nI (z'.1 + 1) from (nq_add (a := z'.1) (b := 1) rfl (rfl : (1 : Int32) = nI 1))]
          refine Ev.putE rfl rfl hln rfl rfl rfl (Nat.le_of_ble_eq_true rfl) (fun τ3 f1 hln => ?_)
          replace hln : τ3.2 q = some (.inr (.inr (6, [(.ref (q + 1)), (.ref (q + 2)), (.ref (q + 3)), (.ref (q + 4)), (.ref (q + 5)), (.ref (q + 6)), (.ref (q + 7)), (.int (nI (z'.1 + 1))), (.int (nI c0)), (.int lt)]))) := hln
          have h_row := frm.cell f1 h_row (by omega)
          have h_worth := frm.cell f1 h_worth (by omega)
          have h_wst := frm.cell f1 h_wst (by omega)
          have h_best := frm.cell f1 h_best (by omega)
          have h_sizes := frm.cell f1 h_sizes (by omega)
          have h_stp := frm.cell f1 h_stp (by omega)
          have htr := isL.frm htr f1 (by omega)
          have fr := fr.step f1 (by omega) (by omega)
          have hS := hS0.frm fr (by omega)
          obtain ⟨h0, h1, h2, h3, h4, h5, h6', h7, h8, h9, h10⟩ := id hS
          refine Ev.iinc (d := 1) rfl rfl rfl (by decide) rfl ?_
          refine Ev.goto (tgt := 15) rfl (by decide) ?_
          have hF : (F_putRow_15 S ro k z) k' z' = .inl (z'.1 + 1, (upd z'.2 z'.1 (nI k'))) := by
            unfold F_putRow_15
            rw [if_pos c29]
            rw [if_pos c39]
          exact (hx' _ hF (by show (z'.1 + 1 ≤ 16); omega) τ3 fr hln h_row h_worth h_wst h_best h_sizes h_stp htr).fg (gs rfl (gs rfl (gs rfl (gs (congrArg Value.int (show nI (k' + 1) = (nI k') + (1 : Int32) from (nq_to (a := k' + 1) (nq_add (a := k') (b := 1) rfl (rfl : (1 : Int32) = nI 1)) (by omega)).symm)) gz))))
    · skip
      intro hI'
      intro τ'' fr hln h_row h_worth h_wst h_best h_sizes h_stp htr
      have hS := hS0.frm fr (by omega)
      obtain ⟨h0, h1, h2, h3, h4, h5, h6', h7, h8, h9, h10⟩ := id hS
      refine Ev.iload_n rfl rfl ?_
      refine Ev.aload_n rfl rfl ?_
      refine Ev.getf rfl rfl h0 rfl ?_
      refine Ev.jge (tgt := 68) rfl (by decide) (fun c20 => ?_) (fun c20 => absurd c20 (nI_nlt (Nat.le_refl _) (by omega)))
      try have hrx16 := (putRow_rx hI).2 _ hrx
      refine Ev.iinc (d := 1) rfl rfl rfl (by decide) rfl ?_
      refine Ev.goto (tgt := 7) rfl (by decide) ?_
      have hF : (F_putRow_7 S ro) k z = (zx.1, zx.2) := by
        unfold F_putRow_7
        rw [hzx, Sum.elim_inl]
      rw [hF] at hx
      exact (hx (by show (zx.1 ≤ 16); omega) τ'' fr hln h_row h_worth h_wst h_best h_sizes h_stp htr).fg (gs rfl (gs rfl (gs (congrArg Value.int (show nI (k + 1) = (nI k) + (1 : Int32) from (nq_to (a := k + 1) (nq_add (a := k) (b := 1) rfl (rfl : (1 : Int32) = nI 1)) (by omega)).symm)) (gn gz))))
    · skip
      intro τ'' fr hln h_row h_worth h_wst h_best h_sizes h_stp htr
      have hS := hS0.frm fr (by omega)
      obtain ⟨h0, h1, h2, h3, h4, h5, h6', h7, h8, h9, h10⟩ := id hS
      try have hrx16 := (putRow_rx hI).2 _ hrx
      refine Ev.iinc (d := 1) rfl rfl rfl (by decide) rfl ?_
      refine Ev.goto (tgt := 7) rfl (by decide) ?_
      have hF : (F_putRow_7 S ro) k z = (rx.1, rx.2) := by
        unfold F_putRow_7
        rw [hrx, Sum.elim_inr]
      rw [hF] at hx
      exact (hx (by show (rx.1 ≤ 16); omega) τ'' fr hln h_row h_worth h_wst h_best h_sizes h_stp htr).fg (gs rfl (gs rfl (gs (congrArg Value.int (show nI (k + 1) = (nI k) + (1 : Int32) from (nq_to (a := k + 1) (nq_add (a := k) (b := 1) rfl (rfl : (1 : Int32) = nI 1)) (by omega)).symm)) (gn gz))))
  · skip
    intro hI
    intro τ' fr hln h_row h_worth h_wst h_best h_sizes h_stp htr
    have hS := hS0.frm fr (by omega)
    obtain ⟨h0, h1, h2, h3, h4, h5, h6', h7, h8, h9, h10⟩ := id hS
    refine Ev.iload_n rfl rfl ?_
    refine Ev.bipush (v := 12) rfl (by decide) ?_
    refine Ev.jge (tgt := 74) rfl (by decide) (fun c10 => ?_) (fun c10 => absurd c10 (nI_nlt (Nat.le_refl _) (by omega)))
    refine Ev.ret rfl rfl (Nat.le_refl _) (Nat.le_refl _) ?_
    have hK : (K_putRow S ro) = ((fo (F_putRow_7 S ro) (12) 0 (0, ro)).1, (fo (F_putRow_7 S ro) (12) 0 (0, ro)).2) := by rfl
    rw [← hQ]
    dsimp only
    rw [hK]
    exact ⟨rfl, fr, hln, h_row, h_worth, h_wst, h_best, h_sizes, h_stp, htr⟩
end
end
