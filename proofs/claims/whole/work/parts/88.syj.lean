/-! The line of a school (class): the cut (printed by sym.py). -/
noncomputable section
theorem d1_ge {C k : Nat} (h : k < C) (_ : C < 1000) : ¬ nI (C - k) < (1 : Int32) := nI_nlt (b := 1) (by omega) (by omega)
theorem d1_lt (C : Nat) : nI (C - C) < (1 : Int32) := by
  rw [Nat.sub_self]
  decide
theorem w_lt {f k n : Nat} (h : k < n - f) (_ : n < 1000) : nI f + nI k < nI n := by
  rw [nI_add]
  exact nI_lt (by omega) (by omega)
theorem w_ge (f n : Nat) (_ : f ≤ n ∧ n < 1000) : ¬ nI f + nI (n - f) < nI n := by
  rw [nI_add]
  exact nI_nlt (by omega) (by omega)

section
variable {Γ : ex_G} {σ : ex_S} {x q a p y : Nat} {S : Sch} {T : Tol} {P : Pln} {g A : Nat → Int32}
def F_walk_20 (S : Sch) (n0 c0 : Nat) (wo ws be sz st : Nat → Int32) (k : Nat) (z : Nat × (Nat → Int32) × (Nat → Int32)) : Nat → Unit → (Unit) ⊕ Nat := fun k' z' => if (K_with wo be (c0 - k) z.1 k') = (be ((c0 - k) * 17 + z.1)) then (.inr k') else (.inl ())
def F_walk_7 (S : Sch) (n0 c0 : Nat) (wo ws be sz st : Nat → Int32) : Nat → (Nat × (Nat → Int32) × (Nat → Int32)) → (Nat × (Nat → Int32) × (Nat → Int32)) := fun k z => Sum.elim (fun (zx : Unit) => (z.1 + (n0 - z.1), (upd z.2.1 (c0 - (c0 - k)) (nI (n0 - z.1))), (upd z.2.2 (c0 - (c0 - k)) (ws (z.1 * 17 + (n0 - z.1)))))) (fun (rx : Nat) => (z.1 + rx, (upd z.2.1 (c0 - (c0 - k)) (nI rx)), (upd z.2.2 (c0 - (c0 - k)) (ws (z.1 * 17 + rx))))) (fe (F_walk_20 S n0 c0 wo ws be sz st k z) ((n0 - z.1) - ((S.2.2 9 2).toNatClampNeg)) ((S.2.2 9 2).toNatClampNeg) ())
/-- where the walk along the table may stand: j classes are left from f on -/
def walkP (LE n0 c0 : Nat) (wo be : Nat → Int32) (W : Nat → Nat → Prop) : Prop := W c0 0 ∧ ∀ j f, 1 ≤ j → j ≤ c0 → W j f → ∃ m, LE ≤ m ∧ f + m ≤ n0 ∧ K_with wo be j f m = be (j * 17 + f) ∧ (∀ m', LE ≤ m' → m' < m → ¬ K_with wo be j f m' = be (j * 17 + f)) ∧ W (j - 1) (f + m)
theorem walk_sz {S : Sch} {n0 c0 LE : Nat} {wo ws be sz st : Nat → Int32} {k : Nat} {z : Nat × (Nat → Int32) × (Nat → Int32)} {W : Nat → Nat → Prop} (hW : walkP LE n0 c0 wo be W) (hk : k < c0) (h : W (c0 - k) z.1) : (∀ zx, fe (F_walk_20 S n0 c0 wo ws be sz st k z) (n0 - z.1 - LE) LE () = .inl zx → W (c0 - k - 1) (z.1 + (n0 - z.1)) ∧ LE ≤ n0 - z.1 ∧ z.1 + (n0 - z.1) ≤ n0) ∧ ∀ rx, fe (F_walk_20 S n0 c0 wo ws be sz st k z) (n0 - z.1 - LE) LE () = .inr rx → W (c0 - k - 1) (z.1 + rx) ∧ LE ≤ rx ∧ z.1 + rx ≤ n0 := by
  obtain ⟨m, m1, m2, m3, m4, m5⟩ := hW.2 (c0 - k) z.1 (by omega) (by omega) h
  have hb : z.1 + m ≤ n0 := m2
  have key := fe_inv (F := F_walk_20 S n0 c0 wo ws be sz st k z) (fun i _ => i ≤ m) (fun r => r = m) (n0 - z.1 - LE) LE () m1 (fun j u hj hj2 hju => by
    have hju : j ≤ m := hju
    unfold F_walk_20
    by_cases c : K_with wo be (c0 - k) z.1 j = be ((c0 - k) * 17 + z.1)
    · rw [if_pos c]
      refine ⟨fun z' e => (by cases e), fun r e => ?_⟩
      cases e
      refine Classical.byContradiction (fun d => m4 j hj (by omega) c)
    · rw [if_neg c]
      refine ⟨fun z' e => ?_, fun r e => (by cases e)⟩
      have : j ≠ m := fun e => c (by rw [e]; exact m3)
      show j + 1 ≤ m
      omega)
  refine ⟨fun zx e => ?_, fun rx e => ?_⟩
  · have := key.1 zx e
    have e2 : n0 - z.1 = m := by omega
    rw [e2]
    exact ⟨m5, m1, m2⟩
  · rw [key.2 rx e]
    exact ⟨m5, m1, m2⟩
def K_walk (S : Sch) (n0 c0 : Nat) (wo ws be sz st : Nat → Int32) : (Nat → Int32) × (Nat → Int32) := ((fo (F_walk_7 S n0 c0 wo ws be sz st) (c0) 0 (0, sz, st)).2.1, (fo (F_walk_7 S n0 c0 wo ws be sz st) (c0) 0 (0, sz, st)).2.2)
theorem walk_ok {n0 c0 : Nat} {lt u : Int32} {D : Les} {ro wo ws be sz st : Nat → Int32} (hln : σ.2 (q) = some (.inr (.inr (6, [.ref (q + 1), .ref (q + 2), .ref (q + 3), .ref (q + 4), .ref (q + 5), .ref (q + 6), .ref (q + 7), .int (nI n0), .int (nI c0), .int lt])))) (h_row : σ.2 (q + 1) = some (.inl (0, 16, ro))) (h_worth : σ.2 (q + 2) = some (.inl (0, 272, wo))) (h_wst : σ.2 (q + 3) = some (.inl (0, 272, ws))) (h_best : σ.2 (q + 4) = some (.inl (0, 119, be))) (h_sizes : σ.2 (q + 5) = some (.inl (0, 6, sz))) (h_stp : σ.2 (q + 6) = some (.inl (0, 6, st))) (htr : isL σ (q + 7) (L_set D 3 u)) (hD : D 0 = 0) (hS0 : isS σ a S) (hwS : wS S) (haq : a + 11 ≤ q) (hn0 : n0 ≤ 16) (hc0 : c0 ≤ 6) {W : Nat → Nat → Prop} (hW : walkP (S.2.2 9 2).toNatClampNeg n0 c0 wo be W) : RetX Γ m_Line_walk [(.ref q), (.ref a)] σ q (q + 8) none (fun τ => τ.2 (q + 5) = some (.inl (0, 6, (K_walk S n0 c0 wo ws be sz st).1)) ∧ τ.2 (q + 6) = some (.inl (0, 6, (K_walk S n0 c0 wo ws be sz st).2)) ∧ τ.2 q = some (.inr (.inr (6, [(.ref (q + 1)), (.ref (q + 2)), (.ref (q + 3)), (.ref (q + 4)), (.ref (q + 5)), (.ref (q + 6)), (.ref (q + 7)), (.int (nI n0)), (.int (nI c0)), (.int lt)]))) ∧ τ.2 (q + 1) = some (.inl (0, 16, ro)) ∧ τ.2 (q + 2) = some (.inl (0, 272, wo)) ∧ τ.2 (q + 3) = some (.inl (0, 272, ws)) ∧ τ.2 (q + 4) = some (.inl (0, 119, be)) ∧ isL τ (q + 7) (L_set D 3 u)) := by
  obtain ⟨hle, hle1, hle2⟩ := le_cl hwS
  obtain ⟨hmo, hmo1, hmo2, hlm⟩ := mo_cl hwS
  have hn := hwS.1
  have hn5 := hwS.2.1
  unfold RetX
  generalize hQ : (fun (r : Option Value) (τ : ex_S) => r = none ∧ frm σ τ q (q + 8) ∧ (fun τ : ex_S => τ.2 (q + 5) = some (.inl (0, 6, (K_walk S n0 c0 wo ws be sz st).1)) ∧ τ.2 (q + 6) = some (.inl (0, 6, (K_walk S n0 c0 wo ws be sz st).2)) ∧ τ.2 q = some (.inr (.inr (6, [(.ref (q + 1)), (.ref (q + 2)), (.ref (q + 3)), (.ref (q + 4)), (.ref (q + 5)), (.ref (q + 6)), (.ref (q + 7)), (.int (nI n0)), (.int (nI c0)), (.int lt)]))) ∧ τ.2 (q + 1) = some (.inl (0, 16, ro)) ∧ τ.2 (q + 2) = some (.inl (0, 272, wo)) ∧ τ.2 (q + 3) = some (.inl (0, 272, ws)) ∧ τ.2 (q + 4) = some (.inl (0, 119, be)) ∧ isL τ (q + 7) (L_set D 3 u)) τ) = Q
  refine Ret.start pm_137 rfl ?_
  have fr : frm σ σ q (q + 8) := frm.rf
  have hS := hS0.frm fr (by omega)
  obtain ⟨h0, h1, h2, h3, h4, h5, h6', h7, h8, h9, h10⟩ := id hS
  refine Ev.iconst (v := 0) rfl (by decide) ?_
  refine Ev.istore_n rfl rfl rfl ?_
  refine Ev.aload_n rfl rfl ?_
  refine Ev.getf rfl rfl hln rfl ?_
  refine Ev.istore_n rfl rfl rfl ?_
  refine Ev.fg (L := [some (.ref q), some (.ref a), some (.int (nI 0)), some (.int (nI (c0 - 0))), none]) ?_ (gs rfl (gs rfl (gs (congrArg Value.int (rfl : (0 : Int32) = nI 0).symm) (gs rfl (gn gz)))))
  refine lp (fun (k : Nat) (z : Nat × (Nat → Int32) × (Nat → Int32)) => (W (c0 - k) z.1) → ∀ τ' : ex_S, frm σ τ' q (q + 8) → τ'.2 q = some (.inr (.inr (6, [(.ref (q + 1)), (.ref (q + 2)), (.ref (q + 3)), (.ref (q + 4)), (.ref (q + 5)), (.ref (q + 6)), (.ref (q + 7)), (.int (nI n0)), (.int (nI c0)), (.int lt)]))) → τ'.2 (q + 1) = some (.inl (0, 16, ro)) → τ'.2 (q + 2) = some (.inl (0, 272, wo)) → τ'.2 (q + 3) = some (.inl (0, 272, ws)) → τ'.2 (q + 4) = some (.inl (0, 119, be)) → τ'.2 (q + 5) = some (.inl (0, 6, z.2.1)) → τ'.2 (q + 6) = some (.inl (0, 6, z.2.2)) → isL τ' (q + 7) (L_set D 3 u) → Ev Γ 0 0 m_Line_walk 0 0 7 [some (.ref q), some (.ref a), some (.int (nI z.1)), some (.int (nI (c0 - k))), none] [] τ' Q) (F_walk_7 S n0 c0 wo ws be sz st) (c0) (fun k z hk hx => ?_) (c0) 0 (0, sz, st) (by omega) ?_ (hW.1) σ fr hln h_row h_worth h_wst h_best h_sizes h_stp htr
  · skip
    intro hI
    intro τ' fr hln h_row h_worth h_wst h_best h_sizes h_stp htr
    have hS := hS0.frm fr (by omega)
    obtain ⟨h0, h1, h2, h3, h4, h5, h6', h7, h8, h9, h10⟩ := id hS
    refine Ev.iload_n rfl rfl ?_
    refine Ev.iconst (v := 1) rfl (by decide) ?_
    refine Ev.jlt (tgt := 106) rfl (by decide) (fun c9 => absurd c9 (d1_ge hk (by omega))) (fun c9 => ?_)
    obtain ⟨m, hm1, hm2, -⟩ := hW.2 (c0 - k) z.1 (by omega) (by omega) hI
    refine Ev.aload_n rfl rfl ?_
    refine Ev.getf rfl rfl h0 rfl ?_
    refine Ev.iconst (v := 2) rfl (by decide) ?_
    refine Ev.ialdN (k := 2) rfl h10 (rfl : (2 : Int32) = nI 2) ⟨(by omega), by decide⟩ ?_
    refine Ev.istore rfl rfl rfl ?_
    refine Ev.fg (L := [some (.ref q), some (.ref a), some (.int (nI z.1)), some (.int (nI (c0 - k))), some (.int (nI ((S.2.2 9 2).toNatClampNeg)))]) ?_ (gs rfl (gs rfl (gs rfl (gs rfl (gs (congrArg Value.int hle.symm) gz)))))
    refine lpe (fun (k' : Nat) (z' : Unit) => ((S.2.2 9 2).toNatClampNeg ≤ k') → Ev Γ 0 0 m_Line_walk 0 0 20 [some (.ref q), some (.ref a), some (.int (nI z.1)), some (.int (nI (c0 - k))), some (.int (nI k'))] [] τ' Q) (fun (r : Nat) => Ev Γ 0 0 m_Line_walk 0 0 59 [some (.ref q), some (.ref a), some (.int (nI z.1)), some (.int (nI (c0 - k))), some (.int (nI r))] [] τ' Q) (F_walk_20 S n0 c0 wo ws be sz st k z) (n0 - z.1) (fun k' z' hk' hx' he => ?_) ((n0 - z.1) - ((S.2.2 9 2).toNatClampNeg)) ((S.2.2 9 2).toNatClampNeg) () (by omega) (fun zx hzx => ?_) (fun rx hrx => ?_) (Nat.le_refl _)
    · skip
      intro hI'
      refine Ev.iload_n rfl rfl ?_
      refine Ev.iload rfl rfl ?_
      refine Ev.iadd rfl ?_
      refine Ev.aload_n rfl rfl ?_
      refine Ev.getf rfl rfl hln rfl ?_
      refine Ev.jge (tgt := 59) rfl (by decide) (fun c28 => absurd (w_lt hk' (by omega)) c28) (fun c28 => ?_)
      refine Ev.aload_n rfl rfl ?_
      refine Ev.iload_n rfl rfl ?_
      refine Ev.iload_n rfl rfl ?_
      refine Ev.iload rfl rfl ?_
      refine Ev.cV3 rfl rfl hln rfl rfl (by decide) ⟨(Nat.le_refl _), (Nat.le_refl _)⟩ (with_ok hln h_row h_worth h_wst h_best h_sizes h_stp htr hD (by omega) (by omega) (by omega) (by omega)) ?_
      refine Ev.aload_n rfl rfl ?_
      refine Ev.getf rfl rfl hln rfl ?_
      refine Ev.iload_n rfl rfl ?_
      refine Ev.bipush (v := 17) rfl (by decide) ?_
      refine Ev.imul rfl ?_
      refine Ev.iload_n rfl rfl ?_
      refine Ev.iadd rfl ?_
      refine Ev.ialdN (k := (c0 - k) * 17 + z.1) rfl h_best (nq_add (a := (c0 - k) * 17) (b := z.1) (nq_mul (a := c0 - k) (b := 17) rfl (rfl : (17 : Int32) = nI 17)) rfl) ⟨(by omega), by decide⟩ ?_
      refine Ev.jeq (tgt := 59) rfl (by decide) (fun c50 => ?_) (fun c50 => ?_)
      · skip
        have hF : (F_walk_20 S n0 c0 wo ws be sz st k z) k' z' = .inr k' := by
          unfold F_walk_20
          rw [if_pos c50]
        exact (he _ hF).fg (gs rfl (gs rfl (gs rfl (gs rfl (gs rfl gz)))))
      · skip
        refine Ev.iinc (d := 1) rfl rfl rfl (by decide) rfl ?_
        refine Ev.goto (tgt := 20) rfl (by decide) ?_
        have hF : (F_walk_20 S n0 c0 wo ws be sz st k z) k' z' = .inl () := by
          unfold F_walk_20
          rw [if_neg c50]
        exact (hx' _ hF (by show ((S.2.2 9 2).toNatClampNeg ≤ k' + 1); omega)).fg (gs rfl (gs rfl (gs rfl (gs rfl (gs (congrArg Value.int (show nI (k' + 1) = (nI k') + (1 : Int32) from (nq_to (a := k' + 1) (nq_add (a := k') (b := 1) rfl (rfl : (1 : Int32) = nI 1)) (by omega)).symm)) gz)))))
    · skip
      intro hI'
      refine Ev.iload_n rfl rfl ?_
      refine Ev.iload rfl rfl ?_
      refine Ev.iadd rfl ?_
      refine Ev.aload_n rfl rfl ?_
      refine Ev.getf rfl rfl hln rfl ?_
      refine Ev.jge (tgt := 59) rfl (by decide) (fun c28 => ?_) (fun c28 => absurd c28 (w_ge z.1 n0 (by omega)))
      obtain ⟨-, hs1, hs2⟩ := (by first | exact (walk_sz hW hk hI).1 _ hzx | exact (walk_sz hW hk hI).2 _ hrx)
      refine Ev.aload_n rfl rfl ?_
      refine Ev.getf rfl rfl hln rfl ?_
      refine Ev.aload_n rfl rfl ?_
      refine Ev.getf rfl rfl hln rfl ?_
      refine Ev.iload_n rfl rfl ?_
      refine Ev.isub rfl ?_
      refine Ev.iload rfl rfl ?_
      refine Ev.iastE (k := c0 - (c0 - k)) rfl h_sizes (nq_sub (a := c0) (b := c0 - k) rfl rfl (by omega)) ⟨(by omega), by decide⟩ (fun τ1 f1 h_sizes => ?_)
      have hln := frm.cell f1 hln (by omega)
      have h_row := frm.cell f1 h_row (by omega)
      have h_worth := frm.cell f1 h_worth (by omega)
      have h_wst := frm.cell f1 h_wst (by omega)
      have h_best := frm.cell f1 h_best (by omega)
      have h_stp := frm.cell f1 h_stp (by omega)
      have htr := isL.frm htr f1 (by omega)
      have fr := fr.step f1 (by omega) (by omega)
      have hS := hS0.frm fr (by omega)
      obtain ⟨h0, h1, h2, h3, h4, h5, h6', h7, h8, h9, h10⟩ := id hS
      refine Ev.aload_n rfl rfl ?_
      refine Ev.getf rfl rfl hln rfl ?_
      refine Ev.aload_n rfl rfl ?_
      refine Ev.getf rfl rfl hln rfl ?_
      refine Ev.iload_n rfl rfl ?_
      refine Ev.isub rfl ?_
      refine Ev.aload_n rfl rfl ?_
      refine Ev.getf rfl rfl hln rfl ?_
      refine Ev.iload_n rfl rfl ?_
      refine Ev.bipush (v := 17) rfl (by decide) ?_
      refine Ev.imul rfl ?_
      refine Ev.iload rfl rfl ?_
      refine Ev.iadd rfl ?_
      refine Ev.ialdN (k := z.1 * 17 + (n0 - z.1)) rfl h_wst (nq_add (a := z.1 * 17) (b := n0 - z.1) (nq_mul (a := z.1) (b := 17) rfl (rfl : (17 : Int32) = nI 17)) rfl) ⟨(by omega), by decide⟩ ?_
      refine Ev.iastE (k := c0 - (c0 - k)) rfl h_stp (nq_sub (a := c0) (b := c0 - k) rfl rfl (by omega)) ⟨(by omega), by decide⟩ (fun τ2 f1 h_stp => ?_)
      have hln := frm.cell f1 hln (by omega)
      have h_row := frm.cell f1 h_row (by omega)
      have h_worth := frm.cell f1 h_worth (by omega)
      have h_wst := frm.cell f1 h_wst (by omega)
      have h_best := frm.cell f1 h_best (by omega)
      have h_sizes := frm.cell f1 h_sizes (by omega)
      have htr := isL.frm htr f1 (by omega)
      have fr := fr.step f1 (by omega) (by omega)
      have hS := hS0.frm fr (by omega)
      obtain ⟨h0, h1, h2, h3, h4, h5, h6', h7, h8, h9, h10⟩ := id hS
      refine Ev.iload_n rfl rfl ?_
      refine Ev.iload rfl rfl ?_
      refine Ev.iadd rfl ?_
      refine Ev.istore_n rfl rfl rfl ?_
      refine Ev.iinc (d := (-1)) rfl rfl rfl (by decide) rfl ?_
      refine Ev.goto (tgt := 7) rfl (by decide) ?_
      have hF : (F_walk_7 S n0 c0 wo ws be sz st) k z = (z.1 + (n0 - z.1), (upd z.2.1 (c0 - (c0 - k)) (nI (n0 - z.1))), (upd z.2.2 (c0 - (c0 - k)) (ws (z.1 * 17 + (n0 - z.1))))) := by
        unfold F_walk_7
        rw [hzx, Sum.elim_inl]
      rw [hF] at hx
      exact (hx (by show (W (c0 - (k + 1)) (z.1 + (n0 - z.1))); first | exact (walk_sz hW hk hI).1 _ hzx |> And.left | exact (walk_sz hW hk hI).2 _ hrx |> And.left) τ2 fr hln h_row h_worth h_wst h_best h_sizes h_stp htr).fg (gs rfl (gs rfl (gs (congrArg Value.int (nq_add (a := z.1) (b := n0 - z.1) rfl rfl).symm) (gs (congrArg Value.int (show nI (c0 - (k + 1)) = (nI (c0 - k)) + (-1 : Int32) from (nq_to (a := c0 - k - 1) (nq_dec (a := c0 - k) rfl (rfl : (-1 : Int32) = - nI 1) (by omega)) (by omega)).symm)) (gn gz)))))
    · skip
      obtain ⟨-, hs1, hs2⟩ := (by first | exact (walk_sz hW hk hI).1 _ hzx | exact (walk_sz hW hk hI).2 _ hrx)
      refine Ev.aload_n rfl rfl ?_
      refine Ev.getf rfl rfl hln rfl ?_
      refine Ev.aload_n rfl rfl ?_
      refine Ev.getf rfl rfl hln rfl ?_
      refine Ev.iload_n rfl rfl ?_
      refine Ev.isub rfl ?_
      refine Ev.iload rfl rfl ?_
      refine Ev.iastE (k := c0 - (c0 - k)) rfl h_sizes (nq_sub (a := c0) (b := c0 - k) rfl rfl (by omega)) ⟨(by omega), by decide⟩ (fun τ3 f1 h_sizes => ?_)
      have hln := frm.cell f1 hln (by omega)
      have h_row := frm.cell f1 h_row (by omega)
      have h_worth := frm.cell f1 h_worth (by omega)
      have h_wst := frm.cell f1 h_wst (by omega)
      have h_best := frm.cell f1 h_best (by omega)
      have h_stp := frm.cell f1 h_stp (by omega)
      have htr := isL.frm htr f1 (by omega)
      have fr := fr.step f1 (by omega) (by omega)
      have hS := hS0.frm fr (by omega)
      obtain ⟨h0, h1, h2, h3, h4, h5, h6', h7, h8, h9, h10⟩ := id hS
      refine Ev.aload_n rfl rfl ?_
      refine Ev.getf rfl rfl hln rfl ?_
      refine Ev.aload_n rfl rfl ?_
      refine Ev.getf rfl rfl hln rfl ?_
      refine Ev.iload_n rfl rfl ?_
      refine Ev.isub rfl ?_
      refine Ev.aload_n rfl rfl ?_
      refine Ev.getf rfl rfl hln rfl ?_
      refine Ev.iload_n rfl rfl ?_
      refine Ev.bipush (v := 17) rfl (by decide) ?_
      refine Ev.imul rfl ?_
      refine Ev.iload rfl rfl ?_
      refine Ev.iadd rfl ?_
      refine Ev.ialdN (k := z.1 * 17 + rx) rfl h_wst (nq_add (a := z.1 * 17) (b := rx) (nq_mul (a := z.1) (b := 17) rfl (rfl : (17 : Int32) = nI 17)) rfl) ⟨(by omega), by decide⟩ ?_
      refine Ev.iastE (k := c0 - (c0 - k)) rfl h_stp (nq_sub (a := c0) (b := c0 - k) rfl rfl (by omega)) ⟨(by omega), by decide⟩ (fun τ4 f1 h_stp => ?_)
      have hln := frm.cell f1 hln (by omega)
      have h_row := frm.cell f1 h_row (by omega)
      have h_worth := frm.cell f1 h_worth (by omega)
      have h_wst := frm.cell f1 h_wst (by omega)
      have h_best := frm.cell f1 h_best (by omega)
      have h_sizes := frm.cell f1 h_sizes (by omega)
      have htr := isL.frm htr f1 (by omega)
      have fr := fr.step f1 (by omega) (by omega)
      have hS := hS0.frm fr (by omega)
      obtain ⟨h0, h1, h2, h3, h4, h5, h6', h7, h8, h9, h10⟩ := id hS
      refine Ev.iload_n rfl rfl ?_
      refine Ev.iload rfl rfl ?_
      refine Ev.iadd rfl ?_
      refine Ev.istore_n rfl rfl rfl ?_
      refine Ev.iinc (d := (-1)) rfl rfl rfl (by decide) rfl ?_
      refine Ev.goto (tgt := 7) rfl (by decide) ?_
      have hF : (F_walk_7 S n0 c0 wo ws be sz st) k z = (z.1 + rx, (upd z.2.1 (c0 - (c0 - k)) (nI rx)), (upd z.2.2 (c0 - (c0 - k)) (ws (z.1 * 17 + rx)))) := by
        unfold F_walk_7
        rw [hrx, Sum.elim_inr]
      rw [hF] at hx
      exact (hx (by show (W (c0 - (k + 1)) (z.1 + rx)); first | exact (walk_sz hW hk hI).1 _ hzx |> And.left | exact (walk_sz hW hk hI).2 _ hrx |> And.left) τ4 fr hln h_row h_worth h_wst h_best h_sizes h_stp htr).fg (gs rfl (gs rfl (gs (congrArg Value.int (nq_add (a := z.1) (b := rx) rfl rfl).symm) (gs (congrArg Value.int (show nI (c0 - (k + 1)) = (nI (c0 - k)) + (-1 : Int32) from (nq_to (a := c0 - k - 1) (nq_dec (a := c0 - k) rfl (rfl : (-1 : Int32) = - nI 1) (by omega)) (by omega)).symm)) (gn gz)))))
  · skip
    intro hI
    intro τ' fr hln h_row h_worth h_wst h_best h_sizes h_stp htr
    have hS := hS0.frm fr (by omega)
    obtain ⟨h0, h1, h2, h3, h4, h5, h6', h7, h8, h9, h10⟩ := id hS
    refine Ev.iload_n rfl rfl ?_
    refine Ev.iconst (v := 1) rfl (by decide) ?_
    refine Ev.jlt (tgt := 106) rfl (by decide) (fun c9 => ?_) (fun c9 => absurd (d1_lt _) c9)
    refine Ev.ret rfl rfl (Nat.le_refl _) (Nat.le_refl _) ?_
    have hK : (K_walk S n0 c0 wo ws be sz st) = ((fo (F_walk_7 S n0 c0 wo ws be sz st) (c0) 0 (0, sz, st)).2.1, (fo (F_walk_7 S n0 c0 wo ws be sz st) (c0) 0 (0, sz, st)).2.2) := by rfl
    rw [← hQ]
    dsimp only
    rw [hK]
    exact ⟨rfl, fr, h_sizes, h_stp, hln, h_row, h_worth, h_wst, h_best, htr⟩
end
end
