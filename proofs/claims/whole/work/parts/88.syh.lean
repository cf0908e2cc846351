/-! The line of a school (class): what stretches are worth, the table (printed by sym.py). -/
noncomputable section
theorem L_set2 (D : Les) (u v : Int32) : L_set (L_set D 3 u) 3 v = L_set D 3 v := by
  funext f
  unfold L_set
  by_cases h : f = 3
  · rw [if_pos h, if_pos h]
  · rw [if_neg h, if_neg h, if_neg h]
theorem settle_set (S : Sch) (D : Les) (u w : Int32) : K_settle S (L_set D 3 u) w = K_settle S D w := by
  have h := fo_rel (F := F_settle_8 S (L_set D 3 u) w) (G := F_settle_8 S D w) (fun _ a b => a.1 = b.1 ∧ a.2.1 = b.2.1) 12 0 ((-1 : Int32), (0 : Int32), (L_set D 3 u 3)) ((-1 : Int32), (0 : Int32), (D 3)) ⟨rfl, rfl⟩ (fun j a b _ _ hab => by
    unfold F_settle_8
    rw [L_set2, hab.1]
    split
    · exact ⟨rfl, rfl⟩
    · exact ⟨rfl, hab.2⟩)
  unfold K_settle
  rw [h.1, h.2]
theorem settle_ln {Γ : ex_G} {σ : ex_S} {S : Sch} {a c : Nat} {D : Les} {u : Int32} (hS0 : isS σ a S) (htr0 : isL σ c (L_set D 3 u)) (hD : D 0 = 0) (hn5 : S.2.1 ≤ 5) (hac : a + 11 ≤ c ∨ c + 1 ≤ a) (w : Int32) : RetX Γ m_School_settle [(.ref a), (.ref c), (.int w)] σ c (c + 1) (some (.int ((K_settle S D w).1))) (fun τ => isL τ c (L_set D 3 ((K_settle S D w).2))) := by
  have h := settle_ok (Γ := Γ) hS0 htr0 (okL_D hD) hn5 hac w
  rw [settle_set, L_set2] at h
  exact h
theorem ngtN {k N : Nat} {y : Int32} (h : k < N + 1) (p : y = nI N) (hN : N < 2 ^ 31 - 1) : ¬ y < nI k := by subst p; exact nI_nlt (by omega) (by omega)
theorem gtN {N : Nat} {y : Int32} (p : y = nI N) (hN : N < 2 ^ 31 - 1) : y < nI (N + 1) := by subst p; exact nI_lt (by omega) (by omega)

section
variable {Γ : ex_G} {σ : ex_S} {x q a p y : Nat} {S : Sch} {T : Tol} {P : Pln} {g A : Nat → Int32}
def F_weigh_20 (S : Sch) (D : Les) (ro wo ws : Nat → Int32) (u : Int32) (k : Nat) (z : (Nat → Int32) × (Nat → Int32) × Int32) : Nat → (Int32 × (Nat → Int32) × (Nat → Int32) × Int32) → (Int32 × (Nat → Int32) × (Nat → Int32) × Int32) ⊕ ((Nat → Int32) × (Nat → Int32) × Int32) := fun k' z' => if (nI ((K_putRow S ro).1)) < ((nI k) + (nI k')) then (.inr (z'.2.1, z'.2.2.1, z'.2.2.2)) else (if (nI k') < (S.2.2 9 2) then (.inl (z'.1 ||| ((1 : Int32) <<< ((((K_putRow S ro).2) ((k + k') - 1)) &&& 31)), z'.2.1, z'.2.2.1, z'.2.2.2)) else (.inl (z'.1 ||| ((1 : Int32) <<< ((((K_putRow S ro).2) ((k + k') - 1)) &&& 31)), (upd z'.2.1 (k * 17 + k') ((K_settle S D (z'.1 ||| ((1 : Int32) <<< ((((K_putRow S ro).2) ((k + k') - 1)) &&& 31)))).1)), (upd z'.2.2.1 (k * 17 + k') ((L_set D 3 ((K_settle S D (z'.1 ||| ((1 : Int32) <<< ((((K_putRow S ro).2) ((k + k') - 1)) &&& 31)))).2)) 3)), (K_settle S D (z'.1 ||| ((1 : Int32) <<< ((((K_putRow S ro).2) ((k + k') - 1)) &&& 31)))).2)))
def F_weigh_7 (S : Sch) (D : Les) (ro wo ws : Nat → Int32) (u : Int32) : Nat → ((Nat → Int32) × (Nat → Int32) × Int32) → ((Nat → Int32) × (Nat → Int32) × Int32) := fun k z => Sum.elim (fun (zx : Int32 × (Nat → Int32) × (Nat → Int32) × Int32) => (zx.2.1, zx.2.2.1, zx.2.2.2)) (fun (rx : (Nat → Int32) × (Nat → Int32) × Int32) => (rx.1, rx.2.1, rx.2.2)) (fe (F_weigh_20 S D ro wo ws u k z) (((S.2.2 9 3).toNatClampNeg + 1) - 1) 1 ((0 : Int32), z.1, z.2.1, z.2.2))
def K_weigh (S : Sch) (D : Les) (ro wo ws : Nat → Int32) (u : Int32) : Nat × (Nat → Int32) × (Nat → Int32) × (Nat → Int32) × Int32 := ((K_putRow S ro).1, (K_putRow S ro).2, (fo (F_weigh_7 S D ro wo ws u) ((K_putRow S ro).1) 0 (wo, ws, u)).1, (fo (F_weigh_7 S D ro wo ws u) ((K_putRow S ro).1) 0 (wo, ws, u)).2.1, (fo (F_weigh_7 S D ro wo ws u) ((K_putRow S ro).1) 0 (wo, ws, u)).2.2)
theorem weigh_ok {n0 c0 : Nat} {lt u : Int32} {D : Les} {ro wo ws be sz st : Nat → Int32} (hln : σ.2 (q) = some (.inr (.inr (6, [.ref (q + 1), .ref (q + 2), .ref (q + 3), .ref (q + 4), .ref (q + 5), .ref (q + 6), .ref (q + 7), .int (nI n0), .int (nI c0), .int lt])))) (h_row : σ.2 (q + 1) = some (.inl (0, 16, ro))) (h_worth : σ.2 (q + 2) = some (.inl (0, 272, wo))) (h_wst : σ.2 (q + 3) = some (.inl (0, 272, ws))) (h_best : σ.2 (q + 4) = some (.inl (0, 119, be))) (h_sizes : σ.2 (q + 5) = some (.inl (0, 6, sz))) (h_stp : σ.2 (q + 6) = some (.inl (0, 6, st))) (htr : isL σ (q + 7) (L_set D 3 u)) (hD : D 0 = 0) (hS0 : isS σ a S) (hwS : wS S) (haq : a + 11 ≤ q) : RetX Γ m_Line_weigh [(.ref q), (.ref a)] σ q (q + 8) none (fun τ => τ.2 q = some (.inr (.inr (6, [(.ref (q + 1)), (.ref (q + 2)), (.ref (q + 3)), (.ref (q + 4)), (.ref (q + 5)), (.ref (q + 6)), (.ref (q + 7)), (.int (nI ((K_weigh S D ro wo ws u).1))), (.int (nI c0)), (.int lt)]))) ∧ τ.2 (q + 1) = some (.inl (0, 16, (K_weigh S D ro wo ws u).2.1)) ∧ τ.2 (q + 2) = some (.inl (0, 272, (K_weigh S D ro wo ws u).2.2.1)) ∧ τ.2 (q + 3) = some (.inl (0, 272, (K_weigh S D ro wo ws u).2.2.2.1)) ∧ isL τ (q + 7) (L_set D 3 ((K_weigh S D ro wo ws u).2.2.2.2)) ∧ τ.2 (q + 4) = some (.inl (0, 119, be)) ∧ τ.2 (q + 5) = some (.inl (0, 6, sz)) ∧ τ.2 (q + 6) = some (.inl (0, 6, st))) := by
  obtain ⟨hle, hle1, hle2⟩ := le_cl hwS
  obtain ⟨hmo, hmo1, hmo2, hlm⟩ := mo_cl hwS
  have hn := hwS.1
  have hn5 := hwS.2.1
  unfold RetX
  generalize hQ : (fun (r : Option Value) (τ : ex_S) => r = none ∧ frm σ τ q (q + 8) ∧ (fun τ : ex_S => τ.2 q = some (.inr (.inr (6, [(.ref (q + 1)), (.ref (q + 2)), (.ref (q + 3)), (.ref (q + 4)), (.ref (q + 5)), (.ref (q + 6)), (.ref (q + 7)), (.int (nI ((K_weigh S D ro wo ws u).1))), (.int (nI c0)), (.int lt)]))) ∧ τ.2 (q + 1) = some (.inl (0, 16, (K_weigh S D ro wo ws u).2.1)) ∧ τ.2 (q + 2) = some (.inl (0, 272, (K_weigh S D ro wo ws u).2.2.1)) ∧ τ.2 (q + 3) = some (.inl (0, 272, (K_weigh S D ro wo ws u).2.2.2.1)) ∧ isL τ (q + 7) (L_set D 3 ((K_weigh S D ro wo ws u).2.2.2.2)) ∧ τ.2 (q + 4) = some (.inl (0, 119, be)) ∧ τ.2 (q + 5) = some (.inl (0, 6, sz)) ∧ τ.2 (q + 6) = some (.inl (0, 6, st))) τ) = Q
  refine Ret.start pm_131 rfl ?_
  have fr : frm σ σ q (q + 8) := frm.rf
  have hS := hS0.frm fr (by omega)
  obtain ⟨h0, h1, h2, h3, h4, h5, h6', h7, h8, h9, h10⟩ := id hS
  refine Ev.aload_n rfl rfl ?_
  refine Ev.aload_n rfl rfl ?_
  refine Ev.xV1u rfl rfl hln rfl rfl (by decide) ⟨(Nat.le_refl _), (Nat.le_refl _)⟩ (putRow_ok hln h_row h_worth h_wst h_best h_sizes h_stp htr hD hS hwS (by omega)) (fun τ1 f1 q1 => ?_)
  obtain ⟨hln, h_row, h_worth, h_wst, h_best, h_sizes, h_stp, htr⟩ := q1
  have fr := fr.step f1 (by omega) (by omega)
  have hS := hS0.frm fr (by omega)
  obtain ⟨h0, h1, h2, h3, h4, h5, h6', h7, h8, h9, h10⟩ := id hS
  have hlr := putRow_le S ro
  have hl16 : (K_putRow S ro).1 ≤ 16 := hlr
  refine Ev.iconst (v := 0) rfl (by decide) ?_
  refine Ev.istore_n rfl rfl rfl ?_
  refine Ev.fg (L := [some (.ref q), some (.ref a), some (.int (nI 0)), none, none]) ?_ (gs rfl (gs rfl (gs (congrArg Value.int (rfl : (0 : Int32) = nI 0).symm) (gn (gn gz)))))
  refine lp (fun (k : Nat) (z : (Nat → Int32) × (Nat → Int32) × Int32) => ∀ τ' : ex_S, frm σ τ' q (q + 8) → τ'.2 q = some (.inr (.inr (6, [(.ref (q + 1)), (.ref (q + 2)), (.ref (q + 3)), (.ref (q + 4)), (.ref (q + 5)), (.ref (q + 6)), (.ref (q + 7)), (.int (nI ((K_putRow S ro).1))), (.int (nI c0)), (.int lt)]))) → τ'.2 (q + 1) = some (.inl (0, 16, (K_putRow S ro).2)) → τ'.2 (q + 2) = some (.inl (0, 272, z.1)) → τ'.2 (q + 3) = some (.inl (0, 272, z.2.1)) → τ'.2 (q + 4) = some (.inl (0, 119, be)) → τ'.2 (q + 5) = some (.inl (0, 6, sz)) → τ'.2 (q + 6) = some (.inl (0, 6, st)) → isL τ' (q + 7) (L_set D 3 z.2.2) → Ev Γ 0 0 m_Line_weigh 0 0 7 [some (.ref q), some (.ref a), some (.int (nI k)), none, none] [] τ' Q) (F_weigh_7 S D ro wo ws u) ((K_putRow S ro).1) (fun k z hk hx => ?_) ((K_putRow S ro).1) 0 (wo, ws, u) (by omega) ?_ τ1 fr hln h_row h_worth h_wst h_best h_sizes h_stp htr
  · skip
    intro τ' fr hln h_row h_worth h_wst h_best h_sizes h_stp htr
    have hS := hS0.frm fr (by omega)
    obtain ⟨h0, h1, h2, h3, h4, h5, h6', h7, h8, h9, h10⟩ := id hS
    refine Ev.iload_n rfl rfl ?_
    refine Ev.aload_n rfl rfl ?_
    refine Ev.getf rfl rfl hln rfl ?_
    refine Ev.jge (tgt := 121) rfl (by decide) (fun c12 => absurd (nI_lt hk (by omega)) c12) (fun c12 => ?_)
    refine Ev.iconst (v := 0) rfl (by decide) ?_
    refine Ev.istore_n rfl rfl rfl ?_
    refine Ev.iconst (v := 1) rfl (by decide) ?_
    refine Ev.istore rfl rfl rfl ?_
    refine Ev.fg (L := [some (.ref q), some (.ref a), some (.int (nI k)), some (.int (0 : Int32)), some (.int (nI 1))]) ?_ (gs rfl (gs rfl (gs rfl (gs rfl (gs (congrArg Value.int (rfl : (1 : Int32) = nI 1).symm) gz)))))
    refine lpe (fun (k' : Nat) (z' : Int32 × (Nat → Int32) × (Nat → Int32) × Int32) => (1 ≤ k') → ∀ τ'' : ex_S, frm σ τ'' q (q + 8) → τ''.2 q = some (.inr (.inr (6, [(.ref (q + 1)), (.ref (q + 2)), (.ref (q + 3)), (.ref (q + 4)), (.ref (q + 5)), (.ref (q + 6)), (.ref (q + 7)), (.int (nI ((K_putRow S ro).1))), (.int (nI c0)), (.int lt)]))) → τ''.2 (q + 1) = some (.inl (0, 16, (K_putRow S ro).2)) → τ''.2 (q + 2) = some (.inl (0, 272, z'.2.1)) → τ''.2 (q + 3) = some (.inl (0, 272, z'.2.2.1)) → τ''.2 (q + 4) = some (.inl (0, 119, be)) → τ''.2 (q + 5) = some (.inl (0, 6, sz)) → τ''.2 (q + 6) = some (.inl (0, 6, st)) → isL τ'' (q + 7) (L_set D 3 z'.2.2.2) → Ev Γ 0 0 m_Line_weigh 0 0 20 [some (.ref q), some (.ref a), some (.int (nI k)), some (.int z'.1), some (.int (nI k'))] [] τ'' Q) (fun (r : (Nat → Int32) × (Nat → Int32) × Int32) => ∀ τ'' : ex_S, frm σ τ'' q (q + 8) → τ''.2 q = some (.inr (.inr (6, [(.ref (q + 1)), (.ref (q + 2)), (.ref (q + 3)), (.ref (q + 4)), (.ref (q + 5)), (.ref (q + 6)), (.ref (q + 7)), (.int (nI ((K_putRow S ro).1))), (.int (nI c0)), (.int lt)]))) → τ''.2 (q + 1) = some (.inl (0, 16, (K_putRow S ro).2)) → τ''.2 (q + 2) = some (.inl (0, 272, r.1)) → τ''.2 (q + 3) = some (.inl (0, 272, r.2.1)) → τ''.2 (q + 4) = some (.inl (0, 119, be)) → τ''.2 (q + 5) = some (.inl (0, 6, sz)) → τ''.2 (q + 6) = some (.inl (0, 6, st)) → isL τ'' (q + 7) (L_set D 3 r.2.2) → Ev Γ 0 0 m_Line_weigh 0 0 115 [some (.ref q), some (.ref a), some (.int (nI k)), none, none] [] τ'' Q) (F_weigh_20 S D ro wo ws u k z) ((S.2.2 9 3).toNatClampNeg + 1) (fun k' z' hk' hx' he => ?_) (((S.2.2 9 3).toNatClampNeg + 1) - 1) 1 ((0 : Int32), z.1, z.2.1, z.2.2) (by omega) (fun zx hzx => ?_) (fun rx hrx => ?_) (Nat.le_refl _) τ' fr hln h_row h_worth h_wst h_best h_sizes h_stp htr
    · skip
      intro hI'
      intro τ'' fr hln h_row h_worth h_wst h_best h_sizes h_stp htr
      have hS := hS0.frm fr (by omega)
      obtain ⟨h0, h1, h2, h3, h4, h5, h6', h7, h8, h9, h10⟩ := id hS
      refine Ev.iload rfl rfl ?_
      refine Ev.aload_n rfl rfl ?_
      refine Ev.getf rfl rfl h0 rfl ?_
      refine Ev.iconst (v := 3) rfl (by decide) ?_
      refine Ev.ialdN (k := 3) rfl h10 (rfl : (3 : Int32) = nI 3) ⟨(by omega), by decide⟩ ?_
      refine Ev.jgt (tgt := 115) rfl (by decide) (fun c28 => absurd c28 (ngtN hk' hmo (by omega))) (fun c28 => ?_)
      refine Ev.iload_n rfl rfl ?_
      refine Ev.iload rfl rfl ?_
      refine Ev.iadd rfl ?_
      refine Ev.aload_n rfl rfl ?_
      refine Ev.getf rfl rfl hln rfl ?_
      refine Ev.jgt (tgt := 115) rfl (by decide) (fun c39 => ?_) (fun c39 => ?_)
      · skip
        have hF : (F_weigh_20 S D ro wo ws u k z) k' z' = .inr (z'.2.1, z'.2.2.1, z'.2.2.2) := by
          unfold F_weigh_20
          rw [if_pos c39]
        exact (he _ hF τ'' fr hln h_row h_worth h_wst h_best h_sizes h_stp htr).fg (gs rfl (gs rfl (gs rfl (gn (gn gz)))))
      · skip
        have hfn : k + k' ≤ (K_putRow S ro).1 := Nat.le_of_not_lt (fun c => c39 (by rw [nI_add]; exact (nI_lt_iff (by omega) (by omega)).mpr c))
        refine Ev.iload_n rfl rfl ?_
        refine Ev.iconst (v := 1) rfl (by decide) ?_
        refine Ev.aload_n rfl rfl ?_
        refine Ev.getf rfl rfl hln rfl ?_
        refine Ev.iload_n rfl rfl ?_
        refine Ev.iload rfl rfl ?_
        refine Ev.iadd rfl ?_
        refine Ev.iconst (v := 1) rfl (by decide) ?_
        refine Ev.isub rfl ?_
        refine Ev.ialdN (k := (k + k') - 1) rfl h_row (nq_sub (a := k + k') (b := 1) (nq_add (a := k) (b := k') rfl rfl) (rfl : (1 : Int32) = nI 1) (by omega)) ⟨(by omega), by decide⟩ ?_
        refine Ev.ishl rfl ?_
        refine Ev.ior rfl ?_
        refine Ev.istore_n rfl rfl rfl ?_
        refine Ev.iload rfl rfl ?_
        refine Ev.aload_n rfl rfl ?_
        refine Ev.getf rfl rfl h0 rfl ?_
        refine Ev.iconst (v := 2) rfl (by decide) ?_
        refine Ev.ialdN (k := 2) rfl h10 (rfl : (2 : Int32) = nI 2) ⟨(by omega), by decide⟩ ?_
        refine Ev.jlt (tgt := 109) rfl (by decide) (fun c66 => ?_) (fun c66 => ?_)
        · skip
          refine Ev.iinc (d := 1) rfl rfl rfl (by decide) rfl ?_
          refine Ev.goto (tgt := 20) rfl (by decide) ?_
          have hF : (F_weigh_20 S D ro wo ws u k z) k' z' = .inl (z'.1 ||| ((1 : Int32) <<< ((((K_putRow S ro).2) ((k + k') - 1)) &&& 31)), z'.2.1, z'.2.2.1, z'.2.2.2) := by
            unfold F_weigh_20
            rw [if_neg c39]
            rw [if_pos c66]
          exact (hx' _ hF (by show (1 ≤ k' + 1); omega) τ'' fr hln h_row h_worth h_wst h_best h_sizes h_stp htr).fg (gs rfl (gs rfl (gs rfl (gs rfl (gs (congrArg Value.int (show nI (k' + 1) = (nI k') + (1 : Int32) from (nq_to (a := k' + 1) (nq_add (a := k') (b := 1) rfl (rfl : (1 : Int32) = nI 1)) (by omega)).symm)) gz)))))
        · skip
          refine Ev.aload_n rfl rfl ?_
          refine Ev.getf rfl rfl hln rfl ?_
          refine Ev.iload_n rfl rfl ?_
          refine Ev.bipush (v := 17) rfl (by decide) ?_
          refine Ev.imul rfl ?_
          refine Ev.iload rfl rfl ?_
          refine Ev.iadd rfl ?_
          refine Ev.aload_n rfl rfl ?_
          refine Ev.aload_n rfl rfl ?_
          refine Ev.getf rfl rfl hln rfl ?_
          refine Ev.iload_n rfl rfl ?_
          refine Ev.xV2 rfl rfl h0 rfl rfl (by decide) ⟨(Nat.le_refl _), (Nat.le_refl _)⟩ (settle_ln hS htr hD hn5 (by omega) _) (fun τ2 f1 q1 => ?_)
          have htr := q1
          have hln := frm.cell f1 hln (by omega)
          have h_row := frm.cell f1 h_row (by omega)
          have h_worth := frm.cell f1 h_worth (by omega)
          have h_wst := frm.cell f1 h_wst (by omega)
          have h_best := frm.cell f1 h_best (by omega)
          have h_sizes := frm.cell f1 h_sizes (by omega)
          have h_stp := frm.cell f1 h_stp (by omega)
          have fr := fr.step f1 (by omega) (by omega)
          have hS := hS0.frm fr (by omega)
          obtain ⟨h0, h1, h2, h3, h4, h5, h6', h7, h8, h9, h10⟩ := id hS
          refine Ev.iastE (k := k * 17 + k') rfl h_worth (nq_add (a := k * 17) (b := k') (nq_mul (a := k) (b := 17) rfl (rfl : (17 : Int32) = nI 17)) rfl) ⟨(by omega), by decide⟩ (fun τ3 f1 h_worth => ?_)
          have hln := frm.cell f1 hln (by omega)
          have h_row := frm.cell f1 h_row (by omega)
          have h_wst := frm.cell f1 h_wst (by omega)
          have h_best := frm.cell f1 h_best (by omega)
          have h_sizes := frm.cell f1 h_sizes (by omega)
          have h_stp := frm.cell f1 h_stp (by omega)
          have htr := isL.frm htr f1 (by omega)
          have fr := fr.step f1 (by omega) (by omega)
          have hS := hS0.frm fr (by omega)
          obtain ⟨h0, h1, h2, h3, h4, h5, h6', h7, h8, h9, h10⟩ := id hS
          refine Ev.aload_n rfl rfl ?_
          refine Ev.getf rfl rfl hln rfl ?_
          refine Ev.iload_n rfl rfl ?_
          refine Ev.bipush (v := 17) rfl (by decide) ?_
          refine Ev.imul rfl ?_
          refine Ev.iload rfl rfl ?_
          refine Ev.iadd rfl ?_
          refine Ev.aload_n rfl rfl ?_
          refine Ev.getf rfl rfl hln rfl ?_
          refine Ev.getf rfl rfl htr rfl ?_
          refine Ev.iastE (k := k * 17 + k') rfl h_wst (nq_add (a := k * 17) (b := k') (nq_mul (a := k) (b := 17) rfl (rfl : (17 : Int32) = nI 17)) rfl) ⟨(by omega), by decide⟩ (fun τ4 f1 h_wst => ?_)
          have hln := frm.cell f1 hln (by omega)
          have h_row := frm.cell f1 h_row (by omega)
          have h_worth := frm.cell f1 h_worth (by omega)
          have h_best := frm.cell f1 h_best (by omega)
          have h_sizes := frm.cell f1 h_sizes (by omega)
          have h_stp := frm.cell f1 h_stp (by omega)
          have htr := isL.frm htr f1 (by omega)
          have fr := fr.step f1 (by omega) (by omega)
          have hS := hS0.frm fr (by omega)
          obtain ⟨h0, h1, h2, h3, h4, h5, h6', h7, h8, h9, h10⟩ := id hS
          refine Ev.iinc (d := 1) rfl rfl rfl (by decide) rfl ?_
          refine Ev.goto (tgt := 20) rfl (by decide) ?_
          have hF : (F_weigh_20 S D ro wo ws u k z) k' z' = .inl (z'.1 ||| ((1 : Int32) <<< ((((K_putRow S ro).2) ((k + k') - 1)) &&& 31)), (upd z'.2.1 (k * 17 + k') ((K_settle S D (z'.1 ||| ((1 : Int32) <<< ((((K_putRow S ro).2) ((k + k') - 1)) &&& 31)))).1)), (upd z'.2.2.1 (k * 17 + k') ((L_set D 3 ((K_settle S D (z'.1 ||| ((1 : Int32) <<< ((((K_putRow S ro).2) ((k + k') - 1)) &&& 31)))).2)) 3)), (K_settle S D (z'.1 ||| ((1 : Int32) <<< ((((K_putRow S ro).2) ((k + k') - 1)) &&& 31)))).2) := by
            unfold F_weigh_20
            rw [if_neg c39]
            rw [if_neg c66]
          exact (hx' _ hF (by show (1 ≤ k' + 1); omega) τ4 fr hln h_row h_worth h_wst h_best h_sizes h_stp htr).fg (gs rfl (gs rfl (gs rfl (gs rfl (gs (congrArg Value.int (show nI (k' + 1) = (nI k') + (1 : Int32) from (nq_to (a := k' + 1) (nq_add (a := k') (b := 1) rfl (rfl : (1 : Int32) = nI 1)) (by omega)).symm)) gz)))))
    · skip
      intro hI'
      intro τ'' fr hln h_row h_worth h_wst h_best h_sizes h_stp htr
      have hS := hS0.frm fr (by omega)
      obtain ⟨h0, h1, h2, h3, h4, h5, h6', h7, h8, h9, h10⟩ := id hS
      refine Ev.iload rfl rfl ?_
      refine Ev.aload_n rfl rfl ?_
      refine Ev.getf rfl rfl h0 rfl ?_
      refine Ev.iconst (v := 3) rfl (by decide) ?_
      refine Ev.ialdN (k := 3) rfl h10 (rfl : (3 : Int32) = nI 3) ⟨(by omega), by decide⟩ ?_
      refine Ev.jgt (tgt := 115) rfl (by decide) (fun c28 => ?_) (fun c28 => absurd (gtN hmo (by omega)) c28)
      refine Ev.iinc (d := 1) rfl rfl rfl (by decide) rfl ?_
      refine Ev.goto (tgt := 7) rfl (by decide) ?_
      have hF : (F_weigh_7 S D ro wo ws u) k z = (zx.2.1, zx.2.2.1, zx.2.2.2) := by
        unfold F_weigh_7
        rw [hzx, Sum.elim_inl]
      rw [hF] at hx
      exact (hx τ'' fr hln h_row h_worth h_wst h_best h_sizes h_stp htr).fg (gs rfl (gs rfl (gs (congrArg Value.int (show nI (k + 1) = (nI k) + (1 : Int32) from (nq_to (a := k + 1) (nq_add (a := k) (b := 1) rfl (rfl : (1 : Int32) = nI 1)) (by omega)).symm)) (gn (gn gz)))))
    · skip
      intro τ'' fr hln h_row h_worth h_wst h_best h_sizes h_stp htr
      have hS := hS0.frm fr (by omega)
      obtain ⟨h0, h1, h2, h3, h4, h5, h6', h7, h8, h9, h10⟩ := id hS
      refine Ev.iinc (d := 1) rfl rfl rfl (by decide) rfl ?_
      refine Ev.goto (tgt := 7) rfl (by decide) ?_
      have hF : (F_weigh_7 S D ro wo ws u) k z = (rx.1, rx.2.1, rx.2.2) := by
        unfold F_weigh_7
        rw [hrx, Sum.elim_inr]
      rw [hF] at hx
      exact (hx τ'' fr hln h_row h_worth h_wst h_best h_sizes h_stp htr).fg (gs rfl (gs rfl (gs (congrArg Value.int (show nI (k + 1) = (nI k) + (1 : Int32) from (nq_to (a := k + 1) (nq_add (a := k) (b := 1) rfl (rfl : (1 : Int32) = nI 1)) (by omega)).symm)) (gn (gn gz)))))
  · skip
    intro τ' fr hln h_row h_worth h_wst h_best h_sizes h_stp htr
    have hS := hS0.frm fr (by omega)
    obtain ⟨h0, h1, h2, h3, h4, h5, h6', h7, h8, h9, h10⟩ := id hS
    refine Ev.iload_n rfl rfl ?_
    refine Ev.aload_n rfl rfl ?_
    refine Ev.getf rfl rfl hln rfl ?_
    refine Ev.jge (tgt := 121) rfl (by decide) (fun c12 => ?_) (fun c12 => absurd c12 (nI_nlt (Nat.le_refl _) (by omega)))
    refine Ev.ret rfl rfl (Nat.le_refl _) (Nat.le_refl _) ?_
    have hK : (K_weigh S D ro wo ws u) = ((K_putRow S ro).1, (K_putRow S ro).2, (fo (F_weigh_7 S D ro wo ws u) ((K_putRow S ro).1) 0 (wo, ws, u)).1, (fo (F_weigh_7 S D ro wo ws u) ((K_putRow S ro).1) 0 (wo, ws, u)).2.1, (fo (F_weigh_7 S D ro wo ws u) ((K_putRow S ro).1) 0 (wo, ws, u)).2.2) := by rfl
    rw [← hQ]
    dsimp only
    rw [hK]
    exact ⟨rfl, fr, hln, h_row, h_worth, h_wst, htr, h_best, h_sizes, h_stp⟩
def K_with (wo be : Nat → Int32) (j f n : Nat) : Int32 := if (be ((j - 1) * 17 + f + n)) = (-1 : Int32) then (-1 : Int32) else ((wo (f * 17 + n)) + (be ((j - 1) * 17 + f + n)))
theorem with_ok {n0 c0 : Nat} {lt u : Int32} {D : Les} {ro wo ws be sz st : Nat → Int32} (hln : σ.2 (q) = some (.inr (.inr (6, [.ref (q + 1), .ref (q + 2), .ref (q + 3), .ref (q + 4), .ref (q + 5), .ref (q + 6), .ref (q + 7), .int (nI n0), .int (nI c0), .int lt])))) (h_row : σ.2 (q + 1) = some (.inl (0, 16, ro))) (h_worth : σ.2 (q + 2) = some (.inl (0, 272, wo))) (h_wst : σ.2 (q + 3) = some (.inl (0, 272, ws))) (h_best : σ.2 (q + 4) = some (.inl (0, 119, be))) (h_sizes : σ.2 (q + 5) = some (.inl (0, 6, sz))) (h_stp : σ.2 (q + 6) = some (.inl (0, 6, st))) (htr : isL σ (q + 7) (L_set D 3 u)) (hD : D 0 = 0) {j f n : Nat} (hj1 : 1 ≤ j) (hj2 : j ≤ 6) (hn1 : 1 ≤ n) (hfn : f + n ≤ 16) : RetV Γ m_Line_with [(.ref q), (.int (nI j)), (.int (nI f)), (.int (nI n))] σ (.int (K_with wo be j f n)) := by
  unfold RetV
  generalize hQ : (fun (r : Option Value) (σ' : ex_S) => r = some ((.int (K_with wo be j f n)) : Value) ∧ σ' = σ) = Q
  refine Ret.start pm_136 rfl ?_
  refine Ev.aload_n rfl rfl ?_
  refine Ev.getf rfl rfl hln rfl ?_
  refine Ev.iload_n rfl rfl ?_
  refine Ev.iconst (v := 1) rfl (by decide) ?_
  refine Ev.isub rfl ?_
  refine Ev.bipush (v := 17) rfl (by decide) ?_
  refine Ev.imul rfl ?_
  refine Ev.iload_n rfl rfl ?_
  refine Ev.iadd rfl ?_
  refine Ev.iload_n rfl rfl ?_
  refine Ev.iadd rfl ?_
  refine Ev.ialdN (k := (j - 1) * 17 + f + n) rfl h_best (nq_add (a := (j - 1) * 17 + f) (b := n) (nq_add (a := (j - 1) * 17) (b := f) (nq_mul (a := j - 1) (b := 17) (nq_sub (a := j) (b := 1) rfl (rfl : (1 : Int32) = nI 1) (by omega)) (rfl : (17 : Int32) = nI 17)) rfl) rfl) ⟨(by omega), by decide⟩ ?_
  refine Ev.istore rfl rfl rfl ?_
  refine Ev.iload rfl rfl ?_
  refine Ev.iconst (v := (-1)) rfl (by decide) ?_
  refine Ev.jne (tgt := 27) rfl (by decide) (fun c20 => ?_) (fun c20 => ?_)
  · skip
    refine Ev.aload_n rfl rfl ?_
    refine Ev.getf rfl rfl hln rfl ?_
    refine Ev.iload_n rfl rfl ?_
    refine Ev.bipush (v := 17) rfl (by decide) ?_
    refine Ev.imul rfl ?_
    refine Ev.iload_n rfl rfl ?_
    refine Ev.iadd rfl ?_
    refine Ev.ialdN (k := f * 17 + n) rfl h_worth (nq_add (a := f * 17) (b := n) (nq_mul (a := f) (b := 17) rfl (rfl : (17 : Int32) = nI 17)) rfl) ⟨(by omega), by decide⟩ ?_
    refine Ev.iload rfl rfl ?_
    refine Ev.iadd rfl ?_
    refine Ev.iret (ty := .int) rfl rfl rfl (Nat.le_refl _) (Nat.le_refl _) ?_
    rw [← hQ]
    refine ⟨congrArg (fun v => some (Value.int v)) (Eq.symm ?_), rfl⟩
    unfold K_with
    rw [if_neg c20]
  · skip
    refine Ev.iconst (v := (-1)) rfl (by decide) ?_
    refine Ev.goto (tgt := 41) rfl (by decide) ?_
    refine Ev.iret (ty := .int) rfl rfl rfl (Nat.le_refl _) (Nat.le_refl _) ?_
    rw [← hQ]
    refine ⟨congrArg (fun v => some (Value.int v)) (Eq.symm ?_), rfl⟩
    unfold K_with
    rw [if_pos c20]
def F_fill_2 (S : Sch) (n0 k0 : Nat) (wo be : Nat → Int32) : Nat → (Nat → Int32) → (Nat → Int32) := fun k z => if (nI k) = (nI n0) then (upd z k (0 : Int32)) else (upd z k (-1 : Int32))
def F_fill_71 (S : Sch) (n0 k0 : Nat) (wo be : Nat → Int32) (k : Nat) (z : (Nat → Int32)) (k' : Nat) (z' : (Nat → Int32)) : Nat → Int32 → (Int32) ⊕ Int32 := fun k'' z'' => if (nI n0) < ((nI k') + (nI k'')) then (.inr z'') else (.inl (if z'' < (K_with wo z' k k' k'') then K_with wo z' k k' k'' else z''))
def F_fill_51 (S : Sch) (n0 k0 : Nat) (wo be : Nat → Int32) (k : Nat) (z : (Nat → Int32)) : Nat → (Nat → Int32) → (Nat → Int32) := fun k' z' => Sum.elim (fun (zx : Int32) => (upd z' (k * 17 + k') zx)) (fun (rx : Int32) => (upd z' (k * 17 + k') rx)) (fe (F_fill_71 S n0 k0 wo be k z k' z') (((S.2.2 9 3).toNatClampNeg + 1) - ((S.2.2 9 2).toNatClampNeg)) ((S.2.2 9 2).toNatClampNeg) (-1 : Int32))
def F_fill_37 (S : Sch) (n0 k0 : Nat) (wo be : Nat → Int32) : Nat → (Nat → Int32) → (Nat → Int32) := fun k z => (fo (F_fill_51 S n0 k0 wo be k z) (n0 + 1) 0 z)
def K_fill (S : Sch) (n0 k0 : Nat) (wo be : Nat → Int32) : (Nat → Int32) := (fo (F_fill_37 S n0 k0 wo be) ((k0 + 1) - 1) 1 (fo (F_fill_2 S n0 k0 wo be) (n0 + 1) 0 be))
theorem fill_ok {n0 c0 : Nat} {lt u : Int32} {D : Les} {ro wo ws be sz st : Nat → Int32} (hln : σ.2 (q) = some (.inr (.inr (6, [.ref (q + 1), .ref (q + 2), .ref (q + 3), .ref (q + 4), .ref (q + 5), .ref (q + 6), .ref (q + 7), .int (nI n0), .int (nI c0), .int lt])))) (h_row : σ.2 (q + 1) = some (.inl (0, 16, ro))) (h_worth : σ.2 (q + 2) = some (.inl (0, 272, wo))) (h_wst : σ.2 (q + 3) = some (.inl (0, 272, ws))) (h_best : σ.2 (q + 4) = some (.inl (0, 119, be))) (h_sizes : σ.2 (q + 5) = some (.inl (0, 6, sz))) (h_stp : σ.2 (q + 6) = some (.inl (0, 6, st))) (htr : isL σ (q + 7) (L_set D 3 u)) (hD : D 0 = 0) (hS0 : isS σ a S) (hwS : wS S) (haq : a + 11 ≤ q) (hn0 : n0 ≤ 16) {k0 : Nat} (hk1 : 1 ≤ k0) (hk6 : k0 ≤ 6) : RetX Γ m_Line_fillTable [(.ref q), (.ref a), (.int (nI k0))] σ q (q + 8) none (fun τ => τ.2 (q + 4) = some (.inl (0, 119, (K_fill S n0 k0 wo be))) ∧ τ.2 q = some (.inr (.inr (6, [(.ref (q + 1)), (.ref (q + 2)), (.ref (q + 3)), (.ref (q + 4)), (.ref (q + 5)), (.ref (q + 6)), (.ref (q + 7)), (.int (nI n0)), (.int (nI c0)), (.int lt)]))) ∧ τ.2 (q + 1) = some (.inl (0, 16, ro)) ∧ τ.2 (q + 2) = some (.inl (0, 272, wo)) ∧ τ.2 (q + 3) = some (.inl (0, 272, ws)) ∧ τ.2 (q + 5) = some (.inl (0, 6, sz)) ∧ τ.2 (q + 6) = some (.inl (0, 6, st)) ∧ isL τ (q + 7) (L_set D 3 u)) := by
  obtain ⟨hle, hle1, hle2⟩ := le_cl hwS
  obtain ⟨hmo, hmo1, hmo2, hlm⟩ := mo_cl hwS
  have hn := hwS.1
  have hn5 := hwS.2.1
  unfold RetX
  generalize hQ : (fun (r : Option Value) (τ : ex_S) => r = none ∧ frm σ τ q (q + 8) ∧ (fun τ : ex_S => τ.2 (q + 4) = some (.inl (0, 119, (K_fill S n0 k0 wo be))) ∧ τ.2 q = some (.inr (.inr (6, [(.ref (q + 1)), (.ref (q + 2)), (.ref (q + 3)), (.ref (q + 4)), (.ref (q + 5)), (.ref (q + 6)), (.ref (q + 7)), (.int (nI n0)), (.int (nI c0)), (.int lt)]))) ∧ τ.2 (q + 1) = some (.inl (0, 16, ro)) ∧ τ.2 (q + 2) = some (.inl (0, 272, wo)) ∧ τ.2 (q + 3) = some (.inl (0, 272, ws)) ∧ τ.2 (q + 5) = some (.inl (0, 6, sz)) ∧ τ.2 (q + 6) = some (.inl (0, 6, st)) ∧ isL τ (q + 7) (L_set D 3 u)) τ) = Q
  refine Ret.start pm_135 rfl ?_
  have fr : frm σ σ q (q + 8) := frm.rf
  have hS := hS0.frm fr (by omega)
  obtain ⟨h0, h1, h2, h3, h4, h5, h6', h7, h8, h9, h10⟩ := id hS
  refine Ev.iconst (v := 0) rfl (by decide) ?_
  refine Ev.istore_n rfl rfl rfl ?_
  refine Ev.fg (L := [some (.ref q), some (.ref a), some (.int (nI k0)), some (.int (nI 0)), none, none, none]) ?_ (gs rfl (gs rfl (gs rfl (gs (congrArg Value.int (rfl : (0 : Int32) = nI 0).symm) (gn (gn (gn gz)))))))
  refine lp (fun (k : Nat) (z : (Nat → Int32)) => ∀ τ' : ex_S, frm σ τ' q (q + 8) → τ'.2 q = some (.inr (.inr (6, [(.ref (q + 1)), (.ref (q + 2)), (.ref (q + 3)), (.ref (q + 4)), (.ref (q + 5)), (.ref (q + 6)), (.ref (q + 7)), (.int (nI n0)), (.int (nI c0)), (.int lt)]))) → τ'.2 (q + 1) = some (.inl (0, 16, ro)) → τ'.2 (q + 2) = some (.inl (0, 272, wo)) → τ'.2 (q + 3) = some (.inl (0, 272, ws)) → τ'.2 (q + 4) = some (.inl (0, 119, z)) → τ'.2 (q + 5) = some (.inl (0, 6, sz)) → τ'.2 (q + 6) = some (.inl (0, 6, st)) → isL τ' (q + 7) (L_set D 3 u) → Ev Γ 0 0 m_Line_fillTable 0 0 2 [some (.ref q), some (.ref a), some (.int (nI k0)), some (.int (nI k)), none, none, none] [] τ' Q) (F_fill_2 S n0 k0 wo be) (n0 + 1) (fun k z hk hx => ?_) (n0 + 1) 0 be (by omega) ?_ σ fr hln h_row h_worth h_wst h_best h_sizes h_stp htr
  · skip
    intro τ' fr hln h_row h_worth h_wst h_best h_sizes h_stp htr
    have hS := hS0.frm fr (by omega)
    obtain ⟨h0, h1, h2, h3, h4, h5, h6', h7, h8, h9, h10⟩ := id hS
    refine Ev.iload_n rfl rfl ?_
    refine Ev.aload_n rfl rfl ?_
    refine Ev.getf rfl rfl hln rfl ?_
    refine Ev.jgt (tgt := 35) rfl (by decide) (fun c7 => absurd c7 (nI_nlt (by omega) (by omega))) (fun c7 => ?_)
    refine Ev.aload_n rfl rfl ?_
    refine Ev.getf rfl rfl hln rfl ?_
    refine Ev.iload_n rfl rfl ?_
    refine Ev.iload_n rfl rfl ?_
    refine Ev.aload_n rfl rfl ?_
    refine Ev.getf rfl rfl hln rfl ?_
    refine Ev.jne (tgt := 27) rfl (by decide) (fun c20 => ?_) (fun c20 => ?_)
    · skip
      refine Ev.iconst (v := (-1)) rfl (by decide) ?_
      refine Ev.iastE (k := k) rfl h_best rfl ⟨(by omega), by decide⟩ (fun τ1 f1 h_best => ?_)
      have hln := frm.cell f1 hln (by omega)
      have h_row := frm.cell f1 h_row (by omega)
      have h_worth := frm.cell f1 h_worth (by omega)
      have h_wst := frm.cell f1 h_wst (by omega)
      have h_sizes := frm.cell f1 h_sizes (by omega)
      have h_stp := frm.cell f1 h_stp (by omega)
      have htr := isL.frm htr f1 (by omega)
      have fr := fr.step f1 (by omega) (by omega)
      have hS := hS0.frm fr (by omega)
      obtain ⟨h0, h1, h2, h3, h4, h5, h6', h7, h8, h9, h10⟩ := id hS
      refine Ev.iinc (d := 1) rfl rfl rfl (by decide) rfl ?_
      refine Ev.goto (tgt := 2) rfl (by decide) ?_
      have hF : (F_fill_2 S n0 k0 wo be) k z = (upd z k (-1 : Int32)) := by
        unfold F_fill_2
        rw [if_neg c20]
      rw [hF] at hx
      exact (hx τ1 fr hln h_row h_worth h_wst h_best h_sizes h_stp htr).fg (gs rfl (gs rfl (gs rfl (gs (congrArg Value.int (show nI (k + 1) = (nI k) + (1 : Int32) from (nq_to (a := k + 1) (nq_add (a := k) (b := 1) rfl (rfl : (1 : Int32) = nI 1)) (by omega)).symm)) (gn (gn (gn gz)))))))
    · skip
      refine Ev.iconst (v := 0) rfl (by decide) ?_
      refine Ev.goto (tgt := 28) rfl (by decide) ?_
      refine Ev.iastE (k := k) rfl h_best rfl ⟨(by omega), by decide⟩ (fun τ2 f1 h_best => ?_)
      have hln := frm.cell f1 hln (by omega)
      have h_row := frm.cell f1 h_row (by omega)
      have h_worth := frm.cell f1 h_worth (by omega)
      have h_wst := frm.cell f1 h_wst (by omega)
      have h_sizes := frm.cell f1 h_sizes (by omega)
      have h_stp := frm.cell f1 h_stp (by omega)
      have htr := isL.frm htr f1 (by omega)
      have fr := fr.step f1 (by omega) (by omega)
      have hS := hS0.frm fr (by omega)
      obtain ⟨h0, h1, h2, h3, h4, h5, h6', h7, h8, h9, h10⟩ := id hS
      refine Ev.iinc (d := 1) rfl rfl rfl (by decide) rfl ?_
      refine Ev.goto (tgt := 2) rfl (by decide) ?_
      have hF : (F_fill_2 S n0 k0 wo be) k z = (upd z k (0 : Int32)) := by
        unfold F_fill_2
        rw [if_pos c20]
      rw [hF] at hx
      exact (hx τ2 fr hln h_row h_worth h_wst h_best h_sizes h_stp htr).fg (gs rfl (gs rfl (gs rfl (gs (congrArg Value.int (show nI (k + 1) = (nI k) + (1 : Int32) from (nq_to (a := k + 1) (nq_add (a := k) (b := 1) rfl (rfl : (1 : Int32) = nI 1)) (by omega)).symm)) (gn (gn (gn gz)))))))
  · skip
    intro τ' fr hln h_row h_worth h_wst h_best h_sizes h_stp htr
    have hS := hS0.frm fr (by omega)
    obtain ⟨h0, h1, h2, h3, h4, h5, h6', h7, h8, h9, h10⟩ := id hS
    refine Ev.iload_n rfl rfl ?_
    refine Ev.aload_n rfl rfl ?_
    refine Ev.getf rfl rfl hln rfl ?_
    refine Ev.jgt (tgt := 35) rfl (by decide) (fun c7 => ?_) (fun c7 => absurd (nI_lt (by omega) (by omega)) c7)
    refine Ev.iconst (v := 1) rfl (by decide) ?_
    refine Ev.istore_n rfl rfl rfl ?_
    refine Ev.fg (L := [some (.ref q), some (.ref a), some (.int (nI k0)), some (.int (nI 1)), none, none, none]) ?_ (gs rfl (gs rfl (gs rfl (gs (congrArg Value.int (rfl : (1 : Int32) = nI 1).symm) (gn (gn (gn gz)))))))
    refine lp (fun (k : Nat) (z : (Nat → Int32)) => (1 ≤ k) → ∀ τ' : ex_S, frm σ τ' q (q + 8) → τ'.2 q = some (.inr (.inr (6, [(.ref (q + 1)), (.ref (q + 2)), (.ref (q + 3)), (.ref (q + 4)), (.ref (q + 5)), (.ref (q + 6)), (.ref (q + 7)), (.int (nI n0)), (.int (nI c0)), (.int lt)]))) → τ'.2 (q + 1) = some (.inl (0, 16, ro)) → τ'.2 (q + 2) = some (.inl (0, 272, wo)) → τ'.2 (q + 3) = some (.inl (0, 272, ws)) → τ'.2 (q + 4) = some (.inl (0, 119, z)) → τ'.2 (q + 5) = some (.inl (0, 6, sz)) → τ'.2 (q + 6) = some (.inl (0, 6, st)) → isL τ' (q + 7) (L_set D 3 u) → Ev Γ 0 0 m_Line_fillTable 0 0 37 [some (.ref q), some (.ref a), some (.int (nI k0)), some (.int (nI k)), none, none, none] [] τ' Q) (F_fill_37 S n0 k0 wo be) (k0 + 1) (fun k z hk hx => ?_) ((k0 + 1) - 1) 1 (fo (F_fill_2 S n0 k0 wo be) (n0 + 1) 0 be) (by omega) ?_ (Nat.le_refl _) τ' fr hln h_row h_worth h_wst h_best h_sizes h_stp htr
    · skip
      intro hI
      intro τ' fr hln h_row h_worth h_wst h_best h_sizes h_stp htr
      have hS := hS0.frm fr (by omega)
      obtain ⟨h0, h1, h2, h3, h4, h5, h6', h7, h8, h9, h10⟩ := id hS
      refine Ev.iload_n rfl rfl ?_
      refine Ev.iload_n rfl rfl ?_
      refine Ev.jgt (tgt := 142) rfl (by decide) (fun c39 => absurd c39 (nI_nlt (by omega) (by omega))) (fun c39 => ?_)
      refine Ev.iload_n rfl rfl ?_
      refine Ev.bipush (v := 6) rfl (by decide) ?_
      refine Ev.jgt (tgt := 142) rfl (by decide) (fun c45 => absurd c45 (nI_nlt (a := 6) (by omega) (by omega))) (fun c45 => ?_)
      refine Ev.iconst (v := 0) rfl (by decide) ?_
      refine Ev.istore rfl rfl rfl ?_
      refine Ev.fg (L := [some (.ref q), some (.ref a), some (.int (nI k0)), some (.int (nI k)), some (.int (nI 0)), none, none]) ?_ (gs rfl (gs rfl (gs rfl (gs rfl (gs (congrArg Value.int (rfl : (0 : Int32) = nI 0).symm) (gn (gn gz)))))))
      refine lp (fun (k' : Nat) (z' : (Nat → Int32)) => ∀ τ'' : ex_S, frm σ τ'' q (q + 8) → τ''.2 q = some (.inr (.inr (6, [(.ref (q + 1)), (.ref (q + 2)), (.ref (q + 3)), (.ref (q + 4)), (.ref (q + 5)), (.ref (q + 6)), (.ref (q + 7)), (.int (nI n0)), (.int (nI c0)), (.int lt)]))) → τ''.2 (q + 1) = some (.inl (0, 16, ro)) → τ''.2 (q + 2) = some (.inl (0, 272, wo)) → τ''.2 (q + 3) = some (.inl (0, 272, ws)) → τ''.2 (q + 4) = some (.inl (0, 119, z')) → τ''.2 (q + 5) = some (.inl (0, 6, sz)) → τ''.2 (q + 6) = some (.inl (0, 6, st)) → isL τ'' (q + 7) (L_set D 3 u) → Ev Γ 0 0 m_Line_fillTable 0 0 51 [some (.ref q), some (.ref a), some (.int (nI k0)), some (.int (nI k)), some (.int (nI k')), none, none] [] τ'' Q) (F_fill_51 S n0 k0 wo be k z) (n0 + 1) (fun k' z' hk' hx' => ?_) (n0 + 1) 0 z (by omega) ?_ τ' fr hln h_row h_worth h_wst h_best h_sizes h_stp htr
      · skip
        intro τ'' fr hln h_row h_worth h_wst h_best h_sizes h_stp htr
        have hS := hS0.frm fr (by omega)
        obtain ⟨h0, h1, h2, h3, h4, h5, h6', h7, h8, h9, h10⟩ := id hS
        refine Ev.iload rfl rfl ?_
        refine Ev.aload_n rfl rfl ?_
        refine Ev.getf rfl rfl hln rfl ?_
        refine Ev.jgt (tgt := 136) rfl (by decide) (fun c57 => absurd c57 (nI_nlt (by omega) (by omega))) (fun c57 => ?_)
        refine Ev.iconst (v := (-1)) rfl (by decide) ?_
        refine Ev.istore rfl rfl rfl ?_
        refine Ev.aload_n rfl rfl ?_
        refine Ev.getf rfl rfl h0 rfl ?_
        refine Ev.iconst (v := 2) rfl (by decide) ?_
        refine Ev.ialdN (k := 2) rfl h10 (rfl : (2 : Int32) = nI 2) ⟨(by omega), by decide⟩ ?_
        refine Ev.istore rfl rfl rfl ?_
        refine Ev.fg (L := [some (.ref q), some (.ref a), some (.int (nI k0)), some (.int (nI k)), some (.int (nI k')), some (.int (-1 : Int32)), some (.int (nI ((S.2.2 9 2).toNatClampNeg)))]) ?_ (gs rfl (gs rfl (gs rfl (gs rfl (gs rfl (gs rfl (gs (congrArg Value.int hle.symm) gz)))))))
        refine lpe (fun (k'' : Nat) (z'' : Int32) => ((S.2.2 9 2).toNatClampNeg ≤ k'') → Ev Γ 0 0 m_Line_fillTable 0 0 71 [some (.ref q), some (.ref a), some (.int (nI k0)), some (.int (nI k)), some (.int (nI k')), some (.int z''), some (.int (nI k''))] [] τ'' Q) (fun (r : Int32) => Ev Γ 0 0 m_Line_fillTable 0 0 116 [some (.ref q), some (.ref a), some (.int (nI k0)), some (.int (nI k)), some (.int (nI k')), some (.int r), none] [] τ'' Q) (F_fill_71 S n0 k0 wo be k z k' z') ((S.2.2 9 3).toNatClampNeg + 1) (fun k'' z'' hk'' hx'' he => ?_) (((S.2.2 9 3).toNatClampNeg + 1) - ((S.2.2 9 2).toNatClampNeg)) ((S.2.2 9 2).toNatClampNeg) (-1 : Int32) (by omega) (fun zx hzx => ?_) (fun rx hrx => ?_) (Nat.le_refl _)
        · skip
          intro hI''
          refine Ev.iload rfl rfl ?_
          refine Ev.aload_n rfl rfl ?_
          refine Ev.getf rfl rfl h0 rfl ?_
          refine Ev.iconst (v := 3) rfl (by decide) ?_
          refine Ev.ialdN (k := 3) rfl h10 (rfl : (3 : Int32) = nI 3) ⟨(by omega), by decide⟩ ?_
          refine Ev.jgt (tgt := 116) rfl (by decide) (fun c79 => absurd c79 (ngtN hk'' hmo (by omega))) (fun c79 => ?_)
          refine Ev.iload rfl rfl ?_
          refine Ev.iload rfl rfl ?_
          refine Ev.iadd rfl ?_
          refine Ev.aload_n rfl rfl ?_
          refine Ev.getf rfl rfl hln rfl ?_
          refine Ev.jgt (tgt := 116) rfl (by decide) (fun c91 => ?_) (fun c91 => ?_)
          · skip
            have hF : (F_fill_71 S n0 k0 wo be k z k' z') k'' z'' = .inr z'' := by
              unfold F_fill_71
              rw [if_pos c91]
            exact (he _ hF).fg (gs rfl (gs rfl (gs rfl (gs rfl (gs rfl (gs rfl (gn gz)))))))
          · skip
            have hfn : k' + k'' ≤ n0 := Nat.le_of_not_lt (fun c => c91 (by rw [nI_add]; exact (nI_lt_iff (by omega) (by omega)).mpr c))
            refine Ev.iload rfl rfl ?_
            refine Ev.aload_n rfl rfl ?_
            refine Ev.iload_n rfl rfl ?_
            refine Ev.iload rfl rfl ?_
            refine Ev.iload rfl rfl ?_
            refine Ev.cV3 rfl rfl hln rfl rfl (by decide) ⟨(Nat.le_refl _), (Nat.le_refl _)⟩ (with_ok hln h_row h_worth h_wst h_best h_sizes h_stp htr hD (by omega) (by omega) (by omega) (by omega)) ?_
            refine Ev.mmax rfl rfl rfl (Nat.le_of_ble_eq_true rfl) ⟨(Nat.le_refl _), (Nat.le_refl _)⟩ ?_
            refine Ev.istore rfl rfl rfl ?_
            refine Ev.iinc (d := 1) rfl rfl rfl (by decide) rfl ?_
            refine Ev.goto (tgt := 71) rfl (by decide) ?_
            have hF : (F_fill_71 S n0 k0 wo be k z k' z') k'' z'' = .inl (if z'' < (K_with wo z' k k' k'') then K_with wo z' k k' k'' else z'') := by
              unfold F_fill_71
              rw [if_neg c91]
            exact (hx'' _ hF (by show ((S.2.2 9 2).toNatClampNeg ≤ k'' + 1); omega)).fg (gs rfl (gs rfl (gs rfl (gs rfl (gs rfl (gs rfl (gs (congrArg Value.int (show nI (k'' + 1) = (nI k'') + (1 : Int32) from (nq_to (a := k'' + 1) (nq_add (a := k'') (b := 1) rfl (rfl : (1 : Int32) = nI 1)) (by omega)).symm)) gz)))))))
        · skip
          intro hI''
          refine Ev.iload rfl rfl ?_
          refine Ev.aload_n rfl rfl ?_
          refine Ev.getf rfl rfl h0 rfl ?_
          refine Ev.iconst (v := 3) rfl (by decide) ?_
          refine Ev.ialdN (k := 3) rfl h10 (rfl : (3 : Int32) = nI 3) ⟨(by omega), by decide⟩ ?_
          refine Ev.jgt (tgt := 116) rfl (by decide) (fun c79 => ?_) (fun c79 => absurd (gtN hmo (by omega)) c79)
          refine Ev.aload_n rfl rfl ?_
          refine Ev.getf rfl rfl hln rfl ?_
          refine Ev.iload_n rfl rfl ?_
          refine Ev.bipush (v := 17) rfl (by decide) ?_
          refine Ev.imul rfl ?_
          refine Ev.iload rfl rfl ?_
          refine Ev.iadd rfl ?_
          refine Ev.iload rfl rfl ?_
          refine Ev.iastE (k := k * 17 + k') rfl h_best (nq_add (a := k * 17) (b := k') (nq_mul (a := k) (b := 17) rfl (rfl : (17 : Int32) = nI 17)) rfl) ⟨(by omega), by decide⟩ (fun τ3 f1 h_best => ?_)
          have hln := frm.cell f1 hln (by omega)
          have h_row := frm.cell f1 h_row (by omega)
          have h_worth := frm.cell f1 h_worth (by omega)
          have h_wst := frm.cell f1 h_wst (by omega)
          have h_sizes := frm.cell f1 h_sizes (by omega)
          have h_stp := frm.cell f1 h_stp (by omega)
          have htr := isL.frm htr f1 (by omega)
          have fr := fr.step f1 (by omega) (by omega)
          have hS := hS0.frm fr (by omega)
          obtain ⟨h0, h1, h2, h3, h4, h5, h6', h7, h8, h9, h10⟩ := id hS
          refine Ev.iinc (d := 1) rfl rfl rfl (by decide) rfl ?_
          refine Ev.goto (tgt := 51) rfl (by decide) ?_
          have hF : (F_fill_51 S n0 k0 wo be k z) k' z' = (upd z' (k * 17 + k') zx) := by
            unfold F_fill_51
            rw [hzx, Sum.elim_inl]
          rw [hF] at hx'
          exact (hx' τ3 fr hln h_row h_worth h_wst h_best h_sizes h_stp htr).fg (gs rfl (gs rfl (gs rfl (gs rfl (gs (congrArg Value.int (show nI (k' + 1) = (nI k') + (1 : Int32) from (nq_to (a := k' + 1) (nq_add (a := k') (b := 1) rfl (rfl : (1 : Int32) = nI 1)) (by omega)).symm)) (gn (gn gz)))))))
        · skip
          refine Ev.aload_n rfl rfl ?_
          refine Ev.getf rfl rfl hln rfl ?_
          refine Ev.iload_n rfl rfl ?_
          refine Ev.bipush (v := 17) rfl (by decide) ?_
          refine Ev.imul rfl ?_
          refine Ev.iload rfl rfl ?_
          refine Ev.iadd rfl ?_
          refine Ev.iload rfl rfl ?_
          refine Ev.iastE (k := k * 17 + k') rfl h_best (nq_add (a := k * 17) (b := k') (nq_mul (a := k) (b := 17) rfl (rfl : (17 : Int32) = nI 17)) rfl) ⟨(by omega), by decide⟩ (fun τ4 f1 h_best => ?_)
          have hln := frm.cell f1 hln (by omega)
          have h_row := frm.cell f1 h_row (by omega)
          have h_worth := frm.cell f1 h_worth (by omega)
          have h_wst := frm.cell f1 h_wst (by omega)
          have h_sizes := frm.cell f1 h_sizes (by omega)
          have h_stp := frm.cell f1 h_stp (by omega)
          have htr := isL.frm htr f1 (by omega)
          have fr := fr.step f1 (by omega) (by omega)
          have hS := hS0.frm fr (by omega)
          obtain ⟨h0, h1, h2, h3, h4, h5, h6', h7, h8, h9, h10⟩ := id hS
          refine Ev.iinc (d := 1) rfl rfl rfl (by decide) rfl ?_
          refine Ev.goto (tgt := 51) rfl (by decide) ?_
          have hF : (F_fill_51 S n0 k0 wo be k z) k' z' = (upd z' (k * 17 + k') rx) := by
            unfold F_fill_51
            rw [hrx, Sum.elim_inr]
          rw [hF] at hx'
          exact (hx' τ4 fr hln h_row h_worth h_wst h_best h_sizes h_stp htr).fg (gs rfl (gs rfl (gs rfl (gs rfl (gs (congrArg Value.int (show nI (k' + 1) = (nI k') + (1 : Int32) from (nq_to (a := k' + 1) (nq_add (a := k') (b := 1) rfl (rfl : (1 : Int32) = nI 1)) (by omega)).symm)) (gn (gn gz)))))))
      · skip
        intro τ'' fr hln h_row h_worth h_wst h_best h_sizes h_stp htr
        have hS := hS0.frm fr (by omega)
        obtain ⟨h0, h1, h2, h3, h4, h5, h6', h7, h8, h9, h10⟩ := id hS
        refine Ev.iload rfl rfl ?_
        refine Ev.aload_n rfl rfl ?_
        refine Ev.getf rfl rfl hln rfl ?_
        refine Ev.jgt (tgt := 136) rfl (by decide) (fun c57 => ?_) (fun c57 => absurd (nI_lt (by omega) (by omega)) c57)
        refine Ev.iinc (d := 1) rfl rfl rfl (by decide) rfl ?_
        refine Ev.goto (tgt := 37) rfl (by decide) ?_
        have hF : (F_fill_37 S n0 k0 wo be) k z = (fo (F_fill_51 S n0 k0 wo be k z) (n0 + 1) 0 z) := by rfl
        rw [hF] at hx
        exact (hx (by show (1 ≤ k + 1); omega) τ'' fr hln h_row h_worth h_wst h_best h_sizes h_stp htr).fg (gs rfl (gs rfl (gs rfl (gs (congrArg Value.int (show nI (k + 1) = (nI k) + (1 : Int32) from (nq_to (a := k + 1) (nq_add (a := k) (b := 1) rfl (rfl : (1 : Int32) = nI 1)) (by omega)).symm)) (gn (gn (gn gz)))))))
    · skip
      intro hI
      intro τ' fr hln h_row h_worth h_wst h_best h_sizes h_stp htr
      have hS := hS0.frm fr (by omega)
      obtain ⟨h0, h1, h2, h3, h4, h5, h6', h7, h8, h9, h10⟩ := id hS
      refine Ev.iload_n rfl rfl ?_
      refine Ev.iload_n rfl rfl ?_
      refine Ev.jgt (tgt := 142) rfl (by decide) (fun c39 => ?_) (fun c39 => absurd (nI_lt (by omega) (by omega)) c39)
      refine Ev.ret rfl rfl (Nat.le_refl _) (Nat.le_refl _) ?_
      have hK : (K_fill S n0 k0 wo be) = (fo (F_fill_37 S n0 k0 wo be) ((k0 + 1) - 1) 1 (fo (F_fill_2 S n0 k0 wo be) (n0 + 1) 0 be)) := by rfl
      rw [← hQ]
      dsimp only
      rw [hK]
      exact ⟨rfl, fr, h_best, hln, h_row, h_worth, h_wst, h_sizes, h_stp, htr⟩
end
end
