/-! Printed by sym.py: sharing out (class). -/
noncomputable section
section
variable {Γ : ex_G} {σ : ex_S} {x q a p y : Nat} {S : Sch} {T : Tol} {P : Pln} {g A : Nat → Int32}
theorem begin_who (w : Int32) (wo : Nat → Int32) : ∀ i, i < (K_begin w wo).1 → (K_begin w wo).2 i = nI ((K_begin w wo).2 i).toNatClampNeg ∧ ((K_begin w wo).2 i).toNatClampNeg < 16 := by
  obtain ⟨a, b⟩ := fe_inv (F := F_begin_7 w wo) (fun _ z => z.1 ≤ 8 ∧ ∀ i, i < z.1 → ∃ q, q < 16 ∧ z.2 i = nI q) (fun r => ∀ i, i < r.1 → ∃ q, q < 16 ∧ r.2 i = nI q) 16 0 (0, wo) ⟨Nat.zero_le 8, fun i hi => absurd hi (Nat.not_lt_zero _)⟩ (fun j z _ hj hz => by
    obtain ⟨h8, hz⟩ := hz
    have h8 : z.1 ≤ 8 := h8
    unfold F_begin_7
    by_cases c : nI z.1 < (8 : Int32)
    · have hz8 := (nI_ltI (a := z.1) (b := 8) (by omega) (by decide)).mp c
      rw [if_pos c]
      refine ⟨fun z' e => ?_, fun r e => ?_⟩
      · split at e
        · cases e; exact ⟨h8, hz⟩
        · cases e
          refine ⟨by show z.1 + 1 ≤ 8; omega, fun i hi => ?_⟩
          have hi : i < z.1 + 1 := hi
          show ∃ q, q < 16 ∧ upd z.2 z.1 (nI j) i = nI q
          by_cases e : i = z.1
          · subst e; exact ⟨j, by omega, pk_us⟩
          · rw [pk_un e]; exact hz i (by omega)
      · split at e <;> cases e
    · rw [if_neg c]
      refine ⟨fun z' e => ?_, fun r e => ?_⟩
      · cases e
      · cases e; exact hz)
  have key : ∀ i, i < (K_begin w wo).1 → ∃ q, q < 16 ∧ (K_begin w wo).2 i = nI q := by
    unfold K_begin
    rcases hf : fe (F_begin_7 w wo) 16 0 (0, wo) with z | r
    · rw [Sum.elim_inl]; exact (a z hf).2
    · rw [Sum.elim_inr]; exact b r hf
  intro i hi
  obtain ⟨q, hq, e⟩ := key i hi
  rw [e, nI_clamp (by omega)]
  exact ⟨rfl, hq⟩
def F_seatAll_10 (S : Sch) (P : Pln) (wo be we : Nat → Int32) : Nat → (Nat → Int32) → (Nat → Int32) := fun k z => (upd z k ((-3 : Int32) * (K_rank ((K_begin (K_all S) wo).1) (nI k))))
def F_seatAll_58 (S : Sch) (P : Pln) (wo be we : Nat → Int32) (k : Nat) (z : (Nat → Int32) × (Nat → Int32)) : Nat → (Nat → Int32) → (Nat → Int32) := fun k' z' => if (K_maySit S (P.2 k) (nI k')) = (0 : Int32) then (upd z' k' (-1000000000 : Int32)) else (upd z' k' (((K_tog S (P.2 k) (nI k')) * (65536 : Int32)) - ((nI k) * (K_rank ((K_begin (K_all S) wo).1) (nI k')))))
def F_seatAll_42 (S : Sch) (P : Pln) (wo be we : Nat → Int32) : Nat → ((Nat → Int32) × (Nat → Int32)) → ((Nat → Int32) × (Nat → Int32)) ⊕ ((Nat → Int32) × (Nat → Int32)) := fun k z => if (nI k) < (3 : Int32) then (.inl (K_give ((K_begin (K_all S) wo).1) z.1 (fo (F_seatAll_58 S P wo be we k z) (2 ^ ((K_begin (K_all S) wo).1)) 0 z.2), (fo (F_seatAll_58 S P wo be we k z) (2 ^ ((K_begin (K_all S) wo).1)) 0 z.2))) else (.inr (z.1, z.2))
def K_seatAll (S : Sch) (P : Pln) (wo be we : Nat → Int32) : Nat × (Nat → Int32) × (Nat → Int32) × (Nat → Int32) := Sum.elim (fun (zx : (Nat → Int32) × (Nat → Int32)) => ((K_begin (K_all S) wo).1, (K_begin (K_all S) wo).2, zx.1, zx.2)) (fun (rx : (Nat → Int32) × (Nat → Int32)) => ((K_begin (K_all S) wo).1, (K_begin (K_all S) wo).2, rx.1, rx.2)) (fe (F_seatAll_42 S P wo be we) (P.1) 0 ((fo (F_seatAll_10 S P wo be we) (2 ^ ((K_begin (K_all S) wo).1)) 0 be), we))
theorem seatAll_ok {n0 : Nat} {wo be we : Nat → Int32} (hsh : σ.2 (q) = some (.inr (.inr (7, [.ref (q + 1), .int (nI n0), .ref (q + 2), .ref (q + 3)])))) (h_who : σ.2 (q + 1) = some (.inl (0, 8, wo))) (h_best : σ.2 (q + 2) = some (.inl (0, 256, be))) (h_worth : σ.2 (q + 3) = some (.inl (0, 256, we))) (hS0 : isS σ a S) (hP0 : isP σ p P) (hwp : wP P) (hn16 : S.1 ≤ 16) (hn5 : S.2.1 ≤ 5) (ht : ∀ k, k < P.1 → okL S (P.2 k)) (ha : a + 11 ≤ q) (hp : p + 8 ≤ q) : RetX Γ m_Sharing_seatAll [(.ref q), (.ref a), (.ref p)] σ q (q + 4) none (fun τ => τ.2 q = some (.inr (.inr (7, [(.ref (q + 1)), (.int (nI ((K_seatAll S P wo be we).1))), (.ref (q + 2)), (.ref (q + 3))]))) ∧ τ.2 (q + 1) = some (.inl (0, 8, (K_seatAll S P wo be we).2.1)) ∧ τ.2 (q + 2) = some (.inl (0, 256, (K_seatAll S P wo be we).2.2.1)) ∧ τ.2 (q + 3) = some (.inl (0, 256, (K_seatAll S P wo be we).2.2.2))) := by
  have h6 := hwp.1
  unfold RetX
  generalize hQ : (fun (r : Option Value) (τ : ex_S) => r = none ∧ frm σ τ q (q + 4) ∧ (fun τ : ex_S => τ.2 q = some (.inr (.inr (7, [(.ref (q + 1)), (.int (nI ((K_seatAll S P wo be we).1))), (.ref (q + 2)), (.ref (q + 3))]))) ∧ τ.2 (q + 1) = some (.inl (0, 8, (K_seatAll S P wo be we).2.1)) ∧ τ.2 (q + 2) = some (.inl (0, 256, (K_seatAll S P wo be we).2.2.1)) ∧ τ.2 (q + 3) = some (.inl (0, 256, (K_seatAll S P wo be we).2.2.2))) τ) = Q
  refine Ret.start pm_139 rfl ?_
  have fr : frm σ σ q (q + 4) := frm.rf
  have hS := hS0.frm fr (by omega)
  obtain ⟨h0, h1, h2, h3, h4, h5, h6', h7, h8, h9, h10⟩ := id hS
  have hP := hP0.frm fr (by omega)
  obtain ⟨p0, ⟨pf, p1, p2⟩, p3⟩ := id hP
  refine Ev.aload_n rfl rfl ?_
  refine Ev.aload_n rfl rfl ?_
  refine Ev.cV0 rfl rfl h0 rfl rfl (by decide) ⟨(Nat.le_refl _), (Nat.le_refl _)⟩ (all_ok hS) ?_
  refine Ev.xV1u rfl rfl hsh rfl rfl (by decide) ⟨(Nat.le_refl _), (Nat.le_refl _)⟩ (begin_ok hsh h_who h_best h_worth _) (fun τ1 f1 q1 => ?_)
  obtain ⟨hsh, h_who, h_best, h_worth⟩ := q1
  have fr := fr.step f1 (by omega) (by omega)
  have hS := hS0.frm fr (by omega)
  obtain ⟨h0, h1, h2, h3, h4, h5, h6', h7, h8, h9, h10⟩ := id hS
  have hP := hP0.frm fr (by omega)
  obtain ⟨p0, ⟨pf, p1, p2⟩, p3⟩ := id hP
  have hsz := begin_le (K_all S) wo
  have hwho := begin_who (K_all S) wo
  obtain ⟨hp1, hp2⟩ := pow8 hsz
  refine Ev.iconst (v := 0) rfl (by decide) ?_
  refine Ev.istore_n rfl rfl rfl ?_
  refine Ev.fg (L := [some (.ref q), some (.ref a), some (.ref p), some (.int (nI 0)), none, none]) ?_ (gs rfl (gs rfl (gs rfl (gs (congrArg Value.int (rfl : (0 : Int32) = nI 0).symm) (gn (gn gz))))))
  refine lp (fun (k : Nat) (z : (Nat → Int32)) => ∀ τ' : ex_S, frm σ τ' q (q + 4) → τ'.2 q = some (.inr (.inr (7, [(.ref (q + 1)), (.int (nI ((K_begin (K_all S) wo).1))), (.ref (q + 2)), (.ref (q + 3))]))) → τ'.2 (q + 1) = some (.inl (0, 8, (K_begin (K_all S) wo).2)) → τ'.2 (q + 2) = some (.inl (0, 256, z)) → τ'.2 (q + 3) = some (.inl (0, 256, we)) → Ev Γ 0 0 m_Sharing_seatAll 0 0 10 [some (.ref q), some (.ref a), some (.ref p), some (.int (nI k)), none, none] [] τ' Q) (F_seatAll_10 S P wo be we) (2 ^ ((K_begin (K_all S) wo).1)) (fun k z hk hx => ?_) (2 ^ ((K_begin (K_all S) wo).1)) 0 be (by omega) ?_ τ1 fr hsh h_who h_best h_worth
  · skip
    intro τ' fr hsh h_who h_best h_worth
    have hS := hS0.frm fr (by omega)
    obtain ⟨h0, h1, h2, h3, h4, h5, h6', h7, h8, h9, h10⟩ := id hS
    have hP := hP0.frm fr (by omega)
    obtain ⟨p0, ⟨pf, p1, p2⟩, p3⟩ := id hP
    refine Ev.iload_n rfl rfl ?_
    refine Ev.iconst (v := 1) rfl (by decide) ?_
    refine Ev.aload_n rfl rfl ?_
    refine Ev.getf rfl rfl hsh rfl ?_
    refine Ev.ishl rfl ?_
    refine Ev.jge (tgt := 40) rfl (by decide) (fun c17 => absurd (ltN hk (nq_shl rfl (by omega)) (by omega)) c17) (fun c17 => ?_)
    refine Ev.aload_n rfl rfl ?_
    refine Ev.getf rfl rfl hsh rfl ?_
    refine Ev.iload_n rfl rfl ?_
    refine Ev.bipush (v := (-3)) rfl (by decide) ?_
    refine Ev.aload_n rfl rfl ?_
    refine Ev.iload_n rfl rfl ?_
    refine Ev.cV1 rfl rfl hsh rfl rfl (by decide) ⟨(Nat.le_refl _), (Nat.le_refl _)⟩ (rank_ok hsh h_who h_best h_worth (by omega) _) ?_
    refine Ev.imul rfl ?_
    refine Ev.iastE (k := k) rfl h_best rfl ⟨(by omega), by decide⟩ (fun τ2 f1 h_best => ?_)
    have hsh := frm.cell f1 hsh (by omega)
    have h_who := frm.cell f1 h_who (by omega)
    have h_worth := frm.cell f1 h_worth (by omega)
    have fr := fr.step f1 (by omega) (by omega)
    have hS := hS0.frm fr (by omega)
    obtain ⟨h0, h1, h2, h3, h4, h5, h6', h7, h8, h9, h10⟩ := id hS
    have hP := hP0.frm fr (by omega)
    obtain ⟨p0, ⟨pf, p1, p2⟩, p3⟩ := id hP
    refine Ev.iinc (d := 1) rfl rfl rfl (by decide) rfl ?_
    refine Ev.goto (tgt := 10) rfl (by decide) ?_
    have hF : (F_seatAll_10 S P wo be we) k z = (upd z k ((-3 : Int32) * (K_rank ((K_begin (K_all S) wo).1) (nI k)))) := by rfl
    rw [hF] at hx
    exact (hx τ2 fr hsh h_who h_best h_worth).fg (gs rfl (gs rfl (gs rfl (gs (congrArg Value.int (show nI (k + 1) = (nI k) + (1 : Int32) from (nq_to (a := k + 1) (nq_add (a := k) (b := 1) rfl (rfl : (1 : Int32) = nI 1)) (by omega)).symm)) (gn (gn gz))))))
  · skip
    intro τ' fr hsh h_who h_best h_worth
    have hS := hS0.frm fr (by omega)
    obtain ⟨h0, h1, h2, h3, h4, h5, h6', h7, h8, h9, h10⟩ := id hS
    have hP := hP0.frm fr (by omega)
    obtain ⟨p0, ⟨pf, p1, p2⟩, p3⟩ := id hP
    refine Ev.iload_n rfl rfl ?_
    refine Ev.iconst (v := 1) rfl (by decide) ?_
    refine Ev.aload_n rfl rfl ?_
    refine Ev.getf rfl rfl hsh rfl ?_
    refine Ev.ishl rfl ?_
    refine Ev.jge (tgt := 40) rfl (by decide) (fun c17 => ?_) (fun c17 => absurd c17 (nltN (nq_shl rfl (by omega)) (by omega)))
    refine Ev.iconst (v := 0) rfl (by decide) ?_
    refine Ev.istore_n rfl rfl rfl ?_
    refine Ev.fg (L := [some (.ref q), some (.ref a), some (.ref p), some (.int (nI 0)), none, none]) ?_ (gs rfl (gs rfl (gs rfl (gs (congrArg Value.int (rfl : (0 : Int32) = nI 0).symm) (gn (gn gz))))))
    refine lpe (fun (k : Nat) (z : (Nat → Int32) × (Nat → Int32)) => ∀ τ' : ex_S, frm σ τ' q (q + 4) → τ'.2 q = some (.inr (.inr (7, [(.ref (q + 1)), (.int (nI ((K_begin (K_all S) wo).1))), (.ref (q + 2)), (.ref (q + 3))]))) → τ'.2 (q + 1) = some (.inl (0, 8, (K_begin (K_all S) wo).2)) → τ'.2 (q + 2) = some (.inl (0, 256, z.1)) → τ'.2 (q + 3) = some (.inl (0, 256, z.2)) → Ev Γ 0 0 m_Sharing_seatAll 0 0 42 [some (.ref q), some (.ref a), some (.ref p), some (.int (nI k)), none, none] [] τ' Q) (fun (r : (Nat → Int32) × (Nat → Int32)) => ∀ τ' : ex_S, frm σ τ' q (q + 4) → τ'.2 q = some (.inr (.inr (7, [(.ref (q + 1)), (.int (nI ((K_begin (K_all S) wo).1))), (.ref (q + 2)), (.ref (q + 3))]))) → τ'.2 (q + 1) = some (.inl (0, 8, (K_begin (K_all S) wo).2)) → τ'.2 (q + 2) = some (.inl (0, 256, r.1)) → τ'.2 (q + 3) = some (.inl (0, 256, r.2)) → Ev Γ 0 0 m_Sharing_seatAll 0 0 140 [none, none, none, none, none, none] [] τ' Q) (F_seatAll_42 S P wo be we) (P.1) (fun k z hk hx he => ?_) (P.1) 0 ((fo (F_seatAll_10 S P wo be we) (2 ^ ((K_begin (K_all S) wo).1)) 0 be), we) (by omega) (fun zx hzx => ?_) (fun rx hrx => ?_) τ' fr hsh h_who h_best h_worth
    · skip
      intro τ' fr hsh h_who h_best h_worth
      have hS := hS0.frm fr (by omega)
      obtain ⟨h0, h1, h2, h3, h4, h5, h6', h7, h8, h9, h10⟩ := id hS
      have hP := hP0.frm fr (by omega)
      obtain ⟨p0, ⟨pf, p1, p2⟩, p3⟩ := id hP
      refine Ev.iload_n rfl rfl ?_
      refine Ev.aload_n rfl rfl ?_
      refine Ev.getf rfl rfl p0 rfl ?_
      refine Ev.jge (tgt := 140) rfl (by decide) (fun c47 => absurd (nI_lt hk (by omega)) c47) (fun c47 => ?_)
      refine Ev.iload_n rfl rfl ?_
      refine Ev.iconst (v := 3) rfl (by decide) ?_
      refine Ev.jge (tgt := 140) rfl (by decide) (fun c52 => ?_) (fun c52 => ?_)
      · skip
        have hF : (F_seatAll_42 S P wo be we) k z = .inr (z.1, z.2) := by
          unfold F_seatAll_42
          rw [if_neg c52]
        exact (he _ hF τ' fr hsh h_who h_best h_worth).fg (gn (gn (gn (gn (gn (gn gz))))))
      · skip
        refine Ev.iconst (v := 0) rfl (by decide) ?_
        refine Ev.istore rfl rfl rfl ?_
        refine Ev.fg (L := [some (.ref q), some (.ref a), some (.ref p), some (.int (nI k)), some (.int (nI 0)), none]) ?_ (gs rfl (gs rfl (gs rfl (gs rfl (gs (congrArg Value.int (rfl : (0 : Int32) = nI 0).symm) (gn gz))))))
        refine lp (fun (k' : Nat) (z' : (Nat → Int32)) => ∀ τ'' : ex_S, frm σ τ'' q (q + 4) → τ''.2 q = some (.inr (.inr (7, [(.ref (q + 1)), (.int (nI ((K_begin (K_all S) wo).1))), (.ref (q + 2)), (.ref (q + 3))]))) → τ''.2 (q + 1) = some (.inl (0, 8, (K_begin (K_all S) wo).2)) → τ''.2 (q + 2) = some (.inl (0, 256, z.1)) → τ''.2 (q + 3) = some (.inl (0, 256, z')) → Ev Γ 0 0 m_Sharing_seatAll 0 0 58 [some (.ref q), some (.ref a), some (.ref p), some (.int (nI k)), some (.int (nI k')), none] [] τ'' Q) (F_seatAll_58 S P wo be we k z) (2 ^ ((K_begin (K_all S) wo).1)) (fun k' z' hk' hx' => ?_) (2 ^ ((K_begin (K_all S) wo).1)) 0 z.2 (by omega) ?_ τ' fr hsh h_who h_best h_worth
        · skip
          intro τ'' fr hsh h_who h_best h_worth
          have hS := hS0.frm fr (by omega)
          obtain ⟨h0, h1, h2, h3, h4, h5, h6', h7, h8, h9, h10⟩ := id hS
          have hP := hP0.frm fr (by omega)
          obtain ⟨p0, ⟨pf, p1, p2⟩, p3⟩ := id hP
          refine Ev.iload rfl rfl ?_
          refine Ev.iconst (v := 1) rfl (by decide) ?_
          refine Ev.aload_n rfl rfl ?_
          refine Ev.getf rfl rfl hsh rfl ?_
          refine Ev.ishl rfl ?_
          refine Ev.jge (tgt := 130) rfl (by decide) (fun c66 => absurd (ltN hk' (nq_shl rfl (by omega)) (by omega)) c66) (fun c66 => ?_)
          refine Ev.aload_n rfl rfl ?_
          refine Ev.aload_n rfl rfl ?_
          refine Ev.getf rfl rfl p0 rfl ?_
          refine Ev.iload_n rfl rfl ?_
          refine Ev.aaldN (k := k) rfl p1 rfl rfl ⟨(by omega), by decide⟩ (p2 k (by omega)) ?_
          refine Ev.iload rfl rfl ?_
          refine Ev.cS3 rfl rfl rfl (by decide) ⟨(Nat.le_refl _), (Nat.le_refl _)⟩ (maySit_ok hS (p3 k (by omega)) hn16 _) ?_
          refine Ev.istore rfl rfl rfl ?_
          refine Ev.aload_n rfl rfl ?_
          refine Ev.getf rfl rfl hsh rfl ?_
          refine Ev.iload rfl rfl ?_
          refine Ev.iload rfl rfl ?_
          refine Ev.zeq (tgt := 121) rfl (by decide) (fun c91 => ?_) (fun c91 => ?_)
          · skip
            refine Ev.ldc (v := (-1000000000)) rfl rfl ?_
            refine Ev.iastE (k := k') rfl h_worth rfl ⟨(by omega), by decide⟩ (fun τ3 f1 h_worth => ?_)
            have hsh := frm.cell f1 hsh (by omega)
            have h_who := frm.cell f1 h_who (by omega)
            have h_best := frm.cell f1 h_best (by omega)
            have fr := fr.step f1 (by omega) (by omega)
            have hS := hS0.frm fr (by omega)
            obtain ⟨h0, h1, h2, h3, h4, h5, h6', h7, h8, h9, h10⟩ := id hS
            have hP := hP0.frm fr (by omega)
            obtain ⟨p0, ⟨pf, p1, p2⟩, p3⟩ := id hP
            refine Ev.iinc (d := 1) rfl rfl rfl (by decide) rfl ?_
            refine Ev.goto (tgt := 58) rfl (by decide) ?_
            have hF : (F_seatAll_58 S P wo be we k z) k' z' = (upd z' k' (-1000000000 : Int32)) := by
              unfold F_seatAll_58
              rw [if_pos c91]
            rw [hF] at hx'
            exact (hx' τ3 fr hsh h_who h_best h_worth).fg (gs rfl (gs rfl (gs rfl (gs rfl (gs (congrArg Value.int (show nI (k' + 1) = (nI k') + (1 : Int32) from (nq_to (a := k' + 1) (nq_add (a := k') (b := 1) rfl (rfl : (1 : Int32) = nI 1)) (by omega)).symm)) (gn gz))))))
          · skip
            refine Ev.aload_n rfl rfl ?_
            refine Ev.aload_n rfl rfl ?_
            refine Ev.getf rfl rfl p0 rfl ?_
            refine Ev.iload_n rfl rfl ?_
            refine Ev.aaldN (k := k) rfl p1 rfl rfl ⟨(by omega), by decide⟩ (p2 k (by omega)) ?_
            refine Ev.iload rfl rfl ?_
            refine Ev.cV2 rfl rfl h0 rfl rfl (by decide) ⟨(Nat.le_refl _), (Nat.le_refl _)⟩ (tog_ok hS (p3 k (by omega)) _ (ht k (by omega)) hn5) ?_
            refine Ev.ldc (v := (65536)) rfl rfl ?_
            refine Ev.imul rfl ?_
            refine Ev.iload_n rfl rfl ?_
            refine Ev.aload_n rfl rfl ?_
            refine Ev.iload rfl rfl ?_
            refine Ev.cV1 rfl rfl hsh rfl rfl (by decide) ⟨(Nat.le_refl _), (Nat.le_refl _)⟩ (rank_ok hsh h_who h_best h_worth (by omega) _) ?_
            refine Ev.imul rfl ?_
            refine Ev.isub rfl ?_
            refine Ev.goto (tgt := 123) rfl (by decide) ?_
            refine Ev.iastE (k := k') rfl h_worth rfl ⟨(by omega), by decide⟩ (fun τ4 f1 h_worth => ?_)
            have hsh := frm.cell f1 hsh (by omega)
            have h_who := frm.cell f1 h_who (by omega)
            have h_best := frm.cell f1 h_best (by omega)
            have fr := fr.step f1 (by omega) (by omega)
            have hS := hS0.frm fr (by omega)
            obtain ⟨h0, h1, h2, h3, h4, h5, h6', h7, h8, h9, h10⟩ := id hS
            have hP := hP0.frm fr (by omega)
            obtain ⟨p0, ⟨pf, p1, p2⟩, p3⟩ := id hP
            refine Ev.iinc (d := 1) rfl rfl rfl (by decide) rfl ?_
            refine Ev.goto (tgt := 58) rfl (by decide) ?_
            have hF : (F_seatAll_58 S P wo be we k z) k' z' = (upd z' k' (((K_tog S (P.2 k) (nI k')) * (65536 : Int32)) - ((nI k) * (K_rank ((K_begin (K_all S) wo).1) (nI k'))))) := by
              unfold F_seatAll_58
              rw [if_neg c91]
            rw [hF] at hx'
            exact (hx' τ4 fr hsh h_who h_best h_worth).fg (gs rfl (gs rfl (gs rfl (gs rfl (gs (congrArg Value.int (show nI (k' + 1) = (nI k') + (1 : Int32) from (nq_to (a := k' + 1) (nq_add (a := k') (b := 1) rfl (rfl : (1 : Int32) = nI 1)) (by omega)).symm)) (gn gz))))))
        · skip
          intro τ'' fr hsh h_who h_best h_worth
          have hS := hS0.frm fr (by omega)
          obtain ⟨h0, h1, h2, h3, h4, h5, h6', h7, h8, h9, h10⟩ := id hS
          have hP := hP0.frm fr (by omega)
          obtain ⟨p0, ⟨pf, p1, p2⟩, p3⟩ := id hP
          refine Ev.iload rfl rfl ?_
          refine Ev.iconst (v := 1) rfl (by decide) ?_
          refine Ev.aload_n rfl rfl ?_
          refine Ev.getf rfl rfl hsh rfl ?_
          refine Ev.ishl rfl ?_
          refine Ev.jge (tgt := 130) rfl (by decide) (fun c66 => ?_) (fun c66 => absurd c66 (nltN (nq_shl rfl (by omega)) (by omega)))
          refine Ev.aload_n rfl rfl ?_
          refine Ev.xV0u rfl rfl hsh rfl rfl (by decide) ⟨(Nat.le_refl _), (Nat.le_refl _)⟩ (give_ok hsh h_who h_best h_worth (by omega)) (fun τ5 f1 q1 => ?_)
          obtain ⟨h_best, hsh, h_who, h_worth⟩ := q1
          have fr := fr.step f1 (by omega) (by omega)
          have hS := hS0.frm fr (by omega)
          obtain ⟨h0, h1, h2, h3, h4, h5, h6', h7, h8, h9, h10⟩ := id hS
          have hP := hP0.frm fr (by omega)
          obtain ⟨p0, ⟨pf, p1, p2⟩, p3⟩ := id hP
          refine Ev.iinc (d := 1) rfl rfl rfl (by decide) rfl ?_
          refine Ev.goto (tgt := 42) rfl (by decide) ?_
          have hF : (F_seatAll_42 S P wo be we) k z = .inl (K_give ((K_begin (K_all S) wo).1) z.1 (fo (F_seatAll_58 S P wo be we k z) (2 ^ ((K_begin (K_all S) wo).1)) 0 z.2), (fo (F_seatAll_58 S P wo be we k z) (2 ^ ((K_begin (K_all S) wo).1)) 0 z.2)) := by
            unfold F_seatAll_42
            rw [if_pos c52]
          exact (hx _ hF τ5 fr hsh h_who h_best h_worth).fg (gs rfl (gs rfl (gs rfl (gs (congrArg Value.int (show nI (k + 1) = (nI k) + (1 : Int32) from (nq_to (a := k + 1) (nq_add (a := k) (b := 1) rfl (rfl : (1 : Int32) = nI 1)) (by omega)).symm)) (gn (gn gz))))))
    · skip
      intro τ' fr hsh h_who h_best h_worth
      have hS := hS0.frm fr (by omega)
      obtain ⟨h0, h1, h2, h3, h4, h5, h6', h7, h8, h9, h10⟩ := id hS
      have hP := hP0.frm fr (by omega)
      obtain ⟨p0, ⟨pf, p1, p2⟩, p3⟩ := id hP
      refine Ev.iload_n rfl rfl ?_
      refine Ev.aload_n rfl rfl ?_
      refine Ev.getf rfl rfl p0 rfl ?_
      refine Ev.jge (tgt := 140) rfl (by decide) (fun c47 => ?_) (fun c47 => absurd c47 (nI_nlt (Nat.le_refl _) (by omega)))
      refine Ev.ret rfl rfl (Nat.le_refl _) (Nat.le_refl _) ?_
      have hK : (K_seatAll S P wo be we) = ((K_begin (K_all S) wo).1, (K_begin (K_all S) wo).2, zx.1, zx.2) := by
        unfold K_seatAll
        rw [hzx, Sum.elim_inl]
      rw [← hQ]
      dsimp only
      rw [hK]
      exact ⟨rfl, fr, hsh, h_who, h_best, h_worth⟩
    · skip
      intro τ' fr hsh h_who h_best h_worth
      have hS := hS0.frm fr (by omega)
      obtain ⟨h0, h1, h2, h3, h4, h5, h6', h7, h8, h9, h10⟩ := id hS
      have hP := hP0.frm fr (by omega)
      obtain ⟨p0, ⟨pf, p1, p2⟩, p3⟩ := id hP
      refine Ev.ret rfl rfl (Nat.le_refl _) (Nat.le_refl _) ?_
      have hK : (K_seatAll S P wo be we) = ((K_begin (K_all S) wo).1, (K_begin (K_all S) wo).2, rx.1, rx.2) := by
        unfold K_seatAll
        rw [hrx, Sum.elim_inr]
      rw [← hQ]
      dsimp only
      rw [hK]
      exact ⟨rfl, fr, hsh, h_who, h_best, h_worth⟩
end
end

