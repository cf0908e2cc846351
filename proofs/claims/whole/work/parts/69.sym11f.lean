/-! Printed by sym.py: sharing out (class). -/
noncomputable section
section
variable {Γ : ex_G} {σ : ex_S} {x q a p y : Nat} {S : Sch} {T : Tol} {P : Pln} {g A : Nat → Int32}
def F_without_9 (S : Sch) (P : Pln) (tc w : Int32) (wo be we : Nat → Int32) : Nat → (Nat → Int32) → (Nat → Int32) := fun k z => (upd z k (0 : Int32))
def F_without_67 (S : Sch) (P : Pln) (tc w : Int32) (wo be we : Nat → Int32) (k : Nat) (z : (Nat → Int32) × (Nat → Int32)) : Nat → (Nat → Int32) → (Nat → Int32) := fun k' z' => if (K_mayCome ((K_begin w wo).1) ((K_begin w wo).2) S (P.2 k) (nI k')) = (0 : Int32) then (upd z' k' (-1000000000 : Int32)) else (upd z' k' (K_tog S (P.2 k) (((P.2 k) 5) ||| (K_lOf ((K_begin w wo).1) ((K_begin w wo).2) (nI k')))))
def F_without_37 (S : Sch) (P : Pln) (tc w : Int32) (wo be we : Nat → Int32) : Nat → ((Nat → Int32) × (Nat → Int32)) → ((Nat → Int32) × (Nat → Int32)) := fun k z => if ((P.2 k) 1) = tc then (z.1, z.2) else (K_give ((K_begin w wo).1) z.1 (fo (F_without_67 S P tc w wo be we k z) (2 ^ ((K_begin w wo).1)) 0 z.2), (fo (F_without_67 S P tc w wo be we k z) (2 ^ ((K_begin w wo).1)) 0 z.2))
def K_without (S : Sch) (P : Pln) (tc w : Int32) (wo be we : Nat → Int32) : Int32 × Nat × (Nat → Int32) × (Nat → Int32) × (Nat → Int32) := (((fo (F_without_37 S P tc w wo be we) (P.1) 0 ((fo (F_without_9 S P tc w wo be we) (2 ^ ((K_begin w wo).1)) 0 be), we)).1) ((2 ^ ((K_begin w wo).1)) - 1), (K_begin w wo).1, (K_begin w wo).2, (fo (F_without_37 S P tc w wo be we) (P.1) 0 ((fo (F_without_9 S P tc w wo be we) (2 ^ ((K_begin w wo).1)) 0 be), we)).1, (fo (F_without_37 S P tc w wo be we) (P.1) 0 ((fo (F_without_9 S P tc w wo be we) (2 ^ ((K_begin w wo).1)) 0 be), we)).2)
theorem without_ok {n0 : Nat} {wo be we : Nat → Int32} (hsh : σ.2 (q) = some (.inr (.inr (7, [.ref (q + 1), .int (nI n0), .ref (q + 2), .ref (q + 3)])))) (h_who : σ.2 (q + 1) = some (.inl (0, 8, wo))) (h_best : σ.2 (q + 2) = some (.inl (0, 256, be))) (h_worth : σ.2 (q + 3) = some (.inl (0, 256, we))) (hS0 : isS σ a S) (hP0 : isP σ p P) (hwp : wP P) (hn16 : S.1 ≤ 16) (hn5 : S.2.1 ≤ 5) (ht : ∀ k, k < P.1 → okL S (P.2 k)) (ha : a + 11 ≤ q) (hp : p + 8 ≤ q) (tc w : Int32) : RetX Γ m_Sharing_withoutTeacher [(.ref q), (.ref a), (.ref p), (.int tc), (.int w)] σ q (q + 4) (some (.int ((K_without S P tc w wo be we).1))) (fun τ => τ.2 q = some (.inr (.inr (7, [(.ref (q + 1)), (.int (nI ((K_without S P tc w wo be we).2.1))), (.ref (q + 2)), (.ref (q + 3))]))) ∧ τ.2 (q + 1) = some (.inl (0, 8, (K_without S P tc w wo be we).2.2.1)) ∧ τ.2 (q + 2) = some (.inl (0, 256, (K_without S P tc w wo be we).2.2.2.1)) ∧ τ.2 (q + 3) = some (.inl (0, 256, (K_without S P tc w wo be we).2.2.2.2))) := by
  have h6 := hwp.1
  unfold RetX
  generalize hQ : (fun (r : Option Value) (τ : ex_S) => r = some (.int ((K_without S P tc w wo be we).1)) ∧ frm σ τ q (q + 4) ∧ (fun τ : ex_S => τ.2 q = some (.inr (.inr (7, [(.ref (q + 1)), (.int (nI ((K_without S P tc w wo be we).2.1))), (.ref (q + 2)), (.ref (q + 3))]))) ∧ τ.2 (q + 1) = some (.inl (0, 8, (K_without S P tc w wo be we).2.2.1)) ∧ τ.2 (q + 2) = some (.inl (0, 256, (K_without S P tc w wo be we).2.2.2.1)) ∧ τ.2 (q + 3) = some (.inl (0, 256, (K_without S P tc w wo be we).2.2.2.2))) τ) = Q
  refine Ret.start pm_142 rfl ?_
  have fr : frm σ σ q (q + 4) := frm.rf
  have hS := hS0.frm fr (by omega)
  obtain ⟨h0, h1, h2, h3, h4, h5, h6', h7, h8, h9, h10⟩ := id hS
  have hP := hP0.frm fr (by omega)
  obtain ⟨p0, ⟨pf, p1, p2⟩, p3⟩ := id hP
  refine Ev.aload_n rfl rfl ?_
  refine Ev.iload rfl rfl ?_
  refine Ev.xV1u rfl rfl hsh rfl rfl (by decide) ⟨(Nat.le_refl _), (Nat.le_refl _)⟩ (begin_ok hsh h_who h_best h_worth _) (fun τ1 f1 q1 => ?_)
  obtain ⟨hsh, h_who, h_best, h_worth⟩ := q1
  have fr := fr.step f1 (by omega) (by omega)
  have hS := hS0.frm fr (by omega)
  obtain ⟨h0, h1, h2, h3, h4, h5, h6', h7, h8, h9, h10⟩ := id hS
  have hP := hP0.frm fr (by omega)
  obtain ⟨p0, ⟨pf, p1, p2⟩, p3⟩ := id hP
  have hsz := begin_le w wo
  have hwho := begin_who w wo
  obtain ⟨hp1, hp2⟩ := pow8 hsz
  refine Ev.iconst (v := 0) rfl (by decide) ?_
  refine Ev.istore rfl rfl rfl ?_
  refine Ev.fg (L := [some (.ref q), some (.ref a), some (.ref p), some (.int tc), none, some (.int (nI 0)), none, none]) ?_ (gs rfl (gs rfl (gs rfl (gs rfl (gn (gs (congrArg Value.int (rfl : (0 : Int32) = nI 0).symm) (gn (gn gz))))))))
  refine lp (fun (k : Nat) (z : (Nat → Int32)) => ∀ τ' : ex_S, frm σ τ' q (q + 4) → τ'.2 q = some (.inr (.inr (7, [(.ref (q + 1)), (.int (nI ((K_begin w wo).1))), (.ref (q + 2)), (.ref (q + 3))]))) → τ'.2 (q + 1) = some (.inl (0, 8, (K_begin w wo).2)) → τ'.2 (q + 2) = some (.inl (0, 256, z)) → τ'.2 (q + 3) = some (.inl (0, 256, we)) → Ev Γ 0 0 m_Sharing_withoutTeacher 0 0 9 [some (.ref q), some (.ref a), some (.ref p), some (.int tc), none, some (.int (nI k)), none, none] [] τ' Q) (F_without_9 S P tc w wo be we) (2 ^ ((K_begin w wo).1)) (fun k z hk hx => ?_) (2 ^ ((K_begin w wo).1)) 0 be (by omega) ?_ τ1 fr hsh h_who h_best h_worth
  · skip
    intro τ' fr hsh h_who h_best h_worth
    have hS := hS0.frm fr (by omega)
    obtain ⟨h0, h1, h2, h3, h4, h5, h6', h7, h8, h9, h10⟩ := id hS
    have hP := hP0.frm fr (by omega)
    obtain ⟨p0, ⟨pf, p1, p2⟩, p3⟩ := id hP
    refine Ev.iload rfl rfl ?_
    refine Ev.iconst (v := 1) rfl (by decide) ?_
    refine Ev.aload_n rfl rfl ?_
    refine Ev.getf rfl rfl hsh rfl ?_
    refine Ev.ishl rfl ?_
    refine Ev.jge (tgt := 34) rfl (by decide) (fun c17 => absurd (ltN hk (nq_shl rfl (by omega)) (by omega)) c17) (fun c17 => ?_)
    refine Ev.aload_n rfl rfl ?_
    refine Ev.getf rfl rfl hsh rfl ?_
    refine Ev.iload rfl rfl ?_
    refine Ev.iconst (v := 0) rfl (by decide) ?_
    refine Ev.iastE (k := k) rfl h_best rfl ⟨(by omega), by decide⟩ (fun τ2 f1 h_best => ?_)
    have hsh := frm.cell f1 hsh (by omega)
    have h_who := frm.cell f1 h_who (by omega)
    have h_worth := frm.cell f1 h_worth (by omega)
    have fr := fr.step f1 (by omega) (by omega)
    have hS := hS0.frm fr (by omega)
    obtain ⟨h0, h1, h2, h3, h4, h5, h6', h7, h8, h9, h10⟩ := id hS
    have hP := hP0.frm fr (by omega)
    obtain ⟨p0, ⟨pf, p1, p2⟩, p3⟩ := id hP
    refine Ev.iinc (d := 1) rfl rfl rfl (by decide) rfl ?_
    refine Ev.goto (tgt := 9) rfl (by decide) ?_
    have hF : (F_without_9 S P tc w wo be we) k z = (upd z k (0 : Int32)) := by rfl
    rw [hF] at hx
    exact (hx τ2 fr hsh h_who h_best h_worth).fg (gs rfl (gs rfl (gs rfl (gs rfl (gn (gs (congrArg Value.int (show nI (k + 1) = (nI k) + (1 : Int32) from (nq_to (a := k + 1) (nq_add (a := k) (b := 1) rfl (rfl : (1 : Int32) = nI 1)) (by omega)).symm)) (gn (gn gz))))))))
  · skip
    intro τ' fr hsh h_who h_best h_worth
    have hS := hS0.frm fr (by omega)
    obtain ⟨h0, h1, h2, h3, h4, h5, h6', h7, h8, h9, h10⟩ := id hS
    have hP := hP0.frm fr (by omega)
    obtain ⟨p0, ⟨pf, p1, p2⟩, p3⟩ := id hP
    refine Ev.iload rfl rfl ?_
    refine Ev.iconst (v := 1) rfl (by decide) ?_
    refine Ev.aload_n rfl rfl ?_
    refine Ev.getf rfl rfl hsh rfl ?_
    refine Ev.ishl rfl ?_
    refine Ev.jge (tgt := 34) rfl (by decide) (fun c17 => ?_) (fun c17 => absurd c17 (nltN (nq_shl rfl (by omega)) (by omega)))
    refine Ev.iconst (v := 0) rfl (by decide) ?_
    refine Ev.istore rfl rfl rfl ?_
    refine Ev.fg (L := [some (.ref q), some (.ref a), some (.ref p), some (.int tc), none, some (.int (nI 0)), none, none]) ?_ (gs rfl (gs rfl (gs rfl (gs rfl (gn (gs (congrArg Value.int (rfl : (0 : Int32) = nI 0).symm) (gn (gn gz))))))))
    refine lp (fun (k : Nat) (z : (Nat → Int32) × (Nat → Int32)) => ∀ τ' : ex_S, frm σ τ' q (q + 4) → τ'.2 q = some (.inr (.inr (7, [(.ref (q + 1)), (.int (nI ((K_begin w wo).1))), (.ref (q + 2)), (.ref (q + 3))]))) → τ'.2 (q + 1) = some (.inl (0, 8, (K_begin w wo).2)) → τ'.2 (q + 2) = some (.inl (0, 256, z.1)) → τ'.2 (q + 3) = some (.inl (0, 256, z.2)) → Ev Γ 0 0 m_Sharing_withoutTeacher 0 0 37 [some (.ref q), some (.ref a), some (.ref p), some (.int tc), none, some (.int (nI k)), none, none] [] τ' Q) (F_without_37 S P tc w wo be we) (P.1) (fun k z hk hx => ?_) (P.1) 0 ((fo (F_without_9 S P tc w wo be we) (2 ^ ((K_begin w wo).1)) 0 be), we) (by omega) ?_ τ' fr hsh h_who h_best h_worth
    · skip
      intro τ' fr hsh h_who h_best h_worth
      have hS := hS0.frm fr (by omega)
      obtain ⟨h0, h1, h2, h3, h4, h5, h6', h7, h8, h9, h10⟩ := id hS
      have hP := hP0.frm fr (by omega)
      obtain ⟨p0, ⟨pf, p1, p2⟩, p3⟩ := id hP
      refine Ev.iload rfl rfl ?_
      refine Ev.aload_n rfl rfl ?_
      refine Ev.getf rfl rfl p0 rfl ?_
      refine Ev.jge (tgt := 136) rfl (by decide) (fun c43 => absurd (nI_lt hk (by omega)) c43) (fun c43 => ?_)
      refine Ev.aload_n rfl rfl ?_
      refine Ev.getf rfl rfl p0 rfl ?_
      refine Ev.iload rfl rfl ?_
      refine Ev.aaldN (k := k) rfl p1 rfl rfl ⟨(by omega), by decide⟩ (p2 k (by omega)) ?_
      refine Ev.astore rfl rfl rfl ?_
      refine Ev.aload rfl rfl ?_
      refine Ev.getf rfl rfl (p3 k (by omega)) rfl ?_
      refine Ev.iload_n rfl rfl ?_
      refine Ev.jeq (tgt := 130) rfl (by decide) (fun c61 => ?_) (fun c61 => ?_)
      · skip
        refine Ev.iinc (d := 1) rfl rfl rfl (by decide) rfl ?_
        refine Ev.goto (tgt := 37) rfl (by decide) ?_
        have hF : (F_without_37 S P tc w wo be we) k z = (z.1, z.2) := by
          unfold F_without_37
          rw [if_pos c61]
        rw [hF] at hx
        exact (hx τ' fr hsh h_who h_best h_worth).fg (gs rfl (gs rfl (gs rfl (gs rfl (gn (gs (congrArg Value.int (show nI (k + 1) = (nI k) + (1 : Int32) from (nq_to (a := k + 1) (nq_add (a := k) (b := 1) rfl (rfl : (1 : Int32) = nI 1)) (by omega)).symm)) (gn (gn gz))))))))
      · skip
        refine Ev.iconst (v := 0) rfl (by decide) ?_
        refine Ev.istore rfl rfl rfl ?_
        refine Ev.fg (L := [some (.ref q), some (.ref a), some (.ref p), some (.int tc), none, some (.int (nI k)), some (.ref (p + 2 + k)), some (.int (nI 0))]) ?_ (gs rfl (gs rfl (gs rfl (gs rfl (gn (gs rfl (gs rfl (gs (congrArg Value.int (rfl : (0 : Int32) = nI 0).symm) gz))))))))
        refine lp (fun (k' : Nat) (z' : (Nat → Int32)) => ∀ τ'' : ex_S, frm σ τ'' q (q + 4) → τ''.2 q = some (.inr (.inr (7, [(.ref (q + 1)), (.int (nI ((K_begin w wo).1))), (.ref (q + 2)), (.ref (q + 3))]))) → τ''.2 (q + 1) = some (.inl (0, 8, (K_begin w wo).2)) → τ''.2 (q + 2) = some (.inl (0, 256, z.1)) → τ''.2 (q + 3) = some (.inl (0, 256, z')) → Ev Γ 0 0 m_Sharing_withoutTeacher 0 0 67 [some (.ref q), some (.ref a), some (.ref p), some (.int tc), none, some (.int (nI k)), some (.ref (p + 2 + k)), some (.int (nI k'))] [] τ'' Q) (F_without_67 S P tc w wo be we k z) (2 ^ ((K_begin w wo).1)) (fun k' z' hk' hx' => ?_) (2 ^ ((K_begin w wo).1)) 0 z.2 (by omega) ?_ τ' fr hsh h_who h_best h_worth
        · skip
          intro τ'' fr hsh h_who h_best h_worth
          have hS := hS0.frm fr (by omega)
          obtain ⟨h0, h1, h2, h3, h4, h5, h6', h7, h8, h9, h10⟩ := id hS
          have hP := hP0.frm fr (by omega)
          obtain ⟨p0, ⟨pf, p1, p2⟩, p3⟩ := id hP
          refine Ev.iload rfl rfl ?_
          refine Ev.iconst (v := 1) rfl (by decide) ?_
          refine Ev.aload_n rfl rfl ?_
          refine Ev.getf rfl rfl hsh rfl ?_
          refine Ev.ishl rfl ?_
          refine Ev.jge (tgt := 126) rfl (by decide) (fun c75 => absurd (ltN hk' (nq_shl rfl (by omega)) (by omega)) c75) (fun c75 => ?_)
          refine Ev.aload_n rfl rfl ?_
          refine Ev.getf rfl rfl hsh rfl ?_
          refine Ev.iload rfl rfl ?_
          refine Ev.aload_n rfl rfl ?_
          refine Ev.aload_n rfl rfl ?_
          refine Ev.aload rfl rfl ?_
          refine Ev.iload rfl rfl ?_
          refine Ev.cV3 rfl rfl hsh rfl rfl (by decide) ⟨(Nat.le_refl _), (Nat.le_refl _)⟩ (mayCome_ok hsh h_who h_best h_worth hS (p3 k (by omega)) (by omega) hwho _) ?_
          refine Ev.zeq (tgt := 117) rfl (by decide) (fun c93 => ?_) (fun c93 => ?_)
          · skip
            refine Ev.ldc (v := (-1000000000)) rfl rfl ?_
            refine Ev.iastE (k := k') rfl h_worth rfl ⟨(by omega), by decide⟩ (fun τ3 f1 h_worth => ?_)
            have hsh := frm.cell f1 hsh (by omega)
            have h_who := frm.cell f1 h_who (by omega)
            have h_best := frm.cell f1 h_best (by omega)
            have fr := fr.step f1 (by omega) (by omega)
            have hS := hS0.frm fr (by omega)
            obtain ⟨h0, h1, h2, h3, h4, h5, h6', h7, h8, h9, h10⟩ := id hS
            have hP := hP0.frm fr (by omega)
            obtain ⟨p0, ⟨pf, p1, p2⟩, p3⟩ := id hP
            refine Ev.iinc (d := 1) rfl rfl rfl (by decide) rfl ?_
            refine Ev.goto (tgt := 67) rfl (by decide) ?_
            have hF : (F_without_67 S P tc w wo be we k z) k' z' = (upd z' k' (-1000000000 : Int32)) := by
              unfold F_without_67
              rw [if_pos c93]
            rw [hF] at hx'
            exact (hx' τ3 fr hsh h_who h_best h_worth).fg (gs rfl (gs rfl (gs rfl (gs rfl (gn (gs rfl (gs rfl (gs (congrArg Value.int (show nI (k' + 1) = (nI k') + (1 : Int32) from (nq_to (a := k' + 1) (nq_add (a := k') (b := 1) rfl (rfl : (1 : Int32) = nI 1)) (by omega)).symm)) gz))))))))
          · skip
            refine Ev.aload_n rfl rfl ?_
            refine Ev.aload rfl rfl ?_
            refine Ev.aload rfl rfl ?_
            refine Ev.getf rfl rfl (p3 k (by omega)) rfl ?_
            refine Ev.aload_n rfl rfl ?_
            refine Ev.iload rfl rfl ?_
            refine Ev.cV1 rfl rfl hsh rfl rfl (by decide) ⟨(Nat.le_refl _), (Nat.le_refl _)⟩ (lOf_ok hsh h_who h_best h_worth (by omega) _) ?_
            refine Ev.ior rfl ?_
            refine Ev.cV2 rfl rfl h0 rfl rfl (by decide) ⟨(Nat.le_refl _), (Nat.le_refl _)⟩ (tog_ok hS (p3 k (by omega)) _ (ht k (by omega)) hn5) ?_
            refine Ev.goto (tgt := 119) rfl (by decide) ?_
            refine Ev.iastE (k := k') rfl h_worth rfl ⟨(by omega), by decide⟩ (fun τ4 f1 h_worth => ?_)
            have hsh := frm.cell f1 hsh (by omega)
            have h_who := frm.cell f1 h_who (by omega)
            have h_best := frm.cell f1 h_best (by omega)
            have fr := fr.step f1 (by omega) (by omega)
            have hS := hS0.frm fr (by omega)
            obtain ⟨h0, h1, h2, h3, h4, h5, h6', h7, h8, h9, h10⟩ := id hS
            have hP := hP0.frm fr (by omega)
            obtain ⟨p0, ⟨pf, p1, p2⟩, p3⟩ := id hP
            refine Ev.iinc (d := 1) rfl rfl rfl (by decide) rfl ?_
            refine Ev.goto (tgt := 67) rfl (by decide) ?_
            have hF : (F_without_67 S P tc w wo be we k z) k' z' = (upd z' k' (K_tog S (P.2 k) (((P.2 k) 5) ||| (K_lOf ((K_begin w wo).1) ((K_begin w wo).2) (nI k'))))) := by
              unfold F_without_67
              rw [if_neg c93]
            rw [hF] at hx'
            exact (hx' τ4 fr hsh h_who h_best h_worth).fg (gs rfl (gs rfl (gs rfl (gs rfl (gn (gs rfl (gs rfl (gs (congrArg Value.int (show nI (k' + 1) = (nI k') + (1 : Int32) from (nq_to (a := k' + 1) (nq_add (a := k') (b := 1) rfl (rfl : (1 : Int32) = nI 1)) (by omega)).symm)) gz))))))))
        · skip
          intro τ'' fr hsh h_who h_best h_worth
          have hS := hS0.frm fr (by omega)
          obtain ⟨h0, h1, h2, h3, h4, h5, h6', h7, h8, h9, h10⟩ := id hS
          have hP := hP0.frm fr (by omega)
          obtain ⟨p0, ⟨pf, p1, p2⟩, p3⟩ := id hP
          refine Ev.iload rfl rfl ?_
          refine Ev.iconst (v := 1) rfl (by decide) ?_
          refine Ev.aload_n rfl rfl ?_
          refine Ev.getf rfl rfl hsh rfl ?_
          refine Ev.ishl rfl ?_
          refine Ev.jge (tgt := 126) rfl (by decide) (fun c75 => ?_) (fun c75 => absurd c75 (nltN (nq_shl rfl (by omega)) (by omega)))
          refine Ev.aload_n rfl rfl ?_
          refine Ev.xV0u rfl rfl hsh rfl rfl (by decide) ⟨(Nat.le_refl _), (Nat.le_refl _)⟩ (give_ok hsh h_who h_best h_worth (by omega)) (fun τ5 f1 q1 => ?_)
          obtain ⟨h_best, hsh, h_who, h_worth⟩ := q1
          have fr := fr.step f1 (by omega) (by omega)
          have hS := hS0.frm fr (by omega)
          obtain ⟨h0, h1, h2, h3, h4, h5, h6', h7, h8, h9, h10⟩ := id hS
          have hP := hP0.frm fr (by omega)
          obtain ⟨p0, ⟨pf, p1, p2⟩, p3⟩ := id hP
          refine Ev.iinc (d := 1) rfl rfl rfl (by decide) rfl ?_
          refine Ev.goto (tgt := 37) rfl (by decide) ?_
          have hF : (F_without_37 S P tc w wo be we) k z = (K_give ((K_begin w wo).1) z.1 (fo (F_without_67 S P tc w wo be we k z) (2 ^ ((K_begin w wo).1)) 0 z.2), (fo (F_without_67 S P tc w wo be we k z) (2 ^ ((K_begin w wo).1)) 0 z.2)) := by
            unfold F_without_37
            rw [if_neg c61]
          rw [hF] at hx
          exact (hx τ5 fr hsh h_who h_best h_worth).fg (gs rfl (gs rfl (gs rfl (gs rfl (gn (gs (congrArg Value.int (show nI (k + 1) = (nI k) + (1 : Int32) from (nq_to (a := k + 1) (nq_add (a := k) (b := 1) rfl (rfl : (1 : Int32) = nI 1)) (by omega)).symm)) (gn (gn gz))))))))
    · skip
      intro τ' fr hsh h_who h_best h_worth
      have hS := hS0.frm fr (by omega)
      obtain ⟨h0, h1, h2, h3, h4, h5, h6', h7, h8, h9, h10⟩ := id hS
      have hP := hP0.frm fr (by omega)
      obtain ⟨p0, ⟨pf, p1, p2⟩, p3⟩ := id hP
      refine Ev.iload rfl rfl ?_
      refine Ev.aload_n rfl rfl ?_
      refine Ev.getf rfl rfl p0 rfl ?_
      refine Ev.jge (tgt := 136) rfl (by decide) (fun c43 => ?_) (fun c43 => absurd c43 (nI_nlt (Nat.le_refl _) (by omega)))
      refine Ev.aload_n rfl rfl ?_
      refine Ev.getf rfl rfl hsh rfl ?_
      refine Ev.iconst (v := 1) rfl (by decide) ?_
      refine Ev.aload_n rfl rfl ?_
      refine Ev.getf rfl rfl hsh rfl ?_
      refine Ev.ishl rfl ?_
      refine Ev.iconst (v := 1) rfl (by decide) ?_
      refine Ev.isub rfl ?_
      refine Ev.ialdN (k := (2 ^ ((K_begin w wo).1)) - 1) rfl h_best (nq_sub (a := 2 ^ ((K_begin w wo).1)) (b := 1) (nq_shl rfl (by omega)) (rfl : (1 : Int32) = nI 1) (by omega)) ⟨(by omega), by decide⟩ ?_
      refine Ev.iret (ty := .int) rfl rfl rfl (Nat.le_refl _) (Nat.le_refl _) ?_
      have hK : (K_without S P tc w wo be we) = (((fo (F_without_37 S P tc w wo be we) (P.1) 0 ((fo (F_without_9 S P tc w wo be we) (2 ^ ((K_begin w wo).1)) 0 be), we)).1) ((2 ^ ((K_begin w wo).1)) - 1), (K_begin w wo).1, (K_begin w wo).2, (fo (F_without_37 S P tc w wo be we) (P.1) 0 ((fo (F_without_9 S P tc w wo be we) (2 ^ ((K_begin w wo).1)) 0 be), we)).1, (fo (F_without_37 S P tc w wo be we) (P.1) 0 ((fo (F_without_9 S P tc w wo be we) (2 ^ ((K_begin w wo).1)) 0 be), we)).2) := by rfl
      rw [← hQ]
      dsimp only
      rw [hK]
      exact ⟨rfl, fr, hsh, h_who, h_best, h_worth⟩
end
end

