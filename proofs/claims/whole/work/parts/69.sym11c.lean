/-! Printed by sym.py: sharing out (class). -/
noncomputable section
section
variable {Γ : ex_G} {σ : ex_S} {x q a p y : Nat} {S : Sch} {T : Tol} {P : Pln} {g A : Nat → Int32}
def F_maySit_34 (S : Sch) (C : Les) (w : Int32) : Nat → Unit → (Unit) ⊕ Int32 := fun k z => if ((S.2.2 3) k) = (-1 : Int32) then (if ((w >>> ((nI k) &&& 31)) &&& (1 : Int32)) = (0 : Int32) then (.inl ()) else (if (K_can S C (nI k)) = (0 : Int32) then (.inr (0 : Int32)) else (.inl ()))) else (if ((w >>> (((S.2.2 3) k) &&& 31)) &&& (1 : Int32)) = (0 : Int32) then (if ((w >>> ((nI k) &&& 31)) &&& (1 : Int32)) = (0 : Int32) then (.inl ()) else (.inr (0 : Int32))) else (if ((w >>> ((nI k) &&& 31)) &&& (1 : Int32)) = (0 : Int32) then (.inl ()) else (if (K_can S C (nI k)) = (0 : Int32) then (.inr (0 : Int32)) else (.inl ()))))
def K_maySit (S : Sch) (C : Les) (w : Int32) : Int32 := if (K_bc w) = (0 : Int32) then (Sum.elim (fun (zx : Unit) => (1 : Int32)) (fun (rx : Int32) => rx) (fe (F_maySit_34 S C w) (S.1) 0 ())) else (if (K_bc w) < ((S.2.2 9) 2) then (0 : Int32) else (if ((S.2.2 9) 3) < (K_bc w) then (0 : Int32) else (Sum.elim (fun (zx : Unit) => (1 : Int32)) (fun (rx : Int32) => rx) (fe (F_maySit_34 S C w) (S.1) 0 ()))))
theorem maySit_ok {c : Nat} {C : Les} (hS : isS σ a S) (hC : isL σ c C) (hn16 : S.1 ≤ 16) (w : Int32) : RetV Γ m_Sharing_maySit [(.ref a), (.ref c), (.int w)] σ (.int (K_maySit S C w)) := by
  obtain ⟨h0, h1, h2, h3, h4, h5, h6', h7, h8, h9, h10⟩ := id hS
  unfold RetV
  generalize hQ : (fun (r : Option Value) (σ' : ex_S) => r = some ((.int (K_maySit S C w)) : Value) ∧ σ' = σ) = Q
  refine Ret.start pm_147 rfl ?_
  refine Ev.iload_n rfl rfl ?_
  refine Ev.cS1 rfl rfl rfl (by decide) ⟨(Nat.le_refl _), (Nat.le_refl _)⟩ (bc_ok _) ?_
  refine Ev.istore_n rfl rfl rfl ?_
  refine Ev.iload_n rfl rfl ?_
  refine Ev.zeq (tgt := 31) rfl (by decide) (fun c6 => ?_) (fun c6 => ?_)
  · skip
    refine Ev.iconst (v := 0) rfl (by decide) ?_
    refine Ev.istore rfl rfl rfl ?_
    refine Ev.fg (L := [some (.ref a), some (.ref c), some (.int w), none, some (.int (nI 0)), none, none]) ?_ (gs rfl (gs rfl (gs rfl (gn (gs (congrArg Value.int (rfl : (0 : Int32) = nI 0).symm) (gn (gn gz)))))))
    refine lpe (fun (k : Nat) (z : Unit) => Ev Γ 0 0 m_Sharing_maySit 0 0 34 [some (.ref a), some (.ref c), some (.int w), none, some (.int (nI k)), none, none] [] σ Q) (fun (r : Int32) => Q (some (.int r)) σ) (F_maySit_34 S C w) (S.1) (fun k z hk hx he => ?_) (S.1) 0 () (by omega) (fun zx hzx => ?_) (fun rx hrx => ?_)
    · skip
      refine Ev.iload rfl rfl ?_
      refine Ev.aload_n rfl rfl ?_
      refine Ev.getf rfl rfl h0 rfl ?_
      refine Ev.jge (tgt := 106) rfl (by decide) (fun c40 => absurd (nI_lt hk (by omega)) c40) (fun c40 => ?_)
      refine Ev.aload_n rfl rfl ?_
      refine Ev.getf rfl rfl h0 rfl ?_
      refine Ev.iload rfl rfl ?_
      refine Ev.ialdN (k := k) rfl h4 rfl ⟨(by omega), by decide⟩ ?_
      refine Ev.istore rfl rfl rfl ?_
      refine Ev.iload rfl rfl ?_
      refine Ev.iconst (v := (-1)) rfl (by decide) ?_
      refine Ev.jeq (tgt := 71) rfl (by decide) (fun c55 => ?_) (fun c55 => ?_)
      · skip
        refine Ev.iconst (v := 0) rfl (by decide) ?_
        refine Ev.istore rfl rfl rfl ?_
        refine Ev.iload_n rfl rfl ?_
        refine Ev.iload rfl rfl ?_
        refine Ev.ishr rfl ?_
        refine Ev.iconst (v := 1) rfl (by decide) ?_
        refine Ev.iand rfl ?_
        refine Ev.zeq (tgt := 100) rfl (by decide) (fun c80 => ?_) (fun c80 => ?_)
        · skip
          refine Ev.iinc (d := 1) rfl rfl rfl (by decide) rfl ?_
          refine Ev.goto (tgt := 34) rfl (by decide) ?_
          have hF : (F_maySit_34 S C w) k z = .inl () := by
            unfold F_maySit_34
            rw [if_pos c55]
            rw [if_pos c80]
          exact (hx _ hF).fg (gs rfl (gs rfl (gs rfl (gn (gs (congrArg Value.int (show nI (k + 1) = (nI k) + (1 : Int32) from (nq_to (a := k + 1) (nq_add (a := k) (b := 1) rfl (rfl : (1 : Int32) = nI 1)) (by omega)).symm)) (gn (gn gz)))))))
        · skip
          refine Ev.iload rfl rfl ?_
          refine Ev.zne (tgt := 98) rfl (by decide) (fun c85 => absurd (by decide) c85) (fun c85 => ?_)
          refine Ev.aload_n rfl rfl ?_
          refine Ev.aload_n rfl rfl ?_
          refine Ev.iload rfl rfl ?_
          refine Ev.cV2 rfl rfl h0 rfl rfl (by decide) ⟨(Nat.le_refl _), (Nat.le_refl _)⟩ (can_ok hS hC _ (kd_in (by omega) (by decide))) ?_
          refine Ev.zne (tgt := 100) rfl (by decide) (fun c95 => ?_) (fun c95 => ?_)
          · skip
            refine Ev.iinc (d := 1) rfl rfl rfl (by decide) rfl ?_
            refine Ev.goto (tgt := 34) rfl (by decide) ?_
            have hF : (F_maySit_34 S C w) k z = .inl () := by
              unfold F_maySit_34
              rw [if_pos c55]
              rw [if_neg c80]
              rw [if_neg c95]
            exact (hx _ hF).fg (gs rfl (gs rfl (gs rfl (gn (gs (congrArg Value.int (show nI (k + 1) = (nI k) + (1 : Int32) from (nq_to (a := k + 1) (nq_add (a := k) (b := 1) rfl (rfl : (1 : Int32) = nI 1)) (by omega)).symm)) (gn (gn gz)))))))
          · skip
            refine Ev.iconst (v := 0) rfl (by decide) ?_
            refine Ev.iret (ty := .boolean) rfl rfl rfl (Nat.le_refl _) (Nat.le_refl _) ?_
            refine he _ ?_
            unfold F_maySit_34
            rw [if_pos c55]
            rw [if_neg c80]
            rw [if_pos c95]
      · skip
        refine Ev.iload_n rfl rfl ?_
        refine Ev.iload rfl rfl ?_
        refine Ev.ishr rfl ?_
        refine Ev.iconst (v := 1) rfl (by decide) ?_
        refine Ev.iand rfl ?_
        refine Ev.zne (tgt := 71) rfl (by decide) (fun c64 => ?_) (fun c64 => ?_)
        · skip
          refine Ev.iconst (v := 0) rfl (by decide) ?_
          refine Ev.istore rfl rfl rfl ?_
          refine Ev.iload_n rfl rfl ?_
          refine Ev.iload rfl rfl ?_
          refine Ev.ishr rfl ?_
          refine Ev.iconst (v := 1) rfl (by decide) ?_
          refine Ev.iand rfl ?_
          refine Ev.zeq (tgt := 100) rfl (by decide) (fun c80 => ?_) (fun c80 => ?_)
          · skip
            refine Ev.iinc (d := 1) rfl rfl rfl (by decide) rfl ?_
            refine Ev.goto (tgt := 34) rfl (by decide) ?_
            have hF : (F_maySit_34 S C w) k z = .inl () := by
              unfold F_maySit_34
              rw [if_neg c55]
              rw [if_neg c64]
              rw [if_pos c80]
            exact (hx _ hF).fg (gs rfl (gs rfl (gs rfl (gn (gs (congrArg Value.int (show nI (k + 1) = (nI k) + (1 : Int32) from (nq_to (a := k + 1) (nq_add (a := k) (b := 1) rfl (rfl : (1 : Int32) = nI 1)) (by omega)).symm)) (gn (gn gz)))))))
          · skip
            refine Ev.iload rfl rfl ?_
            refine Ev.zne (tgt := 98) rfl (by decide) (fun c85 => absurd (by decide) c85) (fun c85 => ?_)
            refine Ev.aload_n rfl rfl ?_
            refine Ev.aload_n rfl rfl ?_
            refine Ev.iload rfl rfl ?_
            refine Ev.cV2 rfl rfl h0 rfl rfl (by decide) ⟨(Nat.le_refl _), (Nat.le_refl _)⟩ (can_ok hS hC _ (kd_in (by omega) (by decide))) ?_
            refine Ev.zne (tgt := 100) rfl (by decide) (fun c95 => ?_) (fun c95 => ?_)
            · skip
              refine Ev.iinc (d := 1) rfl rfl rfl (by decide) rfl ?_
              refine Ev.goto (tgt := 34) rfl (by decide) ?_
              have hF : (F_maySit_34 S C w) k z = .inl () := by
                unfold F_maySit_34
                rw [if_neg c55]
                rw [if_neg c64]
                rw [if_neg c80]
                rw [if_neg c95]
              exact (hx _ hF).fg (gs rfl (gs rfl (gs rfl (gn (gs (congrArg Value.int (show nI (k + 1) = (nI k) + (1 : Int32) from (nq_to (a := k + 1) (nq_add (a := k) (b := 1) rfl (rfl : (1 : Int32) = nI 1)) (by omega)).symm)) (gn (gn gz)))))))
            · skip
              refine Ev.iconst (v := 0) rfl (by decide) ?_
              refine Ev.iret (ty := .boolean) rfl rfl rfl (Nat.le_refl _) (Nat.le_refl _) ?_
              refine he _ ?_
              unfold F_maySit_34
              rw [if_neg c55]
              rw [if_neg c64]
              rw [if_neg c80]
              rw [if_pos c95]
        · skip
          refine Ev.iconst (v := 1) rfl (by decide) ?_
          refine Ev.goto (tgt := 72) rfl (by decide) ?_
          refine Ev.istore rfl rfl rfl ?_
          refine Ev.iload_n rfl rfl ?_
          refine Ev.iload rfl rfl ?_
          refine Ev.ishr rfl ?_
          refine Ev.iconst (v := 1) rfl (by decide) ?_
          refine Ev.iand rfl ?_
          refine Ev.zeq (tgt := 100) rfl (by decide) (fun c80 => ?_) (fun c80 => ?_)
          · skip
            refine Ev.iinc (d := 1) rfl rfl rfl (by decide) rfl ?_
            refine Ev.goto (tgt := 34) rfl (by decide) ?_
            have hF : (F_maySit_34 S C w) k z = .inl () := by
              unfold F_maySit_34
              rw [if_neg c55]
              rw [if_pos c64]
              rw [if_pos c80]
            exact (hx _ hF).fg (gs rfl (gs rfl (gs rfl (gn (gs (congrArg Value.int (show nI (k + 1) = (nI k) + (1 : Int32) from (nq_to (a := k + 1) (nq_add (a := k) (b := 1) rfl (rfl : (1 : Int32) = nI 1)) (by omega)).symm)) (gn (gn gz)))))))
          · skip
            refine Ev.iload rfl rfl ?_
            refine Ev.zne (tgt := 98) rfl (by decide) (fun c85 => ?_) (fun c85 => absurd c85 (by decide))
            refine Ev.iconst (v := 0) rfl (by decide) ?_
            refine Ev.iret (ty := .boolean) rfl rfl rfl (Nat.le_refl _) (Nat.le_refl _) ?_
            refine he _ ?_
            unfold F_maySit_34
            rw [if_neg c55]
            rw [if_pos c64]
            rw [if_neg c80]
    · skip
      refine Ev.iload rfl rfl ?_
      refine Ev.aload_n rfl rfl ?_
      refine Ev.getf rfl rfl h0 rfl ?_
      refine Ev.jge (tgt := 106) rfl (by decide) (fun c40 => ?_) (fun c40 => absurd c40 (nI_nlt (Nat.le_refl _) (by omega)))
      refine Ev.iconst (v := 1) rfl (by decide) ?_
      refine Ev.iret (ty := .boolean) rfl rfl rfl (Nat.le_refl _) (Nat.le_refl _) ?_
      rw [← hQ]
      refine ⟨congrArg (fun v => some (Value.int v)) (Eq.symm ?_), rfl⟩
      unfold K_maySit
      rw [if_pos c6]
      rw [hzx, Sum.elim_inl]
    · skip
      rw [← hQ]
      refine ⟨congrArg (fun v => some (Value.int v)) (Eq.symm ?_), rfl⟩
      unfold K_maySit
      rw [if_pos c6]
      rw [hrx, Sum.elim_inr]
  · skip
    refine Ev.iload_n rfl rfl ?_
    refine Ev.aload_n rfl rfl ?_
    refine Ev.getf rfl rfl h0 rfl ?_
    refine Ev.iconst (v := 2) rfl (by decide) ?_
    refine Ev.ialdN (k := 2) rfl h10 (rfl : (2 : Int32) = nI 2) ⟨(by omega), by decide⟩ ?_
    refine Ev.jlt (tgt := 29) rfl (by decide) (fun c16 => ?_) (fun c16 => ?_)
    · skip
      refine Ev.iconst (v := 0) rfl (by decide) ?_
      refine Ev.iret (ty := .boolean) rfl rfl rfl (Nat.le_refl _) (Nat.le_refl _) ?_
      rw [← hQ]
      refine ⟨congrArg (fun v => some (Value.int v)) (Eq.symm ?_), rfl⟩
      unfold K_maySit
      rw [if_neg c6]
      rw [if_pos c16]
    · skip
      refine Ev.iload_n rfl rfl ?_
      refine Ev.aload_n rfl rfl ?_
      refine Ev.getf rfl rfl h0 rfl ?_
      refine Ev.iconst (v := 3) rfl (by decide) ?_
      refine Ev.ialdN (k := 3) rfl h10 (rfl : (3 : Int32) = nI 3) ⟨(by omega), by decide⟩ ?_
      refine Ev.jle (tgt := 31) rfl (by decide) (fun c26 => ?_) (fun c26 => ?_)
      · skip
        refine Ev.iconst (v := 0) rfl (by decide) ?_
        refine Ev.istore rfl rfl rfl ?_
        refine Ev.fg (L := [some (.ref a), some (.ref c), some (.int w), none, some (.int (nI 0)), none, none]) ?_ (gs rfl (gs rfl (gs rfl (gn (gs (congrArg Value.int (rfl : (0 : Int32) = nI 0).symm) (gn (gn gz)))))))
        refine lpe (fun (k : Nat) (z : Unit) => Ev Γ 0 0 m_Sharing_maySit 0 0 34 [some (.ref a), some (.ref c), some (.int w), none, some (.int (nI k)), none, none] [] σ Q) (fun (r : Int32) => Q (some (.int r)) σ) (F_maySit_34 S C w) (S.1) (fun k z hk hx he => ?_) (S.1) 0 () (by omega) (fun zx hzx => ?_) (fun rx hrx => ?_)
        · skip
          refine Ev.iload rfl rfl ?_
          refine Ev.aload_n rfl rfl ?_
          refine Ev.getf rfl rfl h0 rfl ?_
          refine Ev.jge (tgt := 106) rfl (by decide) (fun c40 => absurd (nI_lt hk (by omega)) c40) (fun c40 => ?_)
          refine Ev.aload_n rfl rfl ?_
          refine Ev.getf rfl rfl h0 rfl ?_
          refine Ev.iload rfl rfl ?_
          refine Ev.ialdN (k := k) rfl h4 rfl ⟨(by omega), by decide⟩ ?_
          refine Ev.istore rfl rfl rfl ?_
          refine Ev.iload rfl rfl ?_
          refine Ev.iconst (v := (-1)) rfl (by decide) ?_
          refine Ev.jeq (tgt := 71) rfl (by decide) (fun c55 => ?_) (fun c55 => ?_)
          · skip
            refine Ev.iconst (v := 0) rfl (by decide) ?_
            refine Ev.istore rfl rfl rfl ?_
            refine Ev.iload_n rfl rfl ?_
            refine Ev.iload rfl rfl ?_
            refine Ev.ishr rfl ?_
            refine Ev.iconst (v := 1) rfl (by decide) ?_
            refine Ev.iand rfl ?_
            refine Ev.zeq (tgt := 100) rfl (by decide) (fun c80 => ?_) (fun c80 => ?_)
            · skip
              refine Ev.iinc (d := 1) rfl rfl rfl (by decide) rfl ?_
              refine Ev.goto (tgt := 34) rfl (by decide) ?_
              have hF : (F_maySit_34 S C w) k z = .inl () := by
                unfold F_maySit_34
                rw [if_pos c55]
                rw [if_pos c80]
              exact (hx _ hF).fg (gs rfl (gs rfl (gs rfl (gn (gs (congrArg Value.int (show nI (k + 1) = (nI k) + (1 : Int32) from (nq_to (a := k + 1) (nq_add (a := k) (b := 1) rfl (rfl : (1 : Int32) = nI 1)) (by omega)).symm)) (gn (gn gz)))))))
            · skip
              refine Ev.iload rfl rfl ?_
              refine Ev.zne (tgt := 98) rfl (by decide) (fun c85 => absurd (by decide) c85) (fun c85 => ?_)
              refine Ev.aload_n rfl rfl ?_
              refine Ev.aload_n rfl rfl ?_
              refine Ev.iload rfl rfl ?_
              refine Ev.cV2 rfl rfl h0 rfl rfl (by decide) ⟨(Nat.le_refl _), (Nat.le_refl _)⟩ (can_ok hS hC _ (kd_in (by omega) (by decide))) ?_
              refine Ev.zne (tgt := 100) rfl (by decide) (fun c95 => ?_) (fun c95 => ?_)
              · skip
                refine Ev.iinc (d := 1) rfl rfl rfl (by decide) rfl ?_
                refine Ev.goto (tgt := 34) rfl (by decide) ?_
                have hF : (F_maySit_34 S C w) k z = .inl () := by
                  unfold F_maySit_34
                  rw [if_pos c55]
                  rw [if_neg c80]
                  rw [if_neg c95]
                exact (hx _ hF).fg (gs rfl (gs rfl (gs rfl (gn (gs (congrArg Value.int (show nI (k + 1) = (nI k) + (1 : Int32) from (nq_to (a := k + 1) (nq_add (a := k) (b := 1) rfl (rfl : (1 : Int32) = nI 1)) (by omega)).symm)) (gn (gn gz)))))))
              · skip
                refine Ev.iconst (v := 0) rfl (by decide) ?_
                refine Ev.iret (ty := .boolean) rfl rfl rfl (Nat.le_refl _) (Nat.le_refl _) ?_
                refine he _ ?_
                unfold F_maySit_34
                rw [if_pos c55]
                rw [if_neg c80]
                rw [if_pos c95]
          · skip
            refine Ev.iload_n rfl rfl ?_
            refine Ev.iload rfl rfl ?_
            refine Ev.ishr rfl ?_
            refine Ev.iconst (v := 1) rfl (by decide) ?_
            refine Ev.iand rfl ?_
            refine Ev.zne (tgt := 71) rfl (by decide) (fun c64 => ?_) (fun c64 => ?_)
            · skip
              refine Ev.iconst (v := 0) rfl (by decide) ?_
              refine Ev.istore rfl rfl rfl ?_
              refine Ev.iload_n rfl rfl ?_
              refine Ev.iload rfl rfl ?_
              refine Ev.ishr rfl ?_
              refine Ev.iconst (v := 1) rfl (by decide) ?_
              refine Ev.iand rfl ?_
              refine Ev.zeq (tgt := 100) rfl (by decide) (fun c80 => ?_) (fun c80 => ?_)
              · skip
                refine Ev.iinc (d := 1) rfl rfl rfl (by decide) rfl ?_
                refine Ev.goto (tgt := 34) rfl (by decide) ?_
                have hF : (F_maySit_34 S C w) k z = .inl () := by
                  unfold F_maySit_34
                  rw [if_neg c55]
                  rw [if_neg c64]
                  rw [if_pos c80]
                exact (hx _ hF).fg (gs rfl (gs rfl (gs rfl (gn (gs (congrArg Value.int (show nI (k + 1) = (nI k) + (1 : Int32) from (nq_to (a := k + 1) (nq_add (a := k) (b := 1) rfl (rfl : (1 : Int32) = nI 1)) (by omega)).symm)) (gn (gn gz)))))))
              · skip
                refine Ev.iload rfl rfl ?_
                refine Ev.zne (tgt := 98) rfl (by decide) (fun c85 => absurd (by decide) c85) (fun c85 => ?_)
                refine Ev.aload_n rfl rfl ?_
                refine Ev.aload_n rfl rfl ?_
                refine Ev.iload rfl rfl ?_
                refine Ev.cV2 rfl rfl h0 rfl rfl (by decide) ⟨(Nat.le_refl _), (Nat.le_refl _)⟩ (can_ok hS hC _ (kd_in (by omega) (by decide))) ?_
                refine Ev.zne (tgt := 100) rfl (by decide) (fun c95 => ?_) (fun c95 => ?_)
                · skip
                  refine Ev.iinc (d := 1) rfl rfl rfl (by decide) rfl ?_
                  refine Ev.goto (tgt := 34) rfl (by decide) ?_
                  have hF : (F_maySit_34 S C w) k z = .inl () := by
                    unfold F_maySit_34
                    rw [if_neg c55]
                    rw [if_neg c64]
                    rw [if_neg c80]
                    rw [if_neg c95]
                  exact (hx _ hF).fg (gs rfl (gs rfl (gs rfl (gn (gs (congrArg Value.int (show nI (k + 1) = (nI k) + (1 : Int32) from (nq_to (a := k + 1) (nq_add (a := k) (b := 1) rfl (rfl : (1 : Int32) = nI 1)) (by omega)).symm)) (gn (gn gz)))))))
                · skip
                  refine Ev.iconst (v := 0) rfl (by decide) ?_
                  refine Ev.iret (ty := .boolean) rfl rfl rfl (Nat.le_refl _) (Nat.le_refl _) ?_
                  refine he _ ?_
                  unfold F_maySit_34
                  rw [if_neg c55]
                  rw [if_neg c64]
                  rw [if_neg c80]
                  rw [if_pos c95]
            · skip
              refine Ev.iconst (v := 1) rfl (by decide) ?_
              refine Ev.goto (tgt := 72) rfl (by decide) ?_
              refine Ev.istore rfl rfl rfl ?_
              refine Ev.iload_n rfl rfl ?_
              refine Ev.iload rfl rfl ?_
              refine Ev.ishr rfl ?_
              refine Ev.iconst (v := 1) rfl (by decide) ?_
              refine Ev.iand rfl ?_
              refine Ev.zeq (tgt := 100) rfl (by decide) (fun c80 => ?_) (fun c80 => ?_)
              · skip
                refine Ev.iinc (d := 1) rfl rfl rfl (by decide) rfl ?_
                refine Ev.goto (tgt := 34) rfl (by decide) ?_
                have hF : (F_maySit_34 S C w) k z = .inl () := by
                  unfold F_maySit_34
                  rw [if_neg c55]
                  rw [if_pos c64]
                  rw [if_pos c80]
                exact (hx _ hF).fg (gs rfl (gs rfl (gs rfl (gn (gs (congrArg Value.int (show nI (k + 1) = (nI k) + (1 : Int32) from (nq_to (a := k + 1) (nq_add (a := k) (b := 1) rfl (rfl : (1 : Int32) = nI 1)) (by omega)).symm)) (gn (gn gz)))))))
              · skip
                refine Ev.iload rfl rfl ?_
                refine Ev.zne (tgt := 98) rfl (by decide) (fun c85 => ?_) (fun c85 => absurd c85 (by decide))
                refine Ev.iconst (v := 0) rfl (by decide) ?_
                refine Ev.iret (ty := .boolean) rfl rfl rfl (Nat.le_refl _) (Nat.le_refl _) ?_
                refine he _ ?_
                unfold F_maySit_34
                rw [if_neg c55]
                rw [if_pos c64]
                rw [if_neg c80]
        · skip
          refine Ev.iload rfl rfl ?_
          refine Ev.aload_n rfl rfl ?_
          refine Ev.getf rfl rfl h0 rfl ?_
          refine Ev.jge (tgt := 106) rfl (by decide) (fun c40 => ?_) (fun c40 => absurd c40 (nI_nlt (Nat.le_refl _) (by omega)))
          refine Ev.iconst (v := 1) rfl (by decide) ?_
          refine Ev.iret (ty := .boolean) rfl rfl rfl (Nat.le_refl _) (Nat.le_refl _) ?_
          rw [← hQ]
          refine ⟨congrArg (fun v => some (Value.int v)) (Eq.symm ?_), rfl⟩
          unfold K_maySit
          rw [if_neg c6]
          rw [if_neg c16]
          rw [if_neg c26]
          rw [hzx, Sum.elim_inl]
        · skip
          rw [← hQ]
          refine ⟨congrArg (fun v => some (Value.int v)) (Eq.symm ?_), rfl⟩
          unfold K_maySit
          rw [if_neg c6]
          rw [if_neg c16]
          rw [if_neg c26]
          rw [hrx, Sum.elim_inr]
      · skip
        refine Ev.iconst (v := 0) rfl (by decide) ?_
        refine Ev.iret (ty := .boolean) rfl rfl rfl (Nat.le_refl _) (Nat.le_refl _) ?_
        rw [← hQ]
        refine ⟨congrArg (fun v => some (Value.int v)) (Eq.symm ?_), rfl⟩
        unfold K_maySit
        rw [if_neg c6]
        rw [if_neg c16]
        rw [if_pos c26]
def F_mayCome_30 (n : Nat) (wo : Nat → Int32) (S : Sch) (C : Les) (w : Int32) : Nat → Unit → (Unit) ⊕ Int32 := fun k z => if ((w >>> ((nI k) &&& 31)) &&& (1 : Int32)) = (0 : Int32) then (.inl ()) else (if (K_can S C (wo k)) = (0 : Int32) then (.inr (0 : Int32)) else (.inl ()))
def K_mayCome (n : Nat) (wo : Nat → Int32) (S : Sch) (C : Les) (w : Int32) : Int32 := if w = (0 : Int32) then (Sum.elim (fun (zx : Unit) => (1 : Int32)) (fun (rx : Int32) => rx) (fe (F_mayCome_30 n wo S C w) (n) 0 ())) else (if ((S.2.2 9) 3) < ((K_bc (C 5)) + (K_bc w)) then (0 : Int32) else (Sum.elim (fun (zx : Unit) => (1 : Int32)) (fun (rx : Int32) => rx) (fe (F_mayCome_30 n wo S C w) (n) 0 ())))
theorem mayCome_ok {n : Nat} {wo be we : Nat → Int32} (hsh : σ.2 (q) = some (.inr (.inr (7, [.ref (q + 1), .int (nI n), .ref (q + 2), .ref (q + 3)])))) (h_who : σ.2 (q + 1) = some (.inl (0, 8, wo))) (h_best : σ.2 (q + 2) = some (.inl (0, 256, be))) (h_worth : σ.2 (q + 3) = some (.inl (0, 256, we))) {c : Nat} {C : Les} (hS : isS σ a S) (hC : isL σ c C) (hn8 : n ≤ 8) (hwho : ∀ i, i < n → wo i = nI (wo i).toNatClampNeg ∧ (wo i).toNatClampNeg < 16) (w : Int32) : RetV Γ m_Sharing_mayCome [(.ref q), (.ref a), (.ref c), (.int w)] σ (.int (K_mayCome n wo S C w)) := by
  obtain ⟨h0, h1, h2, h3, h4, h5, h6', h7, h8, h9, h10⟩ := id hS
  unfold RetV
  generalize hQ : (fun (r : Option Value) (σ' : ex_S) => r = some ((.int (K_mayCome n wo S C w)) : Value) ∧ σ' = σ) = Q
  refine Ret.start pm_148 rfl ?_
  refine Ev.iload_n rfl rfl ?_
  refine Ev.zeq (tgt := 27) rfl (by decide) (fun c1 => ?_) (fun c1 => ?_)
  · skip
    refine Ev.iconst (v := 0) rfl (by decide) ?_
    refine Ev.istore rfl rfl rfl ?_
    refine Ev.fg (L := [some (.ref q), some (.ref a), some (.ref c), some (.int w), some (.int (nI 0))]) ?_ (gs rfl (gs rfl (gs rfl (gs rfl (gs (congrArg Value.int (rfl : (0 : Int32) = nI 0).symm) gz)))))
    refine lpe (fun (k : Nat) (z : Unit) => Ev Γ 0 0 m_Sharing_mayCome 0 0 30 [some (.ref q), some (.ref a), some (.ref c), some (.int w), some (.int (nI k))] [] σ Q) (fun (r : Int32) => Q (some (.int r)) σ) (F_mayCome_30 n wo S C w) (n) (fun k z hk hx he => ?_) (n) 0 () (by omega) (fun zx hzx => ?_) (fun rx hrx => ?_)
    · skip
      refine Ev.iload rfl rfl ?_
      refine Ev.aload_n rfl rfl ?_
      refine Ev.getf rfl rfl hsh rfl ?_
      refine Ev.jge (tgt := 71) rfl (by decide) (fun c36 => absurd (nI_lt hk (by omega)) c36) (fun c36 => ?_)
      refine Ev.iload_n rfl rfl ?_
      refine Ev.iload rfl rfl ?_
      refine Ev.ishr rfl ?_
      refine Ev.iconst (v := 1) rfl (by decide) ?_
      refine Ev.iand rfl ?_
      refine Ev.zeq (tgt := 65) rfl (by decide) (fun c45 => ?_) (fun c45 => ?_)
      · skip
        refine Ev.iinc (d := 1) rfl rfl rfl (by decide) rfl ?_
        refine Ev.goto (tgt := 30) rfl (by decide) ?_
        have hF : (F_mayCome_30 n wo S C w) k z = .inl () := by
          unfold F_mayCome_30
          rw [if_pos c45]
        exact (hx _ hF).fg (gs rfl (gs rfl (gs rfl (gs rfl (gs (congrArg Value.int (show nI (k + 1) = (nI k) + (1 : Int32) from (nq_to (a := k + 1) (nq_add (a := k) (b := 1) rfl (rfl : (1 : Int32) = nI 1)) (by omega)).symm)) gz)))))
      · skip
        refine Ev.aload_n rfl rfl ?_
        refine Ev.aload_n rfl rfl ?_
        refine Ev.aload_n rfl rfl ?_
        refine Ev.getf rfl rfl hsh rfl ?_
        refine Ev.iload rfl rfl ?_
        refine Ev.ialdN (k := k) rfl h_who rfl ⟨(by omega), by decide⟩ ?_
        have hwb := (hwho k (by omega)).2
        refine Ev.cV2 rfl rfl h0 rfl rfl (by decide) ⟨(Nat.le_refl _), (Nat.le_refl _)⟩ (can_ok hS hC _ (vp_of (hwho k (by omega)).1 (by omega))) ?_
        refine Ev.zne (tgt := 65) rfl (by decide) (fun c60 => ?_) (fun c60 => ?_)
        · skip
          refine Ev.iinc (d := 1) rfl rfl rfl (by decide) rfl ?_
          refine Ev.goto (tgt := 30) rfl (by decide) ?_
          have hF : (F_mayCome_30 n wo S C w) k z = .inl () := by
            unfold F_mayCome_30
            rw [if_neg c45]
            rw [if_neg c60]
          exact (hx _ hF).fg (gs rfl (gs rfl (gs rfl (gs rfl (gs (congrArg Value.int (show nI (k + 1) = (nI k) + (1 : Int32) from (nq_to (a := k + 1) (nq_add (a := k) (b := 1) rfl (rfl : (1 : Int32) = nI 1)) (by omega)).symm)) gz)))))
        · skip
          refine Ev.iconst (v := 0) rfl (by decide) ?_
          refine Ev.iret (ty := .boolean) rfl rfl rfl (Nat.le_refl _) (Nat.le_refl _) ?_
          refine he _ ?_
          unfold F_mayCome_30
          rw [if_neg c45]
          rw [if_pos c60]
    · skip
      refine Ev.iload rfl rfl ?_
      refine Ev.aload_n rfl rfl ?_
      refine Ev.getf rfl rfl hsh rfl ?_
      refine Ev.jge (tgt := 71) rfl (by decide) (fun c36 => ?_) (fun c36 => absurd c36 (nI_nlt (Nat.le_refl _) (by omega)))
      refine Ev.iconst (v := 1) rfl (by decide) ?_
      refine Ev.iret (ty := .boolean) rfl rfl rfl (Nat.le_refl _) (Nat.le_refl _) ?_
      rw [← hQ]
      refine ⟨congrArg (fun v => some (Value.int v)) (Eq.symm ?_), rfl⟩
      unfold K_mayCome
      rw [if_pos c1]
      rw [hzx, Sum.elim_inl]
    · skip
      rw [← hQ]
      refine ⟨congrArg (fun v => some (Value.int v)) (Eq.symm ?_), rfl⟩
      unfold K_mayCome
      rw [if_pos c1]
      rw [hrx, Sum.elim_inr]
  · skip
    refine Ev.aload_n rfl rfl ?_
    refine Ev.getf rfl rfl hC rfl ?_
    refine Ev.cS1 rfl rfl rfl (by decide) ⟨(Nat.le_refl _), (Nat.le_refl _)⟩ (bc_ok _) ?_
    refine Ev.iload_n rfl rfl ?_
    refine Ev.cS1 rfl rfl rfl (by decide) ⟨(Nat.le_refl _), (Nat.le_refl _)⟩ (bc_ok _) ?_
    refine Ev.iadd rfl ?_
    refine Ev.aload_n rfl rfl ?_
    refine Ev.getf rfl rfl h0 rfl ?_
    refine Ev.iconst (v := 3) rfl (by decide) ?_
    refine Ev.ialdN (k := 3) rfl h10 (rfl : (3 : Int32) = nI 3) ⟨(by omega), by decide⟩ ?_
    refine Ev.jle (tgt := 27) rfl (by decide) (fun c22 => ?_) (fun c22 => ?_)
    · skip
      refine Ev.iconst (v := 0) rfl (by decide) ?_
      refine Ev.istore rfl rfl rfl ?_
      refine Ev.fg (L := [some (.ref q), some (.ref a), some (.ref c), some (.int w), some (.int (nI 0))]) ?_ (gs rfl (gs rfl (gs rfl (gs rfl (gs (congrArg Value.int (rfl : (0 : Int32) = nI 0).symm) gz)))))
      refine lpe (fun (k : Nat) (z : Unit) => Ev Γ 0 0 m_Sharing_mayCome 0 0 30 [some (.ref q), some (.ref a), some (.ref c), some (.int w), some (.int (nI k))] [] σ Q) (fun (r : Int32) => Q (some (.int r)) σ) (F_mayCome_30 n wo S C w) (n) (fun k z hk hx he => ?_) (n) 0 () (by omega) (fun zx hzx => ?_) (fun rx hrx => ?_)
      · skip
        refine Ev.iload rfl rfl ?_
        refine Ev.aload_n rfl rfl ?_
        refine Ev.getf rfl rfl hsh rfl ?_
        refine Ev.jge (tgt := 71) rfl (by decide) (fun c36 => absurd (nI_lt hk (by omega)) c36) (fun c36 => ?_)
        refine Ev.iload_n rfl rfl ?_
        refine Ev.iload rfl rfl ?_
        refine Ev.ishr rfl ?_
        refine Ev.iconst (v := 1) rfl (by decide) ?_
        refine Ev.iand rfl ?_
        refine Ev.zeq (tgt := 65) rfl (by decide) (fun c45 => ?_) (fun c45 => ?_)
        · skip
          refine Ev.iinc (d := 1) rfl rfl rfl (by decide) rfl ?_
          refine Ev.goto (tgt := 30) rfl (by decide) ?_
          have hF : (F_mayCome_30 n wo S C w) k z = .inl () := by
            unfold F_mayCome_30
            rw [if_pos c45]
          exact (hx _ hF).fg (gs rfl (gs rfl (gs rfl (gs rfl (gs (congrArg Value.int (show nI (k + 1) = (nI k) + (1 : Int32) from (nq_to (a := k + 1) (nq_add (a := k) (b := 1) rfl (rfl : (1 : Int32) = nI 1)) (by omega)).symm)) gz)))))
        · skip
          refine Ev.aload_n rfl rfl ?_
          refine Ev.aload_n rfl rfl ?_
          refine Ev.aload_n rfl rfl ?_
          refine Ev.getf rfl rfl hsh rfl ?_
          refine Ev.iload rfl rfl ?_
          refine Ev.ialdN (k := k) rfl h_who rfl ⟨(by omega), by decide⟩ ?_
          have hwb := (hwho k (by omega)).2
          refine Ev.cV2 rfl rfl h0 rfl rfl (by decide) ⟨(Nat.le_refl _), (Nat.le_refl _)⟩ (can_ok hS hC _ (vp_of (hwho k (by omega)).1 (by omega))) ?_
          refine Ev.zne (tgt := 65) rfl (by decide) (fun c60 => ?_) (fun c60 => ?_)
          · skip
            refine Ev.iinc (d := 1) rfl rfl rfl (by decide) rfl ?_
            refine Ev.goto (tgt := 30) rfl (by decide) ?_
            have hF : (F_mayCome_30 n wo S C w) k z = .inl () := by
              unfold F_mayCome_30
              rw [if_neg c45]
              rw [if_neg c60]
            exact (hx _ hF).fg (gs rfl (gs rfl (gs rfl (gs rfl (gs (congrArg Value.int (show nI (k + 1) = (nI k) + (1 : Int32) from (nq_to (a := k + 1) (nq_add (a := k) (b := 1) rfl (rfl : (1 : Int32) = nI 1)) (by omega)).symm)) gz)))))
          · skip
            refine Ev.iconst (v := 0) rfl (by decide) ?_
            refine Ev.iret (ty := .boolean) rfl rfl rfl (Nat.le_refl _) (Nat.le_refl _) ?_
            refine he _ ?_
            unfold F_mayCome_30
            rw [if_neg c45]
            rw [if_pos c60]
      · skip
        refine Ev.iload rfl rfl ?_
        refine Ev.aload_n rfl rfl ?_
        refine Ev.getf rfl rfl hsh rfl ?_
        refine Ev.jge (tgt := 71) rfl (by decide) (fun c36 => ?_) (fun c36 => absurd c36 (nI_nlt (Nat.le_refl _) (by omega)))
        refine Ev.iconst (v := 1) rfl (by decide) ?_
        refine Ev.iret (ty := .boolean) rfl rfl rfl (Nat.le_refl _) (Nat.le_refl _) ?_
        rw [← hQ]
        refine ⟨congrArg (fun v => some (Value.int v)) (Eq.symm ?_), rfl⟩
        unfold K_mayCome
        rw [if_neg c1]
        rw [if_neg c22]
        rw [hzx, Sum.elim_inl]
      · skip
        rw [← hQ]
        refine ⟨congrArg (fun v => some (Value.int v)) (Eq.symm ?_), rfl⟩
        unfold K_mayCome
        rw [if_neg c1]
        rw [if_neg c22]
        rw [hrx, Sum.elim_inr]
    · skip
      refine Ev.iconst (v := 0) rfl (by decide) ?_
      refine Ev.iret (ty := .boolean) rfl rfl rfl (Nat.le_refl _) (Nat.le_refl _) ?_
      rw [← hQ]
      refine ⟨congrArg (fun v => some (Value.int v)) (Eq.symm ?_), rfl⟩
      unfold K_mayCome
      rw [if_neg c1]
      rw [if_pos c22]
end
end

