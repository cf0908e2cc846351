/-! Methods printed by sym.py: what is wrong, moves, who rises (class); found. -/
noncomputable section
section
variable {Γ : ex_G} {σ : ex_S} {x q a p y : Nat} {S : Sch} {T : Tol} {P : Pln} {g A : Nat → Int32}
def F_wrongC_30 (S : Sch) (P : Pln) (c0 : Nat) : Nat → Int32 → (Int32) ⊕ Int32 := fun k z => if ((P.2 k) 2) = ((P.2 c0) 2) then (if ((P.2 k) 1) = ((P.2 c0) 1) then (.inr (2 : Int32)) else (if ((P.2 k) 2) = ((P.2 c0) 2) then (.inl (z + (1 : Int32))) else (.inl (z + (0 : Int32))))) else (if ((P.2 k) 2) = ((P.2 c0) 2) then (.inl (z + (1 : Int32))) else (.inl (z + (0 : Int32))))
def K_wrongC (S : Sch) (P : Pln) (c0 : Nat) : Int32 := if (K_teaches S ((P.2 c0) 1) ((P.2 c0) 2)) = (0 : Int32) then (1 : Int32) else (Sum.elim (fun (zx : Int32) => if zx < ((S.2.2 9) 4) then (if (K_bc ((P.2 c0) 5)) < ((S.2.2 9) 2) then (4 : Int32) else (if ((S.2.2 9) 3) < (K_bc ((P.2 c0) 5)) then (5 : Int32) else (0 : Int32))) else (3 : Int32)) (fun (rx : Int32) => rx) (fe (F_wrongC_30 S P c0) (c0) 0 (0 : Int32)))
theorem wrongC_ok (hS : isS σ a S) (hP : isP σ p P) (hwp : wP P) (hn : S.1 ≤ 16) (hn5 : S.2.1 ≤ 5) (ht : ∀ k, k < P.1 → okL S (P.2 k)) {c0 : Nat} (hc0 : c0 < P.1) : RetV Γ m_SD_wrongOfClass [(.ref a), (.ref p), (.int (nI c0))] σ (.int (K_wrongC S P c0)) := by
  obtain ⟨h0, h1, h2, h3, h4, h5, h6', h7, h8, h9, h10⟩ := id hS
  obtain ⟨p0, ⟨pf, p1, p2⟩, p3⟩ := id hP
  have h6 := hwp.1
  unfold RetV
  generalize hQ : (fun (r : Option Value) (σ' : ex_S) => r = some ((.int (K_wrongC S P c0)) : Value) ∧ σ' = σ) = Q
  refine Ret.start pm_53 rfl ?_
  refine Ev.aload_n rfl rfl ?_
  refine Ev.getf rfl rfl p0 rfl ?_
  refine Ev.iload_n rfl rfl ?_
  refine Ev.aaldN (k := c0) rfl p1 rfl rfl ⟨(by omega), by decide⟩ (p2 c0 (by omega)) ?_
  refine Ev.astore_n rfl rfl rfl ?_
  refine Ev.aload_n rfl rfl ?_
  refine Ev.aload_n rfl rfl ?_
  refine Ev.getf rfl rfl (p3 c0 (by omega)) rfl ?_
  refine Ev.aload_n rfl rfl ?_
  refine Ev.getf rfl rfl (p3 c0 (by omega)) rfl ?_
  refine Ev.cV2 rfl rfl h0 rfl rfl (by decide) ⟨(Nat.le_refl _), (Nat.le_refl _)⟩ (teaches_ok hS _ _ hn5) ?_
  refine Ev.zne (tgt := 24) rfl (by decide) (fun c19 => ?_) (fun c19 => ?_)
  · skip
    refine Ev.iconst (v := 0) rfl (by decide) ?_
    refine Ev.istore rfl rfl rfl ?_
    refine Ev.iconst (v := 0) rfl (by decide) ?_
    refine Ev.istore rfl rfl rfl ?_
    refine Ev.fg (L := [some (.ref a), some (.ref p), some (.int (nI c0)), some (.ref (p + 2 + c0)), some (.int (0 : Int32)), some (.int (nI 0)), none]) ?_ (gs rfl (gs rfl (gs rfl (gs rfl (gs rfl (gs (congrArg Value.int (rfl : (0 : Int32) = nI 0).symm) (gn gz)))))))
    refine lpe (fun (k : Nat) (z : Int32) => Ev Γ 0 0 m_SD_wrongOfClass 0 0 30 [some (.ref a), some (.ref p), some (.int (nI c0)), some (.ref (p + 2 + c0)), some (.int z), some (.int (nI k)), none] [] σ Q) (fun (r : Int32) => Q (some (.int r)) σ) (F_wrongC_30 S P c0) (c0) (fun k z hk hx he => ?_) (c0) 0 (0 : Int32) (by omega) (fun zx hzx => ?_) (fun rx hrx => ?_)
    · skip
      refine Ev.iload rfl rfl ?_
      refine Ev.iload_n rfl rfl ?_
      refine Ev.jge (tgt := 99) rfl (by decide) (fun c33 => absurd (nI_lt hk (by omega)) c33) (fun c33 => ?_)
      refine Ev.aload_n rfl rfl ?_
      refine Ev.getf rfl rfl p0 rfl ?_
      refine Ev.iload rfl rfl ?_
      refine Ev.aaldN (k := k) rfl p1 rfl rfl ⟨(by omega), by decide⟩ (p2 k (by omega)) ?_
      refine Ev.astore rfl rfl rfl ?_
      refine Ev.aload rfl rfl ?_
      refine Ev.getf rfl rfl (p3 k (by omega)) rfl ?_
      refine Ev.aload_n rfl rfl ?_
      refine Ev.getf rfl rfl (p3 c0 (by omega)) rfl ?_
      refine Ev.jne (tgt := 71) rfl (by decide) (fun c54 => ?_) (fun c54 => ?_)
      · skip
        refine Ev.iload rfl rfl ?_
        refine Ev.aload rfl rfl ?_
        refine Ev.getf rfl rfl (p3 k (by omega)) rfl ?_
        refine Ev.aload_n rfl rfl ?_
        refine Ev.getf rfl rfl (p3 c0 (by omega)) rfl ?_
        refine Ev.jne (tgt := 89) rfl (by decide) (fun c82 => ?_) (fun c82 => ?_)
        · skip
          refine Ev.iconst (v := 0) rfl (by decide) ?_
          refine Ev.iadd rfl ?_
          refine Ev.istore rfl rfl rfl ?_
          refine Ev.iinc (d := 1) rfl rfl rfl (by decide) rfl ?_
          refine Ev.goto (tgt := 30) rfl (by decide) ?_
          have hF : (F_wrongC_30 S P c0) k z = .inl (z + (0 : Int32)) := by
            unfold F_wrongC_30
            rw [if_neg c54]
            rw [if_neg c82]
          exact (hx _ hF).fg (gs rfl (gs rfl (gs rfl (gs rfl (gs rfl (gs (congrArg Value.int (show nI (k + 1) = (nI k) + (1 : Int32) from (nq_to (a := k + 1) (nq_add (a := k) (b := 1) rfl (rfl : (1 : Int32) = nI 1)) (by omega)).symm)) (gn gz)))))))
        · skip
          refine Ev.iconst (v := 1) rfl (by decide) ?_
          refine Ev.goto (tgt := 90) rfl (by decide) ?_
          refine Ev.iadd rfl ?_
          refine Ev.istore rfl rfl rfl ?_
          refine Ev.iinc (d := 1) rfl rfl rfl (by decide) rfl ?_
          refine Ev.goto (tgt := 30) rfl (by decide) ?_
          have hF : (F_wrongC_30 S P c0) k z = .inl (z + (1 : Int32)) := by
            unfold F_wrongC_30
            rw [if_neg c54]
            rw [if_pos c82]
          exact (hx _ hF).fg (gs rfl (gs rfl (gs rfl (gs rfl (gs rfl (gs (congrArg Value.int (show nI (k + 1) = (nI k) + (1 : Int32) from (nq_to (a := k + 1) (nq_add (a := k) (b := 1) rfl (rfl : (1 : Int32) = nI 1)) (by omega)).symm)) (gn gz)))))))
      · skip
        refine Ev.aload rfl rfl ?_
        refine Ev.getf rfl rfl (p3 k (by omega)) rfl ?_
        refine Ev.aload_n rfl rfl ?_
        refine Ev.getf rfl rfl (p3 c0 (by omega)) rfl ?_
        refine Ev.jne (tgt := 71) rfl (by decide) (fun c66 => ?_) (fun c66 => ?_)
        · skip
          refine Ev.iload rfl rfl ?_
          refine Ev.aload rfl rfl ?_
          refine Ev.getf rfl rfl (p3 k (by omega)) rfl ?_
          refine Ev.aload_n rfl rfl ?_
          refine Ev.getf rfl rfl (p3 c0 (by omega)) rfl ?_
          refine Ev.jne (tgt := 89) rfl (by decide) (fun c82 => ?_) (fun c82 => ?_)
          · skip
            refine Ev.iconst (v := 0) rfl (by decide) ?_
            refine Ev.iadd rfl ?_
            refine Ev.istore rfl rfl rfl ?_
            refine Ev.iinc (d := 1) rfl rfl rfl (by decide) rfl ?_
            refine Ev.goto (tgt := 30) rfl (by decide) ?_
            have hF : (F_wrongC_30 S P c0) k z = .inl (z + (0 : Int32)) := by
              unfold F_wrongC_30
              rw [if_pos c54]
              rw [if_neg c66]
              rw [if_neg c82]
            exact (hx _ hF).fg (gs rfl (gs rfl (gs rfl (gs rfl (gs rfl (gs (congrArg Value.int (show nI (k + 1) = (nI k) + (1 : Int32) from (nq_to (a := k + 1) (nq_add (a := k) (b := 1) rfl (rfl : (1 : Int32) = nI 1)) (by omega)).symm)) (gn gz)))))))
          · skip
            refine Ev.iconst (v := 1) rfl (by decide) ?_
            refine Ev.goto (tgt := 90) rfl (by decide) ?_
            refine Ev.iadd rfl ?_
            refine Ev.istore rfl rfl rfl ?_
            refine Ev.iinc (d := 1) rfl rfl rfl (by decide) rfl ?_
            refine Ev.goto (tgt := 30) rfl (by decide) ?_
            have hF : (F_wrongC_30 S P c0) k z = .inl (z + (1 : Int32)) := by
              unfold F_wrongC_30
              rw [if_pos c54]
              rw [if_neg c66]
              rw [if_pos c82]
            exact (hx _ hF).fg (gs rfl (gs rfl (gs rfl (gs rfl (gs rfl (gs (congrArg Value.int (show nI (k + 1) = (nI k) + (1 : Int32) from (nq_to (a := k + 1) (nq_add (a := k) (b := 1) rfl (rfl : (1 : Int32) = nI 1)) (by omega)).symm)) (gn gz)))))))
        · skip
          refine Ev.iconst (v := 2) rfl (by decide) ?_
          refine Ev.iret (ty := .int) rfl rfl rfl (Nat.le_refl _) (Nat.le_refl _) ?_
          refine he _ ?_
          unfold F_wrongC_30
          rw [if_pos c54]
          rw [if_pos c66]
    · skip
      refine Ev.iload rfl rfl ?_
      refine Ev.iload_n rfl rfl ?_
      refine Ev.jge (tgt := 99) rfl (by decide) (fun c33 => ?_) (fun c33 => absurd c33 (nI_nlt (Nat.le_refl _) (by omega)))
      refine Ev.iload rfl rfl ?_
      refine Ev.aload_n rfl rfl ?_
      refine Ev.getf rfl rfl h0 rfl ?_
      refine Ev.iconst (v := 4) rfl (by decide) ?_
      refine Ev.ialdN (k := 4) rfl h10 (rfl : (4 : Int32) = nI 4) ⟨(by omega), by decide⟩ ?_
      refine Ev.jlt (tgt := 112) rfl (by decide) (fun c107 => ?_) (fun c107 => ?_)
      · skip
        refine Ev.aload_n rfl rfl ?_
        refine Ev.getf rfl rfl (p3 c0 (by omega)) rfl ?_
        refine Ev.cS1 rfl rfl rfl (by decide) ⟨(Nat.le_refl _), (Nat.le_refl _)⟩ (bc_ok _) ?_
        refine Ev.istore rfl rfl rfl ?_
        refine Ev.iload rfl rfl ?_
        refine Ev.aload_n rfl rfl ?_
        refine Ev.getf rfl rfl h0 rfl ?_
        refine Ev.iconst (v := 2) rfl (by decide) ?_
        refine Ev.ialdN (k := 2) rfl h10 (rfl : (2 : Int32) = nI 2) ⟨(by omega), by decide⟩ ?_
        refine Ev.jge (tgt := 136) rfl (by decide) (fun c129 => ?_) (fun c129 => ?_)
        · skip
          refine Ev.iload rfl rfl ?_
          refine Ev.aload_n rfl rfl ?_
          refine Ev.getf rfl rfl h0 rfl ?_
          refine Ev.iconst (v := 3) rfl (by decide) ?_
          refine Ev.ialdN (k := 3) rfl h10 (rfl : (3 : Int32) = nI 3) ⟨(by omega), by decide⟩ ?_
          refine Ev.jle (tgt := 151) rfl (by decide) (fun c144 => ?_) (fun c144 => ?_)
          · skip
            refine Ev.iconst (v := 0) rfl (by decide) ?_
            refine Ev.iret (ty := .int) rfl rfl rfl (Nat.le_refl _) (Nat.le_refl _) ?_
            rw [← hQ]
            refine ⟨congrArg (fun v => some (Value.int v)) (Eq.symm ?_), rfl⟩
            unfold K_wrongC
            rw [if_neg c19]
            rw [hzx, Sum.elim_inl]
            rw [if_pos c107]
            rw [if_neg c129]
            rw [if_neg c144]
          · skip
            refine Ev.iconst (v := 5) rfl (by decide) ?_
            refine Ev.goto (tgt := 152) rfl (by decide) ?_
            refine Ev.iret (ty := .int) rfl rfl rfl (Nat.le_refl _) (Nat.le_refl _) ?_
            rw [← hQ]
            refine ⟨congrArg (fun v => some (Value.int v)) (Eq.symm ?_), rfl⟩
            unfold K_wrongC
            rw [if_neg c19]
            rw [hzx, Sum.elim_inl]
            rw [if_pos c107]
            rw [if_neg c129]
            rw [if_pos c144]
        · skip
          refine Ev.iconst (v := 4) rfl (by decide) ?_
          refine Ev.goto (tgt := 152) rfl (by decide) ?_
          refine Ev.iret (ty := .int) rfl rfl rfl (Nat.le_refl _) (Nat.le_refl _) ?_
          rw [← hQ]
          refine ⟨congrArg (fun v => some (Value.int v)) (Eq.symm ?_), rfl⟩
          unfold K_wrongC
          rw [if_neg c19]
          rw [hzx, Sum.elim_inl]
          rw [if_pos c107]
          rw [if_pos c129]
      · skip
        refine Ev.iconst (v := 3) rfl (by decide) ?_
        refine Ev.iret (ty := .int) rfl rfl rfl (Nat.le_refl _) (Nat.le_refl _) ?_
        rw [← hQ]
        refine ⟨congrArg (fun v => some (Value.int v)) (Eq.symm ?_), rfl⟩
        unfold K_wrongC
        rw [if_neg c19]
        rw [hzx, Sum.elim_inl]
        rw [if_neg c107]
    · skip
      rw [← hQ]
      refine ⟨congrArg (fun v => some (Value.int v)) (Eq.symm ?_), rfl⟩
      unfold K_wrongC
      rw [if_neg c19]
      rw [hrx, Sum.elim_inr]
  · skip
    refine Ev.iconst (v := 1) rfl (by decide) ?_
    refine Ev.iret (ty := .int) rfl rfl rfl (Nat.le_refl _) (Nat.le_refl _) ?_
    rw [← hQ]
    refine ⟨congrArg (fun v => some (Value.int v)) (Eq.symm ?_), rfl⟩
    unfold K_wrongC
    rw [if_pos c19]
def K_wrongL (S : Sch) (C : Les) (w : Int32) (l : Nat) : Int32 := if ((((S.2.2 1) l) >>> ((C 2) &&& 31)) &&& (1 : Int32)) = (0 : Int32) then (6 : Int32) else (if ((w >>> ((nI l) &&& 31)) &&& (1 : Int32)) = (0 : Int32) then (if ((S.2.2 2) l) < ((S.2.2 9) 6) then (8 : Int32) else (if ((S.2.2 3) l) = (-1 : Int32) then (0 : Int32) else (if (if K_bit (C 5) ((S.2.2 3) l) = 0 then 0 else 1) = (0 : Int32) then (9 : Int32) else (0 : Int32)))) else (7 : Int32))
theorem wrongL_ok {c : Nat} {C : Les} (hS : isS σ a S) (hC : isL σ c C) (w : Int32) {l : Nat} (hl : l < 16) : RetV Γ m_SD_wrongOfLearner [(.ref a), (.ref c), (.int w), (.int (nI l))] σ (.int (K_wrongL S C w l)) := by
  obtain ⟨h0, h1, h2, h3, h4, h5, h6', h7, h8, h9, h10⟩ := id hS
  unfold RetV
  generalize hQ : (fun (r : Option Value) (σ' : ex_S) => r = some ((.int (K_wrongL S C w l)) : Value) ∧ σ' = σ) = Q
  refine Ret.start pm_54 rfl ?_
  refine Ev.aload_n rfl rfl ?_
  refine Ev.getf rfl rfl h0 rfl ?_
  refine Ev.iload_n rfl rfl ?_
  refine Ev.ialdN (k := l) rfl h2 rfl ⟨(by omega), by decide⟩ ?_
  refine Ev.aload_n rfl rfl ?_
  refine Ev.getf rfl rfl hC rfl ?_
  refine Ev.ishr rfl ?_
  refine Ev.iconst (v := 1) rfl (by decide) ?_
  refine Ev.iand rfl ?_
  refine Ev.zne (tgt := 19) rfl (by decide) (fun c13 => ?_) (fun c13 => ?_)
  · skip
    refine Ev.iload_n rfl rfl ?_
    refine Ev.iload_n rfl rfl ?_
    refine Ev.ishr rfl ?_
    refine Ev.iconst (v := 1) rfl (by decide) ?_
    refine Ev.iand rfl ?_
    refine Ev.zeq (tgt := 30) rfl (by decide) (fun c24 => ?_) (fun c24 => ?_)
    · skip
      refine Ev.aload_n rfl rfl ?_
      refine Ev.getf rfl rfl h0 rfl ?_
      refine Ev.iload_n rfl rfl ?_
      refine Ev.ialdN (k := l) rfl h3 rfl ⟨(by omega), by decide⟩ ?_
      refine Ev.aload_n rfl rfl ?_
      refine Ev.getf rfl rfl h0 rfl ?_
      refine Ev.bipush (v := 6) rfl (by decide) ?_
      refine Ev.ialdN (k := 6) rfl h10 (rfl : (6 : Int32) = nI 6) ⟨(by omega), by decide⟩ ?_
      refine Ev.jge (tgt := 49) rfl (by decide) (fun c43 => ?_) (fun c43 => ?_)
      · skip
        refine Ev.aload_n rfl rfl ?_
        refine Ev.getf rfl rfl h0 rfl ?_
        refine Ev.iload_n rfl rfl ?_
        refine Ev.ialdN (k := l) rfl h4 rfl ⟨(by omega), by decide⟩ ?_
        refine Ev.istore rfl rfl rfl ?_
        refine Ev.iload rfl rfl ?_
        refine Ev.iconst (v := (-1)) rfl (by decide) ?_
        refine Ev.jeq (tgt := 77) rfl (by decide) (fun c60 => ?_) (fun c60 => ?_)
        · skip
          refine Ev.iconst (v := 0) rfl (by decide) ?_
          refine Ev.iret (ty := .int) rfl rfl rfl (Nat.le_refl _) (Nat.le_refl _) ?_
          rw [← hQ]
          refine ⟨congrArg (fun v => some (Value.int v)) (Eq.symm ?_), rfl⟩
          unfold K_wrongL
          rw [if_neg c13]
          rw [if_pos c24]
          rw [if_neg c43]
          rw [if_pos c60]
        · skip
          refine Ev.aload_n rfl rfl ?_
          refine Ev.iload rfl rfl ?_
          refine Ev.cV1 rfl rfl hC rfl rfl (by decide) ⟨(Nat.le_refl _), (Nat.le_refl _)⟩ (lhas_ok hC _) ?_
          refine Ev.zne (tgt := 77) rfl (by decide) (fun c69 => ?_) (fun c69 => ?_)
          · skip
            refine Ev.iconst (v := 0) rfl (by decide) ?_
            refine Ev.iret (ty := .int) rfl rfl rfl (Nat.le_refl _) (Nat.le_refl _) ?_
            rw [← hQ]
            refine ⟨congrArg (fun v => some (Value.int v)) (Eq.symm ?_), rfl⟩
            unfold K_wrongL
            rw [if_neg c13]
            rw [if_pos c24]
            rw [if_neg c43]
            rw [if_neg c60]
            rw [if_neg c69]
          · skip
            refine Ev.bipush (v := 9) rfl (by decide) ?_
            refine Ev.goto (tgt := 78) rfl (by decide) ?_
            refine Ev.iret (ty := .int) rfl rfl rfl (Nat.le_refl _) (Nat.le_refl _) ?_
            rw [← hQ]
            refine ⟨congrArg (fun v => some (Value.int v)) (Eq.symm ?_), rfl⟩
            unfold K_wrongL
            rw [if_neg c13]
            rw [if_pos c24]
            rw [if_neg c43]
            rw [if_neg c60]
            rw [if_pos c69]
      · skip
        refine Ev.bipush (v := 8) rfl (by decide) ?_
        refine Ev.iret (ty := .int) rfl rfl rfl (Nat.le_refl _) (Nat.le_refl _) ?_
        rw [← hQ]
        refine ⟨congrArg (fun v => some (Value.int v)) (Eq.symm ?_), rfl⟩
        unfold K_wrongL
        rw [if_neg c13]
        rw [if_pos c24]
        rw [if_pos c43]
    · skip
      refine Ev.bipush (v := 7) rfl (by decide) ?_
      refine Ev.iret (ty := .int) rfl rfl rfl (Nat.le_refl _) (Nat.le_refl _) ?_
      rw [← hQ]
      refine ⟨congrArg (fun v => some (Value.int v)) (Eq.symm ?_), rfl⟩
      unfold K_wrongL
      rw [if_neg c13]
      rw [if_neg c24]
  · skip
    refine Ev.bipush (v := 6) rfl (by decide) ?_
    refine Ev.iret (ty := .int) rfl rfl rfl (Nat.le_refl _) (Nat.le_refl _) ?_
    rw [← hQ]
    refine ⟨congrArg (fun v => some (Value.int v)) (Eq.symm ?_), rfl⟩
    unfold K_wrongL
    rw [if_pos c13]
def K_moveG (S : Sch) (C D : Les) (l : Nat) : Int32 := if (K_takes S D (nI l)) = (0 : Int32) then (0 : Int32) else (if ((C 5) &&& (((1 : Int32) <<< ((nI l) &&& 31)) ^^^ (-1 : Int32))) = (0 : Int32) then ((((K_tog S C ((C 5) &&& (((1 : Int32) <<< ((nI l) &&& 31)) ^^^ (-1 : Int32)))) - (K_tog S C (C 5))) + (K_tog S D ((D 5) ||| ((1 : Int32) <<< ((nI l) &&& 31))))) - (K_tog S D (D 5))) else (if (K_bc ((C 5) &&& (((1 : Int32) <<< ((nI l) &&& 31)) ^^^ (-1 : Int32)))) < ((S.2.2 9) 2) then (0 : Int32) else ((((K_tog S C ((C 5) &&& (((1 : Int32) <<< ((nI l) &&& 31)) ^^^ (-1 : Int32)))) - (K_tog S C (C 5))) + (K_tog S D ((D 5) ||| ((1 : Int32) <<< ((nI l) &&& 31))))) - (K_tog S D (D 5)))))
theorem moveG_ok {c d : Nat} {C D : Les} (hS : isS σ a S) (hC : isL σ c C) (hD : isL σ d D) (hok : okL S C) (hokD : okL S D) (hn5 : S.2.1 ≤ 5) {l : Nat} (hl : l < 16) : RetV Γ m_SD_moveGrows [(.ref a), (.ref c), (.ref d), (.int (nI l))] σ (.int (K_moveG S C D l)) := by
  obtain ⟨h0, h1, h2, h3, h4, h5, h6', h7, h8, h9, h10⟩ := id hS
  unfold RetV
  generalize hQ : (fun (r : Option Value) (σ' : ex_S) => r = some ((.int (K_moveG S C D l)) : Value) ∧ σ' = σ) = Q
  refine Ret.start pm_59 rfl ?_
  refine Ev.aload_n rfl rfl ?_
  refine Ev.getf rfl rfl hC rfl ?_
  refine Ev.iconst (v := 1) rfl (by decide) ?_
  refine Ev.iload_n rfl rfl ?_
  refine Ev.ishl rfl ?_
  refine Ev.iconst (v := (-1)) rfl (by decide) ?_
  refine Ev.ixor rfl ?_
  refine Ev.iand rfl ?_
  refine Ev.istore rfl rfl rfl ?_
  refine Ev.aload_n rfl rfl ?_
  refine Ev.aload_n rfl rfl ?_
  refine Ev.iload_n rfl rfl ?_
  refine Ev.cV2 rfl rfl h0 rfl rfl (by decide) ⟨(Nat.le_refl _), (Nat.le_refl _)⟩ (takes_ok hS hD _ (kd_in (by omega) (by decide))) ?_
  refine Ev.zeq (tgt := 40) rfl (by decide) (fun c18 => ?_) (fun c18 => ?_)
  · skip
    refine Ev.iconst (v := 0) rfl (by decide) ?_
    refine Ev.iret (ty := .int) rfl rfl rfl (Nat.le_refl _) (Nat.le_refl _) ?_
    rw [← hQ]
    refine ⟨congrArg (fun v => some (Value.int v)) (Eq.symm ?_), rfl⟩
    unfold K_moveG
    rw [if_pos c18]
  · skip
    refine Ev.iload rfl rfl ?_
    refine Ev.zeq (tgt := 42) rfl (by decide) (fun c23 => ?_) (fun c23 => ?_)
    · skip
      refine Ev.aload_n rfl rfl ?_
      refine Ev.aload_n rfl rfl ?_
      refine Ev.iload rfl rfl ?_
      refine Ev.cV2 rfl rfl h0 rfl rfl (by decide) ⟨(Nat.le_refl _), (Nat.le_refl _)⟩ (tog_ok hS hC _ hok hn5) ?_
      refine Ev.aload_n rfl rfl ?_
      refine Ev.aload_n rfl rfl ?_
      refine Ev.aload_n rfl rfl ?_
      refine Ev.getf rfl rfl hC rfl ?_
      refine Ev.cV2 rfl rfl h0 rfl rfl (by decide) ⟨(Nat.le_refl _), (Nat.le_refl _)⟩ (tog_ok hS hC _ hok hn5) ?_
      refine Ev.isub rfl ?_
      refine Ev.aload_n rfl rfl ?_
      refine Ev.aload_n rfl rfl ?_
      refine Ev.aload_n rfl rfl ?_
      refine Ev.getf rfl rfl hD rfl ?_
      refine Ev.iconst (v := 1) rfl (by decide) ?_
      refine Ev.iload_n rfl rfl ?_
      refine Ev.ishl rfl ?_
      refine Ev.ior rfl ?_
      refine Ev.cV2 rfl rfl h0 rfl rfl (by decide) ⟨(Nat.le_refl _), (Nat.le_refl _)⟩ (tog_ok hS hD _ hokD hn5) ?_
      refine Ev.iadd rfl ?_
      refine Ev.aload_n rfl rfl ?_
      refine Ev.aload_n rfl rfl ?_
      refine Ev.aload_n rfl rfl ?_
      refine Ev.getf rfl rfl hD rfl ?_
      refine Ev.cV2 rfl rfl h0 rfl rfl (by decide) ⟨(Nat.le_refl _), (Nat.le_refl _)⟩ (tog_ok hS hD _ hokD hn5) ?_
      refine Ev.isub rfl ?_
      refine Ev.iret (ty := .int) rfl rfl rfl (Nat.le_refl _) (Nat.le_refl _) ?_
      rw [← hQ]
      refine ⟨congrArg (fun v => some (Value.int v)) (Eq.symm ?_), rfl⟩
      unfold K_moveG
      rw [if_neg c18]
      rw [if_pos c23]
    · skip
      refine Ev.iload rfl rfl ?_
      refine Ev.cS1 rfl rfl rfl (by decide) ⟨(Nat.le_refl _), (Nat.le_refl _)⟩ (bc_ok _) ?_
      refine Ev.aload_n rfl rfl ?_
      refine Ev.getf rfl rfl h0 rfl ?_
      refine Ev.iconst (v := 2) rfl (by decide) ?_
      refine Ev.ialdN (k := 2) rfl h10 (rfl : (2 : Int32) = nI 2) ⟨(by omega), by decide⟩ ?_
      refine Ev.jge (tgt := 42) rfl (by decide) (fun c37 => ?_) (fun c37 => ?_)
      · skip
        refine Ev.aload_n rfl rfl ?_
        refine Ev.aload_n rfl rfl ?_
        refine Ev.iload rfl rfl ?_
        refine Ev.cV2 rfl rfl h0 rfl rfl (by decide) ⟨(Nat.le_refl _), (Nat.le_refl _)⟩ (tog_ok hS hC _ hok hn5) ?_
        refine Ev.aload_n rfl rfl ?_
        refine Ev.aload_n rfl rfl ?_
        refine Ev.aload_n rfl rfl ?_
        refine Ev.getf rfl rfl hC rfl ?_
        refine Ev.cV2 rfl rfl h0 rfl rfl (by decide) ⟨(Nat.le_refl _), (Nat.le_refl _)⟩ (tog_ok hS hC _ hok hn5) ?_
        refine Ev.isub rfl ?_
        refine Ev.aload_n rfl rfl ?_
        refine Ev.aload_n rfl rfl ?_
        refine Ev.aload_n rfl rfl ?_
        refine Ev.getf rfl rfl hD rfl ?_
        refine Ev.iconst (v := 1) rfl (by decide) ?_
        refine Ev.iload_n rfl rfl ?_
        refine Ev.ishl rfl ?_
        refine Ev.ior rfl ?_
        refine Ev.cV2 rfl rfl h0 rfl rfl (by decide) ⟨(Nat.le_refl _), (Nat.le_refl _)⟩ (tog_ok hS hD _ hokD hn5) ?_
        refine Ev.iadd rfl ?_
        refine Ev.aload_n rfl rfl ?_
        refine Ev.aload_n rfl rfl ?_
        refine Ev.aload_n rfl rfl ?_
        refine Ev.getf rfl rfl hD rfl ?_
        refine Ev.cV2 rfl rfl h0 rfl rfl (by decide) ⟨(Nat.le_refl _), (Nat.le_refl _)⟩ (tog_ok hS hD _ hokD hn5) ?_
        refine Ev.isub rfl ?_
        refine Ev.iret (ty := .int) rfl rfl rfl (Nat.le_refl _) (Nat.le_refl _) ?_
        rw [← hQ]
        refine ⟨congrArg (fun v => some (Value.int v)) (Eq.symm ?_), rfl⟩
        unfold K_moveG
        rw [if_neg c18]
        rw [if_neg c23]
        rw [if_neg c37]
      · skip
        refine Ev.iconst (v := 0) rfl (by decide) ?_
        refine Ev.iret (ty := .int) rfl rfl rfl (Nat.le_refl _) (Nat.le_refl _) ?_
        rw [← hQ]
        refine ⟨congrArg (fun v => some (Value.int v)) (Eq.symm ?_), rfl⟩
        unfold K_moveG
        rw [if_neg c18]
        rw [if_neg c23]
        rw [if_pos c37]
def F_only_4 (P : Pln) (l : Int32) : Nat → Int32 → (Int32) ⊕ Int32 := fun k z => if (if K_bit ((P.2 k) 5) l = 0 then 0 else 1) = (0 : Int32) then (.inl z) else (if z = (-1 : Int32) then (.inl (nI k)) else (.inr (-1 : Int32)))
def K_only (P : Pln) (l : Int32) : Int32 := Sum.elim (fun (zx : Int32) => zx) (fun (rx : Int32) => rx) (fe (F_only_4 P l) (P.1) 0 (-1 : Int32))
theorem only_ok (hP : isP σ p P) (h6 : P.1 ≤ 6) (l : Int32) : RetV Γ m_Plan_onlyClassOf [(.ref p), (.int l)] σ (.int (K_only P l)) := by
  obtain ⟨p0, ⟨pf, p1, p2⟩, p3⟩ := id hP
  unfold RetV
  generalize hQ : (fun (r : Option Value) (σ' : ex_S) => r = some ((.int (K_only P l)) : Value) ∧ σ' = σ) = Q
  refine Ret.start pm_110 rfl ?_
  refine Ev.iconst (v := (-1)) rfl (by decide) ?_
  refine Ev.istore_n rfl rfl rfl ?_
  refine Ev.iconst (v := 0) rfl (by decide) ?_
  refine Ev.istore_n rfl rfl rfl ?_
  refine Ev.fg (L := [some (.ref p), some (.int l), some (.int (-1 : Int32)), some (.int (nI 0))]) ?_ (gs rfl (gs rfl (gs rfl (gs (congrArg Value.int (rfl : (0 : Int32) = nI 0).symm) gz))))
  refine lpe (fun (k : Nat) (z : Int32) => Ev Γ 0 0 m_Plan_onlyClassOf 0 0 4 [some (.ref p), some (.int l), some (.int z), some (.int (nI k))] [] σ Q) (fun (r : Int32) => Q (some (.int r)) σ) (F_only_4 P l) (P.1) (fun k z hk hx he => ?_) (P.1) 0 (-1 : Int32) (by omega) (fun zx hzx => ?_) (fun rx hrx => ?_)
  · skip
    refine Ev.iload_n rfl rfl ?_
    refine Ev.aload_n rfl rfl ?_
    refine Ev.getf rfl rfl p0 rfl ?_
    refine Ev.jge (tgt := 40) rfl (by decide) (fun c9 => absurd (nI_lt hk (by omega)) c9) (fun c9 => ?_)
    refine Ev.aload_n rfl rfl ?_
    refine Ev.getf rfl rfl p0 rfl ?_
    refine Ev.iload_n rfl rfl ?_
    refine Ev.aaldN (k := k) rfl p1 rfl rfl ⟨(by omega), by decide⟩ (p2 k (by omega)) ?_
    refine Ev.iload_n rfl rfl ?_
    refine Ev.cV1 rfl rfl (p3 k (by omega)) rfl rfl (by decide) ⟨(Nat.le_refl _), (Nat.le_refl _)⟩ (lhas_ok (p3 k (by omega)) _) ?_
    refine Ev.zeq (tgt := 34) rfl (by decide) (fun c22 => ?_) (fun c22 => ?_)
    · skip
      refine Ev.iinc (d := 1) rfl rfl rfl (by decide) rfl ?_
      refine Ev.goto (tgt := 4) rfl (by decide) ?_
      have hF : (F_only_4 P l) k z = .inl z := by
        unfold F_only_4
        rw [if_pos c22]
      exact (hx _ hF).fg (gs rfl (gs rfl (gs rfl (gs (congrArg Value.int (show nI (k + 1) = (nI k) + (1 : Int32) from (nq_to (a := k + 1) (nq_add (a := k) (b := 1) rfl (rfl : (1 : Int32) = nI 1)) (by omega)).symm)) gz))))
    · skip
      refine Ev.iload_n rfl rfl ?_
      refine Ev.iconst (v := (-1)) rfl (by decide) ?_
      refine Ev.jeq (tgt := 32) rfl (by decide) (fun c27 => ?_) (fun c27 => ?_)
      · skip
        refine Ev.iload_n rfl rfl ?_
        refine Ev.istore_n rfl rfl rfl ?_
        refine Ev.iinc (d := 1) rfl rfl rfl (by decide) rfl ?_
        refine Ev.goto (tgt := 4) rfl (by decide) ?_
        have hF : (F_only_4 P l) k z = .inl (nI k) := by
          unfold F_only_4
          rw [if_neg c22]
          rw [if_pos c27]
        exact (hx _ hF).fg (gs rfl (gs rfl (gs rfl (gs (congrArg Value.int (show nI (k + 1) = (nI k) + (1 : Int32) from (nq_to (a := k + 1) (nq_add (a := k) (b := 1) rfl (rfl : (1 : Int32) = nI 1)) (by omega)).symm)) gz))))
      · skip
        refine Ev.iconst (v := (-1)) rfl (by decide) ?_
        refine Ev.iret (ty := .int) rfl rfl rfl (Nat.le_refl _) (Nat.le_refl _) ?_
        refine he _ ?_
        unfold F_only_4
        rw [if_neg c22]
        rw [if_neg c27]
  · skip
    refine Ev.iload_n rfl rfl ?_
    refine Ev.aload_n rfl rfl ?_
    refine Ev.getf rfl rfl p0 rfl ?_
    refine Ev.jge (tgt := 40) rfl (by decide) (fun c9 => ?_) (fun c9 => absurd c9 (nI_nlt (Nat.le_refl _) (by omega)))
    refine Ev.iload_n rfl rfl ?_
    refine Ev.iret (ty := .int) rfl rfl rfl (Nat.le_refl _) (Nat.le_refl _) ?_
    rw [← hQ]
    refine ⟨congrArg (fun v => some (Value.int v)) (Eq.symm ?_), rfl⟩
    unfold K_only
    rw [hzx, Sum.elim_inl]
  · skip
    rw [← hQ]
    refine ⟨congrArg (fun v => some (Value.int v)) (Eq.symm ?_), rfl⟩
    unfold K_only
    rw [hrx, Sum.elim_inr]
def F_rising_18 (S : Sch) (P : Pln) (k : Nat) (z : Int32) : Nat → Int32 → Int32 := fun k' z' => if (if K_bit ((P.2 k') 5) (nI k) = 0 then 0 else 1) = (0 : Int32) then (z' + (0 : Int32)) else (z' + (K_byOne S (P.2 k') k))
def F_rising_4 (S : Sch) (P : Pln) : Nat → Int32 → Int32 := fun k z => if (fo (F_rising_18 S P k z) (P.1) 0 (0 : Int32)) < ((S.2.2 9) 8) then z else (if ((S.2.2 0) k) < (11 : Int32) then (z ||| ((1 : Int32) <<< ((nI k) &&& 31))) else z)
def K_rising (S : Sch) (P : Pln) : Int32 := (fo (F_rising_4 S P) (S.1) 0 (0 : Int32))
theorem rising_ok (hS : isS σ a S) (hP : isP σ p P) (hwp : wP P) (hn : S.1 ≤ 16) (hn5 : S.2.1 ≤ 5) (ht : ∀ k, k < P.1 → okL S (P.2 k)) : RetV Γ m_School_rising [(.ref a), (.ref p)] σ (.int (K_rising S P)) := by
  obtain ⟨h0, h1, h2, h3, h4, h5, h6', h7, h8, h9, h10⟩ := id hS
  obtain ⟨p0, ⟨pf, p1, p2⟩, p3⟩ := id hP
  have h6 := hwp.1
  unfold RetV
  generalize hQ : (fun (r : Option Value) (σ' : ex_S) => r = some ((.int (K_rising S P)) : Value) ∧ σ' = σ) = Q
  refine Ret.start pm_93 rfl ?_
  refine Ev.iconst (v := 0) rfl (by decide) ?_
  refine Ev.istore_n rfl rfl rfl ?_
  refine Ev.iconst (v := 0) rfl (by decide) ?_
  refine Ev.istore_n rfl rfl rfl ?_
  refine Ev.fg (L := [some (.ref a), some (.ref p), some (.int (0 : Int32)), some (.int (nI 0)), none, none]) ?_ (gs rfl (gs rfl (gs rfl (gs (congrArg Value.int (rfl : (0 : Int32) = nI 0).symm) (gn (gn gz))))))
  refine lp (fun (k : Nat) (z : Int32) => Ev Γ 0 0 m_School_rising 0 0 4 [some (.ref a), some (.ref p), some (.int z), some (.int (nI k)), none, none] [] σ Q) (F_rising_4 S P) (S.1) (fun k z hk hx => ?_) (S.1) 0 (0 : Int32) (by omega) ?_
  · skip
    refine Ev.iload_n rfl rfl ?_
    refine Ev.aload_n rfl rfl ?_
    refine Ev.getf rfl rfl h0 rfl ?_
    refine Ev.jge (tgt := 103) rfl (by decide) (fun c9 => absurd (nI_lt hk (by omega)) c9) (fun c9 => ?_)
    refine Ev.iconst (v := 0) rfl (by decide) ?_
    refine Ev.istore rfl rfl rfl ?_
    refine Ev.iconst (v := 0) rfl (by decide) ?_
    refine Ev.istore rfl rfl rfl ?_
    refine Ev.fg (L := [some (.ref a), some (.ref p), some (.int z), some (.int (nI k)), some (.int (0 : Int32)), some (.int (nI 0))]) ?_ (gs rfl (gs rfl (gs rfl (gs rfl (gs rfl (gs (congrArg Value.int (rfl : (0 : Int32) = nI 0).symm) gz))))))
    refine lp (fun (k' : Nat) (z' : Int32) => Ev Γ 0 0 m_School_rising 0 0 18 [some (.ref a), some (.ref p), some (.int z), some (.int (nI k)), some (.int z'), some (.int (nI k'))] [] σ Q) (F_rising_18 S P k z) (P.1) (fun k' z' hk' hx' => ?_) (P.1) 0 (0 : Int32) (by omega) ?_
    · skip
      refine Ev.iload rfl rfl ?_
      refine Ev.aload_n rfl rfl ?_
      refine Ev.getf rfl rfl p0 rfl ?_
      refine Ev.jge (tgt := 68) rfl (by decide) (fun c24 => absurd (nI_lt hk' (by omega)) c24) (fun c24 => ?_)
      refine Ev.iload rfl rfl ?_
      refine Ev.aload_n rfl rfl ?_
      refine Ev.getf rfl rfl p0 rfl ?_
      refine Ev.iload rfl rfl ?_
      refine Ev.aaldN (k := k') rfl p1 rfl rfl ⟨(by omega), by decide⟩ (p2 k' (by omega)) ?_
      refine Ev.iload_n rfl rfl ?_
      refine Ev.cV1 rfl rfl (p3 k' (by omega)) rfl rfl (by decide) ⟨(Nat.le_refl _), (Nat.le_refl _)⟩ (lhas_ok (p3 k' (by omega)) _) ?_
      refine Ev.zeq (tgt := 58) rfl (by decide) (fun c40 => ?_) (fun c40 => ?_)
      · skip
        refine Ev.iconst (v := 0) rfl (by decide) ?_
        refine Ev.iadd rfl ?_
        refine Ev.istore rfl rfl rfl ?_
        refine Ev.iinc (d := 1) rfl rfl rfl (by decide) rfl ?_
        refine Ev.goto (tgt := 18) rfl (by decide) ?_
        have hF : (F_rising_18 S P k z) k' z' = z' + (0 : Int32) := by
          unfold F_rising_18
          rw [if_pos c40]
        rw [hF] at hx'
        exact hx'.fg (gs rfl (gs rfl (gs rfl (gs rfl (gs rfl (gs (congrArg Value.int (show nI (k' + 1) = (nI k') + (1 : Int32) from (nq_to (a := k' + 1) (nq_add (a := k') (b := 1) rfl (rfl : (1 : Int32) = nI 1)) (by omega)).symm)) gz))))))
      · skip
        refine Ev.aload_n rfl rfl ?_
        refine Ev.aload_n rfl rfl ?_
        refine Ev.getf rfl rfl p0 rfl ?_
        refine Ev.iload rfl rfl ?_
        refine Ev.aaldN (k := k') rfl p1 rfl rfl ⟨(by omega), by decide⟩ (p2 k' (by omega)) ?_
        refine Ev.iload_n rfl rfl ?_
        refine Ev.cV2 rfl rfl h0 rfl rfl (by decide) ⟨(Nat.le_refl _), (Nat.le_refl _)⟩ (byOne_ok hS (p3 k' (by omega)) k (by omega) (ht k' (by omega)) hn5) ?_
        refine Ev.goto (tgt := 59) rfl (by decide) ?_
        refine Ev.iadd rfl ?_
        refine Ev.istore rfl rfl rfl ?_
        refine Ev.iinc (d := 1) rfl rfl rfl (by decide) rfl ?_
        refine Ev.goto (tgt := 18) rfl (by decide) ?_
        have hF : (F_rising_18 S P k z) k' z' = z' + (K_byOne S (P.2 k') k) := by
          unfold F_rising_18
          rw [if_neg c40]
        rw [hF] at hx'
        exact hx'.fg (gs rfl (gs rfl (gs rfl (gs rfl (gs rfl (gs (congrArg Value.int (show nI (k' + 1) = (nI k') + (1 : Int32) from (nq_to (a := k' + 1) (nq_add (a := k') (b := 1) rfl (rfl : (1 : Int32) = nI 1)) (by omega)).symm)) gz))))))
    · skip
      refine Ev.iload rfl rfl ?_
      refine Ev.aload_n rfl rfl ?_
      refine Ev.getf rfl rfl p0 rfl ?_
      refine Ev.jge (tgt := 68) rfl (by decide) (fun c24 => ?_) (fun c24 => absurd c24 (nI_nlt (Nat.le_refl _) (by omega)))
      refine Ev.iload rfl rfl ?_
      refine Ev.aload_n rfl rfl ?_
      refine Ev.getf rfl rfl h0 rfl ?_
      refine Ev.bipush (v := 8) rfl (by decide) ?_
      refine Ev.ialdN (k := 8) rfl h10 (rfl : (8 : Int32) = nI 8) ⟨(by omega), by decide⟩ ?_
      refine Ev.jlt (tgt := 97) rfl (by decide) (fun c77 => ?_) (fun c77 => ?_)
      · skip
        refine Ev.iinc (d := 1) rfl rfl rfl (by decide) rfl ?_
        refine Ev.goto (tgt := 4) rfl (by decide) ?_
        have hF : (F_rising_4 S P) k z = z := by
          unfold F_rising_4
          rw [if_pos c77]
        rw [hF] at hx
        exact hx.fg (gs rfl (gs rfl (gs rfl (gs (congrArg Value.int (show nI (k + 1) = (nI k) + (1 : Int32) from (nq_to (a := k + 1) (nq_add (a := k) (b := 1) rfl (rfl : (1 : Int32) = nI 1)) (by omega)).symm)) (gn (gn gz))))))
      · skip
        refine Ev.aload_n rfl rfl ?_
        refine Ev.getf rfl rfl h0 rfl ?_
        refine Ev.iload_n rfl rfl ?_
        refine Ev.ialdN (k := k) rfl h1 rfl ⟨(by omega), by decide⟩ ?_
        refine Ev.bipush (v := 11) rfl (by decide) ?_
        refine Ev.jge (tgt := 97) rfl (by decide) (fun c88 => ?_) (fun c88 => ?_)
        · skip
          refine Ev.iinc (d := 1) rfl rfl rfl (by decide) rfl ?_
          refine Ev.goto (tgt := 4) rfl (by decide) ?_
          have hF : (F_rising_4 S P) k z = z := by
            unfold F_rising_4
            rw [if_neg c77]
            rw [if_neg c88]
          rw [hF] at hx
          exact hx.fg (gs rfl (gs rfl (gs rfl (gs (congrArg Value.int (show nI (k + 1) = (nI k) + (1 : Int32) from (nq_to (a := k + 1) (nq_add (a := k) (b := 1) rfl (rfl : (1 : Int32) = nI 1)) (by omega)).symm)) (gn (gn gz))))))
        · skip
          refine Ev.iload_n rfl rfl ?_
          refine Ev.iconst (v := 1) rfl (by decide) ?_
          refine Ev.iload_n rfl rfl ?_
          refine Ev.ishl rfl ?_
          refine Ev.ior rfl ?_
          refine Ev.istore_n rfl rfl rfl ?_
          refine Ev.iinc (d := 1) rfl rfl rfl (by decide) rfl ?_
          refine Ev.goto (tgt := 4) rfl (by decide) ?_
          have hF : (F_rising_4 S P) k z = z ||| ((1 : Int32) <<< ((nI k) &&& 31)) := by
            unfold F_rising_4
            rw [if_neg c77]
            rw [if_pos c88]
          rw [hF] at hx
          exact hx.fg (gs rfl (gs rfl (gs rfl (gs (congrArg Value.int (show nI (k + 1) = (nI k) + (1 : Int32) from (nq_to (a := k + 1) (nq_add (a := k) (b := 1) rfl (rfl : (1 : Int32) = nI 1)) (by omega)).symm)) (gn (gn gz))))))
  · skip
    refine Ev.iload_n rfl rfl ?_
    refine Ev.aload_n rfl rfl ?_
    refine Ev.getf rfl rfl h0 rfl ?_
    refine Ev.jge (tgt := 103) rfl (by decide) (fun c9 => ?_) (fun c9 => absurd c9 (nI_nlt (Nat.le_refl _) (by omega)))
    refine Ev.iload_n rfl rfl ?_
    refine Ev.iret (ty := .int) rfl rfl rfl (Nat.le_refl _) (Nat.le_refl _) ?_
    rw [← hQ]
    refine ⟨congrArg (fun v => some (Value.int v)) (Eq.symm ?_), rfl⟩
    rfl
def K_find (u v w : Int32) (fnd : Nat → Int32) : Int32 × (Nat → Int32) := ((1 : Int32), (upd (upd (upd fnd 0 u) 1 v) 2 w))
theorem find_ok {fnd : Nat → Int32} (hX : isX σ x) (hfo : σ.2 (x + 115) = some (.inl (0, 3, fnd))) (u v w : Int32) : RetX Γ m_SD_find [(.ref x), (.int u), (.int v), (.int w)] σ (x + 115) (x + 116) (some (.int ((K_find u v w fnd).1))) (fun τ => τ.2 (x + 115) = some (.inl (0, 3, (K_find u v w fnd).2))) := by
  unfold RetX
  generalize hQ : (fun (r : Option Value) (τ : ex_S) => r = some (.int ((K_find u v w fnd).1)) ∧ frm σ τ (x + 115) (x + 116) ∧ (fun τ : ex_S => τ.2 (x + 115) = some (.inl (0, 3, (K_find u v w fnd).2))) τ) = Q
  refine Ret.start pm_51 rfl ?_
  have fr : frm σ σ (x + 115) (x + 116) := frm.rf
  have hXc := isX.frm hX fr (by omega)
  refine Ev.aload_n rfl rfl ?_
  refine Ev.getf rfl rfl hXc rfl ?_
  refine Ev.iconst (v := 0) rfl (by decide) ?_
  refine Ev.iload_n rfl rfl ?_
  refine Ev.iastE (k := 0) rfl hfo (rfl : (0 : Int32) = nI 0) ⟨(by omega), by decide⟩ (fun τ1 f1 hfo => ?_)
  have fr := fr.step f1 (by omega) (by omega)
  have hXc := isX.frm hX fr (by omega)
  refine Ev.aload_n rfl rfl ?_
  refine Ev.getf rfl rfl hXc rfl ?_
  refine Ev.iconst (v := 1) rfl (by decide) ?_
  refine Ev.iload_n rfl rfl ?_
  refine Ev.iastE (k := 1) rfl hfo (rfl : (1 : Int32) = nI 1) ⟨(by omega), by decide⟩ (fun τ2 f1 hfo => ?_)
  have fr := fr.step f1 (by omega) (by omega)
  have hXc := isX.frm hX fr (by omega)
  refine Ev.aload_n rfl rfl ?_
  refine Ev.getf rfl rfl hXc rfl ?_
  refine Ev.iconst (v := 2) rfl (by decide) ?_
  refine Ev.iload_n rfl rfl ?_
  refine Ev.iastE (k := 2) rfl hfo (rfl : (2 : Int32) = nI 2) ⟨(by omega), by decide⟩ (fun τ3 f1 hfo => ?_)
  have fr := fr.step f1 (by omega) (by omega)
  have hXc := isX.frm hX fr (by omega)
  refine Ev.iconst (v := 1) rfl (by decide) ?_
  refine Ev.iret (ty := .boolean) rfl rfl rfl (Nat.le_refl _) (Nat.le_refl _) ?_
  have hK : (K_find u v w fnd) = ((1 : Int32), (upd (upd (upd fnd 0 u) 1 v) 2 w)) := by rfl
  rw [← hQ]
  dsimp only
  rw [hK]
  exact ⟨rfl, fr, hfo⟩
theorem find_1 {fnd : Nat → Int32} (hX : isX σ x) (hfo : σ.2 (x + 115) = some (.inl (0, 3, fnd))) (u v w : Int32) : RetX Γ m_SD_find [.ref x, .int u, .int v, .int w] σ (x + 115) (x + 116) (some (.int 1)) (fun τ => τ.2 (x + 115) = some (.inl (0, 3, upd (upd (upd fnd 0 u) 1 v) 2 w))) := find_ok hX hfo u v w
def F_findWrong_50 (S : Sch) (P : Pln) (fnd : Nat → Int32) (k : Nat) (z : Int32) : Nat → Unit → (Unit) ⊕ (Int32 × (Nat → Int32)) := fun k' z' => if (if K_bit ((P.2 k) 5) (nI k') = 0 then 0 else 1) = (0 : Int32) then (.inl ()) else (if (K_wrongL S (P.2 k) z k') = (0 : Int32) then (.inl ()) else (.inr ((1 : Int32), (upd (upd (upd fnd 0 (K_wrongL S (P.2 k) z k')) 1 (nI k)) 2 (nI k')))))
def F_findWrong_5 (S : Sch) (P : Pln) (fnd : Nat → Int32) : Nat → Int32 → (Int32) ⊕ (Int32 × (Nat → Int32)) := fun k z => if (K_wrongC S P k) = (0 : Int32) then (Sum.elim (fun (zx : Unit) => .inl (z ||| ((P.2 k) 5))) (fun (rx : Int32 × (Nat → Int32)) => .inr rx) (fe (F_findWrong_50 S P fnd k z) (S.1) 0 ())) else (.inr ((1 : Int32), (upd (upd (upd fnd 0 (K_wrongC S P k)) 1 (nI k)) 2 (-1 : Int32))))
def K_findWrong (S : Sch) (P : Pln) (fnd : Nat → Int32) : Int32 × (Nat → Int32) := Sum.elim (fun (zx : Int32) => ((0 : Int32), fnd)) (fun (rx : Int32 × (Nat → Int32)) => rx) (fe (F_findWrong_5 S P fnd) (P.1) 0 (0 : Int32))
theorem findWrong_ok {fnd : Nat → Int32} (hX : isX σ x) (hfo : σ.2 (x + 115) = some (.inl (0, 3, fnd))) (hS0 : isS σ a S) (hP0 : isP σ p P) (hwp : wP P) (hn : S.1 ≤ 16) (hn5 : S.2.1 ≤ 5) (ht : ∀ k, k < P.1 → okL S (P.2 k)) (ha : a + 11 ≤ x + 115) (hp : p + 8 ≤ x + 115) : RetX Γ m_SD_findWrong [(.ref x), (.ref a), (.ref p)] σ (x + 115) (x + 116) (some (.int ((K_findWrong S P fnd).1))) (fun τ => τ.2 (x + 115) = some (.inl (0, 3, (K_findWrong S P fnd).2))) := by
  have h6 := hwp.1
  unfold RetX
  generalize hQ : (fun (r : Option Value) (τ : ex_S) => r = some (.int ((K_findWrong S P fnd).1)) ∧ frm σ τ (x + 115) (x + 116) ∧ (fun τ : ex_S => τ.2 (x + 115) = some (.inl (0, 3, (K_findWrong S P fnd).2))) τ) = Q
  refine Ret.start pm_52 rfl ?_
  have fr : frm σ σ (x + 115) (x + 116) := frm.rf
  have hXc := isX.frm hX fr (by omega)
  have hS := hS0.frm fr (by omega)
  have hP := hP0.frm fr (by omega)
  obtain ⟨h0, h1, h2, h3, h4, h5, h6', h7, h8, h9, h10⟩ := id hS
  obtain ⟨p0, ⟨pf, p1, p2⟩, p3⟩ := id hP
  refine Ev.iconst (v := 0) rfl (by decide) ?_
  refine Ev.istore_n rfl rfl rfl ?_
  refine Ev.iconst (v := 0) rfl (by decide) ?_
  refine Ev.istore rfl rfl rfl ?_
  refine Ev.fg (L := [some (.ref x), some (.ref a), some (.ref p), some (.int (0 : Int32)), some (.int (nI 0)), none, none, none]) ?_ (gs rfl (gs rfl (gs rfl (gs rfl (gs (congrArg Value.int (rfl : (0 : Int32) = nI 0).symm) (gn (gn (gn gz))))))))
  refine lpe (fun (k : Nat) (z : Int32) => Ev Γ 0 0 m_SD_findWrong 0 0 5 [some (.ref x), some (.ref a), some (.ref p), some (.int z), some (.int (nI k)), none, none, none] [] σ Q) (fun (r : Int32 × (Nat → Int32)) => ∀ t : ex_S, frm σ t (x + 115) (x + 116) → t.2 (x + 115) = some (.inl (0, 3, r.2)) → Q (some (.int r.1)) t) (F_findWrong_5 S P fnd) (P.1) (fun k z hk hx he => ?_) (P.1) 0 (0 : Int32) (by omega) (fun zx hzx => ?_) (fun rx hrx => ?_)
  · skip
    refine Ev.iload rfl rfl ?_
    refine Ev.aload_n rfl rfl ?_
    refine Ev.getf rfl rfl p0 rfl ?_
    refine Ev.jge (tgt := 120) rfl (by decide) (fun c11 => absurd (nI_lt hk (by omega)) c11) (fun c11 => ?_)
    refine Ev.aload_n rfl rfl ?_
    refine Ev.getf rfl rfl p0 rfl ?_
    refine Ev.iload rfl rfl ?_
    refine Ev.aaldN (k := k) rfl p1 rfl rfl ⟨(by omega), by decide⟩ (p2 k (by omega)) ?_
    refine Ev.astore rfl rfl rfl ?_
    refine Ev.aload_n rfl rfl ?_
    refine Ev.aload_n rfl rfl ?_
    refine Ev.iload rfl rfl ?_
    refine Ev.cS3 rfl rfl rfl (by decide) ⟨(Nat.le_refl _), (Nat.le_refl _)⟩ (wrongC_ok hS hP hwp hn hn5 ht (by omega)) ?_
    refine Ev.istore rfl rfl rfl ?_
    refine Ev.iload rfl rfl ?_
    refine Ev.zeq (tgt := 47) rfl (by decide) (fun c34 => ?_) (fun c34 => ?_)
    · skip
      refine Ev.iconst (v := 0) rfl (by decide) ?_
      refine Ev.istore rfl rfl rfl ?_
      refine Ev.fg (L := [some (.ref x), some (.ref a), some (.ref p), some (.int z), some (.int (nI k)), some (.ref (p + 2 + k)), none, some (.int (nI 0))]) ?_ (gs rfl (gs rfl (gs rfl (gs rfl (gs rfl (gs rfl (gn (gs (congrArg Value.int (rfl : (0 : Int32) = nI 0).symm) gz))))))))
      refine lpe (fun (k' : Nat) (z' : Unit) => Ev Γ 0 0 m_SD_findWrong 0 0 50 [some (.ref x), some (.ref a), some (.ref p), some (.int z), some (.int (nI k)), some (.ref (p + 2 + k)), none, some (.int (nI k'))] [] σ Q) (fun (r : Int32 × (Nat → Int32)) => ∀ t : ex_S, frm σ t (x + 115) (x + 116) → t.2 (x + 115) = some (.inl (0, 3, r.2)) → Q (some (.int r.1)) t) (F_findWrong_50 S P fnd k z) (S.1) (fun k' z' hk' hx' he => ?_) (S.1) 0 () (by omega) (fun zx hzx => ?_) (fun rx hrx => ?_)
      · skip
        refine Ev.iload rfl rfl ?_
        refine Ev.aload_n rfl rfl ?_
        refine Ev.getf rfl rfl h0 rfl ?_
        refine Ev.jge (tgt := 106) rfl (by decide) (fun c56 => absurd (nI_lt hk' (by omega)) c56) (fun c56 => ?_)
        refine Ev.aload rfl rfl ?_
        refine Ev.iload rfl rfl ?_
        refine Ev.cV1 rfl rfl (p3 k (by omega)) rfl rfl (by decide) ⟨(Nat.le_refl _), (Nat.le_refl _)⟩ (lhas_ok (p3 k (by omega)) _) ?_
        refine Ev.zeq (tgt := 81) rfl (by decide) (fun c66 => ?_) (fun c66 => ?_)
        · skip
          refine Ev.iconst (v := 0) rfl (by decide) ?_
          refine Ev.istore rfl rfl rfl ?_
          refine Ev.iload rfl rfl ?_
          refine Ev.zeq (tgt := 100) rfl (by decide) (fun c86 => ?_) (fun c86 => absurd (by decide) c86)
          refine Ev.iinc (d := 1) rfl rfl rfl (by decide) rfl ?_
          refine Ev.goto (tgt := 50) rfl (by decide) ?_
          have hF : (F_findWrong_50 S P fnd k z) k' z' = .inl () := by
            unfold F_findWrong_50
            rw [if_pos c66]
          exact (hx' _ hF).fg (gs rfl (gs rfl (gs rfl (gs rfl (gs rfl (gs rfl (gn (gs (congrArg Value.int (show nI (k' + 1) = (nI k') + (1 : Int32) from (nq_to (a := k' + 1) (nq_add (a := k') (b := 1) rfl (rfl : (1 : Int32) = nI 1)) (by omega)).symm)) gz))))))))
        · skip
          refine Ev.aload_n rfl rfl ?_
          refine Ev.aload rfl rfl ?_
          refine Ev.iload_n rfl rfl ?_
          refine Ev.iload rfl rfl ?_
          refine Ev.cS4 rfl rfl rfl (by decide) ⟨(Nat.le_refl _), (Nat.le_refl _)⟩ (wrongL_ok hS (p3 k (by omega)) _ (by omega)) ?_
          refine Ev.goto (tgt := 82) rfl (by decide) ?_
          refine Ev.istore rfl rfl rfl ?_
          refine Ev.iload rfl rfl ?_
          refine Ev.zeq (tgt := 100) rfl (by decide) (fun c86 => ?_) (fun c86 => ?_)
          · skip
            refine Ev.iinc (d := 1) rfl rfl rfl (by decide) rfl ?_
            refine Ev.goto (tgt := 50) rfl (by decide) ?_
            have hF : (F_findWrong_50 S P fnd k z) k' z' = .inl () := by
              unfold F_findWrong_50
              rw [if_neg c66]
              rw [if_pos c86]
            exact (hx' _ hF).fg (gs rfl (gs rfl (gs rfl (gs rfl (gs rfl (gs rfl (gn (gs (congrArg Value.int (show nI (k' + 1) = (nI k') + (1 : Int32) from (nq_to (a := k' + 1) (nq_add (a := k') (b := 1) rfl (rfl : (1 : Int32) = nI 1)) (by omega)).symm)) gz))))))))
          · skip
            refine Ev.aload_n rfl rfl ?_
            refine Ev.iload rfl rfl ?_
            refine Ev.iload rfl rfl ?_
            refine Ev.iload rfl rfl ?_
            refine Ev.xV3 rfl rfl hXc rfl rfl (by decide) ⟨(Nat.le_refl _), (Nat.le_refl _)⟩ (find_1 hXc hfo _ _ _) (fun τ1 f1 q1 => ?_)
            have hfo := q1
            have fr := fr.step f1 (by omega) (by omega)
            have hXc := isX.frm hX fr (by omega)
            have hS := hS0.frm fr (by omega)
            have hP := hP0.frm fr (by omega)
            obtain ⟨h0, h1, h2, h3, h4, h5, h6', h7, h8, h9, h10⟩ := id hS
            obtain ⟨p0, ⟨pf, p1, p2⟩, p3⟩ := id hP
            refine Ev.iret (ty := .boolean) rfl rfl rfl (Nat.le_refl _) (Nat.le_refl _) ?_
            have hF : (F_findWrong_50 S P fnd k z) k' z' = .inr ((1 : Int32), (upd (upd (upd fnd 0 (K_wrongL S (P.2 k) z k')) 1 (nI k)) 2 (nI k'))) := by
              unfold F_findWrong_50
              rw [if_neg c66]
              rw [if_neg c86]
            exact he _ hF τ1 fr hfo
      · skip
        refine Ev.iload rfl rfl ?_
        refine Ev.aload_n rfl rfl ?_
        refine Ev.getf rfl rfl h0 rfl ?_
        refine Ev.jge (tgt := 106) rfl (by decide) (fun c56 => ?_) (fun c56 => absurd c56 (nI_nlt (Nat.le_refl _) (by omega)))
        refine Ev.iload_n rfl rfl ?_
        refine Ev.aload rfl rfl ?_
        refine Ev.getf rfl rfl (p3 k (by omega)) rfl ?_
        refine Ev.ior rfl ?_
        refine Ev.istore_n rfl rfl rfl ?_
        refine Ev.iinc (d := 1) rfl rfl rfl (by decide) rfl ?_
        refine Ev.goto (tgt := 5) rfl (by decide) ?_
        have hF : (F_findWrong_5 S P fnd) k z = .inl (z ||| ((P.2 k) 5)) := by
          unfold F_findWrong_5
          rw [if_pos c34]
          rw [hzx, Sum.elim_inl]
        exact (hx _ hF).fg (gs rfl (gs rfl (gs rfl (gs rfl (gs (congrArg Value.int (show nI (k + 1) = (nI k) + (1 : Int32) from (nq_to (a := k + 1) (nq_add (a := k) (b := 1) rfl (rfl : (1 : Int32) = nI 1)) (by omega)).symm)) (gn (gn (gn gz))))))))
      · skip
        exact he _ (by
          unfold F_findWrong_5
          rw [if_pos c34]
          rw [hrx, Sum.elim_inr])
    · skip
      refine Ev.aload_n rfl rfl ?_
      refine Ev.iload rfl rfl ?_
      refine Ev.iload rfl rfl ?_
      refine Ev.iconst (v := (-1)) rfl (by decide) ?_
      refine Ev.xV3 rfl rfl hXc rfl rfl (by decide) ⟨(Nat.le_refl _), (Nat.le_refl _)⟩ (find_1 hXc hfo _ _ _) (fun τ2 f1 q1 => ?_)
      have hfo := q1
      have fr := fr.step f1 (by omega) (by omega)
      have hXc := isX.frm hX fr (by omega)
      have hS := hS0.frm fr (by omega)
      have hP := hP0.frm fr (by omega)
      obtain ⟨h0, h1, h2, h3, h4, h5, h6', h7, h8, h9, h10⟩ := id hS
      obtain ⟨p0, ⟨pf, p1, p2⟩, p3⟩ := id hP
      refine Ev.iret (ty := .boolean) rfl rfl rfl (Nat.le_refl _) (Nat.le_refl _) ?_
      have hF : (F_findWrong_5 S P fnd) k z = .inr ((1 : Int32), (upd (upd (upd fnd 0 (K_wrongC S P k)) 1 (nI k)) 2 (-1 : Int32))) := by
        unfold F_findWrong_5
        rw [if_neg c34]
      exact he _ hF τ2 fr hfo
  · skip
    refine Ev.iload rfl rfl ?_
    refine Ev.aload_n rfl rfl ?_
    refine Ev.getf rfl rfl p0 rfl ?_
    refine Ev.jge (tgt := 120) rfl (by decide) (fun c11 => ?_) (fun c11 => absurd c11 (nI_nlt (Nat.le_refl _) (by omega)))
    refine Ev.iconst (v := 0) rfl (by decide) ?_
    refine Ev.iret (ty := .boolean) rfl rfl rfl (Nat.le_refl _) (Nat.le_refl _) ?_
    have hK : (K_findWrong S P fnd) = ((0 : Int32), fnd) := by
      unfold K_findWrong
      rw [hzx, Sum.elim_inl]
    rw [← hQ]
    dsimp only
    rw [hK]
    exact ⟨rfl, fr, hfo⟩
  · skip
    intro t fr hfo
    have hK : (K_findWrong S P fnd) = rx := by
      unfold K_findWrong
      rw [hrx, Sum.elim_inr]
    rw [← hQ]
    dsimp only
    rw [hK]
    exact ⟨rfl, fr, hfo⟩
theorem fe_inv {T U : Type} {F : Nat → T → T ⊕ U} (J : Nat → T → Prop) (E : U → Prop) : ∀ (k i : Nat) (x : T), J i x → (∀ j z, i ≤ j → j < i + k → J j z → (∀ z', F j z = .inl z' → J (j + 1) z') ∧ ∀ r, F j z = .inr r → E r) → (∀ z, fe F k i x = .inl z → J (i + k) z) ∧ ∀ r, fe F k i x = .inr r → E r := by
  intro k
  induction k with
  | zero =>
    intro i x h _
    refine ⟨fun z hz => ?_, fun r hr => ?_⟩
    · rw [fe_zero] at hz
      cases hz
      exact h
    · rw [fe_zero] at hr
      cases hr
  | succ k ih =>
    intro i x h hs
    rw [fe_succ]
    obtain ⟨a, b⟩ := hs i x (Nat.le_refl _) (by omega) h
    rcases hF : F i x with z | r
    · rw [Sum.elim_inl, show i + (k + 1) = i + 1 + k by omega]
      exact ih (i + 1) z (a z hF) (fun j w h1 h2 => hs j w (by omega) (by omega))
    · rw [Sum.elim_inr]
      exact ⟨fun z hz => (by cases hz), fun r' hr => (by cases hr; exact b r hF)⟩
theorem only_cl {P : Pln} {l : Int32} (h6 : P.1 ≤ 6) (h : ¬ K_only P l = -1) : K_only P l = nI (K_only P l).toNatClampNeg ∧ (K_only P l).toNatClampNeg < P.1 := by
  have key : K_only P l = -1 ∨ ∃ k, k < P.1 ∧ K_only P l = nI k := by
    unfold K_only
    obtain ⟨a, b⟩ := fe_inv (F := F_only_4 P l) (fun i z => z = -1 ∨ ∃ k, k < i ∧ z = nI k) (fun r => r = -1) P.1 0 (-1) (Or.inl rfl) (fun j z _ hj hz => by
      unfold F_only_4
      by_cases c1 : (if K_bit ((P.2 j) 5) l = 0 then 0 else 1) = (0 : Int32)
      · rw [if_pos c1]
        refine ⟨fun z' e => ?_, fun r e => (by cases e)⟩
        cases e
        rcases hz with hz | ⟨k, h1, h2⟩
        · exact Or.inl hz
        · exact Or.inr ⟨k, by omega, h2⟩
      · rw [if_neg c1]
        by_cases c2 : z = (-1 : Int32)
        · rw [if_pos c2]
          refine ⟨fun z' e => ?_, fun r e => (by cases e)⟩
          cases e
          exact Or.inr ⟨j, by omega, rfl⟩
        · rw [if_neg c2]
          refine ⟨fun z' e => (by cases e), fun r e => ?_⟩
          cases e
          rfl)
    rcases hf : fe (F_only_4 P l) P.1 0 (-1) with z | r
    · rw [Sum.elim_inl]
      rcases a z hf with h1 | ⟨k, h1, h2⟩
      · exact Or.inl h1
      · exact Or.inr ⟨k, by omega, h2⟩
    · rw [Sum.elim_inr]
      exact Or.inl (b r hf)
  rcases key with h1 | ⟨k, h1, h2⟩
  · exact absurd h1 h
  · rw [h2, nI_clamp (by omega)]
    exact ⟨rfl, h1⟩
def F_findMove_25 (S : Sch) (P : Pln) (fnd : Nat → Int32) (k : Nat) (z : Int32 × (Nat → Int32)) : Nat → (Int32 × (Nat → Int32)) → (Int32 × (Nat → Int32)) := fun k' z' => if (nI k') = (K_only P (nI k)) then (if z'.1 < (0 : Int32) then ((0 : Int32), (upd (upd (upd z'.2 0 (nI k)) 1 (nI k')) 2 (0 : Int32))) else (z'.1, z'.2)) else (if z'.1 < (K_moveG S (P.2 ((K_only P (nI k)).toNatClampNeg)) (P.2 k') k) then (K_moveG S (P.2 ((K_only P (nI k)).toNatClampNeg)) (P.2 k') k, (upd (upd (upd z'.2 0 (nI k)) 1 (nI k')) 2 (K_moveG S (P.2 ((K_only P (nI k)).toNatClampNeg)) (P.2 k') k))) else (z'.1, z'.2))
def F_findMove_5 (S : Sch) (P : Pln) (fnd : Nat → Int32) : Nat → (Int32 × (Nat → Int32)) → (Int32 × (Nat → Int32)) := fun k z => if (K_only P (nI k)) = (-1 : Int32) then (z.1, z.2) else ((fo (F_findMove_25 S P fnd k z) (P.1) 0 (z.1, z.2)).1, (fo (F_findMove_25 S P fnd k z) (P.1) 0 (z.1, z.2)).2)
def K_findMove (S : Sch) (P : Pln) (fnd : Nat → Int32) : Int32 × (Nat → Int32) := if (0 : Int32) < ((fo (F_findMove_5 S P fnd) (S.1) 0 ((0 : Int32), fnd)).1) then ((1 : Int32), (fo (F_findMove_5 S P fnd) (S.1) 0 ((0 : Int32), fnd)).2) else ((0 : Int32), (fo (F_findMove_5 S P fnd) (S.1) 0 ((0 : Int32), fnd)).2)
theorem findMove_ok {fnd : Nat → Int32} (hX : isX σ x) (hfo : σ.2 (x + 115) = some (.inl (0, 3, fnd))) (hS0 : isS σ a S) (hP0 : isP σ p P) (hwp : wP P) (hn : S.1 ≤ 16) (hn5 : S.2.1 ≤ 5) (ht : ∀ k, k < P.1 → okL S (P.2 k)) (ha : a + 11 ≤ x + 115) (hp : p + 8 ≤ x + 115) : RetX Γ m_SD_findMove [(.ref x), (.ref a), (.ref p)] σ (x + 115) (x + 116) (some (.int ((K_findMove S P fnd).1))) (fun τ => τ.2 (x + 115) = some (.inl (0, 3, (K_findMove S P fnd).2))) := by
  have h6 := hwp.1
  unfold RetX
  generalize hQ : (fun (r : Option Value) (τ : ex_S) => r = some (.int ((K_findMove S P fnd).1)) ∧ frm σ τ (x + 115) (x + 116) ∧ (fun τ : ex_S => τ.2 (x + 115) = some (.inl (0, 3, (K_findMove S P fnd).2))) τ) = Q
  refine Ret.start pm_58 rfl ?_
  have fr : frm σ σ (x + 115) (x + 116) := frm.rf
  have hXc := isX.frm hX fr (by omega)
  have hS := hS0.frm fr (by omega)
  have hP := hP0.frm fr (by omega)
  obtain ⟨h0, h1, h2, h3, h4, h5, h6', h7, h8, h9, h10⟩ := id hS
  obtain ⟨p0, ⟨pf, p1, p2⟩, p3⟩ := id hP
  refine Ev.iconst (v := 0) rfl (by decide) ?_
  refine Ev.istore_n rfl rfl rfl ?_
  refine Ev.iconst (v := 0) rfl (by decide) ?_
  refine Ev.istore rfl rfl rfl ?_
  refine Ev.fg (L := [some (.ref x), some (.ref a), some (.ref p), some (.int (0 : Int32)), some (.int (nI 0)), none, none, none]) ?_ (gs rfl (gs rfl (gs rfl (gs rfl (gs (congrArg Value.int (rfl : (0 : Int32) = nI 0).symm) (gn (gn (gn gz))))))))
  refine lp (fun (k : Nat) (z : Int32 × (Nat → Int32)) => ∀ τ' : ex_S, frm σ τ' (x + 115) (x + 116) → τ'.2 (x + 115) = some (.inl (0, 3, z.2)) → Ev Γ 0 0 m_SD_findMove 0 0 5 [some (.ref x), some (.ref a), some (.ref p), some (.int z.1), some (.int (nI k)), none, none, none] [] τ' Q) (F_findMove_5 S P fnd) (S.1) (fun k z hk hx => ?_) (S.1) 0 ((0 : Int32), fnd) (by omega) ?_ σ fr hfo
  · skip
    intro τ' fr hfo
    have hXc := isX.frm hX fr (by omega)
    have hS := hS0.frm fr (by omega)
    have hP := hP0.frm fr (by omega)
    obtain ⟨h0, h1, h2, h3, h4, h5, h6', h7, h8, h9, h10⟩ := id hS
    obtain ⟨p0, ⟨pf, p1, p2⟩, p3⟩ := id hP
    refine Ev.iload rfl rfl ?_
    refine Ev.aload_n rfl rfl ?_
    refine Ev.getf rfl rfl h0 rfl ?_
    refine Ev.jge (tgt := 105) rfl (by decide) (fun c11 => absurd (nI_lt hk (by omega)) c11) (fun c11 => ?_)
    refine Ev.aload_n rfl rfl ?_
    refine Ev.iload rfl rfl ?_
    refine Ev.cV1 rfl rfl p0 rfl rfl (by decide) ⟨(Nat.le_refl _), (Nat.le_refl _)⟩ (only_ok hP h6 _) ?_
    refine Ev.istore rfl rfl rfl ?_
    refine Ev.iconst (v := 0) rfl (by decide) ?_
    refine Ev.istore rfl rfl rfl ?_
    by_cases g28 : (K_only P (nI k)) = (-1 : Int32)
    · skip
      refine Ev.iload rfl rfl ?_
      refine Ev.iconst (v := (-1)) rfl (by decide) ?_
      refine Ev.jeq (tgt := 99) rfl (by decide) (fun c28 => ?_) (fun c28 => absurd g28 c28)
      refine Ev.iinc (d := 1) rfl rfl rfl (by decide) rfl ?_
      refine Ev.goto (tgt := 5) rfl (by decide) ?_
      have hF : (F_findMove_5 S P fnd) k z = (z.1, z.2) := by
        unfold F_findMove_5
        rw [if_pos g28]
      rw [hF] at hx
      exact (hx τ' fr hfo).fg (gs rfl (gs rfl (gs rfl (gs rfl (gs (congrArg Value.int (show nI (k + 1) = (nI k) + (1 : Int32) from (nq_to (a := k + 1) (nq_add (a := k) (b := 1) rfl (rfl : (1 : Int32) = nI 1)) (by omega)).symm)) (gn (gn (gn gz))))))))
    · skip
      obtain ⟨hq, hql⟩ := only_cl h6 g28
      refine Ev.fg (L := [some (.ref x), some (.ref a), some (.ref p), some (.int z.1), some (.int (nI k)), some (.int (K_only P (nI k))), some (.int (nI 0)), none]) ?_ (gs rfl (gs rfl (gs rfl (gs rfl (gs rfl (gs rfl (gs (congrArg Value.int (rfl : (0 : Int32) = nI 0).symm) (gn gz))))))))
      refine lp (fun (k' : Nat) (z' : Int32 × (Nat → Int32)) => ∀ τ'' : ex_S, frm σ τ'' (x + 115) (x + 116) → τ''.2 (x + 115) = some (.inl (0, 3, z'.2)) → Ev Γ 0 0 m_SD_findMove 0 0 25 [some (.ref x), some (.ref a), some (.ref p), some (.int z'.1), some (.int (nI k)), some (.int (K_only P (nI k))), some (.int (nI k')), none] [] τ'' Q) (F_findMove_25 S P fnd k z) (P.1) (fun k' z' hk' hx' => ?_) (P.1) 0 (z.1, z.2) (by omega) ?_ τ' fr hfo
      · skip
        intro τ'' fr hfo
        have hXc := isX.frm hX fr (by omega)
        have hS := hS0.frm fr (by omega)
        have hP := hP0.frm fr (by omega)
        obtain ⟨h0, h1, h2, h3, h4, h5, h6', h7, h8, h9, h10⟩ := id hS
        obtain ⟨p0, ⟨pf, p1, p2⟩, p3⟩ := id hP
        refine Ev.iload rfl rfl ?_
        refine Ev.iconst (v := (-1)) rfl (by decide) ?_
        refine Ev.jeq (tgt := 99) rfl (by decide) (fun c28 => absurd c28 g28) (fun c28 => ?_)
        refine Ev.iload rfl rfl ?_
        refine Ev.aload_n rfl rfl ?_
        refine Ev.getf rfl rfl p0 rfl ?_
        refine Ev.jge (tgt := 99) rfl (by decide) (fun c37 => absurd (nI_lt hk' (by omega)) c37) (fun c37 => ?_)
        refine Ev.iload rfl rfl ?_
        refine Ev.iload rfl rfl ?_
        refine Ev.jne (tgt := 51) rfl (by decide) (fun c44 => ?_) (fun c44 => ?_)
        · skip
          refine Ev.aload_n rfl rfl ?_
          refine Ev.aload_n rfl rfl ?_
          refine Ev.getf rfl rfl p0 rfl ?_
          refine Ev.iload rfl rfl ?_
          refine Ev.aaldN (k := (K_only P (nI k)).toNatClampNeg) rfl p1 rfl hq ⟨(by omega), by decide⟩ (p2 ((K_only P (nI k)).toNatClampNeg) (by omega)) ?_
          refine Ev.aload_n rfl rfl ?_
          refine Ev.getf rfl rfl p0 rfl ?_
          refine Ev.iload rfl rfl ?_
          refine Ev.aaldN (k := k') rfl p1 rfl rfl ⟨(by omega), by decide⟩ (p2 k' (by omega)) ?_
          refine Ev.iload rfl rfl ?_
          refine Ev.cS4 rfl rfl rfl (by decide) ⟨(Nat.le_refl _), (Nat.le_refl _)⟩ (moveG_ok hS (p3 ((K_only P (nI k)).toNatClampNeg) (by omega)) (p3 k' (by omega)) (ht ((K_only P (nI k)).toNatClampNeg) (by omega)) (ht k' (by omega)) hn5 (by omega)) ?_
          refine Ev.istore rfl rfl rfl ?_
          refine Ev.iload rfl rfl ?_
          refine Ev.iload_n rfl rfl ?_
          refine Ev.jle (tgt := 93) rfl (by decide) (fun c76 => ?_) (fun c76 => ?_)
          · skip
            refine Ev.iinc (d := 1) rfl rfl rfl (by decide) rfl ?_
            refine Ev.goto (tgt := 25) rfl (by decide) ?_
            have hF : (F_findMove_25 S P fnd k z) k' z' = (z'.1, z'.2) := by
              unfold F_findMove_25
              rw [if_neg c44]
              rw [if_neg c76]
            rw [hF] at hx'
            exact (hx' τ'' fr hfo).fg (gs rfl (gs rfl (gs rfl (gs rfl (gs rfl (gs rfl (gs (congrArg Value.int (show nI (k' + 1) = (nI k') + (1 : Int32) from (nq_to (a := k' + 1) (nq_add (a := k') (b := 1) rfl (rfl : (1 : Int32) = nI 1)) (by omega)).symm)) (gn gz))))))))
          · skip
            refine Ev.iload rfl rfl ?_
            refine Ev.istore_n rfl rfl rfl ?_
            refine Ev.aload_n rfl rfl ?_
            refine Ev.iload rfl rfl ?_
            refine Ev.iload rfl rfl ?_
            refine Ev.iload rfl rfl ?_
            refine Ev.xV3 rfl rfl hXc rfl rfl (by decide) ⟨(Nat.le_refl _), (Nat.le_refl _)⟩ (find_1 hXc hfo _ _ _) (fun τ1 f1 q1 => ?_)
            have hfo := q1
            have fr := fr.step f1 (by omega) (by omega)
            have hXc := isX.frm hX fr (by omega)
            have hS := hS0.frm fr (by omega)
            have hP := hP0.frm fr (by omega)
            obtain ⟨h0, h1, h2, h3, h4, h5, h6', h7, h8, h9, h10⟩ := id hS
            obtain ⟨p0, ⟨pf, p1, p2⟩, p3⟩ := id hP
            refine Ev.pop rfl rfl ?_
            refine Ev.iinc (d := 1) rfl rfl rfl (by decide) rfl ?_
            refine Ev.goto (tgt := 25) rfl (by decide) ?_
            have hF : (F_findMove_25 S P fnd k z) k' z' = (K_moveG S (P.2 ((K_only P (nI k)).toNatClampNeg)) (P.2 k') k, (upd (upd (upd z'.2 0 (nI k)) 1 (nI k')) 2 (K_moveG S (P.2 ((K_only P (nI k)).toNatClampNeg)) (P.2 k') k))) := by
              unfold F_findMove_25
              rw [if_neg c44]
              rw [if_pos c76]
            rw [hF] at hx'
            exact (hx' τ1 fr hfo).fg (gs rfl (gs rfl (gs rfl (gs rfl (gs rfl (gs rfl (gs (congrArg Value.int (show nI (k' + 1) = (nI k') + (1 : Int32) from (nq_to (a := k' + 1) (nq_add (a := k') (b := 1) rfl (rfl : (1 : Int32) = nI 1)) (by omega)).symm)) (gn gz))))))))
        · skip
          refine Ev.iconst (v := 0) rfl (by decide) ?_
          refine Ev.goto (tgt := 71) rfl (by decide) ?_
          refine Ev.istore rfl rfl rfl ?_
          refine Ev.iload rfl rfl ?_
          refine Ev.iload_n rfl rfl ?_
          refine Ev.jle (tgt := 93) rfl (by decide) (fun c76 => ?_) (fun c76 => ?_)
          · skip
            refine Ev.iinc (d := 1) rfl rfl rfl (by decide) rfl ?_
            refine Ev.goto (tgt := 25) rfl (by decide) ?_
            have hF : (F_findMove_25 S P fnd k z) k' z' = (z'.1, z'.2) := by
              unfold F_findMove_25
              rw [if_pos c44]
              rw [if_neg c76]
            rw [hF] at hx'
            exact (hx' τ'' fr hfo).fg (gs rfl (gs rfl (gs rfl (gs rfl (gs rfl (gs rfl (gs (congrArg Value.int (show nI (k' + 1) = (nI k') + (1 : Int32) from (nq_to (a := k' + 1) (nq_add (a := k') (b := 1) rfl (rfl : (1 : Int32) = nI 1)) (by omega)).symm)) (gn gz))))))))
          · skip
            refine Ev.iload rfl rfl ?_
            refine Ev.istore_n rfl rfl rfl ?_
            refine Ev.aload_n rfl rfl ?_
            refine Ev.iload rfl rfl ?_
            refine Ev.iload rfl rfl ?_
            refine Ev.iload rfl rfl ?_
            refine Ev.xV3 rfl rfl hXc rfl rfl (by decide) ⟨(Nat.le_refl _), (Nat.le_refl _)⟩ (find_1 hXc hfo _ _ _) (fun τ2 f1 q1 => ?_)
            have hfo := q1
            have fr := fr.step f1 (by omega) (by omega)
            have hXc := isX.frm hX fr (by omega)
            have hS := hS0.frm fr (by omega)
            have hP := hP0.frm fr (by omega)
            obtain ⟨h0, h1, h2, h3, h4, h5, h6', h7, h8, h9, h10⟩ := id hS
            obtain ⟨p0, ⟨pf, p1, p2⟩, p3⟩ := id hP
            refine Ev.pop rfl rfl ?_
            refine Ev.iinc (d := 1) rfl rfl rfl (by decide) rfl ?_
            refine Ev.goto (tgt := 25) rfl (by decide) ?_
            have hF : (F_findMove_25 S P fnd k z) k' z' = ((0 : Int32), (upd (upd (upd z'.2 0 (nI k)) 1 (nI k')) 2 (0 : Int32))) := by
              unfold F_findMove_25
              rw [if_pos c44]
              rw [if_pos c76]
            rw [hF] at hx'
            exact (hx' τ2 fr hfo).fg (gs rfl (gs rfl (gs rfl (gs rfl (gs rfl (gs rfl (gs (congrArg Value.int (show nI (k' + 1) = (nI k') + (1 : Int32) from (nq_to (a := k' + 1) (nq_add (a := k') (b := 1) rfl (rfl : (1 : Int32) = nI 1)) (by omega)).symm)) (gn gz))))))))
      · skip
        intro τ'' fr hfo
        have hXc := isX.frm hX fr (by omega)
        have hS := hS0.frm fr (by omega)
        have hP := hP0.frm fr (by omega)
        obtain ⟨h0, h1, h2, h3, h4, h5, h6', h7, h8, h9, h10⟩ := id hS
        obtain ⟨p0, ⟨pf, p1, p2⟩, p3⟩ := id hP
        refine Ev.iload rfl rfl ?_
        refine Ev.iconst (v := (-1)) rfl (by decide) ?_
        refine Ev.jeq (tgt := 99) rfl (by decide) (fun c28 => absurd c28 g28) (fun c28 => ?_)
        refine Ev.iload rfl rfl ?_
        refine Ev.aload_n rfl rfl ?_
        refine Ev.getf rfl rfl p0 rfl ?_
        refine Ev.jge (tgt := 99) rfl (by decide) (fun c37 => ?_) (fun c37 => absurd c37 (nI_nlt (Nat.le_refl _) (by omega)))
        refine Ev.iinc (d := 1) rfl rfl rfl (by decide) rfl ?_
        refine Ev.goto (tgt := 5) rfl (by decide) ?_
        have hF : (F_findMove_5 S P fnd) k z = ((fo (F_findMove_25 S P fnd k z) (P.1) 0 (z.1, z.2)).1, (fo (F_findMove_25 S P fnd k z) (P.1) 0 (z.1, z.2)).2) := by
          unfold F_findMove_5
          rw [if_neg g28]
        rw [hF] at hx
        exact (hx τ'' fr hfo).fg (gs rfl (gs rfl (gs rfl (gs rfl (gs (congrArg Value.int (show nI (k + 1) = (nI k) + (1 : Int32) from (nq_to (a := k + 1) (nq_add (a := k) (b := 1) rfl (rfl : (1 : Int32) = nI 1)) (by omega)).symm)) (gn (gn (gn gz))))))))
  · skip
    intro τ' fr hfo
    have hXc := isX.frm hX fr (by omega)
    have hS := hS0.frm fr (by omega)
    have hP := hP0.frm fr (by omega)
    obtain ⟨h0, h1, h2, h3, h4, h5, h6', h7, h8, h9, h10⟩ := id hS
    obtain ⟨p0, ⟨pf, p1, p2⟩, p3⟩ := id hP
    refine Ev.iload rfl rfl ?_
    refine Ev.aload_n rfl rfl ?_
    refine Ev.getf rfl rfl h0 rfl ?_
    refine Ev.jge (tgt := 105) rfl (by decide) (fun c11 => ?_) (fun c11 => absurd c11 (nI_nlt (Nat.le_refl _) (by omega)))
    refine Ev.iload_n rfl rfl ?_
    refine Ev.zle (tgt := 113) rfl (by decide) (fun c106 => ?_) (fun c106 => ?_)
    · skip
      refine Ev.iconst (v := 0) rfl (by decide) ?_
      refine Ev.iret (ty := .boolean) rfl rfl rfl (Nat.le_refl _) (Nat.le_refl _) ?_
      have hK : (K_findMove S P fnd) = ((0 : Int32), (fo (F_findMove_5 S P fnd) (S.1) 0 ((0 : Int32), fnd)).2) := by
        unfold K_findMove
        rw [if_neg c106]
      rw [← hQ]
      dsimp only
      rw [hK]
      exact ⟨rfl, fr, hfo⟩
    · skip
      refine Ev.iconst (v := 1) rfl (by decide) ?_
      refine Ev.goto (tgt := 114) rfl (by decide) ?_
      refine Ev.iret (ty := .boolean) rfl rfl rfl (Nat.le_refl _) (Nat.le_refl _) ?_
      have hK : (K_findMove S P fnd) = ((1 : Int32), (fo (F_findMove_5 S P fnd) (S.1) 0 ((0 : Int32), fnd)).2) := by
        unfold K_findMove
        rw [if_pos c106]
      rw [← hQ]
      dsimp only
      rw [hK]
      exact ⟨rfl, fr, hfo⟩
def F_findMerge_31 (S : Sch) (P : Pln) (fnd : Nat → Int32) (k : Nat) (z : Int32 × (Nat → Int32)) : Nat → (Int32 × (Nat → Int32)) → (Int32 × (Nat → Int32)) := fun k' z' => if ((P.2 k) 2) = ((P.2 k') 2) then (if ((S.2.2 9) 3) < (K_bc (((P.2 k) 5) ||| ((P.2 k') 5))) then (z'.1, z'.2) else (if z'.1 < (((K_tog S (P.2 k) (((P.2 k) 5) ||| ((P.2 k') 5))) - (K_tog S (P.2 k) ((P.2 k) 5))) - (K_tog S (P.2 k') ((P.2 k') 5))) then (((K_tog S (P.2 k) (((P.2 k) 5) ||| ((P.2 k') 5))) - (K_tog S (P.2 k) ((P.2 k) 5))) - (K_tog S (P.2 k') ((P.2 k') 5)), (upd (upd (upd z'.2 0 (nI k)) 1 (nI k')) 2 (((K_tog S (P.2 k) (((P.2 k) 5) ||| ((P.2 k') 5))) - (K_tog S (P.2 k) ((P.2 k) 5))) - (K_tog S (P.2 k') ((P.2 k') 5))))) else (z'.1, z'.2))) else (z'.1, z'.2)
def F_findMerge_7 (S : Sch) (P : Pln) (fnd : Nat → Int32) : Nat → (Int32 × (Nat → Int32)) → (Int32 × (Nat → Int32)) := fun k z => ((fo (F_findMerge_31 S P fnd k z) (P.1 - (k + 1)) (k + 1) (z.1, z.2)).1, (fo (F_findMerge_31 S P fnd k z) (P.1 - (k + 1)) (k + 1) (z.1, z.2)).2)
def K_findMerge (S : Sch) (P : Pln) (fnd : Nat → Int32) : Int32 × (Nat → Int32) := if ((fo (F_findMerge_7 S P fnd) (P.1) 0 ((-1000000000 : Int32), fnd)).1) = (-1000000000 : Int32) then ((0 : Int32), (fo (F_findMerge_7 S P fnd) (P.1) 0 ((-1000000000 : Int32), fnd)).2) else ((1 : Int32), (fo (F_findMerge_7 S P fnd) (P.1) 0 ((-1000000000 : Int32), fnd)).2)
theorem findMerge_ok {fnd : Nat → Int32} (hX : isX σ x) (hfo : σ.2 (x + 115) = some (.inl (0, 3, fnd))) (hS0 : isS σ a S) (hP0 : isP σ p P) (hwp : wP P) (hn : S.1 ≤ 16) (hn5 : S.2.1 ≤ 5) (ht : ∀ k, k < P.1 → okL S (P.2 k)) (ha : a + 11 ≤ x + 115) (hp : p + 8 ≤ x + 115) : RetX Γ m_SD_findMerge [(.ref x), (.ref a), (.ref p)] σ (x + 115) (x + 116) (some (.int ((K_findMerge S P fnd).1))) (fun τ => τ.2 (x + 115) = some (.inl (0, 3, (K_findMerge S P fnd).2))) := by
  have h6 := hwp.1
  unfold RetX
  generalize hQ : (fun (r : Option Value) (τ : ex_S) => r = some (.int ((K_findMerge S P fnd).1)) ∧ frm σ τ (x + 115) (x + 116) ∧ (fun τ : ex_S => τ.2 (x + 115) = some (.inl (0, 3, (K_findMerge S P fnd).2))) τ) = Q
  refine Ret.start pm_60 rfl ?_
  have fr : frm σ σ (x + 115) (x + 116) := frm.rf
  have hXc := isX.frm hX fr (by omega)
  have hS := hS0.frm fr (by omega)
  have hP := hP0.frm fr (by omega)
  obtain ⟨h0, h1, h2, h3, h4, h5, h6', h7, h8, h9, h10⟩ := id hS
  obtain ⟨p0, ⟨pf, p1, p2⟩, p3⟩ := id hP
  refine Ev.ldcw (v := (-1000000000)) rfl rfl ?_
  refine Ev.istore_n rfl rfl rfl ?_
  refine Ev.iconst (v := 0) rfl (by decide) ?_
  refine Ev.istore rfl rfl rfl ?_
  refine Ev.fg (L := [some (.ref x), some (.ref a), some (.ref p), some (.int (-1000000000 : Int32)), some (.int (nI 0)), none, none, none, none, none]) ?_ (gs rfl (gs rfl (gs rfl (gs rfl (gs (congrArg Value.int (rfl : (0 : Int32) = nI 0).symm) (gn (gn (gn (gn (gn gz))))))))))
  refine lp (fun (k : Nat) (z : Int32 × (Nat → Int32)) => ∀ τ' : ex_S, frm σ τ' (x + 115) (x + 116) → τ'.2 (x + 115) = some (.inl (0, 3, z.2)) → Ev Γ 0 0 m_SD_findMerge 0 0 7 [some (.ref x), some (.ref a), some (.ref p), some (.int z.1), some (.int (nI k)), none, none, none, none, none] [] τ' Q) (F_findMerge_7 S P fnd) (P.1) (fun k z hk hx => ?_) (P.1) 0 ((-1000000000 : Int32), fnd) (by omega) ?_ σ fr hfo
  · skip
    intro τ' fr hfo
    have hXc := isX.frm hX fr (by omega)
    have hS := hS0.frm fr (by omega)
    have hP := hP0.frm fr (by omega)
    obtain ⟨h0, h1, h2, h3, h4, h5, h6', h7, h8, h9, h10⟩ := id hS
    obtain ⟨p0, ⟨pf, p1, p2⟩, p3⟩ := id hP
    refine Ev.iload rfl rfl ?_
    refine Ev.aload_n rfl rfl ?_
    refine Ev.getf rfl rfl p0 rfl ?_
    refine Ev.jge (tgt := 158) rfl (by decide) (fun c13 => absurd (nI_lt hk (by omega)) c13) (fun c13 => ?_)
    refine Ev.aload_n rfl rfl ?_
    refine Ev.getf rfl rfl p0 rfl ?_
    refine Ev.iload rfl rfl ?_
    refine Ev.aaldN (k := k) rfl p1 rfl rfl ⟨(by omega), by decide⟩ (p2 k (by omega)) ?_
    refine Ev.astore rfl rfl rfl ?_
    refine Ev.iload rfl rfl ?_
    refine Ev.iconst (v := 1) rfl (by decide) ?_
    refine Ev.iadd rfl ?_
    refine Ev.istore rfl rfl rfl ?_
    refine Ev.fg (L := [some (.ref x), some (.ref a), some (.ref p), some (.int z.1), some (.int (nI k)), some (.ref (p + 2 + k)), some (.int (nI (k + 1))), none, none, none]) ?_ (gs rfl (gs rfl (gs rfl (gs rfl (gs rfl (gs rfl (gs (congrArg Value.int (nq_add (a := k) (b := 1) rfl (rfl : (1 : Int32) = nI 1)).symm) (gn (gn (gn gz))))))))))
    refine lp (fun (k' : Nat) (z' : Int32 × (Nat → Int32)) => ∀ τ'' : ex_S, frm σ τ'' (x + 115) (x + 116) → τ''.2 (x + 115) = some (.inl (0, 3, z'.2)) → Ev Γ 0 0 m_SD_findMerge 0 0 31 [some (.ref x), some (.ref a), some (.ref p), some (.int z'.1), some (.int (nI k)), some (.ref (p + 2 + k)), some (.int (nI k')), none, none, none] [] τ'' Q) (F_findMerge_31 S P fnd k z) (P.1) (fun k' z' hk' hx' => ?_) (P.1 - (k + 1)) (k + 1) (z.1, z.2) (by omega) ?_ τ' fr hfo
    · skip
      intro τ'' fr hfo
      have hXc := isX.frm hX fr (by omega)
      have hS := hS0.frm fr (by omega)
      have hP := hP0.frm fr (by omega)
      obtain ⟨h0, h1, h2, h3, h4, h5, h6', h7, h8, h9, h10⟩ := id hS
      obtain ⟨p0, ⟨pf, p1, p2⟩, p3⟩ := id hP
      refine Ev.iload rfl rfl ?_
      refine Ev.aload_n rfl rfl ?_
      refine Ev.getf rfl rfl p0 rfl ?_
      refine Ev.jge (tgt := 152) rfl (by decide) (fun c37 => absurd (nI_lt hk' (by omega)) c37) (fun c37 => ?_)
      refine Ev.aload_n rfl rfl ?_
      refine Ev.getf rfl rfl p0 rfl ?_
      refine Ev.iload rfl rfl ?_
      refine Ev.aaldN (k := k') rfl p1 rfl rfl ⟨(by omega), by decide⟩ (p2 k' (by omega)) ?_
      refine Ev.astore rfl rfl rfl ?_
      refine Ev.aload rfl rfl ?_
      refine Ev.getf rfl rfl (p3 k (by omega)) rfl ?_
      refine Ev.aload rfl rfl ?_
      refine Ev.getf rfl rfl (p3 k' (by omega)) rfl ?_
      refine Ev.ior rfl ?_
      refine Ev.istore rfl rfl rfl ?_
      refine Ev.aload rfl rfl ?_
      refine Ev.getf rfl rfl (p3 k (by omega)) rfl ?_
      refine Ev.aload rfl rfl ?_
      refine Ev.getf rfl rfl (p3 k' (by omega)) rfl ?_
      refine Ev.jne (tgt := 146) rfl (by decide) (fun c72 => ?_) (fun c72 => ?_)
      · skip
        refine Ev.iinc (d := 1) rfl rfl rfl (by decide) rfl ?_
        refine Ev.goto (tgt := 31) rfl (by decide) ?_
        have hF : (F_findMerge_31 S P fnd k z) k' z' = (z'.1, z'.2) := by
          unfold F_findMerge_31
          rw [if_neg c72]
        rw [hF] at hx'
        exact (hx' τ'' fr hfo).fg (gs rfl (gs rfl (gs rfl (gs rfl (gs rfl (gs rfl (gs (congrArg Value.int (show nI (k' + 1) = (nI k') + (1 : Int32) from (nq_to (a := k' + 1) (nq_add (a := k') (b := 1) rfl (rfl : (1 : Int32) = nI 1)) (by omega)).symm)) (gn (gn (gn gz))))))))))
      · skip
        refine Ev.iload rfl rfl ?_
        refine Ev.cS1 rfl rfl rfl (by decide) ⟨(Nat.le_refl _), (Nat.le_refl _)⟩ (bc_ok _) ?_
        refine Ev.aload_n rfl rfl ?_
        refine Ev.getf rfl rfl h0 rfl ?_
        refine Ev.iconst (v := 3) rfl (by decide) ?_
        refine Ev.ialdN (k := 3) rfl h10 (rfl : (3 : Int32) = nI 3) ⟨(by omega), by decide⟩ ?_
        refine Ev.jle (tgt := 92) rfl (by decide) (fun c86 => ?_) (fun c86 => ?_)
        · skip
          refine Ev.aload_n rfl rfl ?_
          refine Ev.aload rfl rfl ?_
          refine Ev.iload rfl rfl ?_
          refine Ev.cV2 rfl rfl h0 rfl rfl (by decide) ⟨(Nat.le_refl _), (Nat.le_refl _)⟩ (tog_ok hS (p3 k (by omega)) _ (ht k (by omega)) hn5) ?_
          refine Ev.aload_n rfl rfl ?_
          refine Ev.aload rfl rfl ?_
          refine Ev.aload rfl rfl ?_
          refine Ev.getf rfl rfl (p3 k (by omega)) rfl ?_
          refine Ev.cV2 rfl rfl h0 rfl rfl (by decide) ⟨(Nat.le_refl _), (Nat.le_refl _)⟩ (tog_ok hS (p3 k (by omega)) _ (ht k (by omega)) hn5) ?_
          refine Ev.isub rfl ?_
          refine Ev.aload_n rfl rfl ?_
          refine Ev.aload rfl rfl ?_
          refine Ev.aload rfl rfl ?_
          refine Ev.getf rfl rfl (p3 k' (by omega)) rfl ?_
          refine Ev.cV2 rfl rfl h0 rfl rfl (by decide) ⟨(Nat.le_refl _), (Nat.le_refl _)⟩ (tog_ok hS (p3 k' (by omega)) _ (ht k' (by omega)) hn5) ?_
          refine Ev.isub rfl ?_
          refine Ev.istore rfl rfl rfl ?_
          refine Ev.iload rfl rfl ?_
          refine Ev.iload_n rfl rfl ?_
          refine Ev.jle (tgt := 146) rfl (by decide) (fun c129 => ?_) (fun c129 => ?_)
          · skip
            refine Ev.iinc (d := 1) rfl rfl rfl (by decide) rfl ?_
            refine Ev.goto (tgt := 31) rfl (by decide) ?_
            have hF : (F_findMerge_31 S P fnd k z) k' z' = (z'.1, z'.2) := by
              unfold F_findMerge_31
              rw [if_pos c72]
              rw [if_neg c86]
              rw [if_neg c129]
            rw [hF] at hx'
            exact (hx' τ'' fr hfo).fg (gs rfl (gs rfl (gs rfl (gs rfl (gs rfl (gs rfl (gs (congrArg Value.int (show nI (k' + 1) = (nI k') + (1 : Int32) from (nq_to (a := k' + 1) (nq_add (a := k') (b := 1) rfl (rfl : (1 : Int32) = nI 1)) (by omega)).symm)) (gn (gn (gn gz))))))))))
          · skip
            refine Ev.iload rfl rfl ?_
            refine Ev.istore_n rfl rfl rfl ?_
            refine Ev.aload_n rfl rfl ?_
            refine Ev.iload rfl rfl ?_
            refine Ev.iload rfl rfl ?_
            refine Ev.iload rfl rfl ?_
            refine Ev.xV3 rfl rfl hXc rfl rfl (by decide) ⟨(Nat.le_refl _), (Nat.le_refl _)⟩ (find_1 hXc hfo _ _ _) (fun τ1 f1 q1 => ?_)
            have hfo := q1
            have fr := fr.step f1 (by omega) (by omega)
            have hXc := isX.frm hX fr (by omega)
            have hS := hS0.frm fr (by omega)
            have hP := hP0.frm fr (by omega)
            obtain ⟨h0, h1, h2, h3, h4, h5, h6', h7, h8, h9, h10⟩ := id hS
            obtain ⟨p0, ⟨pf, p1, p2⟩, p3⟩ := id hP
            refine Ev.pop rfl rfl ?_
            refine Ev.iinc (d := 1) rfl rfl rfl (by decide) rfl ?_
            refine Ev.goto (tgt := 31) rfl (by decide) ?_
            have hF : (F_findMerge_31 S P fnd k z) k' z' = (((K_tog S (P.2 k) (((P.2 k) 5) ||| ((P.2 k') 5))) - (K_tog S (P.2 k) ((P.2 k) 5))) - (K_tog S (P.2 k') ((P.2 k') 5)), (upd (upd (upd z'.2 0 (nI k)) 1 (nI k')) 2 (((K_tog S (P.2 k) (((P.2 k) 5) ||| ((P.2 k') 5))) - (K_tog S (P.2 k) ((P.2 k) 5))) - (K_tog S (P.2 k') ((P.2 k') 5))))) := by
              unfold F_findMerge_31
              rw [if_pos c72]
              rw [if_neg c86]
              rw [if_pos c129]
            rw [hF] at hx'
            exact (hx' τ1 fr hfo).fg (gs rfl (gs rfl (gs rfl (gs rfl (gs rfl (gs rfl (gs (congrArg Value.int (show nI (k' + 1) = (nI k') + (1 : Int32) from (nq_to (a := k' + 1) (nq_add (a := k') (b := 1) rfl (rfl : (1 : Int32) = nI 1)) (by omega)).symm)) (gn (gn (gn gz))))))))))
        · skip
          refine Ev.goto (tgt := 146) rfl (by decide) ?_
          refine Ev.iinc (d := 1) rfl rfl rfl (by decide) rfl ?_
          refine Ev.goto (tgt := 31) rfl (by decide) ?_
          have hF : (F_findMerge_31 S P fnd k z) k' z' = (z'.1, z'.2) := by
            unfold F_findMerge_31
            rw [if_pos c72]
            rw [if_pos c86]
          rw [hF] at hx'
          exact (hx' τ'' fr hfo).fg (gs rfl (gs rfl (gs rfl (gs rfl (gs rfl (gs rfl (gs (congrArg Value.int (show nI (k' + 1) = (nI k') + (1 : Int32) from (nq_to (a := k' + 1) (nq_add (a := k') (b := 1) rfl (rfl : (1 : Int32) = nI 1)) (by omega)).symm)) (gn (gn (gn gz))))))))))
    · skip
      intro τ'' fr hfo
      have hXc := isX.frm hX fr (by omega)
      have hS := hS0.frm fr (by omega)
      have hP := hP0.frm fr (by omega)
      obtain ⟨h0, h1, h2, h3, h4, h5, h6', h7, h8, h9, h10⟩ := id hS
      obtain ⟨p0, ⟨pf, p1, p2⟩, p3⟩ := id hP
      refine Ev.iload rfl rfl ?_
      refine Ev.aload_n rfl rfl ?_
      refine Ev.getf rfl rfl p0 rfl ?_
      refine Ev.jge (tgt := 152) rfl (by decide) (fun c37 => ?_) (fun c37 => absurd c37 (nI_nlt (Nat.le_refl _) (by omega)))
      refine Ev.iinc (d := 1) rfl rfl rfl (by decide) rfl ?_
      refine Ev.goto (tgt := 7) rfl (by decide) ?_
      have hF : (F_findMerge_7 S P fnd) k z = ((fo (F_findMerge_31 S P fnd k z) (P.1 - (k + 1)) (k + 1) (z.1, z.2)).1, (fo (F_findMerge_31 S P fnd k z) (P.1 - (k + 1)) (k + 1) (z.1, z.2)).2) := by rfl
      rw [hF] at hx
      exact (hx τ'' fr hfo).fg (gs rfl (gs rfl (gs rfl (gs rfl (gs (congrArg Value.int (show nI (k + 1) = (nI k) + (1 : Int32) from (nq_to (a := k + 1) (nq_add (a := k) (b := 1) rfl (rfl : (1 : Int32) = nI 1)) (by omega)).symm)) (gn (gn (gn (gn (gn gz))))))))))
  · skip
    intro τ' fr hfo
    have hXc := isX.frm hX fr (by omega)
    have hS := hS0.frm fr (by omega)
    have hP := hP0.frm fr (by omega)
    obtain ⟨h0, h1, h2, h3, h4, h5, h6', h7, h8, h9, h10⟩ := id hS
    obtain ⟨p0, ⟨pf, p1, p2⟩, p3⟩ := id hP
    refine Ev.iload rfl rfl ?_
    refine Ev.aload_n rfl rfl ?_
    refine Ev.getf rfl rfl p0 rfl ?_
    refine Ev.jge (tgt := 158) rfl (by decide) (fun c13 => ?_) (fun c13 => absurd c13 (nI_nlt (Nat.le_refl _) (by omega)))
    refine Ev.iload_n rfl rfl ?_
    refine Ev.ldcw (v := (-1000000000)) rfl rfl ?_
    refine Ev.jeq (tgt := 169) rfl (by decide) (fun c162 => ?_) (fun c162 => ?_)
    · skip
      refine Ev.iconst (v := 0) rfl (by decide) ?_
      refine Ev.iret (ty := .boolean) rfl rfl rfl (Nat.le_refl _) (Nat.le_refl _) ?_
      have hK : (K_findMerge S P fnd) = ((0 : Int32), (fo (F_findMerge_7 S P fnd) (P.1) 0 ((-1000000000 : Int32), fnd)).2) := by
        unfold K_findMerge
        rw [if_pos c162]
      rw [← hQ]
      dsimp only
      rw [hK]
      exact ⟨rfl, fr, hfo⟩
    · skip
      refine Ev.iconst (v := 1) rfl (by decide) ?_
      refine Ev.goto (tgt := 170) rfl (by decide) ?_
      refine Ev.iret (ty := .boolean) rfl rfl rfl (Nat.le_refl _) (Nat.le_refl _) ?_
      have hK : (K_findMerge S P fnd) = ((1 : Int32), (fo (F_findMerge_7 S P fnd) (P.1) 0 ((-1000000000 : Int32), fnd)).2) := by
        unfold K_findMerge
        rw [if_neg c162]
      rw [← hQ]
      dsimp only
      rw [hK]
      exact ⟨rfl, fr, hfo⟩
end
end
