/-! Methods printed by sym.py: payingFee, comersOn, canOpenOn; let, open. -/
noncomputable section
section
variable {Γ : ex_G} {σ : ex_S} {x q a p y : Nat} {S : Sch} {T : Tol} {P : Pln} {g A : Nat → Int32}
theorem goT_cl {S : Sch} {C : Les} (h : goT S C) (hn : S.2.1 ≤ 5 := by assumption) : C 1 = nI (C 1).toNatClampNeg ∧ (C 1).toNatClampNeg < S.2.1 := by
  obtain ⟨t, h1, h2⟩ := h
  rw [h2, nI_clamp (by omega)]
  exact ⟨rfl, h1⟩
theorem bd1 {x y : Int32} (hx : rg x 0 11) (hy : rg y 0 11) : -1000 < (x - y).toInt := (bd (hx.mono (by decide) (by decide)) (hy.mono (by decide) (by decide))).1
theorem bd2 {x y : Int32} (hx : rg x 0 11) (hy : rg y 0 11) : (x - y).toInt < 1000 := (bd (hx.mono (by decide) (by decide)) (hy.mono (by decide) (by decide))).2
theorem K_in11 {x : Int32} (hx : rg x 0 11) : K_in x 0 11 = 1 := by
  have e0 : (0 : Int32).toInt = 0 := by decide
  have e1 : (11 : Int32).toInt = 11 := by decide
  unfold K_in
  rw [if_neg, if_neg]
  · rw [lt_toInt, e1]; have := hx.2; omega
  · rw [lt_toInt, e0]; have := hx.1; omega
def F_paying_6 (S : Sch) : Nat → (Int32 × Int32) → (Int32 × Int32) := fun k z => if z.1 < (((S.2.2 2) k) * (K_payers S ((S.2.2 2) k))) then (((S.2.2 2) k) * (K_payers S ((S.2.2 2) k)), (S.2.2 2) k) else (if (((S.2.2 2) k) * (K_payers S ((S.2.2 2) k))) = z.1 then (if ((S.2.2 2) k) < z.2 then (((S.2.2 2) k) * (K_payers S ((S.2.2 2) k)), (S.2.2 2) k) else (z.1, z.2)) else (z.1, z.2))
def K_paying (S : Sch) : Int32 := (fo (F_paying_6 S) (S.1) 0 ((0 : Int32), (0 : Int32))).2
theorem paying_ok (hS : isS σ a S) (hn : S.1 ≤ 16) : RetV Γ m_School_payingFee [(.ref a)] σ (.int (K_paying S)) := by
  obtain ⟨h0, h1, h2, h3, h4, h5, h6', h7, h8, h9, h10⟩ := id hS
  unfold RetV
  generalize hQ : (fun (r : Option Value) (σ' : ex_S) => r = some ((.int (K_paying S)) : Value) ∧ σ' = σ) = Q
  refine Ret.start pm_102 rfl ?_
  refine Ev.iconst (v := 0) rfl (by decide) ?_
  refine Ev.istore_n rfl rfl rfl ?_
  refine Ev.iconst (v := 0) rfl (by decide) ?_
  refine Ev.istore_n rfl rfl rfl ?_
  refine Ev.iconst (v := 0) rfl (by decide) ?_
  refine Ev.istore_n rfl rfl rfl ?_
  refine Ev.fg (L := [some (.ref a), some (.int (0 : Int32)), some (.int (0 : Int32)), some (.int (nI 0)), none]) ?_ (gs rfl (gs rfl (gs rfl (gs (congrArg Value.int (rfl : (0 : Int32) = nI 0).symm) (gn gz)))))
  refine lp (fun (k : Nat) (z : Int32 × Int32) => Ev Γ 0 0 m_School_payingFee 0 0 6 [some (.ref a), some (.int z.1), some (.int z.2), some (.int (nI k)), none] [] σ Q) (F_paying_6 S) (S.1) (fun k z hk hx => ?_) (S.1) 0 ((0 : Int32), (0 : Int32)) (by omega) ?_
  · skip
    refine Ev.iload_n rfl rfl ?_
    refine Ev.aload_n rfl rfl ?_
    refine Ev.getf rfl rfl h0 rfl ?_
    refine Ev.jge (tgt := 71) rfl (by decide) (fun c11 => absurd (nI_lt hk (by omega)) c11) (fun c11 => ?_)
    refine Ev.aload_n rfl rfl ?_
    refine Ev.getf rfl rfl h0 rfl ?_
    refine Ev.iload_n rfl rfl ?_
    refine Ev.ialdN (k := k) rfl h3 rfl ⟨(by omega), by decide⟩ ?_
    refine Ev.aload_n rfl rfl ?_
    refine Ev.aload_n rfl rfl ?_
    refine Ev.getf rfl rfl h0 rfl ?_
    refine Ev.iload_n rfl rfl ?_
    refine Ev.ialdN (k := k) rfl h3 rfl ⟨(by omega), by decide⟩ ?_
    refine Ev.cV1 rfl rfl h0 rfl rfl (by decide) ⟨(Nat.le_refl _), (Nat.le_refl _)⟩ (payers_ok hS _ hn) ?_
    refine Ev.imul rfl ?_
    refine Ev.istore rfl rfl rfl ?_
    refine Ev.iload rfl rfl ?_
    refine Ev.iload_n rfl rfl ?_
    refine Ev.jgt (tgt := 55) rfl (by decide) (fun c36 => ?_) (fun c36 => ?_)
    · skip
      refine Ev.iload rfl rfl ?_
      refine Ev.istore_n rfl rfl rfl ?_
      refine Ev.aload_n rfl rfl ?_
      refine Ev.getf rfl rfl h0 rfl ?_
      refine Ev.iload_n rfl rfl ?_
      refine Ev.ialdN (k := k) rfl h3 rfl ⟨(by omega), by decide⟩ ?_
      refine Ev.istore_n rfl rfl rfl ?_
      refine Ev.iinc (d := 1) rfl rfl rfl (by decide) rfl ?_
      refine Ev.goto (tgt := 6) rfl (by decide) ?_
      have hF : (F_paying_6 S) k z = (((S.2.2 2) k) * (K_payers S ((S.2.2 2) k)), (S.2.2 2) k) := by
        unfold F_paying_6
        rw [if_pos c36]
      rw [hF] at hx
      exact hx.fg (gs rfl (gs rfl (gs rfl (gs (congrArg Value.int (show nI (k + 1) = (nI k) + (1 : Int32) from (nq_to (a := k + 1) (nq_add (a := k) (b := 1) rfl (rfl : (1 : Int32) = nI 1)) (by omega)).symm)) (gn gz)))))
    · skip
      refine Ev.iload rfl rfl ?_
      refine Ev.iload_n rfl rfl ?_
      refine Ev.jne (tgt := 65) rfl (by decide) (fun c42 => ?_) (fun c42 => ?_)
      · skip
        refine Ev.iinc (d := 1) rfl rfl rfl (by decide) rfl ?_
        refine Ev.goto (tgt := 6) rfl (by decide) ?_
        have hF : (F_paying_6 S) k z = (z.1, z.2) := by
          unfold F_paying_6
          rw [if_neg c36]
          rw [if_neg c42]
        rw [hF] at hx
        exact hx.fg (gs rfl (gs rfl (gs rfl (gs (congrArg Value.int (show nI (k + 1) = (nI k) + (1 : Int32) from (nq_to (a := k + 1) (nq_add (a := k) (b := 1) rfl (rfl : (1 : Int32) = nI 1)) (by omega)).symm)) (gn gz)))))
      · skip
        refine Ev.aload_n rfl rfl ?_
        refine Ev.getf rfl rfl h0 rfl ?_
        refine Ev.iload_n rfl rfl ?_
        refine Ev.ialdN (k := k) rfl h3 rfl ⟨(by omega), by decide⟩ ?_
        refine Ev.iload_n rfl rfl ?_
        refine Ev.jge (tgt := 65) rfl (by decide) (fun c52 => ?_) (fun c52 => ?_)
        · skip
          refine Ev.iinc (d := 1) rfl rfl rfl (by decide) rfl ?_
          refine Ev.goto (tgt := 6) rfl (by decide) ?_
          have hF : (F_paying_6 S) k z = (z.1, z.2) := by
            unfold F_paying_6
            rw [if_neg c36]
            rw [if_pos c42]
            rw [if_neg c52]
          rw [hF] at hx
          exact hx.fg (gs rfl (gs rfl (gs rfl (gs (congrArg Value.int (show nI (k + 1) = (nI k) + (1 : Int32) from (nq_to (a := k + 1) (nq_add (a := k) (b := 1) rfl (rfl : (1 : Int32) = nI 1)) (by omega)).symm)) (gn gz)))))
        · skip
          refine Ev.iload rfl rfl ?_
          refine Ev.istore_n rfl rfl rfl ?_
          refine Ev.aload_n rfl rfl ?_
          refine Ev.getf rfl rfl h0 rfl ?_
          refine Ev.iload_n rfl rfl ?_
          refine Ev.ialdN (k := k) rfl h3 rfl ⟨(by omega), by decide⟩ ?_
          refine Ev.istore_n rfl rfl rfl ?_
          refine Ev.iinc (d := 1) rfl rfl rfl (by decide) rfl ?_
          refine Ev.goto (tgt := 6) rfl (by decide) ?_
          have hF : (F_paying_6 S) k z = (((S.2.2 2) k) * (K_payers S ((S.2.2 2) k)), (S.2.2 2) k) := by
            unfold F_paying_6
            rw [if_neg c36]
            rw [if_pos c42]
            rw [if_pos c52]
          rw [hF] at hx
          exact hx.fg (gs rfl (gs rfl (gs rfl (gs (congrArg Value.int (show nI (k + 1) = (nI k) + (1 : Int32) from (nq_to (a := k + 1) (nq_add (a := k) (b := 1) rfl (rfl : (1 : Int32) = nI 1)) (by omega)).symm)) (gn gz)))))
  · skip
    refine Ev.iload_n rfl rfl ?_
    refine Ev.aload_n rfl rfl ?_
    refine Ev.getf rfl rfl h0 rfl ?_
    refine Ev.jge (tgt := 71) rfl (by decide) (fun c11 => ?_) (fun c11 => absurd c11 (nI_nlt (Nat.le_refl _) (by omega)))
    refine Ev.iload_n rfl rfl ?_
    refine Ev.iret (ty := .int) rfl rfl rfl (Nat.le_refl _) (Nat.le_refl _) ?_
    rw [← hQ]
    refine ⟨congrArg (fun v => some (Value.int v)) (Eq.symm ?_), rfl⟩
    rfl
def F_comers_19 (S : Sch) (P : Pln) (e st : Int32) : Nat → Int32 → Int32 := fun k z => if ((((K_all S) &&& ((K_sits P) ^^^ (-1 : Int32))) >>> ((nI k) &&& 31)) &&& (1 : Int32)) = (0 : Int32) then z else (if ((((S.2.2 1) k) >>> (e &&& 31)) &&& (1 : Int32)) = (0 : Int32) then z else (if ((S.2.2 2) k) < ((S.2.2 9) 6) then z else (if (0 : Int32) < (K_base S st ((S.2.2 0) k)) then (z + (1 : Int32)) else z)))
def K_comers (S : Sch) (P : Pln) (e st : Int32) : Int32 := (fo (F_comers_19 S P e st) (S.1) 0 (0 : Int32))
theorem comers_ok (hS : isS σ a S) (hP : isP σ p P) (hwp : wP P) (hn : S.1 ≤ 16) (hn5 : S.2.1 ≤ 5) (e st : Int32) : RetV Γ m_SD_comersOn [(.ref a), (.ref p), (.int e), (.int st)] σ (.int (K_comers S P e st)) := by
  obtain ⟨h0, h1, h2, h3, h4, h5, h6', h7, h8, h9, h10⟩ := id hS
  obtain ⟨p0, ⟨pf, p1, p2⟩, p3⟩ := id hP
  have h6 := hwp.1
  unfold RetV
  generalize hQ : (fun (r : Option Value) (σ' : ex_S) => r = some ((.int (K_comers S P e st)) : Value) ∧ σ' = σ) = Q
  refine Ret.start pm_61 rfl ?_
  refine Ev.aload_n rfl rfl ?_
  refine Ev.cV0 rfl rfl h0 rfl rfl (by decide) ⟨(Nat.le_refl _), (Nat.le_refl _)⟩ (all_ok hS) ?_
  refine Ev.aload_n rfl rfl ?_
  refine Ev.cV0 rfl rfl p0 rfl rfl (by decide) ⟨(Nat.le_refl _), (Nat.le_refl _)⟩ (seated_ok hP hwp) ?_
  refine Ev.iconst (v := (-1)) rfl (by decide) ?_
  refine Ev.ixor rfl ?_
  refine Ev.iand rfl ?_
  refine Ev.istore rfl rfl rfl ?_
  refine Ev.iconst (v := 0) rfl (by decide) ?_
  refine Ev.istore rfl rfl rfl ?_
  refine Ev.iconst (v := 0) rfl (by decide) ?_
  refine Ev.istore rfl rfl rfl ?_
  refine Ev.fg (L := [some (.ref a), none, some (.int e), some (.int st), some (.int ((K_all S) &&& ((K_sits P) ^^^ (-1 : Int32)))), some (.int (0 : Int32)), some (.int (nI 0)), none]) ?_ (gs rfl (gn (gs rfl (gs rfl (gs rfl (gs rfl (gs (congrArg Value.int (rfl : (0 : Int32) = nI 0).symm) (gn gz))))))))
  refine lp (fun (k : Nat) (z : Int32) => Ev Γ 0 0 m_SD_comersOn 0 0 19 [some (.ref a), none, some (.int e), some (.int st), some (.int ((K_all S) &&& ((K_sits P) ^^^ (-1 : Int32)))), some (.int z), some (.int (nI k)), none] [] σ Q) (F_comers_19 S P e st) (S.1) (fun k z hk hx => ?_) (S.1) 0 (0 : Int32) (by omega) ?_
  · skip
    refine Ev.iload rfl rfl ?_
    refine Ev.aload_n rfl rfl ?_
    refine Ev.getf rfl rfl h0 rfl ?_
    refine Ev.jge (tgt := 105) rfl (by decide) (fun c25 => absurd (nI_lt hk (by omega)) c25) (fun c25 => ?_)
    refine Ev.iload rfl rfl ?_
    refine Ev.iload rfl rfl ?_
    refine Ev.ishr rfl ?_
    refine Ev.iconst (v := 1) rfl (by decide) ?_
    refine Ev.iand rfl ?_
    refine Ev.zeq (tgt := 56) rfl (by decide) (fun c35 => ?_) (fun c35 => ?_)
    · skip
      refine Ev.iconst (v := 0) rfl (by decide) ?_
      refine Ev.istore rfl rfl rfl ?_
      refine Ev.iload rfl rfl ?_
      refine Ev.zeq (tgt := 99) rfl (by decide) (fun c61 => ?_) (fun c61 => absurd (by decide) c61)
      refine Ev.iinc (d := 1) rfl rfl rfl (by decide) rfl ?_
      refine Ev.goto (tgt := 19) rfl (by decide) ?_
      have hF : (F_comers_19 S P e st) k z = z := by
        unfold F_comers_19
        rw [if_pos c35]
      rw [hF] at hx
      exact hx.fg (gs rfl (gn (gs rfl (gs rfl (gs rfl (gs rfl (gs (congrArg Value.int (show nI (k + 1) = (nI k) + (1 : Int32) from (nq_to (a := k + 1) (nq_add (a := k) (b := 1) rfl (rfl : (1 : Int32) = nI 1)) (by omega)).symm)) (gn gz))))))))
    · skip
      refine Ev.aload_n rfl rfl ?_
      refine Ev.getf rfl rfl h0 rfl ?_
      refine Ev.iload rfl rfl ?_
      refine Ev.ialdN (k := k) rfl h2 rfl ⟨(by omega), by decide⟩ ?_
      refine Ev.iload_n rfl rfl ?_
      refine Ev.ishr rfl ?_
      refine Ev.iconst (v := 1) rfl (by decide) ?_
      refine Ev.iand rfl ?_
      refine Ev.zeq (tgt := 56) rfl (by decide) (fun c49 => ?_) (fun c49 => ?_)
      · skip
        refine Ev.iconst (v := 0) rfl (by decide) ?_
        refine Ev.istore rfl rfl rfl ?_
        refine Ev.iload rfl rfl ?_
        refine Ev.zeq (tgt := 99) rfl (by decide) (fun c61 => ?_) (fun c61 => absurd (by decide) c61)
        refine Ev.iinc (d := 1) rfl rfl rfl (by decide) rfl ?_
        refine Ev.goto (tgt := 19) rfl (by decide) ?_
        have hF : (F_comers_19 S P e st) k z = z := by
          unfold F_comers_19
          rw [if_neg c35]
          rw [if_pos c49]
        rw [hF] at hx
        exact hx.fg (gs rfl (gn (gs rfl (gs rfl (gs rfl (gs rfl (gs (congrArg Value.int (show nI (k + 1) = (nI k) + (1 : Int32) from (nq_to (a := k + 1) (nq_add (a := k) (b := 1) rfl (rfl : (1 : Int32) = nI 1)) (by omega)).symm)) (gn gz))))))))
      · skip
        refine Ev.iconst (v := 1) rfl (by decide) ?_
        refine Ev.goto (tgt := 57) rfl (by decide) ?_
        refine Ev.istore rfl rfl rfl ?_
        refine Ev.iload rfl rfl ?_
        refine Ev.zeq (tgt := 99) rfl (by decide) (fun c61 => absurd c61 (by decide)) (fun c61 => ?_)
        refine Ev.aload_n rfl rfl ?_
        refine Ev.getf rfl rfl h0 rfl ?_
        refine Ev.iload rfl rfl ?_
        refine Ev.ialdN (k := k) rfl h3 rfl ⟨(by omega), by decide⟩ ?_
        refine Ev.aload_n rfl rfl ?_
        refine Ev.getf rfl rfl h0 rfl ?_
        refine Ev.bipush (v := 6) rfl (by decide) ?_
        refine Ev.ialdN (k := 6) rfl h10 (rfl : (6 : Int32) = nI 6) ⟨(by omega), by decide⟩ ?_
        refine Ev.jlt (tgt := 99) rfl (by decide) (fun c78 => ?_) (fun c78 => ?_)
        · skip
          refine Ev.iinc (d := 1) rfl rfl rfl (by decide) rfl ?_
          refine Ev.goto (tgt := 19) rfl (by decide) ?_
          have hF : (F_comers_19 S P e st) k z = z := by
            unfold F_comers_19
            rw [if_neg c35]
            rw [if_neg c49]
            rw [if_pos c78]
          rw [hF] at hx
          exact hx.fg (gs rfl (gn (gs rfl (gs rfl (gs rfl (gs rfl (gs (congrArg Value.int (show nI (k + 1) = (nI k) + (1 : Int32) from (nq_to (a := k + 1) (nq_add (a := k) (b := 1) rfl (rfl : (1 : Int32) = nI 1)) (by omega)).symm)) (gn gz))))))))
        · skip
          refine Ev.aload_n rfl rfl ?_
          refine Ev.iload_n rfl rfl ?_
          refine Ev.aload_n rfl rfl ?_
          refine Ev.getf rfl rfl h0 rfl ?_
          refine Ev.iload rfl rfl ?_
          refine Ev.ialdN (k := k) rfl h1 rfl ⟨(by omega), by decide⟩ ?_
          refine Ev.cV2 rfl rfl h0 rfl rfl (by decide) ⟨(Nat.le_refl _), (Nat.le_refl _)⟩ (base_ok hS _ _) ?_
          refine Ev.zle (tgt := 99) rfl (by decide) (fun c93 => ?_) (fun c93 => ?_)
          · skip
            refine Ev.iinc (d := 1) rfl rfl rfl (by decide) rfl ?_
            refine Ev.goto (tgt := 19) rfl (by decide) ?_
            have hF : (F_comers_19 S P e st) k z = z := by
              unfold F_comers_19
              rw [if_neg c35]
              rw [if_neg c49]
              rw [if_neg c78]
              rw [if_neg c93]
            rw [hF] at hx
            exact hx.fg (gs rfl (gn (gs rfl (gs rfl (gs rfl (gs rfl (gs (congrArg Value.int (show nI (k + 1) = (nI k) + (1 : Int32) from (nq_to (a := k + 1) (nq_add (a := k) (b := 1) rfl (rfl : (1 : Int32) = nI 1)) (by omega)).symm)) (gn gz))))))))
          · skip
            refine Ev.iinc (d := 1) rfl rfl rfl (by decide) rfl ?_
            refine Ev.iinc (d := 1) rfl rfl rfl (by decide) rfl ?_
            refine Ev.goto (tgt := 19) rfl (by decide) ?_
            have hF : (F_comers_19 S P e st) k z = z + (1 : Int32) := by
              unfold F_comers_19
              rw [if_neg c35]
              rw [if_neg c49]
              rw [if_neg c78]
              rw [if_pos c93]
            rw [hF] at hx
            exact hx.fg (gs rfl (gn (gs rfl (gs rfl (gs rfl (gs rfl (gs (congrArg Value.int (show nI (k + 1) = (nI k) + (1 : Int32) from (nq_to (a := k + 1) (nq_add (a := k) (b := 1) rfl (rfl : (1 : Int32) = nI 1)) (by omega)).symm)) (gn gz))))))))
  · skip
    refine Ev.iload rfl rfl ?_
    refine Ev.aload_n rfl rfl ?_
    refine Ev.getf rfl rfl h0 rfl ?_
    refine Ev.jge (tgt := 105) rfl (by decide) (fun c25 => ?_) (fun c25 => absurd c25 (nI_nlt (Nat.le_refl _) (by omega)))
    refine Ev.iload rfl rfl ?_
    refine Ev.iret (ty := .int) rfl rfl rfl (Nat.le_refl _) (Nat.le_refl _) ?_
    rw [← hQ]
    refine ⟨congrArg (fun v => some (Value.int v)) (Eq.symm ?_), rfl⟩
    rfl
def F_canOpen_18 (S : Sch) (P : Pln) (e : Int32) : Nat → Unit → (Unit) ⊕ Int32 := fun k z => if (K_teaches S (nI k) e) = (0 : Int32) then (.inl ()) else (if (((K_evs P (nI k)) >>> (e &&& 31)) &&& (1 : Int32)) = (0 : Int32) then (.inr (1 : Int32)) else (.inl ()))
def K_canOpen (S : Sch) (P : Pln) (e : Int32) : Int32 := if (K_cls P e) < ((S.2.2 9) 4) then (Sum.elim (fun (zx : Unit) => (0 : Int32)) (fun (rx : Int32) => rx) (fe (F_canOpen_18 S P e) (S.2.1) 0 ())) else (0 : Int32)
theorem canOpen_ok (hS : isS σ a S) (hP : isP σ p P) (hwp : wP P) (hn : S.1 ≤ 16) (hn5 : S.2.1 ≤ 5) (e : Int32) : RetV Γ m_SD_canOpenOn [(.ref a), (.ref p), (.int e)] σ (.int (K_canOpen S P e)) := by
  obtain ⟨h0, h1, h2, h3, h4, h5, h6', h7, h8, h9, h10⟩ := id hS
  obtain ⟨p0, ⟨pf, p1, p2⟩, p3⟩ := id hP
  have h6 := hwp.1
  unfold RetV
  generalize hQ : (fun (r : Option Value) (σ' : ex_S) => r = some ((.int (K_canOpen S P e)) : Value) ∧ σ' = σ) = Q
  refine Ret.start pm_62 rfl ?_
  refine Ev.aload_n rfl rfl ?_
  refine Ev.iload_n rfl rfl ?_
  refine Ev.cV1 rfl rfl p0 rfl rfl (by decide) ⟨(Nat.le_refl _), (Nat.le_refl _)⟩ (cls_ok hP h6 _) ?_
  refine Ev.aload_n rfl rfl ?_
  refine Ev.getf rfl rfl h0 rfl ?_
  refine Ev.iconst (v := 4) rfl (by decide) ?_
  refine Ev.ialdN (k := 4) rfl h10 (rfl : (4 : Int32) = nI 4) ⟨(by omega), by decide⟩ ?_
  refine Ev.jlt (tgt := 16) rfl (by decide) (fun c11 => ?_) (fun c11 => ?_)
  · skip
    refine Ev.iconst (v := 0) rfl (by decide) ?_
    refine Ev.istore_n rfl rfl rfl ?_
    refine Ev.fg (L := [some (.ref a), some (.ref p), some (.int e), some (.int (nI 0))]) ?_ (gs rfl (gs rfl (gs rfl (gs (congrArg Value.int (rfl : (0 : Int32) = nI 0).symm) gz))))
    refine lpe (fun (k : Nat) (z : Unit) => Ev Γ 0 0 m_SD_canOpenOn 0 0 18 [some (.ref a), some (.ref p), some (.int e), some (.int (nI k))] [] σ Q) (fun (r : Int32) => Q (some (.int r)) σ) (F_canOpen_18 S P e) (S.2.1) (fun k z hk hx he => ?_) (S.2.1) 0 () (by omega) (fun zx hzx => ?_) (fun rx hrx => ?_)
    · skip
      refine Ev.iload_n rfl rfl ?_
      refine Ev.aload_n rfl rfl ?_
      refine Ev.getf rfl rfl h0 rfl ?_
      refine Ev.jge (tgt := 55) rfl (by decide) (fun c23 => absurd (nI_lt hk (by omega)) c23) (fun c23 => ?_)
      refine Ev.aload_n rfl rfl ?_
      refine Ev.iload_n rfl rfl ?_
      refine Ev.iload_n rfl rfl ?_
      refine Ev.cV2 rfl rfl h0 rfl rfl (by decide) ⟨(Nat.le_refl _), (Nat.le_refl _)⟩ (teaches_ok hS _ _ hn5) ?_
      refine Ev.zeq (tgt := 49) rfl (by decide) (fun c32 => ?_) (fun c32 => ?_)
      · skip
        refine Ev.iinc (d := 1) rfl rfl rfl (by decide) rfl ?_
        refine Ev.goto (tgt := 18) rfl (by decide) ?_
        have hF : (F_canOpen_18 S P e) k z = .inl () := by
          unfold F_canOpen_18
          rw [if_pos c32]
        exact (hx _ hF).fg (gs rfl (gs rfl (gs rfl (gs (congrArg Value.int (show nI (k + 1) = (nI k) + (1 : Int32) from (nq_to (a := k + 1) (nq_add (a := k) (b := 1) rfl (rfl : (1 : Int32) = nI 1)) (by omega)).symm)) gz))))
      · skip
        refine Ev.aload_n rfl rfl ?_
        refine Ev.iload_n rfl rfl ?_
        refine Ev.cV1 rfl rfl p0 rfl rfl (by decide) ⟨(Nat.le_refl _), (Nat.le_refl _)⟩ (evs_ok hP h6 _) ?_
        refine Ev.iload_n rfl rfl ?_
        refine Ev.ishr rfl ?_
        refine Ev.iconst (v := 1) rfl (by decide) ?_
        refine Ev.iand rfl ?_
        refine Ev.zne (tgt := 49) rfl (by decide) (fun c44 => ?_) (fun c44 => ?_)
        · skip
          refine Ev.iinc (d := 1) rfl rfl rfl (by decide) rfl ?_
          refine Ev.goto (tgt := 18) rfl (by decide) ?_
          have hF : (F_canOpen_18 S P e) k z = .inl () := by
            unfold F_canOpen_18
            rw [if_neg c32]
            rw [if_neg c44]
          exact (hx _ hF).fg (gs rfl (gs rfl (gs rfl (gs (congrArg Value.int (show nI (k + 1) = (nI k) + (1 : Int32) from (nq_to (a := k + 1) (nq_add (a := k) (b := 1) rfl (rfl : (1 : Int32) = nI 1)) (by omega)).symm)) gz))))
        · skip
          refine Ev.iconst (v := 1) rfl (by decide) ?_
          refine Ev.iret (ty := .boolean) rfl rfl rfl (Nat.le_refl _) (Nat.le_refl _) ?_
          refine he _ ?_
          unfold F_canOpen_18
          rw [if_neg c32]
          rw [if_pos c44]
    · skip
      refine Ev.iload_n rfl rfl ?_
      refine Ev.aload_n rfl rfl ?_
      refine Ev.getf rfl rfl h0 rfl ?_
      refine Ev.jge (tgt := 55) rfl (by decide) (fun c23 => ?_) (fun c23 => absurd c23 (nI_nlt (Nat.le_refl _) (by omega)))
      refine Ev.iconst (v := 0) rfl (by decide) ?_
      refine Ev.iret (ty := .boolean) rfl rfl rfl (Nat.le_refl _) (Nat.le_refl _) ?_
      rw [← hQ]
      refine ⟨congrArg (fun v => some (Value.int v)) (Eq.symm ?_), rfl⟩
      unfold K_canOpen
      rw [if_pos c11]
      rw [hzx, Sum.elim_inl]
    · skip
      rw [← hQ]
      refine ⟨congrArg (fun v => some (Value.int v)) (Eq.symm ?_), rfl⟩
      unfold K_canOpen
      rw [if_pos c11]
      rw [hrx, Sum.elim_inr]
  · skip
    refine Ev.iconst (v := 0) rfl (by decide) ?_
    refine Ev.iret (ty := .boolean) rfl rfl rfl (Nat.le_refl _) (Nat.le_refl _) ?_
    rw [← hQ]
    refine ⟨congrArg (fun v => some (Value.int v)) (Eq.symm ?_), rfl⟩
    unfold K_canOpen
    rw [if_neg c11]
def F_let_62 (T : Tol) (i j : Nat) (l : Nat) : Nat → (Int32 × Int32) → (Int32 × Int32) := fun k z => if (K_takes (tS T i) ((tP T j).2 k) (nI l)) = (0 : Int32) then (z.1, z.2) else (if z.1 < ((K_tog (tS T i) ((tP T j).2 k) ((((tP T j).2 k) 5) ||| ((1 : Int32) <<< ((nI l) &&& 31)))) - (K_tog (tS T i) ((tP T j).2 k) (((tP T j).2 k) 5))) then ((K_tog (tS T i) ((tP T j).2 k) ((((tP T j).2 k) 5) ||| ((1 : Int32) <<< ((nI l) &&& 31)))) - (K_tog (tS T i) ((tP T j).2 k) (((tP T j).2 k) 5)), nI k) else (z.1, z.2))
def K_let (T : Tol) (i j : Nat) (l : Nat) : Int32 := if (((K_sits (tP T j)) >>> ((nI l) &&& 31)) &&& (1 : Int32)) = (0 : Int32) then ((fo (F_let_62 T i j l) ((tP T j).1) 0 ((-1000000000 : Int32), (-1 : Int32))).2) else (-1 : Int32)
theorem let_some (hX : isX σ x) (hT : isT σ (x + 1) T) (hw : wT T) {u v : Int32} {i j : Nat} (hg : gd T u v i j) {l : Nat} (hl : l < (tS T i).1) : RetV Γ m_SD_let [(.ref x), .int u, .int v, (.int (nI l))] σ (.int (K_let T i j l)) := by
  unfold isX at hX
  obtain ⟨t0, t1, ⟨fs, t2, t3⟩, ⟨fp, t4, t5⟩, t6, t7⟩ := id hT
  obtain ⟨rfl, hi, rfl, hj, hgo⟩ := hg
  have hw1 := hw.2.1
  have hw2 := hw.2.2.1
  have hwS := hw.2.2.2.1 i hi
  have hwP := hw.2.2.2.2 j hj
  have hn16 := hwS.1
  have hn5 := hwS.2.1
  have h6 := hwP.1
  have hSi := t6 i (by omega)
  have hPj := t7 j (by omega)
  have hokL : ∀ k, k < (tP T j).1 → okL (tS T i) ((tP T j).2 k) := fun k hk => goT_okL hwS (hgo k hk).1
  obtain ⟨h0, h1, h2, h3, h4, h5, h6', h7, h8, h9, h10⟩ := id hSi
  obtain ⟨p0, ⟨pf, p1, p2⟩, p3⟩ := id hPj
  unfold RetV
  generalize hQ : (fun (r : Option Value) (σ' : ex_S) => r = some ((.int (K_let T i j l)) : Value) ∧ σ' = σ) = Q
  refine Ret.start pm_34 rfl ?_
  refine Ev.aload_n rfl rfl ?_
  refine Ev.iload_n rfl rfl ?_
  refine Ev.iload_n rfl rfl ?_
  refine Ev.cV2 rfl rfl hX rfl rfl (by decide) ⟨(Nat.le_refl _), (Nat.le_refl _)⟩ (going_some hX hT hw ⟨rfl, hi, rfl, hj, hgo⟩) ?_
  refine Ev.astore rfl rfl rfl ?_
  refine Ev.aload_n rfl rfl ?_
  refine Ev.getf rfl rfl hX rfl ?_
  refine Ev.iload_n rfl rfl ?_
  refine Ev.cV1 rfl rfl t0 rfl rfl (by decide) ⟨(Nat.le_refl _), (Nat.le_refl _)⟩ (schoolAt_some hT hw1 hi) ?_
  refine Ev.astore rfl rfl rfl ?_
  refine Ev.aload rfl rfl ?_
  refine Ev.ifnull rfl ?_
  refine Ev.aload rfl rfl ?_
  refine Ev.ifnull rfl ?_
  refine Ev.aload rfl rfl ?_
  refine Ev.iload_n rfl rfl ?_
  refine Ev.cV1 rfl rfl h0 rfl rfl (by decide) ⟨(Nat.le_refl _), (Nat.le_refl _)⟩ (has_y hSi hn16 hl) ?_
  refine Ev.zeq (tgt := 49) rfl (by decide) (fun c34 => absurd c34 (by decide)) (fun c34 => ?_)
  refine Ev.aload rfl rfl ?_
  refine Ev.cV0 rfl rfl p0 rfl rfl (by decide) ⟨(Nat.le_refl _), (Nat.le_refl _)⟩ (seated_ok hPj hwP) ?_
  refine Ev.iload_n rfl rfl ?_
  refine Ev.ishr rfl ?_
  refine Ev.iconst (v := 1) rfl (by decide) ?_
  refine Ev.iand rfl ?_
  refine Ev.zeq (tgt := 51) rfl (by decide) (fun c46 => ?_) (fun c46 => ?_)
  · skip
    refine Ev.ldcw (v := (-1000000000)) rfl rfl ?_
    refine Ev.istore rfl rfl rfl ?_
    refine Ev.iconst (v := (-1)) rfl (by decide) ?_
    refine Ev.istore rfl rfl rfl ?_
    refine Ev.iconst (v := 0) rfl (by decide) ?_
    refine Ev.istore rfl rfl rfl ?_
    refine Ev.fg (L := [none, none, none, some (.int (nI l)), some (.ref (x + 1 + 15 + 19 * j)), some (.ref (x + 1 + 4 + 19 * i)), some (.int (-1000000000 : Int32)), some (.int (-1 : Int32)), some (.int (nI 0)), none, none]) ?_ (gn (gn (gn (gs rfl (gs rfl (gs rfl (gs rfl (gs rfl (gs (congrArg Value.int (rfl : (0 : Int32) = nI 0).symm) (gn (gn gz)))))))))))
    refine lp (fun (k : Nat) (z : Int32 × Int32) => Ev Γ 0 0 m_SD_let 0 0 62 [none, none, none, some (.int (nI l)), some (.ref (x + 1 + 15 + 19 * j)), some (.ref (x + 1 + 4 + 19 * i)), some (.int z.1), some (.int z.2), some (.int (nI k)), none, none] [] σ Q) (F_let_62 T i j l) ((tP T j).1) (fun k z hk hx => ?_) ((tP T j).1) 0 ((-1000000000 : Int32), (-1 : Int32)) (by omega) ?_
    · skip
      refine Ev.iload rfl rfl ?_
      refine Ev.aload rfl rfl ?_
      refine Ev.getf rfl rfl p0 rfl ?_
      refine Ev.jge (tgt := 148) rfl (by decide) (fun c69 => absurd (nI_lt hk (by omega)) c69) (fun c69 => ?_)
      refine Ev.aload rfl rfl ?_
      refine Ev.getf rfl rfl p0 rfl ?_
      refine Ev.iload rfl rfl ?_
      refine Ev.aaldN (k := k) rfl p1 rfl rfl ⟨(by omega), by decide⟩ (p2 k (by omega)) ?_
      refine Ev.astore rfl rfl rfl ?_
      refine Ev.aload rfl rfl ?_
      refine Ev.aload rfl rfl ?_
      refine Ev.iload_n rfl rfl ?_
      refine Ev.cV2 rfl rfl h0 rfl rfl (by decide) ⟨(Nat.le_refl _), (Nat.le_refl _)⟩ (takes_ok hSi (p3 k (by omega)) _ (kd_in (by omega) (by decide))) ?_
      refine Ev.zne (tgt := 96) rfl (by decide) (fun c90 => ?_) (fun c90 => ?_)
      · skip
        refine Ev.aload rfl rfl ?_
        refine Ev.aload rfl rfl ?_
        refine Ev.aload rfl rfl ?_
        refine Ev.getf rfl rfl (p3 k (by omega)) rfl ?_
        refine Ev.iconst (v := 1) rfl (by decide) ?_
        refine Ev.iload_n rfl rfl ?_
        refine Ev.ishl rfl ?_
        refine Ev.ior rfl ?_
        refine Ev.cV2 rfl rfl h0 rfl rfl (by decide) ⟨(Nat.le_refl _), (Nat.le_refl _)⟩ (tog_ok hSi (p3 k (by omega)) _ (hokL k (by omega)) hn5) ?_
        refine Ev.aload rfl rfl ?_
        refine Ev.aload rfl rfl ?_
        refine Ev.aload rfl rfl ?_
        refine Ev.getf rfl rfl (p3 k (by omega)) rfl ?_
        refine Ev.cV2 rfl rfl h0 rfl rfl (by decide) ⟨(Nat.le_refl _), (Nat.le_refl _)⟩ (tog_ok hSi (p3 k (by omega)) _ (hokL k (by omega)) hn5) ?_
        refine Ev.isub rfl ?_
        refine Ev.istore rfl rfl rfl ?_
        refine Ev.iload rfl rfl ?_
        refine Ev.iload rfl rfl ?_
        refine Ev.jle (tgt := 142) rfl (by decide) (fun c131 => ?_) (fun c131 => ?_)
        · skip
          refine Ev.iinc (d := 1) rfl rfl rfl (by decide) rfl ?_
          refine Ev.goto (tgt := 62) rfl (by decide) ?_
          have hF : (F_let_62 T i j l) k z = (z.1, z.2) := by
            unfold F_let_62
            rw [if_neg c90]
            rw [if_neg c131]
          rw [hF] at hx
          exact hx.fg (gn (gn (gn (gs rfl (gs rfl (gs rfl (gs rfl (gs rfl (gs (congrArg Value.int (show nI (k + 1) = (nI k) + (1 : Int32) from (nq_to (a := k + 1) (nq_add (a := k) (b := 1) rfl (rfl : (1 : Int32) = nI 1)) (by omega)).symm)) (gn (gn gz)))))))))))
        · skip
          refine Ev.iload rfl rfl ?_
          refine Ev.istore rfl rfl rfl ?_
          refine Ev.iload rfl rfl ?_
          refine Ev.istore rfl rfl rfl ?_
          refine Ev.iinc (d := 1) rfl rfl rfl (by decide) rfl ?_
          refine Ev.goto (tgt := 62) rfl (by decide) ?_
          have hF : (F_let_62 T i j l) k z = ((K_tog (tS T i) ((tP T j).2 k) ((((tP T j).2 k) 5) ||| ((1 : Int32) <<< ((nI l) &&& 31)))) - (K_tog (tS T i) ((tP T j).2 k) (((tP T j).2 k) 5)), nI k) := by
            unfold F_let_62
            rw [if_neg c90]
            rw [if_pos c131]
          rw [hF] at hx
          exact hx.fg (gn (gn (gn (gs rfl (gs rfl (gs rfl (gs rfl (gs rfl (gs (congrArg Value.int (show nI (k + 1) = (nI k) + (1 : Int32) from (nq_to (a := k + 1) (nq_add (a := k) (b := 1) rfl (rfl : (1 : Int32) = nI 1)) (by omega)).symm)) (gn (gn gz)))))))))))
      · skip
        refine Ev.goto (tgt := 142) rfl (by decide) ?_
        refine Ev.iinc (d := 1) rfl rfl rfl (by decide) rfl ?_
        refine Ev.goto (tgt := 62) rfl (by decide) ?_
        have hF : (F_let_62 T i j l) k z = (z.1, z.2) := by
          unfold F_let_62
          rw [if_pos c90]
        rw [hF] at hx
        exact hx.fg (gn (gn (gn (gs rfl (gs rfl (gs rfl (gs rfl (gs rfl (gs (congrArg Value.int (show nI (k + 1) = (nI k) + (1 : Int32) from (nq_to (a := k + 1) (nq_add (a := k) (b := 1) rfl (rfl : (1 : Int32) = nI 1)) (by omega)).symm)) (gn (gn gz)))))))))))
    · skip
      refine Ev.iload rfl rfl ?_
      refine Ev.aload rfl rfl ?_
      refine Ev.getf rfl rfl p0 rfl ?_
      refine Ev.jge (tgt := 148) rfl (by decide) (fun c69 => ?_) (fun c69 => absurd c69 (nI_nlt (Nat.le_refl _) (by omega)))
      refine Ev.iload rfl rfl ?_
      refine Ev.iret (ty := .int) rfl rfl rfl (Nat.le_refl _) (Nat.le_refl _) ?_
      rw [← hQ]
      refine ⟨congrArg (fun v => some (Value.int v)) (Eq.symm ?_), rfl⟩
      unfold K_let
      rw [if_pos c46]
  · skip
    refine Ev.iconst (v := (-1)) rfl (by decide) ?_
    refine Ev.iret (ty := .int) rfl rfl rfl (Nat.le_refl _) (Nat.le_refl _) ?_
    rw [← hQ]
    refine ⟨congrArg (fun v => some (Value.int v)) (Eq.symm ?_), rfl⟩
    unfold K_let
    rw [if_neg c46]
def F_open_49 (T : Tol) (i j : Nat) (st : Int32) : Nat → (Int32 × Int32) → (Int32 × Int32) := fun k z => if (K_comers (tS T i) (tP T j) (nI k) st) < (((tS T i).2.2 9) 2) then (z.1, z.2) else (if z.1 < (K_comers (tS T i) (tP T j) (nI k) st) then (if (K_canOpen (tS T i) (tP T j) (nI k)) = (0 : Int32) then (z.1, z.2) else (K_comers (tS T i) (tP T j) (nI k) st, nI k)) else (z.1, z.2))
def K_open (T : Tol) (i j : Nat) (st : Int32) : Int32 := if st < (0 : Int32) then (-1 : Int32) else (if (11 : Int32) < st then (-1 : Int32) else ((fo (F_open_49 T i j st) (6) 0 ((-1 : Int32), (-1 : Int32))).2))
theorem open_some (hX : isX σ x) (hT : isT σ (x + 1) T) (hw : wT T) {u v : Int32} {i j : Nat} (hg : gd T u v i j) (st : Int32) : RetV Γ m_SD_open [(.ref x), .int u, .int v, (.int st)] σ (.int (K_open T i j st)) := by
  unfold isX at hX
  obtain ⟨t0, t1, ⟨fs, t2, t3⟩, ⟨fp, t4, t5⟩, t6, t7⟩ := id hT
  obtain ⟨rfl, hi, rfl, hj, hgo⟩ := hg
  have hw1 := hw.2.1
  have hw2 := hw.2.2.1
  have hwS := hw.2.2.2.1 i hi
  have hwP := hw.2.2.2.2 j hj
  have hn16 := hwS.1
  have hn5 := hwS.2.1
  have h6 := hwP.1
  have hSi := t6 i (by omega)
  have hPj := t7 j (by omega)
  have hokL : ∀ k, k < (tP T j).1 → okL (tS T i) ((tP T j).2 k) := fun k hk => goT_okL hwS (hgo k hk).1
  obtain ⟨h0, h1, h2, h3, h4, h5, h6', h7, h8, h9, h10⟩ := id hSi
  obtain ⟨p0, ⟨pf, p1, p2⟩, p3⟩ := id hPj
  unfold RetV
  generalize hQ : (fun (r : Option Value) (σ' : ex_S) => r = some ((.int (K_open T i j st)) : Value) ∧ σ' = σ) = Q
  refine Ret.start pm_37 rfl ?_
  refine Ev.aload_n rfl rfl ?_
  refine Ev.iload_n rfl rfl ?_
  refine Ev.iload_n rfl rfl ?_
  refine Ev.cV2 rfl rfl hX rfl rfl (by decide) ⟨(Nat.le_refl _), (Nat.le_refl _)⟩ (going_some hX hT hw ⟨rfl, hi, rfl, hj, hgo⟩) ?_
  refine Ev.astore rfl rfl rfl ?_
  refine Ev.aload_n rfl rfl ?_
  refine Ev.getf rfl rfl hX rfl ?_
  refine Ev.iload_n rfl rfl ?_
  refine Ev.cV1 rfl rfl t0 rfl rfl (by decide) ⟨(Nat.le_refl _), (Nat.le_refl _)⟩ (schoolAt_some hT hw1 hi) ?_
  refine Ev.astore rfl rfl rfl ?_
  refine Ev.aload rfl rfl ?_
  refine Ev.ifnull rfl ?_
  refine Ev.aload rfl rfl ?_
  refine Ev.ifnull rfl ?_
  refine Ev.iload_n rfl rfl ?_
  refine Ev.zlt (tgt := 38) rfl (by decide) (fun c29 => ?_) (fun c29 => ?_)
  · skip
    refine Ev.iconst (v := (-1)) rfl (by decide) ?_
    refine Ev.iret (ty := .int) rfl rfl rfl (Nat.le_refl _) (Nat.le_refl _) ?_
    rw [← hQ]
    refine ⟨congrArg (fun v => some (Value.int v)) (Eq.symm ?_), rfl⟩
    unfold K_open
    rw [if_pos c29]
  · skip
    refine Ev.iload_n rfl rfl ?_
    refine Ev.bipush (v := 11) rfl (by decide) ?_
    refine Ev.jle (tgt := 40) rfl (by decide) (fun c35 => ?_) (fun c35 => ?_)
    · skip
      refine Ev.iconst (v := (-1)) rfl (by decide) ?_
      refine Ev.istore rfl rfl rfl ?_
      refine Ev.iconst (v := (-1)) rfl (by decide) ?_
      refine Ev.istore rfl rfl rfl ?_
      refine Ev.iconst (v := 0) rfl (by decide) ?_
      refine Ev.istore rfl rfl rfl ?_
      refine Ev.fg (L := [none, none, none, some (.int st), some (.ref (x + 1 + 15 + 19 * j)), some (.ref (x + 1 + 4 + 19 * i)), some (.int (-1 : Int32)), some (.int (-1 : Int32)), some (.int (nI 0)), none]) ?_ (gn (gn (gn (gs rfl (gs rfl (gs rfl (gs rfl (gs rfl (gs (congrArg Value.int (rfl : (0 : Int32) = nI 0).symm) (gn gz))))))))))
      refine lp (fun (k : Nat) (z : Int32 × Int32) => Ev Γ 0 0 m_SD_open 0 0 49 [none, none, none, some (.int st), some (.ref (x + 1 + 15 + 19 * j)), some (.ref (x + 1 + 4 + 19 * i)), some (.int z.1), some (.int z.2), some (.int (nI k)), none] [] σ Q) (F_open_49 T i j st) (6) (fun k z hk hx => ?_) (6) 0 ((-1 : Int32), (-1 : Int32)) (by omega) ?_
      · skip
        refine Ev.iload rfl rfl ?_
        refine Ev.bipush (v := 6) rfl (by decide) ?_
        refine Ev.jge (tgt := 113) rfl (by decide) (fun c53 => absurd (nI_lt hk (by omega)) c53) (fun c53 => ?_)
        refine Ev.aload rfl rfl ?_
        refine Ev.aload rfl rfl ?_
        refine Ev.iload rfl rfl ?_
        refine Ev.iload_n rfl rfl ?_
        refine Ev.cS4 rfl rfl rfl (by decide) ⟨(Nat.le_refl _), (Nat.le_refl _)⟩ (comers_ok hSi hPj hwP hn16 hn5 _ _) ?_
        refine Ev.istore rfl rfl rfl ?_
        refine Ev.iload rfl rfl ?_
        refine Ev.aload rfl rfl ?_
        refine Ev.getf rfl rfl h0 rfl ?_
        refine Ev.iconst (v := 2) rfl (by decide) ?_
        refine Ev.ialdN (k := 2) rfl h10 (rfl : (2 : Int32) = nI 2) ⟨(by omega), by decide⟩ ?_
        refine Ev.jlt (tgt := 107) rfl (by decide) (fun c77 => ?_) (fun c77 => ?_)
        · skip
          refine Ev.iinc (d := 1) rfl rfl rfl (by decide) rfl ?_
          refine Ev.goto (tgt := 49) rfl (by decide) ?_
          have hF : (F_open_49 T i j st) k z = (z.1, z.2) := by
            unfold F_open_49
            rw [if_pos c77]
          rw [hF] at hx
          exact hx.fg (gn (gn (gn (gs rfl (gs rfl (gs rfl (gs rfl (gs rfl (gs (congrArg Value.int (show nI (k + 1) = (nI k) + (1 : Int32) from (nq_to (a := k + 1) (nq_add (a := k) (b := 1) rfl (rfl : (1 : Int32) = nI 1)) (by omega)).symm)) (gn gz))))))))))
        · skip
          refine Ev.iload rfl rfl ?_
          refine Ev.iload rfl rfl ?_
          refine Ev.jle (tgt := 107) rfl (by decide) (fun c84 => ?_) (fun c84 => ?_)
          · skip
            refine Ev.iinc (d := 1) rfl rfl rfl (by decide) rfl ?_
            refine Ev.goto (tgt := 49) rfl (by decide) ?_
            have hF : (F_open_49 T i j st) k z = (z.1, z.2) := by
              unfold F_open_49
              rw [if_neg c77]
              rw [if_neg c84]
            rw [hF] at hx
            exact hx.fg (gn (gn (gn (gs rfl (gs rfl (gs rfl (gs rfl (gs rfl (gs (congrArg Value.int (show nI (k + 1) = (nI k) + (1 : Int32) from (nq_to (a := k + 1) (nq_add (a := k) (b := 1) rfl (rfl : (1 : Int32) = nI 1)) (by omega)).symm)) (gn gz))))))))))
          · skip
            refine Ev.aload rfl rfl ?_
            refine Ev.aload rfl rfl ?_
            refine Ev.iload rfl rfl ?_
            refine Ev.cS3 rfl rfl rfl (by decide) ⟨(Nat.le_refl _), (Nat.le_refl _)⟩ (canOpen_ok hSi hPj hwP hn16 hn5 _) ?_
            refine Ev.zeq (tgt := 107) rfl (by decide) (fun c96 => ?_) (fun c96 => ?_)
            · skip
              refine Ev.iinc (d := 1) rfl rfl rfl (by decide) rfl ?_
              refine Ev.goto (tgt := 49) rfl (by decide) ?_
              have hF : (F_open_49 T i j st) k z = (z.1, z.2) := by
                unfold F_open_49
                rw [if_neg c77]
                rw [if_pos c84]
                rw [if_pos c96]
              rw [hF] at hx
              exact hx.fg (gn (gn (gn (gs rfl (gs rfl (gs rfl (gs rfl (gs rfl (gs (congrArg Value.int (show nI (k + 1) = (nI k) + (1 : Int32) from (nq_to (a := k + 1) (nq_add (a := k) (b := 1) rfl (rfl : (1 : Int32) = nI 1)) (by omega)).symm)) (gn gz))))))))))
            · skip
              refine Ev.iload rfl rfl ?_
              refine Ev.istore rfl rfl rfl ?_
              refine Ev.iload rfl rfl ?_
              refine Ev.istore rfl rfl rfl ?_
              refine Ev.iinc (d := 1) rfl rfl rfl (by decide) rfl ?_
              refine Ev.goto (tgt := 49) rfl (by decide) ?_
              have hF : (F_open_49 T i j st) k z = (K_comers (tS T i) (tP T j) (nI k) st, nI k) := by
                unfold F_open_49
                rw [if_neg c77]
                rw [if_pos c84]
                rw [if_neg c96]
              rw [hF] at hx
              exact hx.fg (gn (gn (gn (gs rfl (gs rfl (gs rfl (gs rfl (gs rfl (gs (congrArg Value.int (show nI (k + 1) = (nI k) + (1 : Int32) from (nq_to (a := k + 1) (nq_add (a := k) (b := 1) rfl (rfl : (1 : Int32) = nI 1)) (by omega)).symm)) (gn gz))))))))))
      · skip
        refine Ev.iload rfl rfl ?_
        refine Ev.bipush (v := 6) rfl (by decide) ?_
        refine Ev.jge (tgt := 113) rfl (by decide) (fun c53 => ?_) (fun c53 => absurd c53 (nI_nlt (Nat.le_refl _) (by omega)))
        refine Ev.iload rfl rfl ?_
        refine Ev.iret (ty := .int) rfl rfl rfl (Nat.le_refl _) (Nat.le_refl _) ?_
        rw [← hQ]
        refine ⟨congrArg (fun v => some (Value.int v)) (Eq.symm ?_), rfl⟩
        unfold K_open
        rw [if_neg c29]
        rw [if_neg c35]
    · skip
      refine Ev.iconst (v := (-1)) rfl (by decide) ?_
      refine Ev.iret (ty := .int) rfl rfl rfl (Nat.le_refl _) (Nat.le_refl _) ?_
      rw [← hQ]
      refine ⟨congrArg (fun v => some (Value.int v)) (Eq.symm ?_), rfl⟩
      unfold K_open
      rw [if_neg c29]
      rw [if_pos c35]
def F_m_let_49 (T : Tol) (i j : Nat) (l : Nat) : Nat → (Int32 × Int32) → (Int32 × Int32) := fun k z => if (K_can (tS T i) ((tP T j).2 k) (nI l)) = (0 : Int32) then (z.1, z.2) else (if (K_bc ((tP T j).2 k 5)) < ((tS T i).2.2 9 3) then (if z.1 < (0 : Int32) then (nI k, (K_tog (tS T i) ((tP T j).2 k) (((tP T j).2 k 5) ||| ((1 : Int32) <<< ((nI l) &&& 31)))) - (K_tog (tS T i) ((tP T j).2 k) ((tP T j).2 k 5))) else (if z.2 < ((K_tog (tS T i) ((tP T j).2 k) (((tP T j).2 k 5) ||| ((1 : Int32) <<< ((nI l) &&& 31)))) - (K_tog (tS T i) ((tP T j).2 k) ((tP T j).2 k 5))) then (nI k, (K_tog (tS T i) ((tP T j).2 k) (((tP T j).2 k 5) ||| ((1 : Int32) <<< ((nI l) &&& 31)))) - (K_tog (tS T i) ((tP T j).2 k) ((tP T j).2 k 5))) else (z.1, z.2))) else (z.1, z.2))
def K_m_let (T : Tol) (i j : Nat) (l : Nat) : Int32 := if (((K_sits (tP T j)) >>> ((nI l) &&& 31)) &&& (1 : Int32)) = (1 : Int32) then (-1 : Int32) else ((fo (F_m_let_49 T i j l) ((tP T j).1) 0 ((-1 : Int32), (0 : Int32))).1)
theorem m_let_some (hM : isM σ y g A) (hT : mT A 0 T) (hw : wT T) {u v : Int32} {i j : Nat} (hg : gd T u v i j) {l : Nat} (hl : l < (tS T i).1) : RetV Γ m_M_let [(.ref y), .int u, .int v, (.int (nI l))] σ (.int (K_m_let T i j l)) := by
  obtain ⟨m0, m1⟩ := id hM
  have hgd := hg
  obtain ⟨rfl, hi, rfl, hj, hgo⟩ := hg
  have hi3 : i < 3 := by have := hw.2.1; omega
  have hj3 : j < 3 := by have := hw.2.2.1; omega
  have hwS := hw.2.2.2.1 i hi
  have hwP := hw.2.2.2.2 j hj
  have hn16 := hwS.1
  have hn5 := hwS.2.1
  have h6 := hwP.1
  have hS := hT.s hi
  have hP := hT.p hj
  have hs : 610 + 120 * i + 120 ≤ 4500 := by omega
  unfold RetV
  generalize hQ : (fun (r : Option Value) (σ' : ex_S) => r = some ((.int (K_m_let T i j l)) : Value) ∧ σ' = σ) = Q
  refine Ret.start pm_263 rfl ?_
  refine Ev.aload_n rfl rfl ?_
  refine Ev.iload_n rfl rfl ?_
  refine Ev.iload_n rfl rfl ?_
  refine Ev.cV2 rfl rfl m0 rfl rfl (by decide) ⟨(Nat.le_refl _), (Nat.le_refl _)⟩ (m_goes_yes hM hT hw hgd) ?_
  refine Ev.zeq (tgt := 31) rfl (by decide) (fun c6 => absurd c6 (by decide)) (fun c6 => ?_)
  refine Ev.aload_n rfl rfl ?_
  refine Ev.iload_n rfl rfl ?_
  refine Ev.iload_n rfl rfl ?_
  refine Ev.cV2 rfl rfl m0 rfl rfl (by decide) ⟨(Nat.le_refl _), (Nat.le_refl _)⟩ (m_isLearner_yes hM hT hw hi hl) ?_
  refine Ev.zeq (tgt := 31) rfl (by decide) (fun c15 => absurd c15 (by decide)) (fun c15 => ?_)
  refine Ev.aload_n rfl rfl ?_
  refine Ev.iload_n rfl rfl ?_
  refine Ev.cV1 rfl rfl m0 rfl rfl (by decide) ⟨(Nat.le_refl _), (Nat.le_refl _)⟩ (m_seated_ok hM hP hj3 h6) ?_
  refine Ev.iload_n rfl rfl ?_
  refine Ev.ishr rfl ?_
  refine Ev.iconst (v := 1) rfl (by decide) ?_
  refine Ev.iand rfl ?_
  refine Ev.iconst (v := 1) rfl (by decide) ?_
  refine Ev.jne (tgt := 33) rfl (by decide) (fun c28 => ?_) (fun c28 => ?_)
  · skip
    refine Ev.iconst (v := 0) rfl (by decide) ?_
    refine Ev.iload_n rfl rfl ?_
    refine Ev.cS2 rfl rfl rfl (by decide) ⟨(Nat.le_refl _), (Nat.le_refl _)⟩ (m_pl0_ok i) ?_
    refine Ev.istore rfl rfl rfl ?_
    refine Ev.iconst (v := (-1)) rfl (by decide) ?_
    refine Ev.istore rfl rfl rfl ?_
    refine Ev.iconst (v := 0) rfl (by decide) ?_
    refine Ev.istore rfl rfl rfl ?_
    refine Ev.iconst (v := 0) rfl (by decide) ?_
    refine Ev.istore rfl rfl rfl ?_
    refine Ev.fg (L := [some (.ref y), none, some (.int (nI j)), some (.int (nI l)), some (.int (nI (610 + 120 * i))), some (.int (-1 : Int32)), some (.int (0 : Int32)), some (.int (nI 0)), none, none, none]) ?_ (gs rfl (gn (gs rfl (gs rfl (gs rfl (gs rfl (gs rfl (gs (congrArg Value.int (rfl : (0 : Int32) = nI 0).symm) (gn (gn (gn gz)))))))))))
    refine lp (fun (k : Nat) (z : Int32 × Int32) => Ev Γ 0 0 m_M_let 0 0 49 [some (.ref y), none, some (.int (nI j)), some (.int (nI l)), some (.int (nI (610 + 120 * i))), some (.int z.1), some (.int z.2), some (.int (nI k)), none, none, none] [] σ Q) (F_m_let_49 T i j l) ((tP T j).1) (fun k z hk hx => ?_) ((tP T j).1) 0 ((-1 : Int32), (0 : Int32)) (by omega) ?_
    · skip
      refine Ev.iload rfl rfl ?_
      refine Ev.aload_n rfl rfl ?_
      refine Ev.iload_n rfl rfl ?_
      refine Ev.cV1 rfl rfl m0 rfl rfl (by decide) ⟨(Nat.le_refl _), (Nat.le_refl _)⟩ (m_classes_ok hM hP hj3 h6) ?_
      refine Ev.jge (tgt := 165) rfl (by decide) (fun c56 => absurd (nI_lt hk (by omega)) c56) (fun c56 => ?_)
      refine Ev.aload_n rfl rfl ?_
      refine Ev.iload_n rfl rfl ?_
      refine Ev.iload rfl rfl ?_
      refine Ev.cV2 rfl rfl m0 rfl rfl (by decide) ⟨(Nat.le_refl _), (Nat.le_refl _)⟩ (m_classAt_ok hM k) ?_
      refine Ev.istore rfl rfl rfl ?_
      refine Ev.aload_n rfl rfl ?_
      refine Ev.iload_n rfl rfl ?_
      refine Ev.iload rfl rfl ?_
      refine Ev.cV2 rfl rfl m0 rfl rfl (by decide) ⟨(Nat.le_refl _), (Nat.le_refl _)⟩ (m_sitsIn_ok hM hP hj3 h6 k (by omega)) ?_
      refine Ev.istore rfl rfl rfl ?_
      refine Ev.aload_n rfl rfl ?_
      refine Ev.iload rfl rfl ?_
      refine Ev.iload rfl rfl ?_
      refine Ev.iload_n rfl rfl ?_
      refine Ev.cV3 rfl rfl m0 rfl rfl (by decide) ⟨(Nat.le_refl _), (Nat.le_refl _)⟩ (m_can_ok hM hS hs hwS (hP.2 k (by omega)) (by omega) l (by omega)) ?_
      refine Ev.zeq (tgt := 159) rfl (by decide) (fun c86 => ?_) (fun c86 => ?_)
      · skip
        refine Ev.iinc (d := 1) rfl rfl rfl (by decide) rfl ?_
        refine Ev.goto (tgt := 49) rfl (by decide) ?_
        have hF : (F_m_let_49 T i j l) k z = (z.1, z.2) := by
          unfold F_m_let_49
          rw [if_pos c86]
        rw [hF] at hx
        exact hx.fg (gs rfl (gn (gs rfl (gs rfl (gs rfl (gs rfl (gs rfl (gs (congrArg Value.int (show nI (k + 1) = (nI k) + (1 : Int32) from (nq_to (a := k + 1) (nq_add (a := k) (b := 1) rfl (rfl : (1 : Int32) = nI 1)) (by omega)).symm)) (gn (gn (gn gz)))))))))))
      · skip
        refine Ev.iload rfl rfl ?_
        refine Ev.cS1 rfl rfl rfl (by decide) ⟨(Nat.le_refl _), (Nat.le_refl _)⟩ (m_many_W (S := (tS T i)) hn16 (hgo k (by omega)).2) ?_
        refine Ev.aload_n rfl rfl ?_
        refine Ev.getf rfl rfl m0 rfl ?_
        refine Ev.iload rfl rfl ?_
        refine Ev.iconst (v := 5) rfl (by decide) ?_
        refine Ev.iadd rfl ?_
        refine Ev.ialdN (k := 610 + 120 * i + 5) rfl m1 (nq_to (a := 610 + 120 * i + 5) (nq_add (a := 610 + 120 * i) (b := 5) rfl (rfl : (5 : Int32) = nI 5)) (by omega)) ⟨(by omega), by decide⟩ ?_
        rw [show A (610 + 120 * i + 5) = _ from hS.2.2.1 3 (by decide)]
        refine Ev.jlt (tgt := 109) rfl (by decide) (fun c103 => ?_) (fun c103 => ?_)
        · skip
          refine Ev.aload_n rfl rfl ?_
          refine Ev.iload rfl rfl ?_
          refine Ev.iload rfl rfl ?_
          refine Ev.iload rfl rfl ?_
          refine Ev.iconst (v := 1) rfl (by decide) ?_
          refine Ev.iload_n rfl rfl ?_
          refine Ev.ishl rfl ?_
          refine Ev.ior rfl ?_
          refine Ev.cV3 rfl rfl m0 rfl rfl (by decide) ⟨(Nat.le_refl _), (Nat.le_refl _)⟩ (m_tog_W hM hS hs hwS (hP.2 k (by omega)) (by omega) (hwP.2 k (by omega)) (hgo k (by omega)).1 (inS_or hn16 (hgo k (by omega)).2 (inS_bit hn16 (by omega)))) ?_
          refine Ev.aload_n rfl rfl ?_
          refine Ev.iload rfl rfl ?_
          refine Ev.iload rfl rfl ?_
          refine Ev.iload rfl rfl ?_
          refine Ev.cV3 rfl rfl m0 rfl rfl (by decide) ⟨(Nat.le_refl _), (Nat.le_refl _)⟩ (m_tog_W hM hS hs hwS (hP.2 k (by omega)) (by omega) (hwP.2 k (by omega)) (hgo k (by omega)).1 (hgo k (by omega)).2) ?_
          refine Ev.isub rfl ?_
          refine Ev.istore rfl rfl rfl ?_
          refine Ev.iload rfl rfl ?_
          refine Ev.zlt (tgt := 151) rfl (by decide) (fun c138 => ?_) (fun c138 => ?_)
          · skip
            refine Ev.iload rfl rfl ?_
            refine Ev.istore rfl rfl rfl ?_
            refine Ev.iload rfl rfl ?_
            refine Ev.istore rfl rfl rfl ?_
            refine Ev.iinc (d := 1) rfl rfl rfl (by decide) rfl ?_
            refine Ev.goto (tgt := 49) rfl (by decide) ?_
            have hF : (F_m_let_49 T i j l) k z = (nI k, (K_tog (tS T i) ((tP T j).2 k) (((tP T j).2 k 5) ||| ((1 : Int32) <<< ((nI l) &&& 31)))) - (K_tog (tS T i) ((tP T j).2 k) ((tP T j).2 k 5))) := by
              unfold F_m_let_49
              rw [if_neg c86]
              rw [if_pos c103]
              rw [if_pos c138]
            rw [hF] at hx
            exact hx.fg (gs rfl (gn (gs rfl (gs rfl (gs rfl (gs rfl (gs rfl (gs (congrArg Value.int (show nI (k + 1) = (nI k) + (1 : Int32) from (nq_to (a := k + 1) (nq_add (a := k) (b := 1) rfl (rfl : (1 : Int32) = nI 1)) (by omega)).symm)) (gn (gn (gn gz)))))))))))
          · skip
            refine Ev.iload rfl rfl ?_
            refine Ev.iload rfl rfl ?_
            refine Ev.jgt (tgt := 151) rfl (by decide) (fun c145 => ?_) (fun c145 => ?_)
            · skip
              refine Ev.iload rfl rfl ?_
              refine Ev.istore rfl rfl rfl ?_
              refine Ev.iload rfl rfl ?_
              refine Ev.istore rfl rfl rfl ?_
              refine Ev.iinc (d := 1) rfl rfl rfl (by decide) rfl ?_
              refine Ev.goto (tgt := 49) rfl (by decide) ?_
              have hF : (F_m_let_49 T i j l) k z = (nI k, (K_tog (tS T i) ((tP T j).2 k) (((tP T j).2 k 5) ||| ((1 : Int32) <<< ((nI l) &&& 31)))) - (K_tog (tS T i) ((tP T j).2 k) ((tP T j).2 k 5))) := by
                unfold F_m_let_49
                rw [if_neg c86]
                rw [if_pos c103]
                rw [if_neg c138]
                rw [if_pos c145]
              rw [hF] at hx
              exact hx.fg (gs rfl (gn (gs rfl (gs rfl (gs rfl (gs rfl (gs rfl (gs (congrArg Value.int (show nI (k + 1) = (nI k) + (1 : Int32) from (nq_to (a := k + 1) (nq_add (a := k) (b := 1) rfl (rfl : (1 : Int32) = nI 1)) (by omega)).symm)) (gn (gn (gn gz)))))))))))
            · skip
              refine Ev.goto (tgt := 159) rfl (by decide) ?_
              refine Ev.iinc (d := 1) rfl rfl rfl (by decide) rfl ?_
              refine Ev.goto (tgt := 49) rfl (by decide) ?_
              have hF : (F_m_let_49 T i j l) k z = (z.1, z.2) := by
                unfold F_m_let_49
                rw [if_neg c86]
                rw [if_pos c103]
                rw [if_neg c138]
                rw [if_neg c145]
              rw [hF] at hx
              exact hx.fg (gs rfl (gn (gs rfl (gs rfl (gs rfl (gs rfl (gs rfl (gs (congrArg Value.int (show nI (k + 1) = (nI k) + (1 : Int32) from (nq_to (a := k + 1) (nq_add (a := k) (b := 1) rfl (rfl : (1 : Int32) = nI 1)) (by omega)).symm)) (gn (gn (gn gz)))))))))))
        · skip
          refine Ev.goto (tgt := 159) rfl (by decide) ?_
          refine Ev.iinc (d := 1) rfl rfl rfl (by decide) rfl ?_
          refine Ev.goto (tgt := 49) rfl (by decide) ?_
          have hF : (F_m_let_49 T i j l) k z = (z.1, z.2) := by
            unfold F_m_let_49
            rw [if_neg c86]
            rw [if_neg c103]
          rw [hF] at hx
          exact hx.fg (gs rfl (gn (gs rfl (gs rfl (gs rfl (gs rfl (gs rfl (gs (congrArg Value.int (show nI (k + 1) = (nI k) + (1 : Int32) from (nq_to (a := k + 1) (nq_add (a := k) (b := 1) rfl (rfl : (1 : Int32) = nI 1)) (by omega)).symm)) (gn (gn (gn gz)))))))))))
    · skip
      refine Ev.iload rfl rfl ?_
      refine Ev.aload_n rfl rfl ?_
      refine Ev.iload_n rfl rfl ?_
      refine Ev.cV1 rfl rfl m0 rfl rfl (by decide) ⟨(Nat.le_refl _), (Nat.le_refl _)⟩ (m_classes_ok hM hP hj3 h6) ?_
      refine Ev.jge (tgt := 165) rfl (by decide) (fun c56 => ?_) (fun c56 => absurd c56 (nI_nlt (Nat.le_refl _) (by omega)))
      refine Ev.iload rfl rfl ?_
      refine Ev.iret (ty := .int) rfl rfl rfl (Nat.le_refl _) (Nat.le_refl _) ?_
      rw [← hQ]
      refine ⟨congrArg (fun v => some (Value.int v)) (Eq.symm ?_), rfl⟩
      unfold K_m_let
      rw [if_neg c28]
  · skip
    refine Ev.iconst (v := (-1)) rfl (by decide) ?_
    refine Ev.iret (ty := .int) rfl rfl rfl (Nat.le_refl _) (Nat.le_refl _) ?_
    rw [← hQ]
    refine ⟨congrArg (fun v => some (Value.int v)) (Eq.symm ?_), rfl⟩
    unfold K_m_let
    rw [if_pos c28]
def F_m_isOpen_9 (S : Sch) (P : Pln) (e : Int32) : Nat → (Int32 × Int32) → (Int32 × Int32) := fun k z => if (P.2 k 2) = e then (z.1 + (1 : Int32), z.2 ||| ((1 : Int32) <<< ((P.2 k 1) &&& 31))) else (z.1, z.2)
def F_m_isOpen_76 (S : Sch) (P : Pln) (e : Int32) : Nat → Int32 → Int32 := fun k z => if z = (0 : Int32) then (if (((S.2.2 5 k) >>> (e &&& 31)) &&& (1 : Int32)) = (1 : Int32) then (if ((((fo (F_m_isOpen_9 S P e) (P.1) 0 ((0 : Int32), (0 : Int32))).2) >>> ((nI k) &&& 31)) &&& (1 : Int32)) = (0 : Int32) then (1 : Int32) else (0 : Int32)) else (0 : Int32)) else (1 : Int32)
def K_m_isOpen (S : Sch) (P : Pln) (e : Int32) : Int32 := if (fo (F_m_isOpen_76 S P e) (S.2.1) 0 (0 : Int32)) = (0 : Int32) then (0 : Int32) else (if ((fo (F_m_isOpen_9 S P e) (P.1) 0 ((0 : Int32), (0 : Int32))).1) < (S.2.2 9 4) then (1 : Int32) else (0 : Int32))
theorem m_isOpen_ok (hM : isM σ y g A) {s : Nat} (hS : mS A s S) (hs : s + 120 ≤ 4500) (hwS : wS S) (hP : mP A (970 + 40 * p) P) (hp : p < 3) (hwP : wP P) (hgo : goP S P) (e : Int32) : RetV Γ m_M_isOpen [(.ref y), (.int (nI s)), (.int (nI p)), (.int e)] σ (.int (K_m_isOpen S P e)) := by
  obtain ⟨m0, m1⟩ := id hM
  have hn16 := hwS.1
  have hn5 := hwS.2.1
  have h6 := hwP.1
  unfold RetV
  generalize hQ : (fun (r : Option Value) (σ' : ex_S) => r = some ((.int (K_m_isOpen S P e)) : Value) ∧ σ' = σ) = Q
  refine Ret.start pm_266 rfl ?_
  refine Ev.iconst (v := 0) rfl (by decide) ?_
  refine Ev.istore rfl rfl rfl ?_
  refine Ev.iconst (v := 0) rfl (by decide) ?_
  refine Ev.istore rfl rfl rfl ?_
  refine Ev.iconst (v := 0) rfl (by decide) ?_
  refine Ev.istore rfl rfl rfl ?_
  refine Ev.fg (L := [some (.ref y), some (.int (nI s)), some (.int (nI p)), some (.int e), some (.int (0 : Int32)), some (.int (0 : Int32)), some (.int (nI 0)), none]) ?_ (gs rfl (gs rfl (gs rfl (gs rfl (gs rfl (gs rfl (gs (congrArg Value.int (rfl : (0 : Int32) = nI 0).symm) (gn gz))))))))
  refine lp (fun (k : Nat) (z : Int32 × Int32) => Ev Γ 0 0 m_M_isOpen 0 0 9 [some (.ref y), some (.int (nI s)), some (.int (nI p)), some (.int e), some (.int z.1), some (.int z.2), some (.int (nI k)), none] [] σ Q) (F_m_isOpen_9 S P e) (P.1) (fun k z hk hx => ?_) (P.1) 0 ((0 : Int32), (0 : Int32)) (by omega) ?_
  · skip
    refine Ev.iload rfl rfl ?_
    refine Ev.aload_n rfl rfl ?_
    refine Ev.iload_n rfl rfl ?_
    refine Ev.cV1 rfl rfl m0 rfl rfl (by decide) ⟨(Nat.le_refl _), (Nat.le_refl _)⟩ (m_classes_ok hM hP hp h6) ?_
    refine Ev.jge (tgt := 70) rfl (by decide) (fun c16 => absurd (nI_lt hk (by omega)) c16) (fun c16 => ?_)
    refine Ev.aload_n rfl rfl ?_
    refine Ev.getf rfl rfl m0 rfl ?_
    refine Ev.aload_n rfl rfl ?_
    refine Ev.iload_n rfl rfl ?_
    refine Ev.iload rfl rfl ?_
    refine Ev.cV2 rfl rfl m0 rfl rfl (by decide) ⟨(Nat.le_refl _), (Nat.le_refl _)⟩ (m_classAt_ok hM k) ?_
    refine Ev.iconst (v := 2) rfl (by decide) ?_
    refine Ev.iadd rfl ?_
    refine Ev.ialdN (k := 970 + 40 * p + 1 + 6 * k + 2) rfl m1 (nq_to (a := 970 + 40 * p + 1 + 6 * k + 2) (nq_add (a := 970 + 40 * p + 1 + 6 * k) (b := 2) rfl (rfl : (2 : Int32) = nI 2)) (by omega)) ⟨(by omega), by decide⟩ ?_
    rw [show A (970 + 40 * p + 1 + 6 * k + 2) = _ from hP.2 k (by omega) 2 (by decide)]
    refine Ev.iload_n rfl rfl ?_
    refine Ev.jeq (tgt := 40) rfl (by decide) (fun c34 => ?_) (fun c34 => ?_)
    · skip
      refine Ev.iinc (d := 1) rfl rfl rfl (by decide) rfl ?_
      refine Ev.iload rfl rfl ?_
      refine Ev.iconst (v := 1) rfl (by decide) ?_
      refine Ev.aload_n rfl rfl ?_
      refine Ev.getf rfl rfl m0 rfl ?_
      refine Ev.aload_n rfl rfl ?_
      refine Ev.iload_n rfl rfl ?_
      refine Ev.iload rfl rfl ?_
      refine Ev.cV2 rfl rfl m0 rfl rfl (by decide) ⟨(Nat.le_refl _), (Nat.le_refl _)⟩ (m_classAt_ok hM k) ?_
      refine Ev.iconst (v := 1) rfl (by decide) ?_
      refine Ev.iadd rfl ?_
      refine Ev.ialdN (k := 970 + 40 * p + 1 + 6 * k + 1) rfl m1 (nq_to (a := 970 + 40 * p + 1 + 6 * k + 1) (nq_add (a := 970 + 40 * p + 1 + 6 * k) (b := 1) rfl (rfl : (1 : Int32) = nI 1)) (by omega)) ⟨(by omega), by decide⟩ ?_
      rw [show A (970 + 40 * p + 1 + 6 * k + 1) = _ from hP.2 k (by omega) 1 (by decide)]
      have hqb := (goT_cl (hgo k (by omega)).1).2
      refine Ev.ishl rfl ?_
      refine Ev.ior rfl ?_
      refine Ev.istore rfl rfl rfl ?_
      refine Ev.iinc (d := 1) rfl rfl rfl (by decide) rfl ?_
      refine Ev.goto (tgt := 9) rfl (by decide) ?_
      have hF : (F_m_isOpen_9 S P e) k z = (z.1 + (1 : Int32), z.2 ||| ((1 : Int32) <<< ((P.2 k 1) &&& 31))) := by
        unfold F_m_isOpen_9
        rw [if_pos c34]
      rw [hF] at hx
      exact hx.fg (gs rfl (gs rfl (gs rfl (gs rfl (gs rfl (gs rfl (gs (congrArg Value.int (show nI (k + 1) = (nI k) + (1 : Int32) from (nq_to (a := k + 1) (nq_add (a := k) (b := 1) rfl (rfl : (1 : Int32) = nI 1)) (by omega)).symm)) (gn gz))))))))
    · skip
      refine Ev.goto (tgt := 64) rfl (by decide) ?_
      refine Ev.iinc (d := 1) rfl rfl rfl (by decide) rfl ?_
      refine Ev.goto (tgt := 9) rfl (by decide) ?_
      have hF : (F_m_isOpen_9 S P e) k z = (z.1, z.2) := by
        unfold F_m_isOpen_9
        rw [if_neg c34]
      rw [hF] at hx
      exact hx.fg (gs rfl (gs rfl (gs rfl (gs rfl (gs rfl (gs rfl (gs (congrArg Value.int (show nI (k + 1) = (nI k) + (1 : Int32) from (nq_to (a := k + 1) (nq_add (a := k) (b := 1) rfl (rfl : (1 : Int32) = nI 1)) (by omega)).symm)) (gn gz))))))))
  · skip
    refine Ev.iload rfl rfl ?_
    refine Ev.aload_n rfl rfl ?_
    refine Ev.iload_n rfl rfl ?_
    refine Ev.cV1 rfl rfl m0 rfl rfl (by decide) ⟨(Nat.le_refl _), (Nat.le_refl _)⟩ (m_classes_ok hM hP hp h6) ?_
    refine Ev.jge (tgt := 70) rfl (by decide) (fun c16 => ?_) (fun c16 => absurd c16 (nI_nlt (Nat.le_refl _) (by omega)))
    refine Ev.iconst (v := 0) rfl (by decide) ?_
    refine Ev.istore rfl rfl rfl ?_
    refine Ev.iconst (v := 0) rfl (by decide) ?_
    refine Ev.istore rfl rfl rfl ?_
    refine Ev.fg (L := [some (.ref y), some (.int (nI s)), none, some (.int e), some (.int ((fo (F_m_isOpen_9 S P e) (P.1) 0 ((0 : Int32), (0 : Int32))).1)), some (.int ((fo (F_m_isOpen_9 S P e) (P.1) 0 ((0 : Int32), (0 : Int32))).2)), some (.int (0 : Int32)), some (.int (nI 0))]) ?_ (gs rfl (gs rfl (gn (gs rfl (gs rfl (gs rfl (gs rfl (gs (congrArg Value.int (rfl : (0 : Int32) = nI 0).symm) gz))))))))
    refine lp (fun (k : Nat) (z : Int32) => Ev Γ 0 0 m_M_isOpen 0 0 76 [some (.ref y), some (.int (nI s)), none, some (.int e), some (.int ((fo (F_m_isOpen_9 S P e) (P.1) 0 ((0 : Int32), (0 : Int32))).1)), some (.int ((fo (F_m_isOpen_9 S P e) (P.1) 0 ((0 : Int32), (0 : Int32))).2)), some (.int z), some (.int (nI k))] [] σ Q) (F_m_isOpen_76 S P e) (S.2.1) (fun k z hk hx => ?_) (S.2.1) 0 (0 : Int32) (by omega) ?_
    · skip
      refine Ev.iload rfl rfl ?_
      refine Ev.aload_n rfl rfl ?_
      refine Ev.getf rfl rfl m0 rfl ?_
      refine Ev.iload_n rfl rfl ?_
      refine Ev.iconst (v := 1) rfl (by decide) ?_
      refine Ev.iadd rfl ?_
      refine Ev.ialdN (k := s + 1) rfl m1 (nq_to (a := s + 1) (nq_add (a := s) (b := 1) rfl (rfl : (1 : Int32) = nI 1)) (by omega)) ⟨(by omega), by decide⟩ ?_
      rw [hS.2.1]
      refine Ev.jge (tgt := 137) rfl (by decide) (fun c86 => absurd (nI_lt hk (by omega)) c86) (fun c86 => ?_)
      refine Ev.iload rfl rfl ?_
      refine Ev.zne (tgt := 124) rfl (by decide) (fun c91 => ?_) (fun c91 => ?_)
      · skip
        refine Ev.iconst (v := 1) rfl (by decide) ?_
        refine Ev.goto (tgt := 129) rfl (by decide) ?_
        refine Ev.istore rfl rfl rfl ?_
        refine Ev.iinc (d := 1) rfl rfl rfl (by decide) rfl ?_
        refine Ev.goto (tgt := 76) rfl (by decide) ?_
        have hF : (F_m_isOpen_76 S P e) k z = (1 : Int32) := by
          unfold F_m_isOpen_76
          rw [if_neg c91]
        rw [hF] at hx
        exact hx.fg (gs rfl (gs rfl (gn (gs rfl (gs rfl (gs rfl (gs rfl (gs (congrArg Value.int (show nI (k + 1) = (nI k) + (1 : Int32) from (nq_to (a := k + 1) (nq_add (a := k) (b := 1) rfl (rfl : (1 : Int32) = nI 1)) (by omega)).symm)) gz))))))))
      · skip
        refine Ev.aload_n rfl rfl ?_
        refine Ev.getf rfl rfl m0 rfl ?_
        refine Ev.iload_n rfl rfl ?_
        refine Ev.bipush (v := 93) rfl (by decide) ?_
        refine Ev.iadd rfl ?_
        refine Ev.iload rfl rfl ?_
        refine Ev.iadd rfl ?_
        refine Ev.ialdN (k := s + 93 + k) rfl m1 (nq_to (a := s + 93 + k) (nq_add (a := s + 93) (b := k) (nq_add (a := s) (b := 93) rfl (rfl : (93 : Int32) = nI 93)) rfl) (by omega)) ⟨(by omega), by decide⟩ ?_
        rw [(hS.2.2.2.2.1 k (by omega)).1]
        refine Ev.iload_n rfl rfl ?_
        refine Ev.ishr rfl ?_
        refine Ev.iconst (v := 1) rfl (by decide) ?_
        refine Ev.iand rfl ?_
        refine Ev.iconst (v := 1) rfl (by decide) ?_
        refine Ev.jne (tgt := 128) rfl (by decide) (fun c111 => ?_) (fun c111 => ?_)
        · skip
          refine Ev.iconst (v := 0) rfl (by decide) ?_
          refine Ev.istore rfl rfl rfl ?_
          refine Ev.iinc (d := 1) rfl rfl rfl (by decide) rfl ?_
          refine Ev.goto (tgt := 76) rfl (by decide) ?_
          have hF : (F_m_isOpen_76 S P e) k z = (0 : Int32) := by
            unfold F_m_isOpen_76
            rw [if_pos c91]
            rw [if_neg c111]
          rw [hF] at hx
          exact hx.fg (gs rfl (gs rfl (gn (gs rfl (gs rfl (gs rfl (gs rfl (gs (congrArg Value.int (show nI (k + 1) = (nI k) + (1 : Int32) from (nq_to (a := k + 1) (nq_add (a := k) (b := 1) rfl (rfl : (1 : Int32) = nI 1)) (by omega)).symm)) gz))))))))
        · skip
          refine Ev.iload rfl rfl ?_
          refine Ev.iload rfl rfl ?_
          refine Ev.ishr rfl ?_
          refine Ev.iconst (v := 1) rfl (by decide) ?_
          refine Ev.iand rfl ?_
          refine Ev.zne (tgt := 128) rfl (by decide) (fun c121 => ?_) (fun c121 => ?_)
          · skip
            refine Ev.iconst (v := 0) rfl (by decide) ?_
            refine Ev.istore rfl rfl rfl ?_
            refine Ev.iinc (d := 1) rfl rfl rfl (by decide) rfl ?_
            refine Ev.goto (tgt := 76) rfl (by decide) ?_
            have hF : (F_m_isOpen_76 S P e) k z = (0 : Int32) := by
              unfold F_m_isOpen_76
              rw [if_pos c91]
              rw [if_pos c111]
              rw [if_neg c121]
            rw [hF] at hx
            exact hx.fg (gs rfl (gs rfl (gn (gs rfl (gs rfl (gs rfl (gs rfl (gs (congrArg Value.int (show nI (k + 1) = (nI k) + (1 : Int32) from (nq_to (a := k + 1) (nq_add (a := k) (b := 1) rfl (rfl : (1 : Int32) = nI 1)) (by omega)).symm)) gz))))))))
          · skip
            refine Ev.iconst (v := 1) rfl (by decide) ?_
            refine Ev.goto (tgt := 129) rfl (by decide) ?_
            refine Ev.istore rfl rfl rfl ?_
            refine Ev.iinc (d := 1) rfl rfl rfl (by decide) rfl ?_
            refine Ev.goto (tgt := 76) rfl (by decide) ?_
            have hF : (F_m_isOpen_76 S P e) k z = (1 : Int32) := by
              unfold F_m_isOpen_76
              rw [if_pos c91]
              rw [if_pos c111]
              rw [if_pos c121]
            rw [hF] at hx
            exact hx.fg (gs rfl (gs rfl (gn (gs rfl (gs rfl (gs rfl (gs rfl (gs (congrArg Value.int (show nI (k + 1) = (nI k) + (1 : Int32) from (nq_to (a := k + 1) (nq_add (a := k) (b := 1) rfl (rfl : (1 : Int32) = nI 1)) (by omega)).symm)) gz))))))))
    · skip
      refine Ev.iload rfl rfl ?_
      refine Ev.aload_n rfl rfl ?_
      refine Ev.getf rfl rfl m0 rfl ?_
      refine Ev.iload_n rfl rfl ?_
      refine Ev.iconst (v := 1) rfl (by decide) ?_
      refine Ev.iadd rfl ?_
      refine Ev.ialdN (k := s + 1) rfl m1 (nq_to (a := s + 1) (nq_add (a := s) (b := 1) rfl (rfl : (1 : Int32) = nI 1)) (by omega)) ⟨(by omega), by decide⟩ ?_
      rw [hS.2.1]
      refine Ev.jge (tgt := 137) rfl (by decide) (fun c86 => ?_) (fun c86 => absurd c86 (nI_nlt (Nat.le_refl _) (by omega)))
      refine Ev.iload rfl rfl ?_
      refine Ev.zeq (tgt := 160) rfl (by decide) (fun c139 => ?_) (fun c139 => ?_)
      · skip
        refine Ev.iconst (v := 0) rfl (by decide) ?_
        refine Ev.iret (ty := .boolean) rfl rfl rfl (Nat.le_refl _) (Nat.le_refl _) ?_
        rw [← hQ]
        refine ⟨congrArg (fun v => some (Value.int v)) (Eq.symm ?_), rfl⟩
        unfold K_m_isOpen
        rw [if_pos c139]
      · skip
        refine Ev.iload rfl rfl ?_
        refine Ev.aload_n rfl rfl ?_
        refine Ev.getf rfl rfl m0 rfl ?_
        refine Ev.iload_n rfl rfl ?_
        refine Ev.bipush (v := 6) rfl (by decide) ?_
        refine Ev.iadd rfl ?_
        refine Ev.ialdN (k := s + 6) rfl m1 (nq_to (a := s + 6) (nq_add (a := s) (b := 6) rfl (rfl : (6 : Int32) = nI 6)) (by omega)) ⟨(by omega), by decide⟩ ?_
        rw [show A (s + 6) = _ from hS.2.2.1 4 (by decide)]
        refine Ev.jge (tgt := 160) rfl (by decide) (fun c153 => ?_) (fun c153 => ?_)
        · skip
          refine Ev.iconst (v := 0) rfl (by decide) ?_
          refine Ev.iret (ty := .boolean) rfl rfl rfl (Nat.le_refl _) (Nat.le_refl _) ?_
          rw [← hQ]
          refine ⟨congrArg (fun v => some (Value.int v)) (Eq.symm ?_), rfl⟩
          unfold K_m_isOpen
          rw [if_neg c139]
          rw [if_neg c153]
        · skip
          refine Ev.iconst (v := 1) rfl (by decide) ?_
          refine Ev.goto (tgt := 161) rfl (by decide) ?_
          refine Ev.iret (ty := .boolean) rfl rfl rfl (Nat.le_refl _) (Nat.le_refl _) ?_
          rw [← hQ]
          refine ⟨congrArg (fun v => some (Value.int v)) (Eq.symm ?_), rfl⟩
          unfold K_m_isOpen
          rw [if_neg c139]
          rw [if_pos c153]
def F_m_open_65 (T : Tol) (i j : Nat) (st : Int32) (k : Nat) (z : Int32 × Int32) : Nat → Int32 → Int32 := fun k' z' => if (((K_sits (tP T j)) >>> ((nI k') &&& 31)) &&& (1 : Int32)) = (0 : Int32) then (if ((((tS T i).2.2 1 k') >>> ((nI k) &&& 31)) &&& (1 : Int32)) = (1 : Int32) then (if ((tS T i).2.2 2 k') < ((tS T i).2.2 9 6) then (z' + (0 : Int32)) else (if (0 : Int32) < (K_base (tS T i) st ((tS T i).2.2 0 k')) then (z' + (1 : Int32)) else (z' + (0 : Int32)))) else (z' + (0 : Int32))) else (z' + (0 : Int32))
def F_m_open_37 (T : Tol) (i j : Nat) (st : Int32) : Nat → (Int32 × Int32) → (Int32 × Int32) := fun k z => if (K_m_isOpen (tS T i) (tP T j) (nI k)) = (0 : Int32) then (z.1, z.2) else (if (fo (F_m_open_65 T i j st k z) ((tS T i).1) 0 (0 : Int32)) < ((tS T i).2.2 9 2) then (z.1, z.2) else (if z.2 < (fo (F_m_open_65 T i j st k z) ((tS T i).1) 0 (0 : Int32)) then (nI k, (fo (F_m_open_65 T i j st k z) ((tS T i).1) 0 (0 : Int32))) else (z.1, z.2)))
def K_m_open (T : Tol) (i j : Nat) (st : Int32) : Int32 := (fo (F_m_open_37 T i j st) (6) 0 ((-1 : Int32), (0 : Int32))).1
theorem m_open_some (hM : isM σ y g A) (hT : mT A 0 T) (hw : wT T) {u v : Int32} {i j : Nat} (hg : gd T u v i j) {st : Int32} (hst : rg st 0 11) : RetV Γ m_M_open [(.ref y), .int u, .int v, (.int st)] σ (.int (K_m_open T i j st)) := by
  obtain ⟨m0, m1⟩ := id hM
  have hgd := hg
  obtain ⟨rfl, hi, rfl, hj, hgo⟩ := hg
  have hi3 : i < 3 := by have := hw.2.1; omega
  have hj3 : j < 3 := by have := hw.2.2.1; omega
  have hwS := hw.2.2.2.1 i hi
  have hwP := hw.2.2.2.2 j hj
  have hn16 := hwS.1
  have hn5 := hwS.2.1
  have h6 := hwP.1
  have hS := hT.s hi
  have hP := hT.p hj
  have hs : 610 + 120 * i + 120 ≤ 4500 := by omega
  unfold RetV
  generalize hQ : (fun (r : Option Value) (σ' : ex_S) => r = some ((.int (K_m_open T i j st)) : Value) ∧ σ' = σ) = Q
  refine Ret.start pm_267 rfl ?_
  refine Ev.aload_n rfl rfl ?_
  refine Ev.iload_n rfl rfl ?_
  refine Ev.iload_n rfl rfl ?_
  refine Ev.cV2 rfl rfl m0 rfl rfl (by decide) ⟨(Nat.le_refl _), (Nat.le_refl _)⟩ (m_goes_yes hM hT hw hgd) ?_
  refine Ev.zeq (tgt := 19) rfl (by decide) (fun c6 => absurd c6 (by decide)) (fun c6 => ?_)
  refine Ev.iload_n rfl rfl ?_
  refine Ev.iconst (v := 0) rfl (by decide) ?_
  refine Ev.bipush (v := 11) rfl (by decide) ?_
  refine Ev.cS3 rfl rfl rfl (by decide) ⟨(Nat.le_refl _), (Nat.le_refl _)⟩ (m_in_y (K_in11 hst)) ?_
  refine Ev.zne (tgt := 21) rfl (by decide) (fun c16 => ?_) (fun c16 => absurd c16 (by decide))
  refine Ev.iconst (v := 0) rfl (by decide) ?_
  refine Ev.iload_n rfl rfl ?_
  refine Ev.cS2 rfl rfl rfl (by decide) ⟨(Nat.le_refl _), (Nat.le_refl _)⟩ (m_pl0_ok i) ?_
  refine Ev.istore rfl rfl rfl ?_
  refine Ev.iconst (v := (-1)) rfl (by decide) ?_
  refine Ev.istore rfl rfl rfl ?_
  refine Ev.iconst (v := 0) rfl (by decide) ?_
  refine Ev.istore rfl rfl rfl ?_
  refine Ev.iconst (v := 0) rfl (by decide) ?_
  refine Ev.istore rfl rfl rfl ?_
  refine Ev.fg (L := [some (.ref y), none, some (.int (nI j)), some (.int st), some (.int (nI (610 + 120 * i))), some (.int (-1 : Int32)), some (.int (0 : Int32)), some (.int (nI 0)), none, none, none]) ?_ (gs rfl (gn (gs rfl (gs rfl (gs rfl (gs rfl (gs rfl (gs (congrArg Value.int (rfl : (0 : Int32) = nI 0).symm) (gn (gn (gn gz)))))))))))
  refine lp (fun (k : Nat) (z : Int32 × Int32) => Ev Γ 0 0 m_M_open 0 0 37 [some (.ref y), none, some (.int (nI j)), some (.int st), some (.int (nI (610 + 120 * i))), some (.int z.1), some (.int z.2), some (.int (nI k)), none, none, none] [] σ Q) (F_m_open_37 T i j st) (6) (fun k z hk hx => ?_) (6) 0 ((-1 : Int32), (0 : Int32)) (by omega) ?_
  · skip
    refine Ev.iload rfl rfl ?_
    refine Ev.bipush (v := 6) rfl (by decide) ?_
    refine Ev.jge (tgt := 222) rfl (by decide) (fun c41 => absurd (nI_lt hk (by omega)) c41) (fun c41 => ?_)
    refine Ev.aload_n rfl rfl ?_
    refine Ev.iload rfl rfl ?_
    refine Ev.iload_n rfl rfl ?_
    refine Ev.iload rfl rfl ?_
    refine Ev.cV3 rfl rfl m0 rfl rfl (by decide) ⟨(Nat.le_refl _), (Nat.le_refl _)⟩ (m_isOpen_ok hM hS hs hwS hP hj3 hwP hgo _) ?_
    refine Ev.zne (tgt := 59) rfl (by decide) (fun c53 => ?_) (fun c53 => ?_)
    · skip
      refine Ev.iconst (v := 0) rfl (by decide) ?_
      refine Ev.istore rfl rfl rfl ?_
      refine Ev.iconst (v := 0) rfl (by decide) ?_
      refine Ev.istore rfl rfl rfl ?_
      refine Ev.fg (L := [some (.ref y), none, some (.int (nI j)), some (.int st), some (.int (nI (610 + 120 * i))), some (.int z.1), some (.int z.2), some (.int (nI k)), some (.int (0 : Int32)), some (.int (nI 0)), none]) ?_ (gs rfl (gn (gs rfl (gs rfl (gs rfl (gs rfl (gs rfl (gs rfl (gs rfl (gs (congrArg Value.int (rfl : (0 : Int32) = nI 0).symm) (gn gz)))))))))))
      refine lp (fun (k' : Nat) (z' : Int32) => Ev Γ 0 0 m_M_open 0 0 65 [some (.ref y), none, some (.int (nI j)), some (.int st), some (.int (nI (610 + 120 * i))), some (.int z.1), some (.int z.2), some (.int (nI k)), some (.int z'), some (.int (nI k')), none] [] σ Q) (F_m_open_65 T i j st k z) ((tS T i).1) (fun k' z' hk' hx' => ?_) ((tS T i).1) 0 (0 : Int32) (by omega) ?_
      · skip
        refine Ev.iload rfl rfl ?_
        refine Ev.aload_n rfl rfl ?_
        refine Ev.getf rfl rfl m0 rfl ?_
        refine Ev.iload rfl rfl ?_
        refine Ev.ialdN (k := 610 + 120 * i) rfl m1 (nq_to (a := 610 + 120 * i) rfl (by omega)) ⟨(by omega), by decide⟩ ?_
        rw [hS.1]
        refine Ev.jge (tgt := 184) rfl (by decide) (fun c74 => absurd (nI_lt hk' (by omega)) c74) (fun c74 => ?_)
        refine Ev.aload_n rfl rfl ?_
        refine Ev.iload_n rfl rfl ?_
        refine Ev.cV1 rfl rfl m0 rfl rfl (by decide) ⟨(Nat.le_refl _), (Nat.le_refl _)⟩ (m_seated_ok hM hP hj3 h6) ?_
        refine Ev.iload rfl rfl ?_
        refine Ev.ishr rfl ?_
        refine Ev.iconst (v := 1) rfl (by decide) ?_
        refine Ev.iand rfl ?_
        refine Ev.zne (tgt := 142) rfl (by decide) (fun c87 => ?_) (fun c87 => ?_)
        · skip
          refine Ev.iconst (v := 0) rfl (by decide) ?_
          refine Ev.istore rfl rfl rfl ?_
          refine Ev.iload rfl rfl ?_
          refine Ev.iload rfl rfl ?_
          refine Ev.zeq (tgt := 174) rfl (by decide) (fun c149 => ?_) (fun c149 => absurd (by decide) c149)
          refine Ev.iconst (v := 0) rfl (by decide) ?_
          refine Ev.iadd rfl ?_
          refine Ev.istore rfl rfl rfl ?_
          refine Ev.iinc (d := 1) rfl rfl rfl (by decide) rfl ?_
          refine Ev.goto (tgt := 65) rfl (by decide) ?_
          have hF : (F_m_open_65 T i j st k z) k' z' = z' + (0 : Int32) := by
            unfold F_m_open_65
            rw [if_neg c87]
          rw [hF] at hx'
          exact hx'.fg (gs rfl (gn (gs rfl (gs rfl (gs rfl (gs rfl (gs rfl (gs rfl (gs rfl (gs (congrArg Value.int (show nI (k' + 1) = (nI k') + (1 : Int32) from (nq_to (a := k' + 1) (nq_add (a := k') (b := 1) rfl (rfl : (1 : Int32) = nI 1)) (by omega)).symm)) (gn gz)))))))))))
        · skip
          refine Ev.aload_n rfl rfl ?_
          refine Ev.getf rfl rfl m0 rfl ?_
          refine Ev.iload rfl rfl ?_
          refine Ev.bipush (v := 29) rfl (by decide) ?_
          refine Ev.iadd rfl ?_
          refine Ev.iload rfl rfl ?_
          refine Ev.iadd rfl ?_
          refine Ev.ialdN (k := 610 + 120 * i + 29 + k') rfl m1 (nq_to (a := 610 + 120 * i + 29 + k') (nq_add (a := 610 + 120 * i + 29) (b := k') (nq_add (a := 610 + 120 * i) (b := 29) rfl (rfl : (29 : Int32) = nI 29)) rfl) (by omega)) ⟨(by omega), by decide⟩ ?_
          rw [(hS.2.2.2.1 k' (by omega)).2.1]
          refine Ev.iload rfl rfl ?_
          refine Ev.ishr rfl ?_
          refine Ev.iconst (v := 1) rfl (by decide) ?_
          refine Ev.iand rfl ?_
          refine Ev.iconst (v := 1) rfl (by decide) ?_
          refine Ev.jne (tgt := 142) rfl (by decide) (fun c109 => ?_) (fun c109 => ?_)
          · skip
            refine Ev.iconst (v := 0) rfl (by decide) ?_
            refine Ev.istore rfl rfl rfl ?_
            refine Ev.iload rfl rfl ?_
            refine Ev.iload rfl rfl ?_
            refine Ev.zeq (tgt := 174) rfl (by decide) (fun c149 => ?_) (fun c149 => absurd (by decide) c149)
            refine Ev.iconst (v := 0) rfl (by decide) ?_
            refine Ev.iadd rfl ?_
            refine Ev.istore rfl rfl rfl ?_
            refine Ev.iinc (d := 1) rfl rfl rfl (by decide) rfl ?_
            refine Ev.goto (tgt := 65) rfl (by decide) ?_
            have hF : (F_m_open_65 T i j st k z) k' z' = z' + (0 : Int32) := by
              unfold F_m_open_65
              rw [if_pos c87]
              rw [if_neg c109]
            rw [hF] at hx'
            exact hx'.fg (gs rfl (gn (gs rfl (gs rfl (gs rfl (gs rfl (gs rfl (gs rfl (gs rfl (gs (congrArg Value.int (show nI (k' + 1) = (nI k') + (1 : Int32) from (nq_to (a := k' + 1) (nq_add (a := k') (b := 1) rfl (rfl : (1 : Int32) = nI 1)) (by omega)).symm)) (gn gz)))))))))))
          · skip
            refine Ev.aload_n rfl rfl ?_
            refine Ev.getf rfl rfl m0 rfl ?_
            refine Ev.iload rfl rfl ?_
            refine Ev.bipush (v := 45) rfl (by decide) ?_
            refine Ev.iadd rfl ?_
            refine Ev.iload rfl rfl ?_
            refine Ev.iadd rfl ?_
            refine Ev.ialdN (k := 610 + 120 * i + 45 + k') rfl m1 (nq_to (a := 610 + 120 * i + 45 + k') (nq_add (a := 610 + 120 * i + 45) (b := k') (nq_add (a := 610 + 120 * i) (b := 45) rfl (rfl : (45 : Int32) = nI 45)) rfl) (by omega)) ⟨(by omega), by decide⟩ ?_
            rw [(hS.2.2.2.1 k' (by omega)).2.2.1]
            refine Ev.aload_n rfl rfl ?_
            refine Ev.getf rfl rfl m0 rfl ?_
            refine Ev.iload rfl rfl ?_
            refine Ev.bipush (v := 8) rfl (by decide) ?_
            refine Ev.iadd rfl ?_
            refine Ev.ialdN (k := 610 + 120 * i + 8) rfl m1 (nq_to (a := 610 + 120 * i + 8) (nq_add (a := 610 + 120 * i) (b := 8) rfl (rfl : (8 : Int32) = nI 8)) (by omega)) ⟨(by omega), by decide⟩ ?_
            rw [show A (610 + 120 * i + 8) = _ from hS.2.2.1 6 (by decide)]
            refine Ev.jlt (tgt := 142) rfl (by decide) (fun c135 => ?_) (fun c135 => ?_)
            · skip
              refine Ev.iconst (v := 0) rfl (by decide) ?_
              refine Ev.istore rfl rfl rfl ?_
              refine Ev.iload rfl rfl ?_
              refine Ev.iload rfl rfl ?_
              refine Ev.zeq (tgt := 174) rfl (by decide) (fun c149 => ?_) (fun c149 => absurd (by decide) c149)
              refine Ev.iconst (v := 0) rfl (by decide) ?_
              refine Ev.iadd rfl ?_
              refine Ev.istore rfl rfl rfl ?_
              refine Ev.iinc (d := 1) rfl rfl rfl (by decide) rfl ?_
              refine Ev.goto (tgt := 65) rfl (by decide) ?_
              have hF : (F_m_open_65 T i j st k z) k' z' = z' + (0 : Int32) := by
                unfold F_m_open_65
                rw [if_pos c87]
                rw [if_pos c109]
                rw [if_pos c135]
              rw [hF] at hx'
              exact hx'.fg (gs rfl (gn (gs rfl (gs rfl (gs rfl (gs rfl (gs rfl (gs rfl (gs rfl (gs (congrArg Value.int (show nI (k' + 1) = (nI k') + (1 : Int32) from (nq_to (a := k' + 1) (nq_add (a := k') (b := 1) rfl (rfl : (1 : Int32) = nI 1)) (by omega)).symm)) (gn gz)))))))))))
            · skip
              refine Ev.iconst (v := 1) rfl (by decide) ?_
              refine Ev.goto (tgt := 143) rfl (by decide) ?_
              refine Ev.istore rfl rfl rfl ?_
              refine Ev.iload rfl rfl ?_
              refine Ev.iload rfl rfl ?_
              refine Ev.zeq (tgt := 174) rfl (by decide) (fun c149 => absurd c149 (by decide)) (fun c149 => ?_)
              refine Ev.aload_n rfl rfl ?_
              refine Ev.iload rfl rfl ?_
              refine Ev.iload_n rfl rfl ?_
              refine Ev.aload_n rfl rfl ?_
              refine Ev.iload rfl rfl ?_
              refine Ev.iload rfl rfl ?_
              refine Ev.cV2 rfl rfl m0 rfl rfl (by decide) ⟨(Nat.le_refl _), (Nat.le_refl _)⟩ (m_step_ok hM hS hs hwS k' (by omega)) ?_
              refine Ev.cV3 rfl rfl m0 rfl rfl (by decide) ⟨(Nat.le_refl _), (Nat.le_refl _)⟩ (m_base_ok hM hS hs _ _ (bd1 hst (hwS.2.2.1 _ (by omega)).1) (bd2 hst (hwS.2.2.1 _ (by omega)).1)) ?_
              refine Ev.zle (tgt := 174) rfl (by decide) (fun c167 => ?_) (fun c167 => ?_)
              · skip
                refine Ev.iconst (v := 0) rfl (by decide) ?_
                refine Ev.iadd rfl ?_
                refine Ev.istore rfl rfl rfl ?_
                refine Ev.iinc (d := 1) rfl rfl rfl (by decide) rfl ?_
                refine Ev.goto (tgt := 65) rfl (by decide) ?_
                have hF : (F_m_open_65 T i j st k z) k' z' = z' + (0 : Int32) := by
                  unfold F_m_open_65
                  rw [if_pos c87]
                  rw [if_pos c109]
                  rw [if_neg c135]
                  rw [if_neg c167]
                rw [hF] at hx'
                exact hx'.fg (gs rfl (gn (gs rfl (gs rfl (gs rfl (gs rfl (gs rfl (gs rfl (gs rfl (gs (congrArg Value.int (show nI (k' + 1) = (nI k') + (1 : Int32) from (nq_to (a := k' + 1) (nq_add (a := k') (b := 1) rfl (rfl : (1 : Int32) = nI 1)) (by omega)).symm)) (gn gz)))))))))))
              · skip
                refine Ev.iconst (v := 1) rfl (by decide) ?_
                refine Ev.goto (tgt := 175) rfl (by decide) ?_
                refine Ev.iadd rfl ?_
                refine Ev.istore rfl rfl rfl ?_
                refine Ev.iinc (d := 1) rfl rfl rfl (by decide) rfl ?_
                refine Ev.goto (tgt := 65) rfl (by decide) ?_
                have hF : (F_m_open_65 T i j st k z) k' z' = z' + (1 : Int32) := by
                  unfold F_m_open_65
                  rw [if_pos c87]
                  rw [if_pos c109]
                  rw [if_neg c135]
                  rw [if_pos c167]
                rw [hF] at hx'
                exact hx'.fg (gs rfl (gn (gs rfl (gs rfl (gs rfl (gs rfl (gs rfl (gs rfl (gs rfl (gs (congrArg Value.int (show nI (k' + 1) = (nI k') + (1 : Int32) from (nq_to (a := k' + 1) (nq_add (a := k') (b := 1) rfl (rfl : (1 : Int32) = nI 1)) (by omega)).symm)) (gn gz)))))))))))
      · skip
        refine Ev.iload rfl rfl ?_
        refine Ev.aload_n rfl rfl ?_
        refine Ev.getf rfl rfl m0 rfl ?_
        refine Ev.iload rfl rfl ?_
        refine Ev.ialdN (k := 610 + 120 * i) rfl m1 (nq_to (a := 610 + 120 * i) rfl (by omega)) ⟨(by omega), by decide⟩ ?_
        rw [hS.1]
        refine Ev.jge (tgt := 184) rfl (by decide) (fun c74 => ?_) (fun c74 => absurd c74 (nI_nlt (Nat.le_refl _) (by omega)))
        refine Ev.iload rfl rfl ?_
        refine Ev.aload_n rfl rfl ?_
        refine Ev.getf rfl rfl m0 rfl ?_
        refine Ev.iload rfl rfl ?_
        refine Ev.iconst (v := 4) rfl (by decide) ?_
        refine Ev.iadd rfl ?_
        refine Ev.ialdN (k := 610 + 120 * i + 4) rfl m1 (nq_to (a := 610 + 120 * i + 4) (nq_add (a := 610 + 120 * i) (b := 4) rfl (rfl : (4 : Int32) = nI 4)) (by omega)) ⟨(by omega), by decide⟩ ?_
        rw [show A (610 + 120 * i + 4) = _ from hS.2.2.1 2 (by decide)]
        refine Ev.jlt (tgt := 216) rfl (by decide) (fun c195 => ?_) (fun c195 => ?_)
        · skip
          refine Ev.iinc (d := 1) rfl rfl rfl (by decide) rfl ?_
          refine Ev.goto (tgt := 37) rfl (by decide) ?_
          have hF : (F_m_open_37 T i j st) k z = (z.1, z.2) := by
            unfold F_m_open_37
            rw [if_neg c53]
            rw [if_pos c195]
          rw [hF] at hx
          exact hx.fg (gs rfl (gn (gs rfl (gs rfl (gs rfl (gs rfl (gs rfl (gs (congrArg Value.int (show nI (k + 1) = (nI k) + (1 : Int32) from (nq_to (a := k + 1) (nq_add (a := k) (b := 1) rfl (rfl : (1 : Int32) = nI 1)) (by omega)).symm)) (gn (gn (gn gz)))))))))))
        · skip
          refine Ev.iload rfl rfl ?_
          refine Ev.iload rfl rfl ?_
          refine Ev.jgt (tgt := 208) rfl (by decide) (fun c202 => ?_) (fun c202 => ?_)
          · skip
            refine Ev.iload rfl rfl ?_
            refine Ev.istore rfl rfl rfl ?_
            refine Ev.iload rfl rfl ?_
            refine Ev.istore rfl rfl rfl ?_
            refine Ev.iinc (d := 1) rfl rfl rfl (by decide) rfl ?_
            refine Ev.goto (tgt := 37) rfl (by decide) ?_
            have hF : (F_m_open_37 T i j st) k z = (nI k, (fo (F_m_open_65 T i j st k z) ((tS T i).1) 0 (0 : Int32))) := by
              unfold F_m_open_37
              rw [if_neg c53]
              rw [if_neg c195]
              rw [if_pos c202]
            rw [hF] at hx
            exact hx.fg (gs rfl (gn (gs rfl (gs rfl (gs rfl (gs rfl (gs rfl (gs (congrArg Value.int (show nI (k + 1) = (nI k) + (1 : Int32) from (nq_to (a := k + 1) (nq_add (a := k) (b := 1) rfl (rfl : (1 : Int32) = nI 1)) (by omega)).symm)) (gn (gn (gn gz)))))))))))
          · skip
            refine Ev.goto (tgt := 216) rfl (by decide) ?_
            refine Ev.iinc (d := 1) rfl rfl rfl (by decide) rfl ?_
            refine Ev.goto (tgt := 37) rfl (by decide) ?_
            have hF : (F_m_open_37 T i j st) k z = (z.1, z.2) := by
              unfold F_m_open_37
              rw [if_neg c53]
              rw [if_neg c195]
              rw [if_neg c202]
            rw [hF] at hx
            exact hx.fg (gs rfl (gn (gs rfl (gs rfl (gs rfl (gs rfl (gs rfl (gs (congrArg Value.int (show nI (k + 1) = (nI k) + (1 : Int32) from (nq_to (a := k + 1) (nq_add (a := k) (b := 1) rfl (rfl : (1 : Int32) = nI 1)) (by omega)).symm)) (gn (gn (gn gz)))))))))))
    · skip
      refine Ev.goto (tgt := 216) rfl (by decide) ?_
      refine Ev.iinc (d := 1) rfl rfl rfl (by decide) rfl ?_
      refine Ev.goto (tgt := 37) rfl (by decide) ?_
      have hF : (F_m_open_37 T i j st) k z = (z.1, z.2) := by
        unfold F_m_open_37
        rw [if_pos c53]
      rw [hF] at hx
      exact hx.fg (gs rfl (gn (gs rfl (gs rfl (gs rfl (gs rfl (gs rfl (gs (congrArg Value.int (show nI (k + 1) = (nI k) + (1 : Int32) from (nq_to (a := k + 1) (nq_add (a := k) (b := 1) rfl (rfl : (1 : Int32) = nI 1)) (by omega)).symm)) (gn (gn (gn gz)))))))))))
  · skip
    refine Ev.iload rfl rfl ?_
    refine Ev.bipush (v := 6) rfl (by decide) ?_
    refine Ev.jge (tgt := 222) rfl (by decide) (fun c41 => ?_) (fun c41 => absurd c41 (nI_nlt (Nat.le_refl _) (by omega)))
    refine Ev.iload rfl rfl ?_
    refine Ev.iret (ty := .int) rfl rfl rfl (Nat.le_refl _) (Nat.le_refl _) ?_
    rw [← hQ]
    refine ⟨congrArg (fun v => some (Value.int v)) (Eq.symm ?_), rfl⟩
    rfl
def F_m_lonely_39 (T : Tol) (i : Nat) (k : Nat) (z : Int32) : Nat → Int32 → Int32 := fun k' z' => if z' = (0 : Int32) then (if (nI k') = (nI k) then (0 : Int32) else (if (K_abs (((tS T i).2.2 0 k') - ((tS T i).2.2 0 k))) < (2 : Int32) then (if (((tS T i).2.2 1 k') &&& ((tS T i).2.2 1 k)) = (0 : Int32) then (0 : Int32) else (1 : Int32)) else (0 : Int32))) else (1 : Int32)
def F_m_lonely_22 (T : Tol) (i : Nat) : Nat → Int32 → Int32 := fun k z => if (fo (F_m_lonely_39 T i k z) ((tS T i).1) 0 (0 : Int32)) = (0 : Int32) then (z ||| ((1 : Int32) <<< ((nI k) &&& 31))) else (z ||| (0 : Int32))
def K_m_lonely (T : Tol) (i : Nat) : Int32 := (fo (F_m_lonely_22 T i) ((tS T i).1) 0 (0 : Int32))
theorem m_lonely_some (hM : isM σ y g A) (hT : mT A 0 T) (hw : wT T) {u : Int32} {i : Nat} (hg : u = nI i ∧ i < tSn T)  : RetV Γ m_M_lonely [(.ref y), .int u] σ (.int (K_m_lonely T i)) := by
  obtain ⟨m0, m1⟩ := id hM
  obtain ⟨rfl, hi⟩ := hg
  have hi3 : i < 3 := by have := hw.2.1; omega
  have hwS := hw.2.2.2.1 i hi
  have hn16 := hwS.1
  have hn5 := hwS.2.1
  have hS := hT.s hi
  have hs : 610 + 120 * i + 120 ≤ 4500 := by omega
  unfold RetV
  generalize hQ : (fun (r : Option Value) (σ' : ex_S) => r = some ((.int (K_m_lonely T i)) : Value) ∧ σ' = σ) = Q
  refine Ret.start pm_259 rfl ?_
  refine Ev.aload_n rfl rfl ?_
  refine Ev.iconst (v := 0) rfl (by decide) ?_
  refine Ev.iload_n rfl rfl ?_
  refine Ev.cV2 rfl rfl m0 rfl rfl (by decide) ⟨(Nat.le_refl _), (Nat.le_refl _)⟩ (m_isOf0_yes hM hT hw hi) ?_
  refine Ev.zne (tgt := 11) rfl (by decide) (fun c6 => ?_) (fun c6 => absurd c6 (by decide))
  refine Ev.iconst (v := 0) rfl (by decide) ?_
  refine Ev.iload_n rfl rfl ?_
  refine Ev.cS2 rfl rfl rfl (by decide) ⟨(Nat.le_refl _), (Nat.le_refl _)⟩ (m_pl0_ok i) ?_
  refine Ev.istore_n rfl rfl rfl ?_
  refine Ev.iconst (v := 0) rfl (by decide) ?_
  refine Ev.istore_n rfl rfl rfl ?_
  refine Ev.iconst (v := 0) rfl (by decide) ?_
  refine Ev.istore rfl rfl rfl ?_
  refine Ev.fg (L := [some (.ref y), none, some (.int (nI (610 + 120 * i))), some (.int (0 : Int32)), some (.int (nI 0)), none, none]) ?_ (gs rfl (gn (gs rfl (gs rfl (gs (congrArg Value.int (rfl : (0 : Int32) = nI 0).symm) (gn (gn gz)))))))
  refine lp (fun (k : Nat) (z : Int32) => Ev Γ 0 0 m_M_lonely 0 0 22 [some (.ref y), none, some (.int (nI (610 + 120 * i))), some (.int z), some (.int (nI k)), none, none] [] σ Q) (F_m_lonely_22 T i) ((tS T i).1) (fun k z hk hx => ?_) ((tS T i).1) 0 (0 : Int32) (by omega) ?_
  · skip
    refine Ev.iload rfl rfl ?_
    refine Ev.aload_n rfl rfl ?_
    refine Ev.getf rfl rfl m0 rfl ?_
    refine Ev.iload_n rfl rfl ?_
    refine Ev.ialdN (k := 610 + 120 * i) rfl m1 (nq_to (a := 610 + 120 * i) rfl (by omega)) ⟨(by omega), by decide⟩ ?_
    rw [hS.1]
    refine Ev.jge (tgt := 147) rfl (by decide) (fun c30 => absurd (nI_lt hk (by omega)) c30) (fun c30 => ?_)
    refine Ev.iconst (v := 0) rfl (by decide) ?_
    refine Ev.istore rfl rfl rfl ?_
    refine Ev.iconst (v := 0) rfl (by decide) ?_
    refine Ev.istore rfl rfl rfl ?_
    refine Ev.fg (L := [some (.ref y), none, some (.int (nI (610 + 120 * i))), some (.int z), some (.int (nI k)), some (.int (0 : Int32)), some (.int (nI 0))]) ?_ (gs rfl (gn (gs rfl (gs rfl (gs rfl (gs rfl (gs (congrArg Value.int (rfl : (0 : Int32) = nI 0).symm) gz)))))))
    refine lp (fun (k' : Nat) (z' : Int32) => Ev Γ 0 0 m_M_lonely 0 0 39 [some (.ref y), none, some (.int (nI (610 + 120 * i))), some (.int z), some (.int (nI k)), some (.int z'), some (.int (nI k'))] [] σ Q) (F_m_lonely_39 T i k z) ((tS T i).1) (fun k' z' hk' hx' => ?_) ((tS T i).1) 0 (0 : Int32) (by omega) ?_
    · skip
      refine Ev.iload rfl rfl ?_
      refine Ev.aload_n rfl rfl ?_
      refine Ev.getf rfl rfl m0 rfl ?_
      refine Ev.iload_n rfl rfl ?_
      refine Ev.ialdN (k := 610 + 120 * i) rfl m1 (nq_to (a := 610 + 120 * i) rfl (by omega)) ⟨(by omega), by decide⟩ ?_
      rw [hS.1]
      refine Ev.jge (tgt := 125) rfl (by decide) (fun c47 => absurd (nI_lt hk' (by omega)) c47) (fun c47 => ?_)
      refine Ev.iload rfl rfl ?_
      refine Ev.zne (tgt := 112) rfl (by decide) (fun c52 => ?_) (fun c52 => ?_)
      · skip
        refine Ev.iconst (v := 1) rfl (by decide) ?_
        refine Ev.goto (tgt := 117) rfl (by decide) ?_
        refine Ev.istore rfl rfl rfl ?_
        refine Ev.iinc (d := 1) rfl rfl rfl (by decide) rfl ?_
        refine Ev.goto (tgt := 39) rfl (by decide) ?_
        have hF : (F_m_lonely_39 T i k z) k' z' = (1 : Int32) := by
          unfold F_m_lonely_39
          rw [if_neg c52]
        rw [hF] at hx'
        exact hx'.fg (gs rfl (gn (gs rfl (gs rfl (gs rfl (gs rfl (gs (congrArg Value.int (show nI (k' + 1) = (nI k') + (1 : Int32) from (nq_to (a := k' + 1) (nq_add (a := k') (b := 1) rfl (rfl : (1 : Int32) = nI 1)) (by omega)).symm)) gz)))))))
      · skip
        refine Ev.iload rfl rfl ?_
        refine Ev.iload rfl rfl ?_
        refine Ev.jeq (tgt := 116) rfl (by decide) (fun c59 => ?_) (fun c59 => ?_)
        · skip
          refine Ev.iconst (v := 0) rfl (by decide) ?_
          refine Ev.istore rfl rfl rfl ?_
          refine Ev.iinc (d := 1) rfl rfl rfl (by decide) rfl ?_
          refine Ev.goto (tgt := 39) rfl (by decide) ?_
          have hF : (F_m_lonely_39 T i k z) k' z' = (0 : Int32) := by
            unfold F_m_lonely_39
            rw [if_pos c52]
            rw [if_pos c59]
          rw [hF] at hx'
          exact hx'.fg (gs rfl (gn (gs rfl (gs rfl (gs rfl (gs rfl (gs (congrArg Value.int (show nI (k' + 1) = (nI k') + (1 : Int32) from (nq_to (a := k' + 1) (nq_add (a := k') (b := 1) rfl (rfl : (1 : Int32) = nI 1)) (by omega)).symm)) gz)))))))
        · skip
          refine Ev.aload_n rfl rfl ?_
          refine Ev.iload_n rfl rfl ?_
          refine Ev.iload rfl rfl ?_
          refine Ev.cV2 rfl rfl m0 rfl rfl (by decide) ⟨(Nat.le_refl _), (Nat.le_refl _)⟩ (m_step_ok hM hS hs hwS k' (by omega)) ?_
          refine Ev.aload_n rfl rfl ?_
          refine Ev.iload_n rfl rfl ?_
          refine Ev.iload rfl rfl ?_
          refine Ev.cV2 rfl rfl m0 rfl rfl (by decide) ⟨(Nat.le_refl _), (Nat.le_refl _)⟩ (m_step_ok hM hS hs hwS k (by omega)) ?_
          refine Ev.isub rfl ?_
          refine Ev.cS1 rfl rfl rfl (by decide) ⟨(Nat.le_refl _), (Nat.le_refl _)⟩ (m_size_ok _) ?_
          refine Ev.iconst (v := 2) rfl (by decide) ?_
          refine Ev.jge (tgt := 116) rfl (by decide) (fun c81 => ?_) (fun c81 => ?_)
          · skip
            refine Ev.iconst (v := 0) rfl (by decide) ?_
            refine Ev.istore rfl rfl rfl ?_
            refine Ev.iinc (d := 1) rfl rfl rfl (by decide) rfl ?_
            refine Ev.goto (tgt := 39) rfl (by decide) ?_
            have hF : (F_m_lonely_39 T i k z) k' z' = (0 : Int32) := by
              unfold F_m_lonely_39
              rw [if_pos c52]
              rw [if_neg c59]
              rw [if_neg c81]
            rw [hF] at hx'
            exact hx'.fg (gs rfl (gn (gs rfl (gs rfl (gs rfl (gs rfl (gs (congrArg Value.int (show nI (k' + 1) = (nI k') + (1 : Int32) from (nq_to (a := k' + 1) (nq_add (a := k') (b := 1) rfl (rfl : (1 : Int32) = nI 1)) (by omega)).symm)) gz)))))))
          · skip
            refine Ev.aload_n rfl rfl ?_
            refine Ev.getf rfl rfl m0 rfl ?_
            refine Ev.iload_n rfl rfl ?_
            refine Ev.bipush (v := 29) rfl (by decide) ?_
            refine Ev.iadd rfl ?_
            refine Ev.iload rfl rfl ?_
            refine Ev.iadd rfl ?_
            refine Ev.ialdN (k := 610 + 120 * i + 29 + k') rfl m1 (nq_to (a := 610 + 120 * i + 29 + k') (nq_add (a := 610 + 120 * i + 29) (b := k') (nq_add (a := 610 + 120 * i) (b := 29) rfl (rfl : (29 : Int32) = nI 29)) rfl) (by omega)) ⟨(by omega), by decide⟩ ?_
            rw [(hS.2.2.2.1 k' (by omega)).2.1]
            refine Ev.aload_n rfl rfl ?_
            refine Ev.getf rfl rfl m0 rfl ?_
            refine Ev.iload_n rfl rfl ?_
            refine Ev.bipush (v := 29) rfl (by decide) ?_
            refine Ev.iadd rfl ?_
            refine Ev.iload rfl rfl ?_
            refine Ev.iadd rfl ?_
            refine Ev.ialdN (k := 610 + 120 * i + 29 + k) rfl m1 (nq_to (a := 610 + 120 * i + 29 + k) (nq_add (a := 610 + 120 * i + 29) (b := k) (nq_add (a := 610 + 120 * i) (b := 29) rfl (rfl : (29 : Int32) = nI 29)) rfl) (by omega)) ⟨(by omega), by decide⟩ ?_
            rw [(hS.2.2.2.1 k (by omega)).2.1]
            refine Ev.iand rfl ?_
            refine Ev.zeq (tgt := 116) rfl (by decide) (fun c109 => ?_) (fun c109 => ?_)
            · skip
              refine Ev.iconst (v := 0) rfl (by decide) ?_
              refine Ev.istore rfl rfl rfl ?_
              refine Ev.iinc (d := 1) rfl rfl rfl (by decide) rfl ?_
              refine Ev.goto (tgt := 39) rfl (by decide) ?_
              have hF : (F_m_lonely_39 T i k z) k' z' = (0 : Int32) := by
                unfold F_m_lonely_39
                rw [if_pos c52]
                rw [if_neg c59]
                rw [if_pos c81]
                rw [if_pos c109]
              rw [hF] at hx'
              exact hx'.fg (gs rfl (gn (gs rfl (gs rfl (gs rfl (gs rfl (gs (congrArg Value.int (show nI (k' + 1) = (nI k') + (1 : Int32) from (nq_to (a := k' + 1) (nq_add (a := k') (b := 1) rfl (rfl : (1 : Int32) = nI 1)) (by omega)).symm)) gz)))))))
            · skip
              refine Ev.iconst (v := 1) rfl (by decide) ?_
              refine Ev.goto (tgt := 117) rfl (by decide) ?_
              refine Ev.istore rfl rfl rfl ?_
              refine Ev.iinc (d := 1) rfl rfl rfl (by decide) rfl ?_
              refine Ev.goto (tgt := 39) rfl (by decide) ?_
              have hF : (F_m_lonely_39 T i k z) k' z' = (1 : Int32) := by
                unfold F_m_lonely_39
                rw [if_pos c52]
                rw [if_neg c59]
                rw [if_pos c81]
                rw [if_neg c109]
              rw [hF] at hx'
              exact hx'.fg (gs rfl (gn (gs rfl (gs rfl (gs rfl (gs rfl (gs (congrArg Value.int (show nI (k' + 1) = (nI k') + (1 : Int32) from (nq_to (a := k' + 1) (nq_add (a := k') (b := 1) rfl (rfl : (1 : Int32) = nI 1)) (by omega)).symm)) gz)))))))
    · skip
      refine Ev.iload rfl rfl ?_
      refine Ev.aload_n rfl rfl ?_
      refine Ev.getf rfl rfl m0 rfl ?_
      refine Ev.iload_n rfl rfl ?_
      refine Ev.ialdN (k := 610 + 120 * i) rfl m1 (nq_to (a := 610 + 120 * i) rfl (by omega)) ⟨(by omega), by decide⟩ ?_
      rw [hS.1]
      refine Ev.jge (tgt := 125) rfl (by decide) (fun c47 => ?_) (fun c47 => absurd c47 (nI_nlt (Nat.le_refl _) (by omega)))
      refine Ev.iload_n rfl rfl ?_
      refine Ev.iload rfl rfl ?_
      refine Ev.zeq (tgt := 135) rfl (by decide) (fun c128 => ?_) (fun c128 => ?_)
      · skip
        refine Ev.iconst (v := 1) rfl (by decide) ?_
        refine Ev.iload rfl rfl ?_
        refine Ev.ishl rfl ?_
        refine Ev.ior rfl ?_
        refine Ev.istore_n rfl rfl rfl ?_
        refine Ev.iinc (d := 1) rfl rfl rfl (by decide) rfl ?_
        refine Ev.goto (tgt := 22) rfl (by decide) ?_
        have hF : (F_m_lonely_22 T i) k z = z ||| ((1 : Int32) <<< ((nI k) &&& 31)) := by
          unfold F_m_lonely_22
          rw [if_pos c128]
        rw [hF] at hx
        exact hx.fg (gs rfl (gn (gs rfl (gs rfl (gs (congrArg Value.int (show nI (k + 1) = (nI k) + (1 : Int32) from (nq_to (a := k + 1) (nq_add (a := k) (b := 1) rfl (rfl : (1 : Int32) = nI 1)) (by omega)).symm)) (gn (gn gz)))))))
      · skip
        refine Ev.iconst (v := 0) rfl (by decide) ?_
        refine Ev.goto (tgt := 139) rfl (by decide) ?_
        refine Ev.ior rfl ?_
        refine Ev.istore_n rfl rfl rfl ?_
        refine Ev.iinc (d := 1) rfl rfl rfl (by decide) rfl ?_
        refine Ev.goto (tgt := 22) rfl (by decide) ?_
        have hF : (F_m_lonely_22 T i) k z = z ||| (0 : Int32) := by
          unfold F_m_lonely_22
          rw [if_neg c128]
        rw [hF] at hx
        exact hx.fg (gs rfl (gn (gs rfl (gs rfl (gs (congrArg Value.int (show nI (k + 1) = (nI k) + (1 : Int32) from (nq_to (a := k + 1) (nq_add (a := k) (b := 1) rfl (rfl : (1 : Int32) = nI 1)) (by omega)).symm)) (gn (gn gz)))))))
  · skip
    refine Ev.iload rfl rfl ?_
    refine Ev.aload_n rfl rfl ?_
    refine Ev.getf rfl rfl m0 rfl ?_
    refine Ev.iload_n rfl rfl ?_
    refine Ev.ialdN (k := 610 + 120 * i) rfl m1 (nq_to (a := 610 + 120 * i) rfl (by omega)) ⟨(by omega), by decide⟩ ?_
    rw [hS.1]
    refine Ev.jge (tgt := 147) rfl (by decide) (fun c30 => ?_) (fun c30 => absurd c30 (nI_nlt (Nat.le_refl _) (by omega)))
    refine Ev.iload_n rfl rfl ?_
    refine Ev.iret (ty := .int) rfl rfl rfl (Nat.le_refl _) (Nat.le_refl _) ?_
    rw [← hQ]
    refine ⟨congrArg (fun v => some (Value.int v)) (Eq.symm ?_), rfl⟩
    rfl
end
end
