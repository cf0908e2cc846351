/-! Printed by sym.py: fees (reference), how far apart (class), what is told of a school. -/
noncomputable section
section
variable {Γ : ex_G} {σ : ex_S} {x q a p y : Nat} {S : Sch} {T : Tol} {P : Pln} {g A : Nat → Int32}
def F_m_payers_5 (S : Sch) (fee : Int32) : Nat → Int32 → Int32 := fun k z => if (S.2.2 2 k) < fee then (z + (0 : Int32)) else (z + (1 : Int32))
def K_m_payers (S : Sch) (fee : Int32) : Int32 := (fo (F_m_payers_5 S fee) (S.1) 0 (0 : Int32))
theorem m_payers_ok (hM : isM σ y g A) {s : Nat} (hS : mS A s S) (hs : s + 120 ≤ 4500) (hwS : wS S) (fee : Int32) : RetV Γ m_M_payers [(.ref y), (.int (nI s)), (.int fee)] σ (.int (K_m_payers S fee)) := by
  obtain ⟨m0, m1⟩ := id hM
  have hn16 := hwS.1
  have hn5 := hwS.2.1
  unfold RetV
  generalize hQ : (fun (r : Option Value) (σ' : ex_S) => r = some ((.int (K_m_payers S fee)) : Value) ∧ σ' = σ) = Q
  refine Ret.start pm_243 rfl ?_
  refine Ev.iconst (v := 0) rfl (by decide) ?_
  refine Ev.istore_n rfl rfl rfl ?_
  refine Ev.iconst (v := 0) rfl (by decide) ?_
  refine Ev.istore rfl rfl rfl ?_
  refine Ev.fg (L := [some (.ref y), some (.int (nI s)), some (.int fee), some (.int (0 : Int32)), some (.int (nI 0))]) ?_ (gs rfl (gs rfl (gs rfl (gs rfl (gs (congrArg Value.int (rfl : (0 : Int32) = nI 0).symm) gz)))))
  refine lp (fun (k : Nat) (z : Int32) => Ev Γ 0 0 m_M_payers 0 0 5 [some (.ref y), some (.int (nI s)), some (.int fee), some (.int z), some (.int (nI k))] [] σ Q) (F_m_payers_5 S fee) (S.1) (fun k z hk hx => ?_) (S.1) 0 (0 : Int32) (by omega) ?_
  · skip
    refine Ev.iload rfl rfl ?_
    refine Ev.aload_n rfl rfl ?_
    refine Ev.getf rfl rfl m0 rfl ?_
    refine Ev.iload_n rfl rfl ?_
    refine Ev.ialdN (k := s) rfl m1 (nq_to (a := s) rfl (by omega)) ⟨(by omega), by decide⟩ ?_
    rw [hS.1]
    refine Ev.jge (tgt := 46) rfl (by decide) (fun c13 => absurd (nI_lt hk (by omega)) c13) (fun c13 => ?_)
    refine Ev.iload_n rfl rfl ?_
    refine Ev.aload_n rfl rfl ?_
    refine Ev.getf rfl rfl m0 rfl ?_
    refine Ev.iload_n rfl rfl ?_
    refine Ev.bipush (v := 45) rfl (by decide) ?_
    refine Ev.iadd rfl ?_
    refine Ev.iload rfl rfl ?_
    refine Ev.iadd rfl ?_
    refine Ev.ialdN (k := s + 45 + k) rfl m1 (nq_to (a := s + 45 + k) (nq_add (a := s + 45) (b := k) (nq_add (a := s) (b := 45) rfl (rfl : (45 : Int32) = nI 45)) rfl) (by omega)) ⟨(by omega), by decide⟩ ?_
    rw [(hS.2.2.2.1 k (by omega)).2.2.1]
    refine Ev.iload_n rfl rfl ?_
    refine Ev.jlt (tgt := 37) rfl (by decide) (fun c30 => ?_) (fun c30 => ?_)
    · skip
      refine Ev.iconst (v := 0) rfl (by decide) ?_
      refine Ev.iadd rfl ?_
      refine Ev.istore_n rfl rfl rfl ?_
      refine Ev.iinc (d := 1) rfl rfl rfl (by decide) rfl ?_
      refine Ev.goto (tgt := 5) rfl (by decide) ?_
      have hF : (F_m_payers_5 S fee) k z = z + (0 : Int32) := by
        unfold F_m_payers_5
        rw [if_pos c30]
      rw [hF] at hx
      exact hx.fg (gs rfl (gs rfl (gs rfl (gs rfl (gs (congrArg Value.int (show nI (k + 1) = (nI k) + (1 : Int32) from (nq_to (a := k + 1) (nq_add (a := k) (b := 1) rfl (rfl : (1 : Int32) = nI 1)) (by omega)).symm)) gz)))))
    · skip
      refine Ev.iconst (v := 1) rfl (by decide) ?_
      refine Ev.goto (tgt := 38) rfl (by decide) ?_
      refine Ev.iadd rfl ?_
      refine Ev.istore_n rfl rfl rfl ?_
      refine Ev.iinc (d := 1) rfl rfl rfl (by decide) rfl ?_
      refine Ev.goto (tgt := 5) rfl (by decide) ?_
      have hF : (F_m_payers_5 S fee) k z = z + (1 : Int32) := by
        unfold F_m_payers_5
        rw [if_neg c30]
      rw [hF] at hx
      exact hx.fg (gs rfl (gs rfl (gs rfl (gs rfl (gs (congrArg Value.int (show nI (k + 1) = (nI k) + (1 : Int32) from (nq_to (a := k + 1) (nq_add (a := k) (b := 1) rfl (rfl : (1 : Int32) = nI 1)) (by omega)).symm)) gz)))))
  · skip
    refine Ev.iload rfl rfl ?_
    refine Ev.aload_n rfl rfl ?_
    refine Ev.getf rfl rfl m0 rfl ?_
    refine Ev.iload_n rfl rfl ?_
    refine Ev.ialdN (k := s) rfl m1 (nq_to (a := s) rfl (by omega)) ⟨(by omega), by decide⟩ ?_
    rw [hS.1]
    refine Ev.jge (tgt := 46) rfl (by decide) (fun c13 => ?_) (fun c13 => absurd c13 (nI_nlt (Nat.le_refl _) (by omega)))
    refine Ev.iload_n rfl rfl ?_
    refine Ev.iret (ty := .int) rfl rfl rfl (Nat.le_refl _) (Nat.le_refl _) ?_
    rw [← hQ]
    refine ⟨congrArg (fun v => some (Value.int v)) (Eq.symm ?_), rfl⟩
    rfl
def F_m_fills_36 (T : Tol) (i : Nat) (b : Int32) : Nat → Int32 → Int32 := fun k z => if b = (0 : Int32) then (if (K_m_payers (tS T i) (nI k)) = (nI ((tS T i).1)) then (nI k) else z) else (if (z * (K_m_payers (tS T i) z)) < ((nI k) * (K_m_payers (tS T i) (nI k))) then (nI k) else z)
def K_m_fills (T : Tol) (i : Nat) (b : Int32) : Int32 := if (nI ((tS T i).1)) = (0 : Int32) then (-1 : Int32) else (fo (F_m_fills_36 T i b) (1000 - 1) 1 (0 : Int32))
theorem m_fills_some (hM : isM σ y g A) (hT : mT A 0 T) (hw : wT T) {u : Int32} {i : Nat} (hg : u = nI i ∧ i < tSn T) {b : Int32} : RetV Γ m_M_fills [(.ref y), .int u, (.int b)] σ (.int (K_m_fills T i b)) := by
  obtain ⟨m0, m1⟩ := id hM
  obtain ⟨rfl, hi⟩ := hg
  have hi3 : i < 3 := by have := hw.2.1; omega
  have hwS := hw.2.2.2.1 i hi
  have hn16 := hwS.1
  have hn5 := hwS.2.1
  have hS := hT.s hi
  have hs : 610 + 120 * i + 120 ≤ 4500 := by omega
  unfold RetV
  generalize hQ : (fun (r : Option Value) (σ' : ex_S) => r = some ((.int (K_m_fills T i b)) : Value) ∧ σ' = σ) = Q
  refine Ret.start pm_244 rfl ?_
  refine Ev.aload_n rfl rfl ?_
  refine Ev.iconst (v := 0) rfl (by decide) ?_
  refine Ev.iload_n rfl rfl ?_
  refine Ev.cV2 rfl rfl m0 rfl rfl (by decide) ⟨(Nat.le_refl _), (Nat.le_refl _)⟩ (m_isOf0_yes hM hT hw hi) ?_
  refine Ev.zeq (tgt := 22) rfl (by decide) (fun c6 => absurd c6 (by decide)) (fun c6 => ?_)
  refine Ev.aload_n rfl rfl ?_
  refine Ev.getf rfl rfl m0 rfl ?_
  refine Ev.iconst (v := 0) rfl (by decide) ?_
  refine Ev.iload_n rfl rfl ?_
  refine Ev.cS2 rfl rfl rfl (by decide) ⟨(Nat.le_refl _), (Nat.le_refl _)⟩ (m_pl0_ok i) ?_
  refine Ev.ialdN (k := 610 + 120 * i) rfl m1 (nq_to (a := 610 + 120 * i) rfl (by omega)) ⟨(by omega), by decide⟩ ?_
  rw [hS.1]
  refine Ev.zne (tgt := 24) rfl (by decide) (fun c19 => ?_) (fun c19 => ?_)
  · skip
    refine Ev.iconst (v := 0) rfl (by decide) ?_
    refine Ev.iload_n rfl rfl ?_
    refine Ev.cS2 rfl rfl rfl (by decide) ⟨(Nat.le_refl _), (Nat.le_refl _)⟩ (m_pl0_ok i) ?_
    refine Ev.istore_n rfl rfl rfl ?_
    refine Ev.iconst (v := 0) rfl (by decide) ?_
    refine Ev.istore rfl rfl rfl ?_
    refine Ev.iconst (v := 1) rfl (by decide) ?_
    refine Ev.istore rfl rfl rfl ?_
    refine Ev.fg (L := [some (.ref y), none, some (.int b), some (.int (nI (610 + 120 * i))), some (.int (0 : Int32)), some (.int (nI 1)), none]) ?_ (gs rfl (gn (gs rfl (gs rfl (gs rfl (gs (congrArg Value.int (rfl : (1 : Int32) = nI 1).symm) (gn gz)))))))
    refine lp (fun (k : Nat) (z : Int32) => Ev Γ 0 0 m_M_fills 0 0 36 [some (.ref y), none, some (.int b), some (.int (nI (610 + 120 * i))), some (.int z), some (.int (nI k)), none] [] σ Q) (F_m_fills_36 T i b) (1000) (fun k z hk hx => ?_) (1000 - 1) 1 (0 : Int32) (by omega) ?_
    · skip
      refine Ev.iload rfl rfl ?_
      refine Ev.sipush (v := 1000) rfl (by decide) ?_
      refine Ev.jge (tgt := 122) rfl (by decide) (fun c41 => absurd (nI_lt hk (by omega)) c41) (fun c41 => ?_)
      refine Ev.iload_n rfl rfl ?_
      refine Ev.zeq (tgt := 79) rfl (by decide) (fun c45 => ?_) (fun c45 => ?_)
      · skip
        refine Ev.aload_n rfl rfl ?_
        refine Ev.iload_n rfl rfl ?_
        refine Ev.iload rfl rfl ?_
        refine Ev.cV2 rfl rfl m0 rfl rfl (by decide) ⟨(Nat.le_refl _), (Nat.le_refl _)⟩ (m_payers_ok hM hS hs hwS _) ?_
        refine Ev.aload_n rfl rfl ?_
        refine Ev.getf rfl rfl m0 rfl ?_
        refine Ev.iload_n rfl rfl ?_
        refine Ev.ialdN (k := 610 + 120 * i) rfl m1 (nq_to (a := 610 + 120 * i) rfl (by omega)) ⟨(by omega), by decide⟩ ?_
        rw [hS.1]
        refine Ev.jne (tgt := 99) rfl (by decide) (fun c92 => ?_) (fun c92 => ?_)
        · skip
          refine Ev.iconst (v := 0) rfl (by decide) ?_
          refine Ev.istore rfl rfl rfl ?_
          refine Ev.iload rfl rfl ?_
          refine Ev.zeq (tgt := 112) rfl (by decide) (fun c104 => ?_) (fun c104 => absurd (by decide) c104)
          refine Ev.iload rfl rfl ?_
          refine Ev.istore rfl rfl rfl ?_
          refine Ev.iinc (d := 1) rfl rfl rfl (by decide) rfl ?_
          refine Ev.goto (tgt := 36) rfl (by decide) ?_
          have hF : (F_m_fills_36 T i b) k z = z := by
            unfold F_m_fills_36
            rw [if_pos c45]
            rw [if_neg c92]
          rw [hF] at hx
          exact hx.fg (gs rfl (gn (gs rfl (gs rfl (gs rfl (gs (congrArg Value.int (show nI (k + 1) = (nI k) + (1 : Int32) from (nq_to (a := k + 1) (nq_add (a := k) (b := 1) rfl (rfl : (1 : Int32) = nI 1)) (by omega)).symm)) (gn gz)))))))
        · skip
          refine Ev.iconst (v := 1) rfl (by decide) ?_
          refine Ev.goto (tgt := 100) rfl (by decide) ?_
          refine Ev.istore rfl rfl rfl ?_
          refine Ev.iload rfl rfl ?_
          refine Ev.zeq (tgt := 112) rfl (by decide) (fun c104 => absurd c104 (by decide)) (fun c104 => ?_)
          refine Ev.iload rfl rfl ?_
          refine Ev.goto (tgt := 114) rfl (by decide) ?_
          refine Ev.istore rfl rfl rfl ?_
          refine Ev.iinc (d := 1) rfl rfl rfl (by decide) rfl ?_
          refine Ev.goto (tgt := 36) rfl (by decide) ?_
          have hF : (F_m_fills_36 T i b) k z = nI k := by
            unfold F_m_fills_36
            rw [if_pos c45]
            rw [if_pos c92]
          rw [hF] at hx
          exact hx.fg (gs rfl (gn (gs rfl (gs rfl (gs rfl (gs (congrArg Value.int (show nI (k + 1) = (nI k) + (1 : Int32) from (nq_to (a := k + 1) (nq_add (a := k) (b := 1) rfl (rfl : (1 : Int32) = nI 1)) (by omega)).symm)) (gn gz)))))))
      · skip
        refine Ev.iload rfl rfl ?_
        refine Ev.aload_n rfl rfl ?_
        refine Ev.iload_n rfl rfl ?_
        refine Ev.iload rfl rfl ?_
        refine Ev.cV2 rfl rfl m0 rfl rfl (by decide) ⟨(Nat.le_refl _), (Nat.le_refl _)⟩ (m_payers_ok hM hS hs hwS _) ?_
        refine Ev.imul rfl ?_
        refine Ev.iload rfl rfl ?_
        refine Ev.aload_n rfl rfl ?_
        refine Ev.iload_n rfl rfl ?_
        refine Ev.iload rfl rfl ?_
        refine Ev.cV2 rfl rfl m0 rfl rfl (by decide) ⟨(Nat.le_refl _), (Nat.le_refl _)⟩ (m_payers_ok hM hS hs hwS _) ?_
        refine Ev.imul rfl ?_
        refine Ev.jle (tgt := 75) rfl (by decide) (fun c68 => ?_) (fun c68 => ?_)
        · skip
          refine Ev.iconst (v := 0) rfl (by decide) ?_
          refine Ev.goto (tgt := 100) rfl (by decide) ?_
          refine Ev.istore rfl rfl rfl ?_
          refine Ev.iload rfl rfl ?_
          refine Ev.zeq (tgt := 112) rfl (by decide) (fun c104 => ?_) (fun c104 => absurd (by decide) c104)
          refine Ev.iload rfl rfl ?_
          refine Ev.istore rfl rfl rfl ?_
          refine Ev.iinc (d := 1) rfl rfl rfl (by decide) rfl ?_
          refine Ev.goto (tgt := 36) rfl (by decide) ?_
          have hF : (F_m_fills_36 T i b) k z = z := by
            unfold F_m_fills_36
            rw [if_neg c45]
            rw [if_neg c68]
          rw [hF] at hx
          exact hx.fg (gs rfl (gn (gs rfl (gs rfl (gs rfl (gs (congrArg Value.int (show nI (k + 1) = (nI k) + (1 : Int32) from (nq_to (a := k + 1) (nq_add (a := k) (b := 1) rfl (rfl : (1 : Int32) = nI 1)) (by omega)).symm)) (gn gz)))))))
        · skip
          refine Ev.iconst (v := 1) rfl (by decide) ?_
          refine Ev.goto (tgt := 100) rfl (by decide) ?_
          refine Ev.istore rfl rfl rfl ?_
          refine Ev.iload rfl rfl ?_
          refine Ev.zeq (tgt := 112) rfl (by decide) (fun c104 => absurd c104 (by decide)) (fun c104 => ?_)
          refine Ev.iload rfl rfl ?_
          refine Ev.goto (tgt := 114) rfl (by decide) ?_
          refine Ev.istore rfl rfl rfl ?_
          refine Ev.iinc (d := 1) rfl rfl rfl (by decide) rfl ?_
          refine Ev.goto (tgt := 36) rfl (by decide) ?_
          have hF : (F_m_fills_36 T i b) k z = nI k := by
            unfold F_m_fills_36
            rw [if_neg c45]
            rw [if_pos c68]
          rw [hF] at hx
          exact hx.fg (gs rfl (gn (gs rfl (gs rfl (gs rfl (gs (congrArg Value.int (show nI (k + 1) = (nI k) + (1 : Int32) from (nq_to (a := k + 1) (nq_add (a := k) (b := 1) rfl (rfl : (1 : Int32) = nI 1)) (by omega)).symm)) (gn gz)))))))
    · skip
      refine Ev.iload rfl rfl ?_
      refine Ev.sipush (v := 1000) rfl (by decide) ?_
      refine Ev.jge (tgt := 122) rfl (by decide) (fun c41 => ?_) (fun c41 => absurd c41 (nI_nlt (Nat.le_refl _) (by omega)))
      refine Ev.iload rfl rfl ?_
      refine Ev.iret (ty := .int) rfl rfl rfl (Nat.le_refl _) (Nat.le_refl _) ?_
      rw [← hQ]
      refine ⟨congrArg (fun v => some (Value.int v)) (Eq.symm ?_), rfl⟩
      unfold K_m_fills
      rw [if_neg c19]
  · skip
    refine Ev.iconst (v := (-1)) rfl (by decide) ?_
    refine Ev.iret (ty := .int) rfl rfl rfl (Nat.le_refl _) (Nat.le_refl _) ?_
    rw [← hQ]
    refine ⟨congrArg (fun v => some (Value.int v)) (Eq.symm ?_), rfl⟩
    unfold K_m_fills
    rw [if_pos c19]
def K_ntz (v : Int32) : Int32 := if (0 : Int32) < ((v ^^^ (-1 : Int32)) &&& (v - (1 : Int32))) then (if (65536 : Int32) < ((v ^^^ (-1 : Int32)) &&& (v - (1 : Int32))) then (if (256 : Int32) < ((((v ^^^ (-1 : Int32)) &&& (v - (1 : Int32))).toUInt32 >>> ((16 : Int32).toUInt32 &&& Int32.toUInt32 31)).toInt32) then (if (16 : Int32) < ((((((v ^^^ (-1 : Int32)) &&& (v - (1 : Int32))).toUInt32 >>> ((16 : Int32).toUInt32 &&& Int32.toUInt32 31)).toInt32).toUInt32 >>> ((8 : Int32).toUInt32 &&& Int32.toUInt32 31)).toInt32) then (if (4 : Int32) < ((((((((v ^^^ (-1 : Int32)) &&& (v - (1 : Int32))).toUInt32 >>> ((16 : Int32).toUInt32 &&& Int32.toUInt32 31)).toInt32).toUInt32 >>> ((8 : Int32).toUInt32 &&& Int32.toUInt32 31)).toInt32).toUInt32 >>> ((4 : Int32).toUInt32 &&& Int32.toUInt32 31)).toInt32) then ((((((1 : Int32) + (16 : Int32)) + (8 : Int32)) + (4 : Int32)) + (2 : Int32)) + ((((((((((((v ^^^ (-1 : Int32)) &&& (v - (1 : Int32))).toUInt32 >>> ((16 : Int32).toUInt32 &&& Int32.toUInt32 31)).toInt32).toUInt32 >>> ((8 : Int32).toUInt32 &&& Int32.toUInt32 31)).toInt32).toUInt32 >>> ((4 : Int32).toUInt32 &&& Int32.toUInt32 31)).toInt32).toUInt32 >>> ((2 : Int32).toUInt32 &&& Int32.toUInt32 31)).toInt32).toUInt32 >>> ((1 : Int32).toUInt32 &&& Int32.toUInt32 31)).toInt32)) else (((((1 : Int32) + (16 : Int32)) + (8 : Int32)) + (4 : Int32)) + ((((((((((v ^^^ (-1 : Int32)) &&& (v - (1 : Int32))).toUInt32 >>> ((16 : Int32).toUInt32 &&& Int32.toUInt32 31)).toInt32).toUInt32 >>> ((8 : Int32).toUInt32 &&& Int32.toUInt32 31)).toInt32).toUInt32 >>> ((4 : Int32).toUInt32 &&& Int32.toUInt32 31)).toInt32).toUInt32 >>> ((1 : Int32).toUInt32 &&& Int32.toUInt32 31)).toInt32))) else (if (4 : Int32) < ((((((v ^^^ (-1 : Int32)) &&& (v - (1 : Int32))).toUInt32 >>> ((16 : Int32).toUInt32 &&& Int32.toUInt32 31)).toInt32).toUInt32 >>> ((8 : Int32).toUInt32 &&& Int32.toUInt32 31)).toInt32) then (((((1 : Int32) + (16 : Int32)) + (8 : Int32)) + (2 : Int32)) + ((((((((((v ^^^ (-1 : Int32)) &&& (v - (1 : Int32))).toUInt32 >>> ((16 : Int32).toUInt32 &&& Int32.toUInt32 31)).toInt32).toUInt32 >>> ((8 : Int32).toUInt32 &&& Int32.toUInt32 31)).toInt32).toUInt32 >>> ((2 : Int32).toUInt32 &&& Int32.toUInt32 31)).toInt32).toUInt32 >>> ((1 : Int32).toUInt32 &&& Int32.toUInt32 31)).toInt32)) else ((((1 : Int32) + (16 : Int32)) + (8 : Int32)) + ((((((((v ^^^ (-1 : Int32)) &&& (v - (1 : Int32))).toUInt32 >>> ((16 : Int32).toUInt32 &&& Int32.toUInt32 31)).toInt32).toUInt32 >>> ((8 : Int32).toUInt32 &&& Int32.toUInt32 31)).toInt32).toUInt32 >>> ((1 : Int32).toUInt32 &&& Int32.toUInt32 31)).toInt32)))) else (if (16 : Int32) < ((((v ^^^ (-1 : Int32)) &&& (v - (1 : Int32))).toUInt32 >>> ((16 : Int32).toUInt32 &&& Int32.toUInt32 31)).toInt32) then (if (4 : Int32) < ((((((v ^^^ (-1 : Int32)) &&& (v - (1 : Int32))).toUInt32 >>> ((16 : Int32).toUInt32 &&& Int32.toUInt32 31)).toInt32).toUInt32 >>> ((4 : Int32).toUInt32 &&& Int32.toUInt32 31)).toInt32) then (((((1 : Int32) + (16 : Int32)) + (4 : Int32)) + (2 : Int32)) + ((((((((((v ^^^ (-1 : Int32)) &&& (v - (1 : Int32))).toUInt32 >>> ((16 : Int32).toUInt32 &&& Int32.toUInt32 31)).toInt32).toUInt32 >>> ((4 : Int32).toUInt32 &&& Int32.toUInt32 31)).toInt32).toUInt32 >>> ((2 : Int32).toUInt32 &&& Int32.toUInt32 31)).toInt32).toUInt32 >>> ((1 : Int32).toUInt32 &&& Int32.toUInt32 31)).toInt32)) else ((((1 : Int32) + (16 : Int32)) + (4 : Int32)) + ((((((((v ^^^ (-1 : Int32)) &&& (v - (1 : Int32))).toUInt32 >>> ((16 : Int32).toUInt32 &&& Int32.toUInt32 31)).toInt32).toUInt32 >>> ((4 : Int32).toUInt32 &&& Int32.toUInt32 31)).toInt32).toUInt32 >>> ((1 : Int32).toUInt32 &&& Int32.toUInt32 31)).toInt32))) else (if (4 : Int32) < ((((v ^^^ (-1 : Int32)) &&& (v - (1 : Int32))).toUInt32 >>> ((16 : Int32).toUInt32 &&& Int32.toUInt32 31)).toInt32) then ((((1 : Int32) + (16 : Int32)) + (2 : Int32)) + ((((((((v ^^^ (-1 : Int32)) &&& (v - (1 : Int32))).toUInt32 >>> ((16 : Int32).toUInt32 &&& Int32.toUInt32 31)).toInt32).toUInt32 >>> ((2 : Int32).toUInt32 &&& Int32.toUInt32 31)).toInt32).toUInt32 >>> ((1 : Int32).toUInt32 &&& Int32.toUInt32 31)).toInt32)) else (((1 : Int32) + (16 : Int32)) + ((((((v ^^^ (-1 : Int32)) &&& (v - (1 : Int32))).toUInt32 >>> ((16 : Int32).toUInt32 &&& Int32.toUInt32 31)).toInt32).toUInt32 >>> ((1 : Int32).toUInt32 &&& Int32.toUInt32 31)).toInt32))))) else (if (256 : Int32) < ((v ^^^ (-1 : Int32)) &&& (v - (1 : Int32))) then (if (16 : Int32) < ((((v ^^^ (-1 : Int32)) &&& (v - (1 : Int32))).toUInt32 >>> ((8 : Int32).toUInt32 &&& Int32.toUInt32 31)).toInt32) then (if (4 : Int32) < ((((((v ^^^ (-1 : Int32)) &&& (v - (1 : Int32))).toUInt32 >>> ((8 : Int32).toUInt32 &&& Int32.toUInt32 31)).toInt32).toUInt32 >>> ((4 : Int32).toUInt32 &&& Int32.toUInt32 31)).toInt32) then (((((1 : Int32) + (8 : Int32)) + (4 : Int32)) + (2 : Int32)) + ((((((((((v ^^^ (-1 : Int32)) &&& (v - (1 : Int32))).toUInt32 >>> ((8 : Int32).toUInt32 &&& Int32.toUInt32 31)).toInt32).toUInt32 >>> ((4 : Int32).toUInt32 &&& Int32.toUInt32 31)).toInt32).toUInt32 >>> ((2 : Int32).toUInt32 &&& Int32.toUInt32 31)).toInt32).toUInt32 >>> ((1 : Int32).toUInt32 &&& Int32.toUInt32 31)).toInt32)) else ((((1 : Int32) + (8 : Int32)) + (4 : Int32)) + ((((((((v ^^^ (-1 : Int32)) &&& (v - (1 : Int32))).toUInt32 >>> ((8 : Int32).toUInt32 &&& Int32.toUInt32 31)).toInt32).toUInt32 >>> ((4 : Int32).toUInt32 &&& Int32.toUInt32 31)).toInt32).toUInt32 >>> ((1 : Int32).toUInt32 &&& Int32.toUInt32 31)).toInt32))) else (if (4 : Int32) < ((((v ^^^ (-1 : Int32)) &&& (v - (1 : Int32))).toUInt32 >>> ((8 : Int32).toUInt32 &&& Int32.toUInt32 31)).toInt32) then ((((1 : Int32) + (8 : Int32)) + (2 : Int32)) + ((((((((v ^^^ (-1 : Int32)) &&& (v - (1 : Int32))).toUInt32 >>> ((8 : Int32).toUInt32 &&& Int32.toUInt32 31)).toInt32).toUInt32 >>> ((2 : Int32).toUInt32 &&& Int32.toUInt32 31)).toInt32).toUInt32 >>> ((1 : Int32).toUInt32 &&& Int32.toUInt32 31)).toInt32)) else (((1 : Int32) + (8 : Int32)) + ((((((v ^^^ (-1 : Int32)) &&& (v - (1 : Int32))).toUInt32 >>> ((8 : Int32).toUInt32 &&& Int32.toUInt32 31)).toInt32).toUInt32 >>> ((1 : Int32).toUInt32 &&& Int32.toUInt32 31)).toInt32)))) else (if (16 : Int32) < ((v ^^^ (-1 : Int32)) &&& (v - (1 : Int32))) then (if (4 : Int32) < ((((v ^^^ (-1 : Int32)) &&& (v - (1 : Int32))).toUInt32 >>> ((4 : Int32).toUInt32 &&& Int32.toUInt32 31)).toInt32) then ((((1 : Int32) + (4 : Int32)) + (2 : Int32)) + ((((((((v ^^^ (-1 : Int32)) &&& (v - (1 : Int32))).toUInt32 >>> ((4 : Int32).toUInt32 &&& Int32.toUInt32 31)).toInt32).toUInt32 >>> ((2 : Int32).toUInt32 &&& Int32.toUInt32 31)).toInt32).toUInt32 >>> ((1 : Int32).toUInt32 &&& Int32.toUInt32 31)).toInt32)) else (((1 : Int32) + (4 : Int32)) + ((((((v ^^^ (-1 : Int32)) &&& (v - (1 : Int32))).toUInt32 >>> ((4 : Int32).toUInt32 &&& Int32.toUInt32 31)).toInt32).toUInt32 >>> ((1 : Int32).toUInt32 &&& Int32.toUInt32 31)).toInt32))) else (if (4 : Int32) < ((v ^^^ (-1 : Int32)) &&& (v - (1 : Int32))) then (((1 : Int32) + (2 : Int32)) + ((((((v ^^^ (-1 : Int32)) &&& (v - (1 : Int32))).toUInt32 >>> ((2 : Int32).toUInt32 &&& Int32.toUInt32 31)).toInt32).toUInt32 >>> ((1 : Int32).toUInt32 &&& Int32.toUInt32 31)).toInt32)) else ((1 : Int32) + ((((v ^^^ (-1 : Int32)) &&& (v - (1 : Int32))).toUInt32 >>> ((1 : Int32).toUInt32 &&& Int32.toUInt32 31)).toInt32)))))) else (((v ^^^ (-1 : Int32)) &&& (v - (1 : Int32))) &&& (32 : Int32))
theorem ntz_ok (v : Int32) : RetV Γ m_Integer_numberOfTrailingZeros [(.int v)] σ (.int (K_ntz v)) := by
  unfold RetV
  generalize hQ : (fun (r : Option Value) (σ' : ex_S) => r = some ((.int (K_ntz v)) : Value) ∧ σ' = σ) = Q
  refine Ret.start pm_278 rfl ?_
  refine Ev.iload_n rfl rfl ?_
  refine Ev.iconst (v := (-1)) rfl (by decide) ?_
  refine Ev.ixor rfl ?_
  refine Ev.iload_n rfl rfl ?_
  refine Ev.iconst (v := 1) rfl (by decide) ?_
  refine Ev.isub rfl ?_
  refine Ev.iand rfl ?_
  refine Ev.istore_n rfl rfl rfl ?_
  refine Ev.iload_n rfl rfl ?_
  refine Ev.zgt (tgt := 17) rfl (by decide) (fun c9 => ?_) (fun c9 => ?_)
  · skip
    refine Ev.iconst (v := 1) rfl (by decide) ?_
    refine Ev.istore_n rfl rfl rfl ?_
    refine Ev.iload_n rfl rfl ?_
    refine Ev.ldcw (v := (65536)) rfl rfl ?_
    refine Ev.jle (tgt := 34) rfl (by decide) (fun c23 => ?_) (fun c23 => ?_)
    · skip
      refine Ev.iload_n rfl rfl ?_
      refine Ev.sipush (v := 256) rfl (by decide) ?_
      refine Ev.jle (tgt := 49) rfl (by decide) (fun c38 => ?_) (fun c38 => ?_)
      · skip
        refine Ev.iload_n rfl rfl ?_
        refine Ev.bipush (v := 16) rfl (by decide) ?_
        refine Ev.jle (tgt := 62) rfl (by decide) (fun c52 => ?_) (fun c52 => ?_)
        · skip
          refine Ev.iload_n rfl rfl ?_
          refine Ev.iconst (v := 4) rfl (by decide) ?_
          refine Ev.jle (tgt := 74) rfl (by decide) (fun c64 => ?_) (fun c64 => ?_)
          · skip
            refine Ev.iload_n rfl rfl ?_
            refine Ev.iload_n rfl rfl ?_
            refine Ev.iconst (v := 1) rfl (by decide) ?_
            refine Ev.iushr rfl ?_
            refine Ev.iadd rfl ?_
            refine Ev.iret (ty := .int) rfl rfl rfl (Nat.le_refl _) (Nat.le_refl _) ?_
            rw [← hQ]
            refine ⟨congrArg (fun v => some (Value.int v)) (Eq.symm ?_), rfl⟩
            unfold K_ntz
            rw [if_pos c9]
            rw [if_neg c23]
            rw [if_neg c38]
            rw [if_neg c52]
            rw [if_neg c64]
          · skip
            refine Ev.iinc (d := 2) rfl rfl rfl (by decide) rfl ?_
            refine Ev.iload_n rfl rfl ?_
            refine Ev.iconst (v := 2) rfl (by decide) ?_
            refine Ev.iushr rfl ?_
            refine Ev.istore_n rfl rfl rfl ?_
            refine Ev.iload_n rfl rfl ?_
            refine Ev.iload_n rfl rfl ?_
            refine Ev.iconst (v := 1) rfl (by decide) ?_
            refine Ev.iushr rfl ?_
            refine Ev.iadd rfl ?_
            refine Ev.iret (ty := .int) rfl rfl rfl (Nat.le_refl _) (Nat.le_refl _) ?_
            rw [← hQ]
            refine ⟨congrArg (fun v => some (Value.int v)) (Eq.symm ?_), rfl⟩
            unfold K_ntz
            rw [if_pos c9]
            rw [if_neg c23]
            rw [if_neg c38]
            rw [if_neg c52]
            rw [if_pos c64]
        · skip
          refine Ev.iinc (d := 4) rfl rfl rfl (by decide) rfl ?_
          refine Ev.iload_n rfl rfl ?_
          refine Ev.iconst (v := 4) rfl (by decide) ?_
          refine Ev.iushr rfl ?_
          refine Ev.istore_n rfl rfl rfl ?_
          refine Ev.iload_n rfl rfl ?_
          refine Ev.iconst (v := 4) rfl (by decide) ?_
          refine Ev.jle (tgt := 74) rfl (by decide) (fun c64 => ?_) (fun c64 => ?_)
          · skip
            refine Ev.iload_n rfl rfl ?_
            refine Ev.iload_n rfl rfl ?_
            refine Ev.iconst (v := 1) rfl (by decide) ?_
            refine Ev.iushr rfl ?_
            refine Ev.iadd rfl ?_
            refine Ev.iret (ty := .int) rfl rfl rfl (Nat.le_refl _) (Nat.le_refl _) ?_
            rw [← hQ]
            refine ⟨congrArg (fun v => some (Value.int v)) (Eq.symm ?_), rfl⟩
            unfold K_ntz
            rw [if_pos c9]
            rw [if_neg c23]
            rw [if_neg c38]
            rw [if_pos c52]
            rw [if_neg c64]
          · skip
            refine Ev.iinc (d := 2) rfl rfl rfl (by decide) rfl ?_
            refine Ev.iload_n rfl rfl ?_
            refine Ev.iconst (v := 2) rfl (by decide) ?_
            refine Ev.iushr rfl ?_
            refine Ev.istore_n rfl rfl rfl ?_
            refine Ev.iload_n rfl rfl ?_
            refine Ev.iload_n rfl rfl ?_
            refine Ev.iconst (v := 1) rfl (by decide) ?_
            refine Ev.iushr rfl ?_
            refine Ev.iadd rfl ?_
            refine Ev.iret (ty := .int) rfl rfl rfl (Nat.le_refl _) (Nat.le_refl _) ?_
            rw [← hQ]
            refine ⟨congrArg (fun v => some (Value.int v)) (Eq.symm ?_), rfl⟩
            unfold K_ntz
            rw [if_pos c9]
            rw [if_neg c23]
            rw [if_neg c38]
            rw [if_pos c52]
            rw [if_pos c64]
      · skip
        refine Ev.iinc (d := 8) rfl rfl rfl (by decide) rfl ?_
        refine Ev.iload_n rfl rfl ?_
        refine Ev.bipush (v := 8) rfl (by decide) ?_
        refine Ev.iushr rfl ?_
        refine Ev.istore_n rfl rfl rfl ?_
        refine Ev.iload_n rfl rfl ?_
        refine Ev.bipush (v := 16) rfl (by decide) ?_
        refine Ev.jle (tgt := 62) rfl (by decide) (fun c52 => ?_) (fun c52 => ?_)
        · skip
          refine Ev.iload_n rfl rfl ?_
          refine Ev.iconst (v := 4) rfl (by decide) ?_
          refine Ev.jle (tgt := 74) rfl (by decide) (fun c64 => ?_) (fun c64 => ?_)
          · skip
            refine Ev.iload_n rfl rfl ?_
            refine Ev.iload_n rfl rfl ?_
            refine Ev.iconst (v := 1) rfl (by decide) ?_
            refine Ev.iushr rfl ?_
            refine Ev.iadd rfl ?_
            refine Ev.iret (ty := .int) rfl rfl rfl (Nat.le_refl _) (Nat.le_refl _) ?_
            rw [← hQ]
            refine ⟨congrArg (fun v => some (Value.int v)) (Eq.symm ?_), rfl⟩
            unfold K_ntz
            rw [if_pos c9]
            rw [if_neg c23]
            rw [if_pos c38]
            rw [if_neg c52]
            rw [if_neg c64]
          · skip
            refine Ev.iinc (d := 2) rfl rfl rfl (by decide) rfl ?_
            refine Ev.iload_n rfl rfl ?_
            refine Ev.iconst (v := 2) rfl (by decide) ?_
            refine Ev.iushr rfl ?_
            refine Ev.istore_n rfl rfl rfl ?_
            refine Ev.iload_n rfl rfl ?_
            refine Ev.iload_n rfl rfl ?_
            refine Ev.iconst (v := 1) rfl (by decide) ?_
            refine Ev.iushr rfl ?_
            refine Ev.iadd rfl ?_
            refine Ev.iret (ty := .int) rfl rfl rfl (Nat.le_refl _) (Nat.le_refl _) ?_
            rw [← hQ]
            refine ⟨congrArg (fun v => some (Value.int v)) (Eq.symm ?_), rfl⟩
            unfold K_ntz
            rw [if_pos c9]
            rw [if_neg c23]
            rw [if_pos c38]
            rw [if_neg c52]
            rw [if_pos c64]
        · skip
          refine Ev.iinc (d := 4) rfl rfl rfl (by decide) rfl ?_
          refine Ev.iload_n rfl rfl ?_
          refine Ev.iconst (v := 4) rfl (by decide) ?_
          refine Ev.iushr rfl ?_
          refine Ev.istore_n rfl rfl rfl ?_
          refine Ev.iload_n rfl rfl ?_
          refine Ev.iconst (v := 4) rfl (by decide) ?_
          refine Ev.jle (tgt := 74) rfl (by decide) (fun c64 => ?_) (fun c64 => ?_)
          · skip
            refine Ev.iload_n rfl rfl ?_
            refine Ev.iload_n rfl rfl ?_
            refine Ev.iconst (v := 1) rfl (by decide) ?_
            refine Ev.iushr rfl ?_
            refine Ev.iadd rfl ?_
            refine Ev.iret (ty := .int) rfl rfl rfl (Nat.le_refl _) (Nat.le_refl _) ?_
            rw [← hQ]
            refine ⟨congrArg (fun v => some (Value.int v)) (Eq.symm ?_), rfl⟩
            unfold K_ntz
            rw [if_pos c9]
            rw [if_neg c23]
            rw [if_pos c38]
            rw [if_pos c52]
            rw [if_neg c64]
          · skip
            refine Ev.iinc (d := 2) rfl rfl rfl (by decide) rfl ?_
            refine Ev.iload_n rfl rfl ?_
            refine Ev.iconst (v := 2) rfl (by decide) ?_
            refine Ev.iushr rfl ?_
            refine Ev.istore_n rfl rfl rfl ?_
            refine Ev.iload_n rfl rfl ?_
            refine Ev.iload_n rfl rfl ?_
            refine Ev.iconst (v := 1) rfl (by decide) ?_
            refine Ev.iushr rfl ?_
            refine Ev.iadd rfl ?_
            refine Ev.iret (ty := .int) rfl rfl rfl (Nat.le_refl _) (Nat.le_refl _) ?_
            rw [← hQ]
            refine ⟨congrArg (fun v => some (Value.int v)) (Eq.symm ?_), rfl⟩
            unfold K_ntz
            rw [if_pos c9]
            rw [if_neg c23]
            rw [if_pos c38]
            rw [if_pos c52]
            rw [if_pos c64]
    · skip
      refine Ev.iinc (d := 16) rfl rfl rfl (by decide) rfl ?_
      refine Ev.iload_n rfl rfl ?_
      refine Ev.bipush (v := 16) rfl (by decide) ?_
      refine Ev.iushr rfl ?_
      refine Ev.istore_n rfl rfl rfl ?_
      refine Ev.iload_n rfl rfl ?_
      refine Ev.sipush (v := 256) rfl (by decide) ?_
      refine Ev.jle (tgt := 49) rfl (by decide) (fun c38 => ?_) (fun c38 => ?_)
      · skip
        refine Ev.iload_n rfl rfl ?_
        refine Ev.bipush (v := 16) rfl (by decide) ?_
        refine Ev.jle (tgt := 62) rfl (by decide) (fun c52 => ?_) (fun c52 => ?_)
        · skip
          refine Ev.iload_n rfl rfl ?_
          refine Ev.iconst (v := 4) rfl (by decide) ?_
          refine Ev.jle (tgt := 74) rfl (by decide) (fun c64 => ?_) (fun c64 => ?_)
          · skip
            refine Ev.iload_n rfl rfl ?_
            refine Ev.iload_n rfl rfl ?_
            refine Ev.iconst (v := 1) rfl (by decide) ?_
            refine Ev.iushr rfl ?_
            refine Ev.iadd rfl ?_
            refine Ev.iret (ty := .int) rfl rfl rfl (Nat.le_refl _) (Nat.le_refl _) ?_
            rw [← hQ]
            refine ⟨congrArg (fun v => some (Value.int v)) (Eq.symm ?_), rfl⟩
            unfold K_ntz
            rw [if_pos c9]
            rw [if_pos c23]
            rw [if_neg c38]
            rw [if_neg c52]
            rw [if_neg c64]
          · skip
            refine Ev.iinc (d := 2) rfl rfl rfl (by decide) rfl ?_
            refine Ev.iload_n rfl rfl ?_
            refine Ev.iconst (v := 2) rfl (by decide) ?_
            refine Ev.iushr rfl ?_
            refine Ev.istore_n rfl rfl rfl ?_
            refine Ev.iload_n rfl rfl ?_
            refine Ev.iload_n rfl rfl ?_
            refine Ev.iconst (v := 1) rfl (by decide) ?_
            refine Ev.iushr rfl ?_
            refine Ev.iadd rfl ?_
            refine Ev.iret (ty := .int) rfl rfl rfl (Nat.le_refl _) (Nat.le_refl _) ?_
            rw [← hQ]
            refine ⟨congrArg (fun v => some (Value.int v)) (Eq.symm ?_), rfl⟩
            unfold K_ntz
            rw [if_pos c9]
            rw [if_pos c23]
            rw [if_neg c38]
            rw [if_neg c52]
            rw [if_pos c64]
        · skip
          refine Ev.iinc (d := 4) rfl rfl rfl (by decide) rfl ?_
          refine Ev.iload_n rfl rfl ?_
          refine Ev.iconst (v := 4) rfl (by decide) ?_
          refine Ev.iushr rfl ?_
          refine Ev.istore_n rfl rfl rfl ?_
          refine Ev.iload_n rfl rfl ?_
          refine Ev.iconst (v := 4) rfl (by decide) ?_
          refine Ev.jle (tgt := 74) rfl (by decide) (fun c64 => ?_) (fun c64 => ?_)
          · skip
            refine Ev.iload_n rfl rfl ?_
            refine Ev.iload_n rfl rfl ?_
            refine Ev.iconst (v := 1) rfl (by decide) ?_
            refine Ev.iushr rfl ?_
            refine Ev.iadd rfl ?_
            refine Ev.iret (ty := .int) rfl rfl rfl (Nat.le_refl _) (Nat.le_refl _) ?_
            rw [← hQ]
            refine ⟨congrArg (fun v => some (Value.int v)) (Eq.symm ?_), rfl⟩
            unfold K_ntz
            rw [if_pos c9]
            rw [if_pos c23]
            rw [if_neg c38]
            rw [if_pos c52]
            rw [if_neg c64]
          · skip
            refine Ev.iinc (d := 2) rfl rfl rfl (by decide) rfl ?_
            refine Ev.iload_n rfl rfl ?_
            refine Ev.iconst (v := 2) rfl (by decide) ?_
            refine Ev.iushr rfl ?_
            refine Ev.istore_n rfl rfl rfl ?_
            refine Ev.iload_n rfl rfl ?_
            refine Ev.iload_n rfl rfl ?_
            refine Ev.iconst (v := 1) rfl (by decide) ?_
            refine Ev.iushr rfl ?_
            refine Ev.iadd rfl ?_
            refine Ev.iret (ty := .int) rfl rfl rfl (Nat.le_refl _) (Nat.le_refl _) ?_
            rw [← hQ]
            refine ⟨congrArg (fun v => some (Value.int v)) (Eq.symm ?_), rfl⟩
            unfold K_ntz
            rw [if_pos c9]
            rw [if_pos c23]
            rw [if_neg c38]
            rw [if_pos c52]
            rw [if_pos c64]
      · skip
        refine Ev.iinc (d := 8) rfl rfl rfl (by decide) rfl ?_
        refine Ev.iload_n rfl rfl ?_
        refine Ev.bipush (v := 8) rfl (by decide) ?_
        refine Ev.iushr rfl ?_
        refine Ev.istore_n rfl rfl rfl ?_
        refine Ev.iload_n rfl rfl ?_
        refine Ev.bipush (v := 16) rfl (by decide) ?_
        refine Ev.jle (tgt := 62) rfl (by decide) (fun c52 => ?_) (fun c52 => ?_)
        · skip
          refine Ev.iload_n rfl rfl ?_
          refine Ev.iconst (v := 4) rfl (by decide) ?_
          refine Ev.jle (tgt := 74) rfl (by decide) (fun c64 => ?_) (fun c64 => ?_)
          · skip
            refine Ev.iload_n rfl rfl ?_
            refine Ev.iload_n rfl rfl ?_
            refine Ev.iconst (v := 1) rfl (by decide) ?_
            refine Ev.iushr rfl ?_
            refine Ev.iadd rfl ?_
            refine Ev.iret (ty := .int) rfl rfl rfl (Nat.le_refl _) (Nat.le_refl _) ?_
            rw [← hQ]
            refine ⟨congrArg (fun v => some (Value.int v)) (Eq.symm ?_), rfl⟩
            unfold K_ntz
            rw [if_pos c9]
            rw [if_pos c23]
            rw [if_pos c38]
            rw [if_neg c52]
            rw [if_neg c64]
          · skip
            refine Ev.iinc (d := 2) rfl rfl rfl (by decide) rfl ?_
            refine Ev.iload_n rfl rfl ?_
            refine Ev.iconst (v := 2) rfl (by decide) ?_
            refine Ev.iushr rfl ?_
            refine Ev.istore_n rfl rfl rfl ?_
            refine Ev.iload_n rfl rfl ?_
            refine Ev.iload_n rfl rfl ?_
            refine Ev.iconst (v := 1) rfl (by decide) ?_
            refine Ev.iushr rfl ?_
            refine Ev.iadd rfl ?_
            refine Ev.iret (ty := .int) rfl rfl rfl (Nat.le_refl _) (Nat.le_refl _) ?_
            rw [← hQ]
            refine ⟨congrArg (fun v => some (Value.int v)) (Eq.symm ?_), rfl⟩
            unfold K_ntz
            rw [if_pos c9]
            rw [if_pos c23]
            rw [if_pos c38]
            rw [if_neg c52]
            rw [if_pos c64]
        · skip
          refine Ev.iinc (d := 4) rfl rfl rfl (by decide) rfl ?_
          refine Ev.iload_n rfl rfl ?_
          refine Ev.iconst (v := 4) rfl (by decide) ?_
          refine Ev.iushr rfl ?_
          refine Ev.istore_n rfl rfl rfl ?_
          refine Ev.iload_n rfl rfl ?_
          refine Ev.iconst (v := 4) rfl (by decide) ?_
          refine Ev.jle (tgt := 74) rfl (by decide) (fun c64 => ?_) (fun c64 => ?_)
          · skip
            refine Ev.iload_n rfl rfl ?_
            refine Ev.iload_n rfl rfl ?_
            refine Ev.iconst (v := 1) rfl (by decide) ?_
            refine Ev.iushr rfl ?_
            refine Ev.iadd rfl ?_
            refine Ev.iret (ty := .int) rfl rfl rfl (Nat.le_refl _) (Nat.le_refl _) ?_
            rw [← hQ]
            refine ⟨congrArg (fun v => some (Value.int v)) (Eq.symm ?_), rfl⟩
            unfold K_ntz
            rw [if_pos c9]
            rw [if_pos c23]
            rw [if_pos c38]
            rw [if_pos c52]
            rw [if_neg c64]
          · skip
            refine Ev.iinc (d := 2) rfl rfl rfl (by decide) rfl ?_
            refine Ev.iload_n rfl rfl ?_
            refine Ev.iconst (v := 2) rfl (by decide) ?_
            refine Ev.iushr rfl ?_
            refine Ev.istore_n rfl rfl rfl ?_
            refine Ev.iload_n rfl rfl ?_
            refine Ev.iload_n rfl rfl ?_
            refine Ev.iconst (v := 1) rfl (by decide) ?_
            refine Ev.iushr rfl ?_
            refine Ev.iadd rfl ?_
            refine Ev.iret (ty := .int) rfl rfl rfl (Nat.le_refl _) (Nat.le_refl _) ?_
            rw [← hQ]
            refine ⟨congrArg (fun v => some (Value.int v)) (Eq.symm ?_), rfl⟩
            unfold K_ntz
            rw [if_pos c9]
            rw [if_pos c23]
            rw [if_pos c38]
            rw [if_pos c52]
            rw [if_pos c64]
  · skip
    refine Ev.iload_n rfl rfl ?_
    refine Ev.bipush (v := 32) rfl (by decide) ?_
    refine Ev.iand rfl ?_
    refine Ev.iret (ty := .int) rfl rfl rfl (Nat.le_refl _) (Nat.le_refl _) ?_
    rw [← hQ]
    refine ⟨congrArg (fun v => some (Value.int v)) (Eq.symm ?_), rfl⟩
    unfold K_ntz
    rw [if_neg c9]
def K_nlz (v : Int32) : Int32 := if (0 : Int32) < v then (if v < (65536 : Int32) then (if v < (256 : Int32) then (if v < (16 : Int32) then (if v < (4 : Int32) then ((31 : Int32) - ((v.toUInt32 >>> ((1 : Int32).toUInt32 &&& Int32.toUInt32 31)).toInt32)) else (((31 : Int32) + (-2 : Int32)) - ((((v.toUInt32 >>> ((2 : Int32).toUInt32 &&& Int32.toUInt32 31)).toInt32).toUInt32 >>> ((1 : Int32).toUInt32 &&& Int32.toUInt32 31)).toInt32))) else (if ((v.toUInt32 >>> ((4 : Int32).toUInt32 &&& Int32.toUInt32 31)).toInt32) < (4 : Int32) then (((31 : Int32) + (-4 : Int32)) - ((((v.toUInt32 >>> ((4 : Int32).toUInt32 &&& Int32.toUInt32 31)).toInt32).toUInt32 >>> ((1 : Int32).toUInt32 &&& Int32.toUInt32 31)).toInt32)) else ((((31 : Int32) + (-4 : Int32)) + (-2 : Int32)) - ((((((v.toUInt32 >>> ((4 : Int32).toUInt32 &&& Int32.toUInt32 31)).toInt32).toUInt32 >>> ((2 : Int32).toUInt32 &&& Int32.toUInt32 31)).toInt32).toUInt32 >>> ((1 : Int32).toUInt32 &&& Int32.toUInt32 31)).toInt32)))) else (if ((v.toUInt32 >>> ((8 : Int32).toUInt32 &&& Int32.toUInt32 31)).toInt32) < (16 : Int32) then (if ((v.toUInt32 >>> ((8 : Int32).toUInt32 &&& Int32.toUInt32 31)).toInt32) < (4 : Int32) then (((31 : Int32) + (-8 : Int32)) - ((((v.toUInt32 >>> ((8 : Int32).toUInt32 &&& Int32.toUInt32 31)).toInt32).toUInt32 >>> ((1 : Int32).toUInt32 &&& Int32.toUInt32 31)).toInt32)) else ((((31 : Int32) + (-8 : Int32)) + (-2 : Int32)) - ((((((v.toUInt32 >>> ((8 : Int32).toUInt32 &&& Int32.toUInt32 31)).toInt32).toUInt32 >>> ((2 : Int32).toUInt32 &&& Int32.toUInt32 31)).toInt32).toUInt32 >>> ((1 : Int32).toUInt32 &&& Int32.toUInt32 31)).toInt32))) else (if ((((v.toUInt32 >>> ((8 : Int32).toUInt32 &&& Int32.toUInt32 31)).toInt32).toUInt32 >>> ((4 : Int32).toUInt32 &&& Int32.toUInt32 31)).toInt32) < (4 : Int32) then ((((31 : Int32) + (-8 : Int32)) + (-4 : Int32)) - ((((((v.toUInt32 >>> ((8 : Int32).toUInt32 &&& Int32.toUInt32 31)).toInt32).toUInt32 >>> ((4 : Int32).toUInt32 &&& Int32.toUInt32 31)).toInt32).toUInt32 >>> ((1 : Int32).toUInt32 &&& Int32.toUInt32 31)).toInt32)) else (((((31 : Int32) + (-8 : Int32)) + (-4 : Int32)) + (-2 : Int32)) - ((((((((v.toUInt32 >>> ((8 : Int32).toUInt32 &&& Int32.toUInt32 31)).toInt32).toUInt32 >>> ((4 : Int32).toUInt32 &&& Int32.toUInt32 31)).toInt32).toUInt32 >>> ((2 : Int32).toUInt32 &&& Int32.toUInt32 31)).toInt32).toUInt32 >>> ((1 : Int32).toUInt32 &&& Int32.toUInt32 31)).toInt32))))) else (if ((v.toUInt32 >>> ((16 : Int32).toUInt32 &&& Int32.toUInt32 31)).toInt32) < (256 : Int32) then (if ((v.toUInt32 >>> ((16 : Int32).toUInt32 &&& Int32.toUInt32 31)).toInt32) < (16 : Int32) then (if ((v.toUInt32 >>> ((16 : Int32).toUInt32 &&& Int32.toUInt32 31)).toInt32) < (4 : Int32) then (((31 : Int32) + (-16 : Int32)) - ((((v.toUInt32 >>> ((16 : Int32).toUInt32 &&& Int32.toUInt32 31)).toInt32).toUInt32 >>> ((1 : Int32).toUInt32 &&& Int32.toUInt32 31)).toInt32)) else ((((31 : Int32) + (-16 : Int32)) + (-2 : Int32)) - ((((((v.toUInt32 >>> ((16 : Int32).toUInt32 &&& Int32.toUInt32 31)).toInt32).toUInt32 >>> ((2 : Int32).toUInt32 &&& Int32.toUInt32 31)).toInt32).toUInt32 >>> ((1 : Int32).toUInt32 &&& Int32.toUInt32 31)).toInt32))) else (if ((((v.toUInt32 >>> ((16 : Int32).toUInt32 &&& Int32.toUInt32 31)).toInt32).toUInt32 >>> ((4 : Int32).toUInt32 &&& Int32.toUInt32 31)).toInt32) < (4 : Int32) then ((((31 : Int32) + (-16 : Int32)) + (-4 : Int32)) - ((((((v.toUInt32 >>> ((16 : Int32).toUInt32 &&& Int32.toUInt32 31)).toInt32).toUInt32 >>> ((4 : Int32).toUInt32 &&& Int32.toUInt32 31)).toInt32).toUInt32 >>> ((1 : Int32).toUInt32 &&& Int32.toUInt32 31)).toInt32)) else (((((31 : Int32) + (-16 : Int32)) + (-4 : Int32)) + (-2 : Int32)) - ((((((((v.toUInt32 >>> ((16 : Int32).toUInt32 &&& Int32.toUInt32 31)).toInt32).toUInt32 >>> ((4 : Int32).toUInt32 &&& Int32.toUInt32 31)).toInt32).toUInt32 >>> ((2 : Int32).toUInt32 &&& Int32.toUInt32 31)).toInt32).toUInt32 >>> ((1 : Int32).toUInt32 &&& Int32.toUInt32 31)).toInt32)))) else (if ((((v.toUInt32 >>> ((16 : Int32).toUInt32 &&& Int32.toUInt32 31)).toInt32).toUInt32 >>> ((8 : Int32).toUInt32 &&& Int32.toUInt32 31)).toInt32) < (16 : Int32) then (if ((((v.toUInt32 >>> ((16 : Int32).toUInt32 &&& Int32.toUInt32 31)).toInt32).toUInt32 >>> ((8 : Int32).toUInt32 &&& Int32.toUInt32 31)).toInt32) < (4 : Int32) then ((((31 : Int32) + (-16 : Int32)) + (-8 : Int32)) - ((((((v.toUInt32 >>> ((16 : Int32).toUInt32 &&& Int32.toUInt32 31)).toInt32).toUInt32 >>> ((8 : Int32).toUInt32 &&& Int32.toUInt32 31)).toInt32).toUInt32 >>> ((1 : Int32).toUInt32 &&& Int32.toUInt32 31)).toInt32)) else (((((31 : Int32) + (-16 : Int32)) + (-8 : Int32)) + (-2 : Int32)) - ((((((((v.toUInt32 >>> ((16 : Int32).toUInt32 &&& Int32.toUInt32 31)).toInt32).toUInt32 >>> ((8 : Int32).toUInt32 &&& Int32.toUInt32 31)).toInt32).toUInt32 >>> ((2 : Int32).toUInt32 &&& Int32.toUInt32 31)).toInt32).toUInt32 >>> ((1 : Int32).toUInt32 &&& Int32.toUInt32 31)).toInt32))) else (if ((((((v.toUInt32 >>> ((16 : Int32).toUInt32 &&& Int32.toUInt32 31)).toInt32).toUInt32 >>> ((8 : Int32).toUInt32 &&& Int32.toUInt32 31)).toInt32).toUInt32 >>> ((4 : Int32).toUInt32 &&& Int32.toUInt32 31)).toInt32) < (4 : Int32) then (((((31 : Int32) + (-16 : Int32)) + (-8 : Int32)) + (-4 : Int32)) - ((((((((v.toUInt32 >>> ((16 : Int32).toUInt32 &&& Int32.toUInt32 31)).toInt32).toUInt32 >>> ((8 : Int32).toUInt32 &&& Int32.toUInt32 31)).toInt32).toUInt32 >>> ((4 : Int32).toUInt32 &&& Int32.toUInt32 31)).toInt32).toUInt32 >>> ((1 : Int32).toUInt32 &&& Int32.toUInt32 31)).toInt32)) else ((((((31 : Int32) + (-16 : Int32)) + (-8 : Int32)) + (-4 : Int32)) + (-2 : Int32)) - ((((((((((v.toUInt32 >>> ((16 : Int32).toUInt32 &&& Int32.toUInt32 31)).toInt32).toUInt32 >>> ((8 : Int32).toUInt32 &&& Int32.toUInt32 31)).toInt32).toUInt32 >>> ((4 : Int32).toUInt32 &&& Int32.toUInt32 31)).toInt32).toUInt32 >>> ((2 : Int32).toUInt32 &&& Int32.toUInt32 31)).toInt32).toUInt32 >>> ((1 : Int32).toUInt32 &&& Int32.toUInt32 31)).toInt32)))))) else (if v = (0 : Int32) then (32 : Int32) else (0 : Int32))
theorem nlz_ok (v : Int32) : RetV Γ m_Integer_numberOfLeadingZeros [(.int v)] σ (.int (K_nlz v)) := by
  unfold RetV
  generalize hQ : (fun (r : Option Value) (σ' : ex_S) => r = some ((.int (K_nlz v)) : Value) ∧ σ' = σ) = Q
  refine Ret.start pm_277 rfl ?_
  refine Ev.iload_n rfl rfl ?_
  refine Ev.zgt (tgt := 15) rfl (by decide) (fun c1 => ?_) (fun c1 => ?_)
  · skip
    refine Ev.bipush (v := 31) rfl (by decide) ?_
    refine Ev.istore_n rfl rfl rfl ?_
    refine Ev.iload_n rfl rfl ?_
    refine Ev.ldcw (v := (65536)) rfl rfl ?_
    refine Ev.jlt (tgt := 33) rfl (by decide) (fun c22 => ?_) (fun c22 => ?_)
    · skip
      refine Ev.iload_n rfl rfl ?_
      refine Ev.sipush (v := 256) rfl (by decide) ?_
      refine Ev.jlt (tgt := 48) rfl (by decide) (fun c37 => ?_) (fun c37 => ?_)
      · skip
        refine Ev.iload_n rfl rfl ?_
        refine Ev.bipush (v := 16) rfl (by decide) ?_
        refine Ev.jlt (tgt := 61) rfl (by decide) (fun c51 => ?_) (fun c51 => ?_)
        · skip
          refine Ev.iload_n rfl rfl ?_
          refine Ev.iconst (v := 4) rfl (by decide) ?_
          refine Ev.jlt (tgt := 73) rfl (by decide) (fun c63 => ?_) (fun c63 => ?_)
          · skip
            refine Ev.iload_n rfl rfl ?_
            refine Ev.iload_n rfl rfl ?_
            refine Ev.iconst (v := 1) rfl (by decide) ?_
            refine Ev.iushr rfl ?_
            refine Ev.isub rfl ?_
            refine Ev.iret (ty := .int) rfl rfl rfl (Nat.le_refl _) (Nat.le_refl _) ?_
            rw [← hQ]
            refine ⟨congrArg (fun v => some (Value.int v)) (Eq.symm ?_), rfl⟩
            unfold K_nlz
            rw [if_pos c1]
            rw [if_pos c22]
            rw [if_pos c37]
            rw [if_pos c51]
            rw [if_pos c63]
          · skip
            refine Ev.iinc (d := (-2)) rfl rfl rfl (by decide) rfl ?_
            refine Ev.iload_n rfl rfl ?_
            refine Ev.iconst (v := 2) rfl (by decide) ?_
            refine Ev.iushr rfl ?_
            refine Ev.istore_n rfl rfl rfl ?_
            refine Ev.iload_n rfl rfl ?_
            refine Ev.iload_n rfl rfl ?_
            refine Ev.iconst (v := 1) rfl (by decide) ?_
            refine Ev.iushr rfl ?_
            refine Ev.isub rfl ?_
            refine Ev.iret (ty := .int) rfl rfl rfl (Nat.le_refl _) (Nat.le_refl _) ?_
            rw [← hQ]
            refine ⟨congrArg (fun v => some (Value.int v)) (Eq.symm ?_), rfl⟩
            unfold K_nlz
            rw [if_pos c1]
            rw [if_pos c22]
            rw [if_pos c37]
            rw [if_pos c51]
            rw [if_neg c63]
        · skip
          refine Ev.iinc (d := (-4)) rfl rfl rfl (by decide) rfl ?_
          refine Ev.iload_n rfl rfl ?_
          refine Ev.iconst (v := 4) rfl (by decide) ?_
          refine Ev.iushr rfl ?_
          refine Ev.istore_n rfl rfl rfl ?_
          refine Ev.iload_n rfl rfl ?_
          refine Ev.iconst (v := 4) rfl (by decide) ?_
          refine Ev.jlt (tgt := 73) rfl (by decide) (fun c63 => ?_) (fun c63 => ?_)
          · skip
            refine Ev.iload_n rfl rfl ?_
            refine Ev.iload_n rfl rfl ?_
            refine Ev.iconst (v := 1) rfl (by decide) ?_
            refine Ev.iushr rfl ?_
            refine Ev.isub rfl ?_
            refine Ev.iret (ty := .int) rfl rfl rfl (Nat.le_refl _) (Nat.le_refl _) ?_
            rw [← hQ]
            refine ⟨congrArg (fun v => some (Value.int v)) (Eq.symm ?_), rfl⟩
            unfold K_nlz
            rw [if_pos c1]
            rw [if_pos c22]
            rw [if_pos c37]
            rw [if_neg c51]
            rw [if_pos c63]
          · skip
            refine Ev.iinc (d := (-2)) rfl rfl rfl (by decide) rfl ?_
            refine Ev.iload_n rfl rfl ?_
            refine Ev.iconst (v := 2) rfl (by decide) ?_
            refine Ev.iushr rfl ?_
            refine Ev.istore_n rfl rfl rfl ?_
            refine Ev.iload_n rfl rfl ?_
            refine Ev.iload_n rfl rfl ?_
            refine Ev.iconst (v := 1) rfl (by decide) ?_
            refine Ev.iushr rfl ?_
            refine Ev.isub rfl ?_
            refine Ev.iret (ty := .int) rfl rfl rfl (Nat.le_refl _) (Nat.le_refl _) ?_
            rw [← hQ]
            refine ⟨congrArg (fun v => some (Value.int v)) (Eq.symm ?_), rfl⟩
            unfold K_nlz
            rw [if_pos c1]
            rw [if_pos c22]
            rw [if_pos c37]
            rw [if_neg c51]
            rw [if_neg c63]
      · skip
        refine Ev.iinc (d := (-8)) rfl rfl rfl (by decide) rfl ?_
        refine Ev.iload_n rfl rfl ?_
        refine Ev.bipush (v := 8) rfl (by decide) ?_
        refine Ev.iushr rfl ?_
        refine Ev.istore_n rfl rfl rfl ?_
        refine Ev.iload_n rfl rfl ?_
        refine Ev.bipush (v := 16) rfl (by decide) ?_
        refine Ev.jlt (tgt := 61) rfl (by decide) (fun c51 => ?_) (fun c51 => ?_)
        · skip
          refine Ev.iload_n rfl rfl ?_
          refine Ev.iconst (v := 4) rfl (by decide) ?_
          refine Ev.jlt (tgt := 73) rfl (by decide) (fun c63 => ?_) (fun c63 => ?_)
          · skip
            refine Ev.iload_n rfl rfl ?_
            refine Ev.iload_n rfl rfl ?_
            refine Ev.iconst (v := 1) rfl (by decide) ?_
            refine Ev.iushr rfl ?_
            refine Ev.isub rfl ?_
            refine Ev.iret (ty := .int) rfl rfl rfl (Nat.le_refl _) (Nat.le_refl _) ?_
            rw [← hQ]
            refine ⟨congrArg (fun v => some (Value.int v)) (Eq.symm ?_), rfl⟩
            unfold K_nlz
            rw [if_pos c1]
            rw [if_pos c22]
            rw [if_neg c37]
            rw [if_pos c51]
            rw [if_pos c63]
          · skip
            refine Ev.iinc (d := (-2)) rfl rfl rfl (by decide) rfl ?_
            refine Ev.iload_n rfl rfl ?_
            refine Ev.iconst (v := 2) rfl (by decide) ?_
            refine Ev.iushr rfl ?_
            refine Ev.istore_n rfl rfl rfl ?_
            refine Ev.iload_n rfl rfl ?_
            refine Ev.iload_n rfl rfl ?_
            refine Ev.iconst (v := 1) rfl (by decide) ?_
            refine Ev.iushr rfl ?_
            refine Ev.isub rfl ?_
            refine Ev.iret (ty := .int) rfl rfl rfl (Nat.le_refl _) (Nat.le_refl _) ?_
            rw [← hQ]
            refine ⟨congrArg (fun v => some (Value.int v)) (Eq.symm ?_), rfl⟩
            unfold K_nlz
            rw [if_pos c1]
            rw [if_pos c22]
            rw [if_neg c37]
            rw [if_pos c51]
            rw [if_neg c63]
        · skip
          refine Ev.iinc (d := (-4)) rfl rfl rfl (by decide) rfl ?_
          refine Ev.iload_n rfl rfl ?_
          refine Ev.iconst (v := 4) rfl (by decide) ?_
          refine Ev.iushr rfl ?_
          refine Ev.istore_n rfl rfl rfl ?_
          refine Ev.iload_n rfl rfl ?_
          refine Ev.iconst (v := 4) rfl (by decide) ?_
          refine Ev.jlt (tgt := 73) rfl (by decide) (fun c63 => ?_) (fun c63 => ?_)
          · skip
            refine Ev.iload_n rfl rfl ?_
            refine Ev.iload_n rfl rfl ?_
            refine Ev.iconst (v := 1) rfl (by decide) ?_
            refine Ev.iushr rfl ?_
            refine Ev.isub rfl ?_
            refine Ev.iret (ty := .int) rfl rfl rfl (Nat.le_refl _) (Nat.le_refl _) ?_
            rw [← hQ]
            refine ⟨congrArg (fun v => some (Value.int v)) (Eq.symm ?_), rfl⟩
            unfold K_nlz
            rw [if_pos c1]
            rw [if_pos c22]
            rw [if_neg c37]
            rw [if_neg c51]
            rw [if_pos c63]
          · skip
            refine Ev.iinc (d := (-2)) rfl rfl rfl (by decide) rfl ?_
            refine Ev.iload_n rfl rfl ?_
            refine Ev.iconst (v := 2) rfl (by decide) ?_
            refine Ev.iushr rfl ?_
            refine Ev.istore_n rfl rfl rfl ?_
            refine Ev.iload_n rfl rfl ?_
            refine Ev.iload_n rfl rfl ?_
            refine Ev.iconst (v := 1) rfl (by decide) ?_
            refine Ev.iushr rfl ?_
            refine Ev.isub rfl ?_
            refine Ev.iret (ty := .int) rfl rfl rfl (Nat.le_refl _) (Nat.le_refl _) ?_
            rw [← hQ]
            refine ⟨congrArg (fun v => some (Value.int v)) (Eq.symm ?_), rfl⟩
            unfold K_nlz
            rw [if_pos c1]
            rw [if_pos c22]
            rw [if_neg c37]
            rw [if_neg c51]
            rw [if_neg c63]
    · skip
      refine Ev.iinc (d := (-16)) rfl rfl rfl (by decide) rfl ?_
      refine Ev.iload_n rfl rfl ?_
      refine Ev.bipush (v := 16) rfl (by decide) ?_
      refine Ev.iushr rfl ?_
      refine Ev.istore_n rfl rfl rfl ?_
      refine Ev.iload_n rfl rfl ?_
      refine Ev.sipush (v := 256) rfl (by decide) ?_
      refine Ev.jlt (tgt := 48) rfl (by decide) (fun c37 => ?_) (fun c37 => ?_)
      · skip
        refine Ev.iload_n rfl rfl ?_
        refine Ev.bipush (v := 16) rfl (by decide) ?_
        refine Ev.jlt (tgt := 61) rfl (by decide) (fun c51 => ?_) (fun c51 => ?_)
        · skip
          refine Ev.iload_n rfl rfl ?_
          refine Ev.iconst (v := 4) rfl (by decide) ?_
          refine Ev.jlt (tgt := 73) rfl (by decide) (fun c63 => ?_) (fun c63 => ?_)
          · skip
            refine Ev.iload_n rfl rfl ?_
            refine Ev.iload_n rfl rfl ?_
            refine Ev.iconst (v := 1) rfl (by decide) ?_
            refine Ev.iushr rfl ?_
            refine Ev.isub rfl ?_
            refine Ev.iret (ty := .int) rfl rfl rfl (Nat.le_refl _) (Nat.le_refl _) ?_
            rw [← hQ]
            refine ⟨congrArg (fun v => some (Value.int v)) (Eq.symm ?_), rfl⟩
            unfold K_nlz
            rw [if_pos c1]
            rw [if_neg c22]
            rw [if_pos c37]
            rw [if_pos c51]
            rw [if_pos c63]
          · skip
            refine Ev.iinc (d := (-2)) rfl rfl rfl (by decide) rfl ?_
            refine Ev.iload_n rfl rfl ?_
            refine Ev.iconst (v := 2) rfl (by decide) ?_
            refine Ev.iushr rfl ?_
            refine Ev.istore_n rfl rfl rfl ?_
            refine Ev.iload_n rfl rfl ?_
            refine Ev.iload_n rfl rfl ?_
            refine Ev.iconst (v := 1) rfl (by decide) ?_
            refine Ev.iushr rfl ?_
            refine Ev.isub rfl ?_
            refine Ev.iret (ty := .int) rfl rfl rfl (Nat.le_refl _) (Nat.le_refl _) ?_
            rw [← hQ]
            refine ⟨congrArg (fun v => some (Value.int v)) (Eq.symm ?_), rfl⟩
            unfold K_nlz
            rw [if_pos c1]
            rw [if_neg c22]
            rw [if_pos c37]
            rw [if_pos c51]
            rw [if_neg c63]
        · skip
          refine Ev.iinc (d := (-4)) rfl rfl rfl (by decide) rfl ?_
          refine Ev.iload_n rfl rfl ?_
          refine Ev.iconst (v := 4) rfl (by decide) ?_
          refine Ev.iushr rfl ?_
          refine Ev.istore_n rfl rfl rfl ?_
          refine Ev.iload_n rfl rfl ?_
          refine Ev.iconst (v := 4) rfl (by decide) ?_
          refine Ev.jlt (tgt := 73) rfl (by decide) (fun c63 => ?_) (fun c63 => ?_)
          · skip
            refine Ev.iload_n rfl rfl ?_
            refine Ev.iload_n rfl rfl ?_
            refine Ev.iconst (v := 1) rfl (by decide) ?_
            refine Ev.iushr rfl ?_
            refine Ev.isub rfl ?_
            refine Ev.iret (ty := .int) rfl rfl rfl (Nat.le_refl _) (Nat.le_refl _) ?_
            rw [← hQ]
            refine ⟨congrArg (fun v => some (Value.int v)) (Eq.symm ?_), rfl⟩
            unfold K_nlz
            rw [if_pos c1]
            rw [if_neg c22]
            rw [if_pos c37]
            rw [if_neg c51]
            rw [if_pos c63]
          · skip
            refine Ev.iinc (d := (-2)) rfl rfl rfl (by decide) rfl ?_
            refine Ev.iload_n rfl rfl ?_
            refine Ev.iconst (v := 2) rfl (by decide) ?_
            refine Ev.iushr rfl ?_
            refine Ev.istore_n rfl rfl rfl ?_
            refine Ev.iload_n rfl rfl ?_
            refine Ev.iload_n rfl rfl ?_
            refine Ev.iconst (v := 1) rfl (by decide) ?_
            refine Ev.iushr rfl ?_
            refine Ev.isub rfl ?_
            refine Ev.iret (ty := .int) rfl rfl rfl (Nat.le_refl _) (Nat.le_refl _) ?_
            rw [← hQ]
            refine ⟨congrArg (fun v => some (Value.int v)) (Eq.symm ?_), rfl⟩
            unfold K_nlz
            rw [if_pos c1]
            rw [if_neg c22]
            rw [if_pos c37]
            rw [if_neg c51]
            rw [if_neg c63]
      · skip
        refine Ev.iinc (d := (-8)) rfl rfl rfl (by decide) rfl ?_
        refine Ev.iload_n rfl rfl ?_
        refine Ev.bipush (v := 8) rfl (by decide) ?_
        refine Ev.iushr rfl ?_
        refine Ev.istore_n rfl rfl rfl ?_
        refine Ev.iload_n rfl rfl ?_
        refine Ev.bipush (v := 16) rfl (by decide) ?_
        refine Ev.jlt (tgt := 61) rfl (by decide) (fun c51 => ?_) (fun c51 => ?_)
        · skip
          refine Ev.iload_n rfl rfl ?_
          refine Ev.iconst (v := 4) rfl (by decide) ?_
          refine Ev.jlt (tgt := 73) rfl (by decide) (fun c63 => ?_) (fun c63 => ?_)
          · skip
            refine Ev.iload_n rfl rfl ?_
            refine Ev.iload_n rfl rfl ?_
            refine Ev.iconst (v := 1) rfl (by decide) ?_
            refine Ev.iushr rfl ?_
            refine Ev.isub rfl ?_
            refine Ev.iret (ty := .int) rfl rfl rfl (Nat.le_refl _) (Nat.le_refl _) ?_
            rw [← hQ]
            refine ⟨congrArg (fun v => some (Value.int v)) (Eq.symm ?_), rfl⟩
            unfold K_nlz
            rw [if_pos c1]
            rw [if_neg c22]
            rw [if_neg c37]
            rw [if_pos c51]
            rw [if_pos c63]
          · skip
            refine Ev.iinc (d := (-2)) rfl rfl rfl (by decide) rfl ?_
            refine Ev.iload_n rfl rfl ?_
            refine Ev.iconst (v := 2) rfl (by decide) ?_
            refine Ev.iushr rfl ?_
            refine Ev.istore_n rfl rfl rfl ?_
            refine Ev.iload_n rfl rfl ?_
            refine Ev.iload_n rfl rfl ?_
            refine Ev.iconst (v := 1) rfl (by decide) ?_
            refine Ev.iushr rfl ?_
            refine Ev.isub rfl ?_
            refine Ev.iret (ty := .int) rfl rfl rfl (Nat.le_refl _) (Nat.le_refl _) ?_
            rw [← hQ]
            refine ⟨congrArg (fun v => some (Value.int v)) (Eq.symm ?_), rfl⟩
            unfold K_nlz
            rw [if_pos c1]
            rw [if_neg c22]
            rw [if_neg c37]
            rw [if_pos c51]
            rw [if_neg c63]
        · skip
          refine Ev.iinc (d := (-4)) rfl rfl rfl (by decide) rfl ?_
          refine Ev.iload_n rfl rfl ?_
          refine Ev.iconst (v := 4) rfl (by decide) ?_
          refine Ev.iushr rfl ?_
          refine Ev.istore_n rfl rfl rfl ?_
          refine Ev.iload_n rfl rfl ?_
          refine Ev.iconst (v := 4) rfl (by decide) ?_
          refine Ev.jlt (tgt := 73) rfl (by decide) (fun c63 => ?_) (fun c63 => ?_)
          · skip
            refine Ev.iload_n rfl rfl ?_
            refine Ev.iload_n rfl rfl ?_
            refine Ev.iconst (v := 1) rfl (by decide) ?_
            refine Ev.iushr rfl ?_
            refine Ev.isub rfl ?_
            refine Ev.iret (ty := .int) rfl rfl rfl (Nat.le_refl _) (Nat.le_refl _) ?_
            rw [← hQ]
            refine ⟨congrArg (fun v => some (Value.int v)) (Eq.symm ?_), rfl⟩
            unfold K_nlz
            rw [if_pos c1]
            rw [if_neg c22]
            rw [if_neg c37]
            rw [if_neg c51]
            rw [if_pos c63]
          · skip
            refine Ev.iinc (d := (-2)) rfl rfl rfl (by decide) rfl ?_
            refine Ev.iload_n rfl rfl ?_
            refine Ev.iconst (v := 2) rfl (by decide) ?_
            refine Ev.iushr rfl ?_
            refine Ev.istore_n rfl rfl rfl ?_
            refine Ev.iload_n rfl rfl ?_
            refine Ev.iload_n rfl rfl ?_
            refine Ev.iconst (v := 1) rfl (by decide) ?_
            refine Ev.iushr rfl ?_
            refine Ev.isub rfl ?_
            refine Ev.iret (ty := .int) rfl rfl rfl (Nat.le_refl _) (Nat.le_refl _) ?_
            rw [← hQ]
            refine ⟨congrArg (fun v => some (Value.int v)) (Eq.symm ?_), rfl⟩
            unfold K_nlz
            rw [if_pos c1]
            rw [if_neg c22]
            rw [if_neg c37]
            rw [if_neg c51]
            rw [if_neg c63]
  · skip
    refine Ev.iload_n rfl rfl ?_
    refine Ev.zne (tgt := 13) rfl (by decide) (fun c5 => ?_) (fun c5 => ?_)
    · skip
      refine Ev.iconst (v := 0) rfl (by decide) ?_
      refine Ev.iret (ty := .int) rfl rfl rfl (Nat.le_refl _) (Nat.le_refl _) ?_
      rw [← hQ]
      refine ⟨congrArg (fun v => some (Value.int v)) (Eq.symm ?_), rfl⟩
      unfold K_nlz
      rw [if_neg c1]
      rw [if_neg c5]
    · skip
      refine Ev.bipush (v := 32) rfl (by decide) ?_
      refine Ev.goto (tgt := 14) rfl (by decide) ?_
      refine Ev.iret (ty := .int) rfl rfl rfl (Nat.le_refl _) (Nat.le_refl _) ?_
      rw [← hQ]
      refine ⟨congrArg (fun v => some (Value.int v)) (Eq.symm ?_), rfl⟩
      unfold K_nlz
      rw [if_neg c1]
      rw [if_pos c5]
def K_spread (T : Tol) (i j : Nat) (k0 : Nat) : Int32 := if (((tP T j).2 k0) 5) = (0 : Int32) then (-1 : Int32) else (((31 : Int32) - (K_nlz (K_steps (tS T i) (((tP T j).2 k0) 5)))) - (K_ntz (K_steps (tS T i) (((tP T j).2 k0) 5))))
theorem spread_some (hX : isX σ x) (hT : isT σ (x + 1) T) (hw : wT T) {u v : Int32} {i j : Nat} (hg : gd T u v i j) {k0 : Nat} (hkk : k0 < (tP T j).1) : RetV Γ m_SD_spread [(.ref x), .int u, .int v, (.int (nI k0))] σ (.int (K_spread T i j k0)) := by
  unfold isX at hX
  obtain ⟨t0, t1, ⟨fs, t2, t3⟩, ⟨fp, t4, t5⟩, t6, t7⟩ := id hT
  obtain ⟨rfl, hi, rfl, hj, hgo⟩ := hg
  have hw1 := hw.2.1
  have hw2 := hw.2.2.1
  have hwS := hw.2.2.2.1 i hi
  have hwP := hw.2.2.2.2 j hj
  have hn16 := hwS.1
  have hn5 := hwS.2.1
  have h6 := hwP.1
  have hSi := t6 i (by omega)
  have hPj := t7 j (by omega)
  have hokL : ∀ k, k < (tP T j).1 → okL (tS T i) ((tP T j).2 k) := fun k hk => goT_okL hwS (hgo k hk).1
  obtain ⟨h0, h1, h2, h3, h4, h5, h6', h7, h8, h9, h10⟩ := id hSi
  obtain ⟨p0, ⟨pf, p1, p2⟩, p3⟩ := id hPj
  unfold RetV
  generalize hQ : (fun (r : Option Value) (σ' : ex_S) => r = some ((.int (K_spread T i j k0)) : Value) ∧ σ' = σ) = Q
  refine Ret.start pm_40 rfl ?_
  refine Ev.aload_n rfl rfl ?_
  refine Ev.iload_n rfl rfl ?_
  refine Ev.iload_n rfl rfl ?_
  refine Ev.cV2 rfl rfl hX rfl rfl (by decide) ⟨(Nat.le_refl _), (Nat.le_refl _)⟩ (going_some hX hT hw ⟨rfl, hi, rfl, hj, hgo⟩) ?_
  refine Ev.astore rfl rfl rfl ?_
  refine Ev.aload_n rfl rfl ?_
  refine Ev.getf rfl rfl hX rfl ?_
  refine Ev.iload_n rfl rfl ?_
  refine Ev.cV1 rfl rfl t0 rfl rfl (by decide) ⟨(Nat.le_refl _), (Nat.le_refl _)⟩ (schoolAt_some hT hw1 hi) ?_
  refine Ev.astore rfl rfl rfl ?_
  refine Ev.aload rfl rfl ?_
  refine Ev.iload_n rfl rfl ?_
  refine Ev.cS2 rfl rfl rfl (by decide) ⟨(Nat.le_refl _), (Nat.le_refl _)⟩ (lessonOf_some hPj h6 hkk) ?_
  refine Ev.astore rfl rfl rfl ?_
  refine Ev.aload rfl rfl ?_
  refine Ev.ifnull rfl ?_
  refine Ev.aload rfl rfl ?_
  refine Ev.ifnull rfl ?_
  refine Ev.aload rfl rfl ?_
  refine Ev.getf rfl rfl (p3 k0 (by omega)) rfl ?_
  refine Ev.zne (tgt := 46) rfl (by decide) (fun c41 => ?_) (fun c41 => ?_)
  · skip
    refine Ev.aload rfl rfl ?_
    refine Ev.aload rfl rfl ?_
    refine Ev.getf rfl rfl (p3 k0 (by omega)) rfl ?_
    refine Ev.cV1 rfl rfl h0 rfl rfl (by decide) ⟨(Nat.le_refl _), (Nat.le_refl _)⟩ (steps_ok hSi _) ?_
    refine Ev.istore rfl rfl rfl ?_
    refine Ev.iload rfl rfl ?_
    refine Ev.cS1 rfl rfl rfl (by decide) ⟨(Nat.le_refl _), (Nat.le_refl _)⟩ (ntz_ok _) ?_
    refine Ev.istore rfl rfl rfl ?_
    refine Ev.bipush (v := 31) rfl (by decide) ?_
    refine Ev.iload rfl rfl ?_
    refine Ev.cS1 rfl rfl rfl (by decide) ⟨(Nat.le_refl _), (Nat.le_refl _)⟩ (nlz_ok _) ?_
    refine Ev.isub rfl ?_
    refine Ev.istore rfl rfl rfl ?_
    refine Ev.iload rfl rfl ?_
    refine Ev.iload rfl rfl ?_
    refine Ev.isub rfl ?_
    refine Ev.iret (ty := .int) rfl rfl rfl (Nat.le_refl _) (Nat.le_refl _) ?_
    rw [← hQ]
    refine ⟨congrArg (fun v => some (Value.int v)) (Eq.symm ?_), rfl⟩
    unfold K_spread
    rw [if_neg c41]
  · skip
    refine Ev.iconst (v := (-1)) rfl (by decide) ?_
    refine Ev.iret (ty := .int) rfl rfl rfl (Nat.le_refl _) (Nat.le_refl _) ?_
    rw [← hQ]
    refine ⟨congrArg (fun v => some (Value.int v)) (Eq.symm ?_), rfl⟩
    unfold K_spread
    rw [if_pos c41]
def K_toldS (S : Sch) (w : Int32) : Int32 := if w = (0 : Int32) then (nI S.1) else (if w = (1 : Int32) then (nI S.2.1) else (if w < (2 : Int32) then (if w < (20 : Int32) then (if w < (30 : Int32) then (if w < (40 : Int32) then (if w < (50 : Int32) then (-1 : Int32) else (if w < (57 : Int32) then ((S.2.2 8) (w - 50).toNatClampNeg) else (-1 : Int32))) else (if w < (47 : Int32) then ((S.2.2 7) (w - 40).toNatClampNeg) else (if w < (50 : Int32) then (-1 : Int32) else (if w < (57 : Int32) then ((S.2.2 8) (w - 50).toNatClampNeg) else (-1 : Int32))))) else (if w < ((30 : Int32) + (nI S.2.1)) then ((S.2.2 6) (w - 30).toNatClampNeg) else (if w < (40 : Int32) then (if w < (50 : Int32) then (-1 : Int32) else (if w < (57 : Int32) then ((S.2.2 8) (w - 50).toNatClampNeg) else (-1 : Int32))) else (if w < (47 : Int32) then ((S.2.2 7) (w - 40).toNatClampNeg) else (if w < (50 : Int32) then (-1 : Int32) else (if w < (57 : Int32) then ((S.2.2 8) (w - 50).toNatClampNeg) else (-1 : Int32))))))) else (if w < ((20 : Int32) + (nI S.2.1)) then ((S.2.2 5) (w - 20).toNatClampNeg) else (if w < (30 : Int32) then (if w < (40 : Int32) then (if w < (50 : Int32) then (-1 : Int32) else (if w < (57 : Int32) then ((S.2.2 8) (w - 50).toNatClampNeg) else (-1 : Int32))) else (if w < (47 : Int32) then ((S.2.2 7) (w - 40).toNatClampNeg) else (if w < (50 : Int32) then (-1 : Int32) else (if w < (57 : Int32) then ((S.2.2 8) (w - 50).toNatClampNeg) else (-1 : Int32))))) else (if w < ((30 : Int32) + (nI S.2.1)) then ((S.2.2 6) (w - 30).toNatClampNeg) else (if w < (40 : Int32) then (if w < (50 : Int32) then (-1 : Int32) else (if w < (57 : Int32) then ((S.2.2 8) (w - 50).toNatClampNeg) else (-1 : Int32))) else (if w < (47 : Int32) then ((S.2.2 7) (w - 40).toNatClampNeg) else (if w < (50 : Int32) then (-1 : Int32) else (if w < (57 : Int32) then ((S.2.2 8) (w - 50).toNatClampNeg) else (-1 : Int32))))))))) else (if w < (13 : Int32) then ((S.2.2 9) (w - 2).toNatClampNeg) else (if w < (20 : Int32) then (if w < (30 : Int32) then (if w < (40 : Int32) then (if w < (50 : Int32) then (-1 : Int32) else (if w < (57 : Int32) then ((S.2.2 8) (w - 50).toNatClampNeg) else (-1 : Int32))) else (if w < (47 : Int32) then ((S.2.2 7) (w - 40).toNatClampNeg) else (if w < (50 : Int32) then (-1 : Int32) else (if w < (57 : Int32) then ((S.2.2 8) (w - 50).toNatClampNeg) else (-1 : Int32))))) else (if w < ((30 : Int32) + (nI S.2.1)) then ((S.2.2 6) (w - 30).toNatClampNeg) else (if w < (40 : Int32) then (if w < (50 : Int32) then (-1 : Int32) else (if w < (57 : Int32) then ((S.2.2 8) (w - 50).toNatClampNeg) else (-1 : Int32))) else (if w < (47 : Int32) then ((S.2.2 7) (w - 40).toNatClampNeg) else (if w < (50 : Int32) then (-1 : Int32) else (if w < (57 : Int32) then ((S.2.2 8) (w - 50).toNatClampNeg) else (-1 : Int32))))))) else (if w < ((20 : Int32) + (nI S.2.1)) then ((S.2.2 5) (w - 20).toNatClampNeg) else (if w < (30 : Int32) then (if w < (40 : Int32) then (if w < (50 : Int32) then (-1 : Int32) else (if w < (57 : Int32) then ((S.2.2 8) (w - 50).toNatClampNeg) else (-1 : Int32))) else (if w < (47 : Int32) then ((S.2.2 7) (w - 40).toNatClampNeg) else (if w < (50 : Int32) then (-1 : Int32) else (if w < (57 : Int32) then ((S.2.2 8) (w - 50).toNatClampNeg) else (-1 : Int32))))) else (if w < ((30 : Int32) + (nI S.2.1)) then ((S.2.2 6) (w - 30).toNatClampNeg) else (if w < (40 : Int32) then (if w < (50 : Int32) then (-1 : Int32) else (if w < (57 : Int32) then ((S.2.2 8) (w - 50).toNatClampNeg) else (-1 : Int32))) else (if w < (47 : Int32) then ((S.2.2 7) (w - 40).toNatClampNeg) else (if w < (50 : Int32) then (-1 : Int32) else (if w < (57 : Int32) then ((S.2.2 8) (w - 50).toNatClampNeg) else (-1 : Int32))))))))))))
theorem told_ok (hS : isS σ a S) (hn16 : S.1 ≤ 16) (hn5 : S.2.1 ≤ 5) (w : Int32) : RetV Γ m_School_told [(.ref a), (.int w)] σ (.int (K_toldS S w)) := by
  obtain ⟨h0, h1, h2, h3, h4, h5, h6', h7, h8, h9, h10⟩ := id hS
  unfold RetV
  generalize hQ : (fun (r : Option Value) (σ' : ex_S) => r = some ((.int (K_toldS S w)) : Value) ∧ σ' = σ) = Q
  refine Ret.start pm_81 rfl ?_
  refine Ev.iload_n rfl rfl ?_
  refine Ev.zne (tgt := 9) rfl (by decide) (fun c1 => ?_) (fun c1 => ?_)
  · skip
    refine Ev.iload_n rfl rfl ?_
    refine Ev.iconst (v := 1) rfl (by decide) ?_
    refine Ev.jne (tgt := 19) rfl (by decide) (fun c11 => ?_) (fun c11 => ?_)
    · skip
      refine Ev.iload_n rfl rfl ?_
      refine Ev.iconst (v := 2) rfl (by decide) ?_
      refine Ev.jlt (tgt := 39) rfl (by decide) (fun c21 => ?_) (fun c21 => ?_)
      · skip
        refine Ev.iload_n rfl rfl ?_
        refine Ev.bipush (v := 20) rfl (by decide) ?_
        refine Ev.jlt (tgt := 66) rfl (by decide) (fun c42 => ?_) (fun c42 => ?_)
        · skip
          refine Ev.iload_n rfl rfl ?_
          refine Ev.bipush (v := 30) rfl (by decide) ?_
          refine Ev.jlt (tgt := 93) rfl (by decide) (fun c69 => ?_) (fun c69 => ?_)
          · skip
            refine Ev.iload_n rfl rfl ?_
            refine Ev.bipush (v := 40) rfl (by decide) ?_
            refine Ev.jlt (tgt := 115) rfl (by decide) (fun c96 => ?_) (fun c96 => ?_)
            · skip
              refine Ev.iload_n rfl rfl ?_
              refine Ev.bipush (v := 50) rfl (by decide) ?_
              refine Ev.jlt (tgt := 139) rfl (by decide) (fun c118 => ?_) (fun c118 => ?_)
              · skip
                refine Ev.iconst (v := (-1)) rfl (by decide) ?_
                refine Ev.iret (ty := .int) rfl rfl rfl (Nat.le_refl _) (Nat.le_refl _) ?_
                rw [← hQ]
                refine ⟨congrArg (fun v => some (Value.int v)) (Eq.symm ?_), rfl⟩
                unfold K_toldS
                rw [if_neg c1]
                rw [if_neg c11]
                rw [if_pos c21]
                rw [if_pos c42]
                rw [if_pos c69]
                rw [if_pos c96]
                rw [if_pos c118]
              · skip
                refine Ev.iload_n rfl rfl ?_
                refine Ev.bipush (v := 57) rfl (by decide) ?_
                refine Ev.jge (tgt := 139) rfl (by decide) (fun c124 => ?_) (fun c124 => ?_)
                · skip
                  refine Ev.iconst (v := (-1)) rfl (by decide) ?_
                  refine Ev.iret (ty := .int) rfl rfl rfl (Nat.le_refl _) (Nat.le_refl _) ?_
                  rw [← hQ]
                  refine ⟨congrArg (fun v => some (Value.int v)) (Eq.symm ?_), rfl⟩
                  unfold K_toldS
                  rw [if_neg c1]
                  rw [if_neg c11]
                  rw [if_pos c21]
                  rw [if_pos c42]
                  rw [if_pos c69]
                  rw [if_pos c96]
                  rw [if_neg c118]
                  rw [if_neg c124]
                · skip
                  refine Ev.aload_n rfl rfl ?_
                  refine Ev.getf rfl rfl h0 rfl ?_
                  refine Ev.iload_n rfl rfl ?_
                  refine Ev.bipush (v := 50) rfl (by decide) ?_
                  refine Ev.isub rfl ?_
                  obtain ⟨kk, hkk, -, ekk⟩ := ix_vp (A := 50) (n := 7) c118 c124 rfl rfl (by decide)
                  rw [ekk]
                  refine Ev.ialdN (k := kk) rfl h9 rfl ⟨(by omega), by decide⟩ ?_
                  rw [show kk = (w - 50).toNatClampNeg from by rw [ekk, nI_clamp (by omega)]]
                  refine Ev.goto (tgt := 140) rfl (by decide) ?_
                  refine Ev.iret (ty := .int) rfl rfl rfl (Nat.le_refl _) (Nat.le_refl _) ?_
                  rw [← hQ]
                  refine ⟨congrArg (fun v => some (Value.int v)) (Eq.symm ?_), rfl⟩
                  unfold K_toldS
                  rw [if_neg c1]
                  rw [if_neg c11]
                  rw [if_pos c21]
                  rw [if_pos c42]
                  rw [if_pos c69]
                  rw [if_pos c96]
                  rw [if_neg c118]
                  rw [if_pos c124]
            · skip
              refine Ev.iload_n rfl rfl ?_
              refine Ev.bipush (v := 47) rfl (by decide) ?_
              refine Ev.jge (tgt := 115) rfl (by decide) (fun c102 => ?_) (fun c102 => ?_)
              · skip
                refine Ev.iload_n rfl rfl ?_
                refine Ev.bipush (v := 50) rfl (by decide) ?_
                refine Ev.jlt (tgt := 139) rfl (by decide) (fun c118 => ?_) (fun c118 => ?_)
                · skip
                  refine Ev.iconst (v := (-1)) rfl (by decide) ?_
                  refine Ev.iret (ty := .int) rfl rfl rfl (Nat.le_refl _) (Nat.le_refl _) ?_
                  rw [← hQ]
                  refine ⟨congrArg (fun v => some (Value.int v)) (Eq.symm ?_), rfl⟩
                  unfold K_toldS
                  rw [if_neg c1]
                  rw [if_neg c11]
                  rw [if_pos c21]
                  rw [if_pos c42]
                  rw [if_pos c69]
                  rw [if_neg c96]
                  rw [if_neg c102]
                  rw [if_pos c118]
                · skip
                  refine Ev.iload_n rfl rfl ?_
                  refine Ev.bipush (v := 57) rfl (by decide) ?_
                  refine Ev.jge (tgt := 139) rfl (by decide) (fun c124 => ?_) (fun c124 => ?_)
                  · skip
                    refine Ev.iconst (v := (-1)) rfl (by decide) ?_
                    refine Ev.iret (ty := .int) rfl rfl rfl (Nat.le_refl _) (Nat.le_refl _) ?_
                    rw [← hQ]
                    refine ⟨congrArg (fun v => some (Value.int v)) (Eq.symm ?_), rfl⟩
                    unfold K_toldS
                    rw [if_neg c1]
                    rw [if_neg c11]
                    rw [if_pos c21]
                    rw [if_pos c42]
                    rw [if_pos c69]
                    rw [if_neg c96]
                    rw [if_neg c102]
                    rw [if_neg c118]
                    rw [if_neg c124]
                  · skip
                    refine Ev.aload_n rfl rfl ?_
                    refine Ev.getf rfl rfl h0 rfl ?_
                    refine Ev.iload_n rfl rfl ?_
                    refine Ev.bipush (v := 50) rfl (by decide) ?_
                    refine Ev.isub rfl ?_
                    obtain ⟨kk, hkk, -, ekk⟩ := ix_vp (A := 50) (n := 7) c118 c124 rfl rfl (by decide)
                    rw [ekk]
                    refine Ev.ialdN (k := kk) rfl h9 rfl ⟨(by omega), by decide⟩ ?_
                    rw [show kk = (w - 50).toNatClampNeg from by rw [ekk, nI_clamp (by omega)]]
                    refine Ev.goto (tgt := 140) rfl (by decide) ?_
                    refine Ev.iret (ty := .int) rfl rfl rfl (Nat.le_refl _) (Nat.le_refl _) ?_
                    rw [← hQ]
                    refine ⟨congrArg (fun v => some (Value.int v)) (Eq.symm ?_), rfl⟩
                    unfold K_toldS
                    rw [if_neg c1]
                    rw [if_neg c11]
                    rw [if_pos c21]
                    rw [if_pos c42]
                    rw [if_pos c69]
                    rw [if_neg c96]
                    rw [if_neg c102]
                    rw [if_neg c118]
                    rw [if_pos c124]
              · skip
                refine Ev.aload_n rfl rfl ?_
                refine Ev.getf rfl rfl h0 rfl ?_
                refine Ev.iload_n rfl rfl ?_
                refine Ev.bipush (v := 40) rfl (by decide) ?_
                refine Ev.isub rfl ?_
                obtain ⟨kk, hkk, -, ekk⟩ := ix_vp (A := 40) (n := 7) c96 c102 rfl rfl (by decide)
                rw [ekk]
                refine Ev.ialdN (k := kk) rfl h8 rfl ⟨(by omega), by decide⟩ ?_
                rw [show kk = (w - 40).toNatClampNeg from by rw [ekk, nI_clamp (by omega)]]
                refine Ev.iret (ty := .int) rfl rfl rfl (Nat.le_refl _) (Nat.le_refl _) ?_
                rw [← hQ]
                refine ⟨congrArg (fun v => some (Value.int v)) (Eq.symm ?_), rfl⟩
                unfold K_toldS
                rw [if_neg c1]
                rw [if_neg c11]
                rw [if_pos c21]
                rw [if_pos c42]
                rw [if_pos c69]
                rw [if_neg c96]
                rw [if_pos c102]
          · skip
            refine Ev.iload_n rfl rfl ?_
            refine Ev.bipush (v := 30) rfl (by decide) ?_
            refine Ev.aload_n rfl rfl ?_
            refine Ev.getf rfl rfl h0 rfl ?_
            refine Ev.iadd rfl ?_
            refine Ev.jge (tgt := 93) rfl (by decide) (fun c80 => ?_) (fun c80 => ?_)
            · skip
              refine Ev.iload_n rfl rfl ?_
              refine Ev.bipush (v := 40) rfl (by decide) ?_
              refine Ev.jlt (tgt := 115) rfl (by decide) (fun c96 => ?_) (fun c96 => ?_)
              · skip
                refine Ev.iload_n rfl rfl ?_
                refine Ev.bipush (v := 50) rfl (by decide) ?_
                refine Ev.jlt (tgt := 139) rfl (by decide) (fun c118 => ?_) (fun c118 => ?_)
                · skip
                  refine Ev.iconst (v := (-1)) rfl (by decide) ?_
                  refine Ev.iret (ty := .int) rfl rfl rfl (Nat.le_refl _) (Nat.le_refl _) ?_
                  rw [← hQ]
                  refine ⟨congrArg (fun v => some (Value.int v)) (Eq.symm ?_), rfl⟩
                  unfold K_toldS
                  rw [if_neg c1]
                  rw [if_neg c11]
                  rw [if_pos c21]
                  rw [if_pos c42]
                  rw [if_neg c69]
                  rw [if_neg c80]
                  rw [if_pos c96]
                  rw [if_pos c118]
                · skip
                  refine Ev.iload_n rfl rfl ?_
                  refine Ev.bipush (v := 57) rfl (by decide) ?_
                  refine Ev.jge (tgt := 139) rfl (by decide) (fun c124 => ?_) (fun c124 => ?_)
                  · skip
                    refine Ev.iconst (v := (-1)) rfl (by decide) ?_
                    refine Ev.iret (ty := .int) rfl rfl rfl (Nat.le_refl _) (Nat.le_refl _) ?_
                    rw [← hQ]
                    refine ⟨congrArg (fun v => some (Value.int v)) (Eq.symm ?_), rfl⟩
                    unfold K_toldS
                    rw [if_neg c1]
                    rw [if_neg c11]
                    rw [if_pos c21]
                    rw [if_pos c42]
                    rw [if_neg c69]
                    rw [if_neg c80]
                    rw [if_pos c96]
                    rw [if_neg c118]
                    rw [if_neg c124]
                  · skip
                    refine Ev.aload_n rfl rfl ?_
                    refine Ev.getf rfl rfl h0 rfl ?_
                    refine Ev.iload_n rfl rfl ?_
                    refine Ev.bipush (v := 50) rfl (by decide) ?_
                    refine Ev.isub rfl ?_
                    obtain ⟨kk, hkk, -, ekk⟩ := ix_vp (A := 50) (n := 7) c118 c124 rfl rfl (by decide)
                    rw [ekk]
                    refine Ev.ialdN (k := kk) rfl h9 rfl ⟨(by omega), by decide⟩ ?_
                    rw [show kk = (w - 50).toNatClampNeg from by rw [ekk, nI_clamp (by omega)]]
                    refine Ev.goto (tgt := 140) rfl (by decide) ?_
                    refine Ev.iret (ty := .int) rfl rfl rfl (Nat.le_refl _) (Nat.le_refl _) ?_
                    rw [← hQ]
                    refine ⟨congrArg (fun v => some (Value.int v)) (Eq.symm ?_), rfl⟩
                    unfold K_toldS
                    rw [if_neg c1]
                    rw [if_neg c11]
                    rw [if_pos c21]
                    rw [if_pos c42]
                    rw [if_neg c69]
                    rw [if_neg c80]
                    rw [if_pos c96]
                    rw [if_neg c118]
                    rw [if_pos c124]
              · skip
                refine Ev.iload_n rfl rfl ?_
                refine Ev.bipush (v := 47) rfl (by decide) ?_
                refine Ev.jge (tgt := 115) rfl (by decide) (fun c102 => ?_) (fun c102 => ?_)
                · skip
                  refine Ev.iload_n rfl rfl ?_
                  refine Ev.bipush (v := 50) rfl (by decide) ?_
                  refine Ev.jlt (tgt := 139) rfl (by decide) (fun c118 => ?_) (fun c118 => ?_)
                  · skip
                    refine Ev.iconst (v := (-1)) rfl (by decide) ?_
                    refine Ev.iret (ty := .int) rfl rfl rfl (Nat.le_refl _) (Nat.le_refl _) ?_
                    rw [← hQ]
                    refine ⟨congrArg (fun v => some (Value.int v)) (Eq.symm ?_), rfl⟩
                    unfold K_toldS
                    rw [if_neg c1]
                    rw [if_neg c11]
                    rw [if_pos c21]
                    rw [if_pos c42]
                    rw [if_neg c69]
                    rw [if_neg c80]
                    rw [if_neg c96]
                    rw [if_neg c102]
                    rw [if_pos c118]
                  · skip
                    refine Ev.iload_n rfl rfl ?_
                    refine Ev.bipush (v := 57) rfl (by decide) ?_
                    refine Ev.jge (tgt := 139) rfl (by decide) (fun c124 => ?_) (fun c124 => ?_)
                    · skip
                      refine Ev.iconst (v := (-1)) rfl (by decide) ?_
                      refine Ev.iret (ty := .int) rfl rfl rfl (Nat.le_refl _) (Nat.le_refl _) ?_
                      rw [← hQ]
                      refine ⟨congrArg (fun v => some (Value.int v)) (Eq.symm ?_), rfl⟩
                      unfold K_toldS
                      rw [if_neg c1]
                      rw [if_neg c11]
                      rw [if_pos c21]
                      rw [if_pos c42]
                      rw [if_neg c69]
                      rw [if_neg c80]
                      rw [if_neg c96]
                      rw [if_neg c102]
                      rw [if_neg c118]
                      rw [if_neg c124]
                    · skip
                      refine Ev.aload_n rfl rfl ?_
                      refine Ev.getf rfl rfl h0 rfl ?_
                      refine Ev.iload_n rfl rfl ?_
                      refine Ev.bipush (v := 50) rfl (by decide) ?_
                      refine Ev.isub rfl ?_
                      obtain ⟨kk, hkk, -, ekk⟩ := ix_vp (A := 50) (n := 7) c118 c124 rfl rfl (by decide)
                      rw [ekk]
                      refine Ev.ialdN (k := kk) rfl h9 rfl ⟨(by omega), by decide⟩ ?_
                      rw [show kk = (w - 50).toNatClampNeg from by rw [ekk, nI_clamp (by omega)]]
                      refine Ev.goto (tgt := 140) rfl (by decide) ?_
                      refine Ev.iret (ty := .int) rfl rfl rfl (Nat.le_refl _) (Nat.le_refl _) ?_
                      rw [← hQ]
                      refine ⟨congrArg (fun v => some (Value.int v)) (Eq.symm ?_), rfl⟩
                      unfold K_toldS
                      rw [if_neg c1]
                      rw [if_neg c11]
                      rw [if_pos c21]
                      rw [if_pos c42]
                      rw [if_neg c69]
                      rw [if_neg c80]
                      rw [if_neg c96]
                      rw [if_neg c102]
                      rw [if_neg c118]
                      rw [if_pos c124]
                · skip
                  refine Ev.aload_n rfl rfl ?_
                  refine Ev.getf rfl rfl h0 rfl ?_
                  refine Ev.iload_n rfl rfl ?_
                  refine Ev.bipush (v := 40) rfl (by decide) ?_
                  refine Ev.isub rfl ?_
                  obtain ⟨kk, hkk, -, ekk⟩ := ix_vp (A := 40) (n := 7) c96 c102 rfl rfl (by decide)
                  rw [ekk]
                  refine Ev.ialdN (k := kk) rfl h8 rfl ⟨(by omega), by decide⟩ ?_
                  rw [show kk = (w - 40).toNatClampNeg from by rw [ekk, nI_clamp (by omega)]]
                  refine Ev.iret (ty := .int) rfl rfl rfl (Nat.le_refl _) (Nat.le_refl _) ?_
                  rw [← hQ]
                  refine ⟨congrArg (fun v => some (Value.int v)) (Eq.symm ?_), rfl⟩
                  unfold K_toldS
                  rw [if_neg c1]
                  rw [if_neg c11]
                  rw [if_pos c21]
                  rw [if_pos c42]
                  rw [if_neg c69]
                  rw [if_neg c80]
                  rw [if_neg c96]
                  rw [if_pos c102]
            · skip
              refine Ev.aload_n rfl rfl ?_
              refine Ev.getf rfl rfl h0 rfl ?_
              refine Ev.iload_n rfl rfl ?_
              refine Ev.bipush (v := 30) rfl (by decide) ?_
              refine Ev.isub rfl ?_
              obtain ⟨kk, hkk, -, ekk⟩ := ix_vp (A := 30) (n := S.2.1) c69 c80 rfl (nq_add (a := 30) rfl rfl) (by omega)
              rw [ekk]
              refine Ev.ialdN (k := kk) rfl h7 rfl ⟨(by omega), by decide⟩ ?_
              rw [show kk = (w - 30).toNatClampNeg from by rw [ekk, nI_clamp (by omega)]]
              refine Ev.iret (ty := .int) rfl rfl rfl (Nat.le_refl _) (Nat.le_refl _) ?_
              rw [← hQ]
              refine ⟨congrArg (fun v => some (Value.int v)) (Eq.symm ?_), rfl⟩
              unfold K_toldS
              rw [if_neg c1]
              rw [if_neg c11]
              rw [if_pos c21]
              rw [if_pos c42]
              rw [if_neg c69]
              rw [if_pos c80]
        · skip
          refine Ev.iload_n rfl rfl ?_
          refine Ev.bipush (v := 20) rfl (by decide) ?_
          refine Ev.aload_n rfl rfl ?_
          refine Ev.getf rfl rfl h0 rfl ?_
          refine Ev.iadd rfl ?_
          refine Ev.jge (tgt := 66) rfl (by decide) (fun c53 => ?_) (fun c53 => ?_)
          · skip
            refine Ev.iload_n rfl rfl ?_
            refine Ev.bipush (v := 30) rfl (by decide) ?_
            refine Ev.jlt (tgt := 93) rfl (by decide) (fun c69 => ?_) (fun c69 => ?_)
            · skip
              refine Ev.iload_n rfl rfl ?_
              refine Ev.bipush (v := 40) rfl (by decide) ?_
              refine Ev.jlt (tgt := 115) rfl (by decide) (fun c96 => ?_) (fun c96 => ?_)
              · skip
                refine Ev.iload_n rfl rfl ?_
                refine Ev.bipush (v := 50) rfl (by decide) ?_
                refine Ev.jlt (tgt := 139) rfl (by decide) (fun c118 => ?_) (fun c118 => ?_)
                · skip
                  refine Ev.iconst (v := (-1)) rfl (by decide) ?_
                  refine Ev.iret (ty := .int) rfl rfl rfl (Nat.le_refl _) (Nat.le_refl _) ?_
                  rw [← hQ]
                  refine ⟨congrArg (fun v => some (Value.int v)) (Eq.symm ?_), rfl⟩
                  unfold K_toldS
                  rw [if_neg c1]
                  rw [if_neg c11]
                  rw [if_pos c21]
                  rw [if_neg c42]
                  rw [if_neg c53]
                  rw [if_pos c69]
                  rw [if_pos c96]
                  rw [if_pos c118]
                · skip
                  refine Ev.iload_n rfl rfl ?_
                  refine Ev.bipush (v := 57) rfl (by decide) ?_
                  refine Ev.jge (tgt := 139) rfl (by decide) (fun c124 => ?_) (fun c124 => ?_)
                  · skip
                    refine Ev.iconst (v := (-1)) rfl (by decide) ?_
                    refine Ev.iret (ty := .int) rfl rfl rfl (Nat.le_refl _) (Nat.le_refl _) ?_
                    rw [← hQ]
                    refine ⟨congrArg (fun v => some (Value.int v)) (Eq.symm ?_), rfl⟩
                    unfold K_toldS
                    rw [if_neg c1]
                    rw [if_neg c11]
                    rw [if_pos c21]
                    rw [if_neg c42]
                    rw [if_neg c53]
                    rw [if_pos c69]
                    rw [if_pos c96]
                    rw [if_neg c118]
                    rw [if_neg c124]
                  · skip
                    refine Ev.aload_n rfl rfl ?_
                    refine Ev.getf rfl rfl h0 rfl ?_
                    refine Ev.iload_n rfl rfl ?_
                    refine Ev.bipush (v := 50) rfl (by decide) ?_
                    refine Ev.isub rfl ?_
                    obtain ⟨kk, hkk, -, ekk⟩ := ix_vp (A := 50) (n := 7) c118 c124 rfl rfl (by decide)
                    rw [ekk]
                    refine Ev.ialdN (k := kk) rfl h9 rfl ⟨(by omega), by decide⟩ ?_
                    rw [show kk = (w - 50).toNatClampNeg from by rw [ekk, nI_clamp (by omega)]]
                    refine Ev.goto (tgt := 140) rfl (by decide) ?_
                    refine Ev.iret (ty := .int) rfl rfl rfl (Nat.le_refl _) (Nat.le_refl _) ?_
                    rw [← hQ]
                    refine ⟨congrArg (fun v => some (Value.int v)) (Eq.symm ?_), rfl⟩
                    unfold K_toldS
                    rw [if_neg c1]
                    rw [if_neg c11]
                    rw [if_pos c21]
                    rw [if_neg c42]
                    rw [if_neg c53]
                    rw [if_pos c69]
                    rw [if_pos c96]
                    rw [if_neg c118]
                    rw [if_pos c124]
              · skip
                refine Ev.iload_n rfl rfl ?_
                refine Ev.bipush (v := 47) rfl (by decide) ?_
                refine Ev.jge (tgt := 115) rfl (by decide) (fun c102 => ?_) (fun c102 => ?_)
                · skip
                  refine Ev.iload_n rfl rfl ?_
                  refine Ev.bipush (v := 50) rfl (by decide) ?_
                  refine Ev.jlt (tgt := 139) rfl (by decide) (fun c118 => ?_) (fun c118 => ?_)
                  · skip
                    refine Ev.iconst (v := (-1)) rfl (by decide) ?_
                    refine Ev.iret (ty := .int) rfl rfl rfl (Nat.le_refl _) (Nat.le_refl _) ?_
                    rw [← hQ]
                    refine ⟨congrArg (fun v => some (Value.int v)) (Eq.symm ?_), rfl⟩
                    unfold K_toldS
                    rw [if_neg c1]
                    rw [if_neg c11]
                    rw [if_pos c21]
                    rw [if_neg c42]
                    rw [if_neg c53]
                    rw [if_pos c69]
                    rw [if_neg c96]
                    rw [if_neg c102]
                    rw [if_pos c118]
                  · skip
                    refine Ev.iload_n rfl rfl ?_
                    refine Ev.bipush (v := 57) rfl (by decide) ?_
                    refine Ev.jge (tgt := 139) rfl (by decide) (fun c124 => ?_) (fun c124 => ?_)
                    · skip
                      refine Ev.iconst (v := (-1)) rfl (by decide) ?_
                      refine Ev.iret (ty := .int) rfl rfl rfl (Nat.le_refl _) (Nat.le_refl _) ?_
                      rw [← hQ]
                      refine ⟨congrArg (fun v => some (Value.int v)) (Eq.symm ?_), rfl⟩
                      unfold K_toldS
                      rw [if_neg c1]
                      rw [if_neg c11]
                      rw [if_pos c21]
                      rw [if_neg c42]
                      rw [if_neg c53]
                      rw [if_pos c69]
                      rw [if_neg c96]
                      rw [if_neg c102]
                      rw [if_neg c118]
                      rw [if_neg c124]
                    · skip
                      refine Ev.aload_n rfl rfl ?_
                      refine Ev.getf rfl rfl h0 rfl ?_
                      refine Ev.iload_n rfl rfl ?_
                      refine Ev.bipush (v := 50) rfl (by decide) ?_
                      refine Ev.isub rfl ?_
                      obtain ⟨kk, hkk, -, ekk⟩ := ix_vp (A := 50) (n := 7) c118 c124 rfl rfl (by decide)
                      rw [ekk]
                      refine Ev.ialdN (k := kk) rfl h9 rfl ⟨(by omega), by decide⟩ ?_
                      rw [show kk = (w - 50).toNatClampNeg from by rw [ekk, nI_clamp (by omega)]]
                      refine Ev.goto (tgt := 140) rfl (by decide) ?_
                      refine Ev.iret (ty := .int) rfl rfl rfl (Nat.le_refl _) (Nat.le_refl _) ?_
                      rw [← hQ]
                      refine ⟨congrArg (fun v => some (Value.int v)) (Eq.symm ?_), rfl⟩
                      unfold K_toldS
                      rw [if_neg c1]
                      rw [if_neg c11]
                      rw [if_pos c21]
                      rw [if_neg c42]
                      rw [if_neg c53]
                      rw [if_pos c69]
                      rw [if_neg c96]
                      rw [if_neg c102]
                      rw [if_neg c118]
                      rw [if_pos c124]
                · skip
                  refine Ev.aload_n rfl rfl ?_
                  refine Ev.getf rfl rfl h0 rfl ?_
                  refine Ev.iload_n rfl rfl ?_
                  refine Ev.bipush (v := 40) rfl (by decide) ?_
                  refine Ev.isub rfl ?_
                  obtain ⟨kk, hkk, -, ekk⟩ := ix_vp (A := 40) (n := 7) c96 c102 rfl rfl (by decide)
                  rw [ekk]
                  refine Ev.ialdN (k := kk) rfl h8 rfl ⟨(by omega), by decide⟩ ?_
                  rw [show kk = (w - 40).toNatClampNeg from by rw [ekk, nI_clamp (by omega)]]
                  refine Ev.iret (ty := .int) rfl rfl rfl (Nat.le_refl _) (Nat.le_refl _) ?_
                  rw [← hQ]
                  refine ⟨congrArg (fun v => some (Value.int v)) (Eq.symm ?_), rfl⟩
                  unfold K_toldS
                  rw [if_neg c1]
                  rw [if_neg c11]
                  rw [if_pos c21]
                  rw [if_neg c42]
                  rw [if_neg c53]
                  rw [if_pos c69]
                  rw [if_neg c96]
                  rw [if_pos c102]
            · skip
              refine Ev.iload_n rfl rfl ?_
              refine Ev.bipush (v := 30) rfl (by decide) ?_
              refine Ev.aload_n rfl rfl ?_
              refine Ev.getf rfl rfl h0 rfl ?_
              refine Ev.iadd rfl ?_
              refine Ev.jge (tgt := 93) rfl (by decide) (fun c80 => ?_) (fun c80 => ?_)
              · skip
                refine Ev.iload_n rfl rfl ?_
                refine Ev.bipush (v := 40) rfl (by decide) ?_
                refine Ev.jlt (tgt := 115) rfl (by decide) (fun c96 => ?_) (fun c96 => ?_)
                · skip
                  refine Ev.iload_n rfl rfl ?_
                  refine Ev.bipush (v := 50) rfl (by decide) ?_
                  refine Ev.jlt (tgt := 139) rfl (by decide) (fun c118 => ?_) (fun c118 => ?_)
                  · skip
                    refine Ev.iconst (v := (-1)) rfl (by decide) ?_
                    refine Ev.iret (ty := .int) rfl rfl rfl (Nat.le_refl _) (Nat.le_refl _) ?_
                    rw [← hQ]
                    refine ⟨congrArg (fun v => some (Value.int v)) (Eq.symm ?_), rfl⟩
                    unfold K_toldS
                    rw [if_neg c1]
                    rw [if_neg c11]
                    rw [if_pos c21]
                    rw [if_neg c42]
                    rw [if_neg c53]
                    rw [if_neg c69]
                    rw [if_neg c80]
                    rw [if_pos c96]
                    rw [if_pos c118]
                  · skip
                    refine Ev.iload_n rfl rfl ?_
                    refine Ev.bipush (v := 57) rfl (by decide) ?_
                    refine Ev.jge (tgt := 139) rfl (by decide) (fun c124 => ?_) (fun c124 => ?_)
                    · skip
                      refine Ev.iconst (v := (-1)) rfl (by decide) ?_
                      refine Ev.iret (ty := .int) rfl rfl rfl (Nat.le_refl _) (Nat.le_refl _) ?_
                      rw [← hQ]
                      refine ⟨congrArg (fun v => some (Value.int v)) (Eq.symm ?_), rfl⟩
                      unfold K_toldS
                      rw [if_neg c1]
                      rw [if_neg c11]
                      rw [if_pos c21]
                      rw [if_neg c42]
                      rw [if_neg c53]
                      rw [if_neg c69]
                      rw [if_neg c80]
                      rw [if_pos c96]
                      rw [if_neg c118]
                      rw [if_neg c124]
                    · skip
                      refine Ev.aload_n rfl rfl ?_
                      refine Ev.getf rfl rfl h0 rfl ?_
                      refine Ev.iload_n rfl rfl ?_
                      refine Ev.bipush (v := 50) rfl (by decide) ?_
                      refine Ev.isub rfl ?_
                      obtain ⟨kk, hkk, -, ekk⟩ := ix_vp (A := 50) (n := 7) c118 c124 rfl rfl (by decide)
                      rw [ekk]
                      refine Ev.ialdN (k := kk) rfl h9 rfl ⟨(by omega), by decide⟩ ?_
                      rw [show kk = (w - 50).toNatClampNeg from by rw [ekk, nI_clamp (by omega)]]
                      refine Ev.goto (tgt := 140) rfl (by decide) ?_
                      refine Ev.iret (ty := .int) rfl rfl rfl (Nat.le_refl _) (Nat.le_refl _) ?_
                      rw [← hQ]
                      refine ⟨congrArg (fun v => some (Value.int v)) (Eq.symm ?_), rfl⟩
                      unfold K_toldS
                      rw [if_neg c1]
                      rw [if_neg c11]
                      rw [if_pos c21]
                      rw [if_neg c42]
                      rw [if_neg c53]
                      rw [if_neg c69]
                      rw [if_neg c80]
                      rw [if_pos c96]
                      rw [if_neg c118]
                      rw [if_pos c124]
                · skip
                  refine Ev.iload_n rfl rfl ?_
                  refine Ev.bipush (v := 47) rfl (by decide) ?_
                  refine Ev.jge (tgt := 115) rfl (by decide) (fun c102 => ?_) (fun c102 => ?_)
                  · skip
                    refine Ev.iload_n rfl rfl ?_
                    refine Ev.bipush (v := 50) rfl (by decide) ?_
                    refine Ev.jlt (tgt := 139) rfl (by decide) (fun c118 => ?_) (fun c118 => ?_)
                    · skip
                      refine Ev.iconst (v := (-1)) rfl (by decide) ?_
                      refine Ev.iret (ty := .int) rfl rfl rfl (Nat.le_refl _) (Nat.le_refl _) ?_
                      rw [← hQ]
                      refine ⟨congrArg (fun v => some (Value.int v)) (Eq.symm ?_), rfl⟩
                      unfold K_toldS
                      rw [if_neg c1]
                      rw [if_neg c11]
                      rw [if_pos c21]
                      rw [if_neg c42]
                      rw [if_neg c53]
                      rw [if_neg c69]
                      rw [if_neg c80]
                      rw [if_neg c96]
                      rw [if_neg c102]
                      rw [if_pos c118]
                    · skip
                      refine Ev.iload_n rfl rfl ?_
                      refine Ev.bipush (v := 57) rfl (by decide) ?_
                      refine Ev.jge (tgt := 139) rfl (by decide) (fun c124 => ?_) (fun c124 => ?_)
                      · skip
                        refine Ev.iconst (v := (-1)) rfl (by decide) ?_
                        refine Ev.iret (ty := .int) rfl rfl rfl (Nat.le_refl _) (Nat.le_refl _) ?_
                        rw [← hQ]
                        refine ⟨congrArg (fun v => some (Value.int v)) (Eq.symm ?_), rfl⟩
                        unfold K_toldS
                        rw [if_neg c1]
                        rw [if_neg c11]
                        rw [if_pos c21]
                        rw [if_neg c42]
                        rw [if_neg c53]
                        rw [if_neg c69]
                        rw [if_neg c80]
                        rw [if_neg c96]
                        rw [if_neg c102]
                        rw [if_neg c118]
                        rw [if_neg c124]
                      · skip
                        refine Ev.aload_n rfl rfl ?_
                        refine Ev.getf rfl rfl h0 rfl ?_
                        refine Ev.iload_n rfl rfl ?_
                        refine Ev.bipush (v := 50) rfl (by decide) ?_
                        refine Ev.isub rfl ?_
                        obtain ⟨kk, hkk, -, ekk⟩ := ix_vp (A := 50) (n := 7) c118 c124 rfl rfl (by decide)
                        rw [ekk]
                        refine Ev.ialdN (k := kk) rfl h9 rfl ⟨(by omega), by decide⟩ ?_
                        rw [show kk = (w - 50).toNatClampNeg from by rw [ekk, nI_clamp (by omega)]]
                        refine Ev.goto (tgt := 140) rfl (by decide) ?_
                        refine Ev.iret (ty := .int) rfl rfl rfl (Nat.le_refl _) (Nat.le_refl _) ?_
                        rw [← hQ]
                        refine ⟨congrArg (fun v => some (Value.int v)) (Eq.symm ?_), rfl⟩
                        unfold K_toldS
                        rw [if_neg c1]
                        rw [if_neg c11]
                        rw [if_pos c21]
                        rw [if_neg c42]
                        rw [if_neg c53]
                        rw [if_neg c69]
                        rw [if_neg c80]
                        rw [if_neg c96]
                        rw [if_neg c102]
                        rw [if_neg c118]
                        rw [if_pos c124]
                  · skip
                    refine Ev.aload_n rfl rfl ?_
                    refine Ev.getf rfl rfl h0 rfl ?_
                    refine Ev.iload_n rfl rfl ?_
                    refine Ev.bipush (v := 40) rfl (by decide) ?_
                    refine Ev.isub rfl ?_
                    obtain ⟨kk, hkk, -, ekk⟩ := ix_vp (A := 40) (n := 7) c96 c102 rfl rfl (by decide)
                    rw [ekk]
                    refine Ev.ialdN (k := kk) rfl h8 rfl ⟨(by omega), by decide⟩ ?_
                    rw [show kk = (w - 40).toNatClampNeg from by rw [ekk, nI_clamp (by omega)]]
                    refine Ev.iret (ty := .int) rfl rfl rfl (Nat.le_refl _) (Nat.le_refl _) ?_
                    rw [← hQ]
                    refine ⟨congrArg (fun v => some (Value.int v)) (Eq.symm ?_), rfl⟩
                    unfold K_toldS
                    rw [if_neg c1]
                    rw [if_neg c11]
                    rw [if_pos c21]
                    rw [if_neg c42]
                    rw [if_neg c53]
                    rw [if_neg c69]
                    rw [if_neg c80]
                    rw [if_neg c96]
                    rw [if_pos c102]
              · skip
                refine Ev.aload_n rfl rfl ?_
                refine Ev.getf rfl rfl h0 rfl ?_
                refine Ev.iload_n rfl rfl ?_
                refine Ev.bipush (v := 30) rfl (by decide) ?_
                refine Ev.isub rfl ?_
                obtain ⟨kk, hkk, -, ekk⟩ := ix_vp (A := 30) (n := S.2.1) c69 c80 rfl (nq_add (a := 30) rfl rfl) (by omega)
                rw [ekk]
                refine Ev.ialdN (k := kk) rfl h7 rfl ⟨(by omega), by decide⟩ ?_
                rw [show kk = (w - 30).toNatClampNeg from by rw [ekk, nI_clamp (by omega)]]
                refine Ev.iret (ty := .int) rfl rfl rfl (Nat.le_refl _) (Nat.le_refl _) ?_
                rw [← hQ]
                refine ⟨congrArg (fun v => some (Value.int v)) (Eq.symm ?_), rfl⟩
                unfold K_toldS
                rw [if_neg c1]
                rw [if_neg c11]
                rw [if_pos c21]
                rw [if_neg c42]
                rw [if_neg c53]
                rw [if_neg c69]
                rw [if_pos c80]
          · skip
            refine Ev.aload_n rfl rfl ?_
            refine Ev.getf rfl rfl h0 rfl ?_
            refine Ev.iload_n rfl rfl ?_
            refine Ev.bipush (v := 20) rfl (by decide) ?_
            refine Ev.isub rfl ?_
            obtain ⟨kk, hkk, -, ekk⟩ := ix_vp (A := 20) (n := S.2.1) c42 c53 rfl (nq_add (a := 20) rfl rfl) (by omega)
            rw [ekk]
            refine Ev.ialdN (k := kk) rfl h6' rfl ⟨(by omega), by decide⟩ ?_
            rw [show kk = (w - 20).toNatClampNeg from by rw [ekk, nI_clamp (by omega)]]
            refine Ev.iret (ty := .int) rfl rfl rfl (Nat.le_refl _) (Nat.le_refl _) ?_
            rw [← hQ]
            refine ⟨congrArg (fun v => some (Value.int v)) (Eq.symm ?_), rfl⟩
            unfold K_toldS
            rw [if_neg c1]
            rw [if_neg c11]
            rw [if_pos c21]
            rw [if_neg c42]
            rw [if_pos c53]
      · skip
        refine Ev.iload_n rfl rfl ?_
        refine Ev.bipush (v := 13) rfl (by decide) ?_
        refine Ev.jge (tgt := 39) rfl (by decide) (fun c27 => ?_) (fun c27 => ?_)
        · skip
          refine Ev.iload_n rfl rfl ?_
          refine Ev.bipush (v := 20) rfl (by decide) ?_
          refine Ev.jlt (tgt := 66) rfl (by decide) (fun c42 => ?_) (fun c42 => ?_)
          · skip
            refine Ev.iload_n rfl rfl ?_
            refine Ev.bipush (v := 30) rfl (by decide) ?_
            refine Ev.jlt (tgt := 93) rfl (by decide) (fun c69 => ?_) (fun c69 => ?_)
            · skip
              refine Ev.iload_n rfl rfl ?_
              refine Ev.bipush (v := 40) rfl (by decide) ?_
              refine Ev.jlt (tgt := 115) rfl (by decide) (fun c96 => ?_) (fun c96 => ?_)
              · skip
                refine Ev.iload_n rfl rfl ?_
                refine Ev.bipush (v := 50) rfl (by decide) ?_
                refine Ev.jlt (tgt := 139) rfl (by decide) (fun c118 => ?_) (fun c118 => ?_)
                · skip
                  refine Ev.iconst (v := (-1)) rfl (by decide) ?_
                  refine Ev.iret (ty := .int) rfl rfl rfl (Nat.le_refl _) (Nat.le_refl _) ?_
                  rw [← hQ]
                  refine ⟨congrArg (fun v => some (Value.int v)) (Eq.symm ?_), rfl⟩
                  unfold K_toldS
                  rw [if_neg c1]
                  rw [if_neg c11]
                  rw [if_neg c21]
                  rw [if_neg c27]
                  rw [if_pos c42]
                  rw [if_pos c69]
                  rw [if_pos c96]
                  rw [if_pos c118]
                · skip
                  refine Ev.iload_n rfl rfl ?_
                  refine Ev.bipush (v := 57) rfl (by decide) ?_
                  refine Ev.jge (tgt := 139) rfl (by decide) (fun c124 => ?_) (fun c124 => ?_)
                  · skip
                    refine Ev.iconst (v := (-1)) rfl (by decide) ?_
                    refine Ev.iret (ty := .int) rfl rfl rfl (Nat.le_refl _) (Nat.le_refl _) ?_
                    rw [← hQ]
                    refine ⟨congrArg (fun v => some (Value.int v)) (Eq.symm ?_), rfl⟩
                    unfold K_toldS
                    rw [if_neg c1]
                    rw [if_neg c11]
                    rw [if_neg c21]
                    rw [if_neg c27]
                    rw [if_pos c42]
                    rw [if_pos c69]
                    rw [if_pos c96]
                    rw [if_neg c118]
                    rw [if_neg c124]
                  · skip
                    refine Ev.aload_n rfl rfl ?_
                    refine Ev.getf rfl rfl h0 rfl ?_
                    refine Ev.iload_n rfl rfl ?_
                    refine Ev.bipush (v := 50) rfl (by decide) ?_
                    refine Ev.isub rfl ?_
                    obtain ⟨kk, hkk, -, ekk⟩ := ix_vp (A := 50) (n := 7) c118 c124 rfl rfl (by decide)
                    rw [ekk]
                    refine Ev.ialdN (k := kk) rfl h9 rfl ⟨(by omega), by decide⟩ ?_
                    rw [show kk = (w - 50).toNatClampNeg from by rw [ekk, nI_clamp (by omega)]]
                    refine Ev.goto (tgt := 140) rfl (by decide) ?_
                    refine Ev.iret (ty := .int) rfl rfl rfl (Nat.le_refl _) (Nat.le_refl _) ?_
                    rw [← hQ]
                    refine ⟨congrArg (fun v => some (Value.int v)) (Eq.symm ?_), rfl⟩
                    unfold K_toldS
                    rw [if_neg c1]
                    rw [if_neg c11]
                    rw [if_neg c21]
                    rw [if_neg c27]
                    rw [if_pos c42]
                    rw [if_pos c69]
                    rw [if_pos c96]
                    rw [if_neg c118]
                    rw [if_pos c124]
              · skip
                refine Ev.iload_n rfl rfl ?_
                refine Ev.bipush (v := 47) rfl (by decide) ?_
                refine Ev.jge (tgt := 115) rfl (by decide) (fun c102 => ?_) (fun c102 => ?_)
                · skip
                  refine Ev.iload_n rfl rfl ?_
                  refine Ev.bipush (v := 50) rfl (by decide) ?_
                  refine Ev.jlt (tgt := 139) rfl (by decide) (fun c118 => ?_) (fun c118 => ?_)
                  · skip
                    refine Ev.iconst (v := (-1)) rfl (by decide) ?_
                    refine Ev.iret (ty := .int) rfl rfl rfl (Nat.le_refl _) (Nat.le_refl _) ?_
                    rw [← hQ]
                    refine ⟨congrArg (fun v => some (Value.int v)) (Eq.symm ?_), rfl⟩
                    unfold K_toldS
                    rw [if_neg c1]
                    rw [if_neg c11]
                    rw [if_neg c21]
                    rw [if_neg c27]
                    rw [if_pos c42]
                    rw [if_pos c69]
                    rw [if_neg c96]
                    rw [if_neg c102]
                    rw [if_pos c118]
                  · skip
                    refine Ev.iload_n rfl rfl ?_
                    refine Ev.bipush (v := 57) rfl (by decide) ?_
                    refine Ev.jge (tgt := 139) rfl (by decide) (fun c124 => ?_) (fun c124 => ?_)
                    · skip
                      refine Ev.iconst (v := (-1)) rfl (by decide) ?_
                      refine Ev.iret (ty := .int) rfl rfl rfl (Nat.le_refl _) (Nat.le_refl _) ?_
                      rw [← hQ]
                      refine ⟨congrArg (fun v => some (Value.int v)) (Eq.symm ?_), rfl⟩
                      unfold K_toldS
                      rw [if_neg c1]
                      rw [if_neg c11]
                      rw [if_neg c21]
                      rw [if_neg c27]
                      rw [if_pos c42]
                      rw [if_pos c69]
                      rw [if_neg c96]
                      rw [if_neg c102]
                      rw [if_neg c118]
                      rw [if_neg c124]
                    · skip
                      refine Ev.aload_n rfl rfl ?_
                      refine Ev.getf rfl rfl h0 rfl ?_
                      refine Ev.iload_n rfl rfl ?_
                      refine Ev.bipush (v := 50) rfl (by decide) ?_
                      refine Ev.isub rfl ?_
                      obtain ⟨kk, hkk, -, ekk⟩ := ix_vp (A := 50) (n := 7) c118 c124 rfl rfl (by decide)
                      rw [ekk]
                      refine Ev.ialdN (k := kk) rfl h9 rfl ⟨(by omega), by decide⟩ ?_
                      rw [show kk = (w - 50).toNatClampNeg from by rw [ekk, nI_clamp (by omega)]]
                      refine Ev.goto (tgt := 140) rfl (by decide) ?_
                      refine Ev.iret (ty := .int) rfl rfl rfl (Nat.le_refl _) (Nat.le_refl _) ?_
                      rw [← hQ]
                      refine ⟨congrArg (fun v => some (Value.int v)) (Eq.symm ?_), rfl⟩
                      unfold K_toldS
                      rw [if_neg c1]
                      rw [if_neg c11]
                      rw [if_neg c21]
                      rw [if_neg c27]
                      rw [if_pos c42]
                      rw [if_pos c69]
                      rw [if_neg c96]
                      rw [if_neg c102]
                      rw [if_neg c118]
                      rw [if_pos c124]
                · skip
                  refine Ev.aload_n rfl rfl ?_
                  refine Ev.getf rfl rfl h0 rfl ?_
                  refine Ev.iload_n rfl rfl ?_
                  refine Ev.bipush (v := 40) rfl (by decide) ?_
                  refine Ev.isub rfl ?_
                  obtain ⟨kk, hkk, -, ekk⟩ := ix_vp (A := 40) (n := 7) c96 c102 rfl rfl (by decide)
                  rw [ekk]
                  refine Ev.ialdN (k := kk) rfl h8 rfl ⟨(by omega), by decide⟩ ?_
                  rw [show kk = (w - 40).toNatClampNeg from by rw [ekk, nI_clamp (by omega)]]
                  refine Ev.iret (ty := .int) rfl rfl rfl (Nat.le_refl _) (Nat.le_refl _) ?_
                  rw [← hQ]
                  refine ⟨congrArg (fun v => some (Value.int v)) (Eq.symm ?_), rfl⟩
                  unfold K_toldS
                  rw [if_neg c1]
                  rw [if_neg c11]
                  rw [if_neg c21]
                  rw [if_neg c27]
                  rw [if_pos c42]
                  rw [if_pos c69]
                  rw [if_neg c96]
                  rw [if_pos c102]
            · skip
              refine Ev.iload_n rfl rfl ?_
              refine Ev.bipush (v := 30) rfl (by decide) ?_
              refine Ev.aload_n rfl rfl ?_
              refine Ev.getf rfl rfl h0 rfl ?_
              refine Ev.iadd rfl ?_
              refine Ev.jge (tgt := 93) rfl (by decide) (fun c80 => ?_) (fun c80 => ?_)
              · skip
                refine Ev.iload_n rfl rfl ?_
                refine Ev.bipush (v := 40) rfl (by decide) ?_
                refine Ev.jlt (tgt := 115) rfl (by decide) (fun c96 => ?_) (fun c96 => ?_)
                · skip
                  refine Ev.iload_n rfl rfl ?_
                  refine Ev.bipush (v := 50) rfl (by decide) ?_
                  refine Ev.jlt (tgt := 139) rfl (by decide) (fun c118 => ?_) (fun c118 => ?_)
                  · skip
                    refine Ev.iconst (v := (-1)) rfl (by decide) ?_
                    refine Ev.iret (ty := .int) rfl rfl rfl (Nat.le_refl _) (Nat.le_refl _) ?_
                    rw [← hQ]
                    refine ⟨congrArg (fun v => some (Value.int v)) (Eq.symm ?_), rfl⟩
                    unfold K_toldS
                    rw [if_neg c1]
                    rw [if_neg c11]
                    rw [if_neg c21]
                    rw [if_neg c27]
                    rw [if_pos c42]
                    rw [if_neg c69]
                    rw [if_neg c80]
                    rw [if_pos c96]
                    rw [if_pos c118]
                  · skip
                    refine Ev.iload_n rfl rfl ?_
                    refine Ev.bipush (v := 57) rfl (by decide) ?_
                    refine Ev.jge (tgt := 139) rfl (by decide) (fun c124 => ?_) (fun c124 => ?_)
                    · skip
                      refine Ev.iconst (v := (-1)) rfl (by decide) ?_
                      refine Ev.iret (ty := .int) rfl rfl rfl (Nat.le_refl _) (Nat.le_refl _) ?_
                      rw [← hQ]
                      refine ⟨congrArg (fun v => some (Value.int v)) (Eq.symm ?_), rfl⟩
                      unfold K_toldS
                      rw [if_neg c1]
                      rw [if_neg c11]
                      rw [if_neg c21]
                      rw [if_neg c27]
                      rw [if_pos c42]
                      rw [if_neg c69]
                      rw [if_neg c80]
                      rw [if_pos c96]
                      rw [if_neg c118]
                      rw [if_neg c124]
                    · skip
                      refine Ev.aload_n rfl rfl ?_
                      refine Ev.getf rfl rfl h0 rfl ?_
                      refine Ev.iload_n rfl rfl ?_
                      refine Ev.bipush (v := 50) rfl (by decide) ?_
                      refine Ev.isub rfl ?_
                      obtain ⟨kk, hkk, -, ekk⟩ := ix_vp (A := 50) (n := 7) c118 c124 rfl rfl (by decide)
                      rw [ekk]
                      refine Ev.ialdN (k := kk) rfl h9 rfl ⟨(by omega), by decide⟩ ?_
                      rw [show kk = (w - 50).toNatClampNeg from by rw [ekk, nI_clamp (by omega)]]
                      refine Ev.goto (tgt := 140) rfl (by decide) ?_
                      refine Ev.iret (ty := .int) rfl rfl rfl (Nat.le_refl _) (Nat.le_refl _) ?_
                      rw [← hQ]
                      refine ⟨congrArg (fun v => some (Value.int v)) (Eq.symm ?_), rfl⟩
                      unfold K_toldS
                      rw [if_neg c1]
                      rw [if_neg c11]
                      rw [if_neg c21]
                      rw [if_neg c27]
                      rw [if_pos c42]
                      rw [if_neg c69]
                      rw [if_neg c80]
                      rw [if_pos c96]
                      rw [if_neg c118]
                      rw [if_pos c124]
                · skip
                  refine Ev.iload_n rfl rfl ?_
                  refine Ev.bipush (v := 47) rfl (by decide) ?_
                  refine Ev.jge (tgt := 115) rfl (by decide) (fun c102 => ?_) (fun c102 => ?_)
                  · skip
                    refine Ev.iload_n rfl rfl ?_
                    refine Ev.bipush (v := 50) rfl (by decide) ?_
                    refine Ev.jlt (tgt := 139) rfl (by decide) (fun c118 => ?_) (fun c118 => ?_)
                    · skip
                      refine Ev.iconst (v := (-1)) rfl (by decide) ?_
                      refine Ev.iret (ty := .int) rfl rfl rfl (Nat.le_refl _) (Nat.le_refl _) ?_
                      rw [← hQ]
                      refine ⟨congrArg (fun v => some (Value.int v)) (Eq.symm ?_), rfl⟩
                      unfold K_toldS
                      rw [if_neg c1]
                      rw [if_neg c11]
                      rw [if_neg c21]
                      rw [if_neg c27]
                      rw [if_pos c42]
                      rw [if_neg c69]
                      rw [if_neg c80]
                      rw [if_neg c96]
                      rw [if_neg c102]
                      rw [if_pos c118]
                    · skip
                      refine Ev.iload_n rfl rfl ?_
                      refine Ev.bipush (v := 57) rfl (by decide) ?_
                      refine Ev.jge (tgt := 139) rfl (by decide) (fun c124 => ?_) (fun c124 => ?_)
                      · skip
                        refine Ev.iconst (v := (-1)) rfl (by decide) ?_
                        refine Ev.iret (ty := .int) rfl rfl rfl (Nat.le_refl _) (Nat.le_refl _) ?_
                        rw [← hQ]
                        refine ⟨congrArg (fun v => some (Value.int v)) (Eq.symm ?_), rfl⟩
                        unfold K_toldS
                        rw [if_neg c1]
                        rw [if_neg c11]
                        rw [if_neg c21]
                        rw [if_neg c27]
                        rw [if_pos c42]
                        rw [if_neg c69]
                        rw [if_neg c80]
                        rw [if_neg c96]
                        rw [if_neg c102]
                        rw [if_neg c118]
                        rw [if_neg c124]
                      · skip
                        refine Ev.aload_n rfl rfl ?_
                        refine Ev.getf rfl rfl h0 rfl ?_
                        refine Ev.iload_n rfl rfl ?_
                        refine Ev.bipush (v := 50) rfl (by decide) ?_
                        refine Ev.isub rfl ?_
                        obtain ⟨kk, hkk, -, ekk⟩ := ix_vp (A := 50) (n := 7) c118 c124 rfl rfl (by decide)
                        rw [ekk]
                        refine Ev.ialdN (k := kk) rfl h9 rfl ⟨(by omega), by decide⟩ ?_
                        rw [show kk = (w - 50).toNatClampNeg from by rw [ekk, nI_clamp (by omega)]]
                        refine Ev.goto (tgt := 140) rfl (by decide) ?_
                        refine Ev.iret (ty := .int) rfl rfl rfl (Nat.le_refl _) (Nat.le_refl _) ?_
                        rw [← hQ]
                        refine ⟨congrArg (fun v => some (Value.int v)) (Eq.symm ?_), rfl⟩
                        unfold K_toldS
                        rw [if_neg c1]
                        rw [if_neg c11]
                        rw [if_neg c21]
                        rw [if_neg c27]
                        rw [if_pos c42]
                        rw [if_neg c69]
                        rw [if_neg c80]
                        rw [if_neg c96]
                        rw [if_neg c102]
                        rw [if_neg c118]
                        rw [if_pos c124]
                  · skip
                    refine Ev.aload_n rfl rfl ?_
                    refine Ev.getf rfl rfl h0 rfl ?_
                    refine Ev.iload_n rfl rfl ?_
                    refine Ev.bipush (v := 40) rfl (by decide) ?_
                    refine Ev.isub rfl ?_
                    obtain ⟨kk, hkk, -, ekk⟩ := ix_vp (A := 40) (n := 7) c96 c102 rfl rfl (by decide)
                    rw [ekk]
                    refine Ev.ialdN (k := kk) rfl h8 rfl ⟨(by omega), by decide⟩ ?_
                    rw [show kk = (w - 40).toNatClampNeg from by rw [ekk, nI_clamp (by omega)]]
                    refine Ev.iret (ty := .int) rfl rfl rfl (Nat.le_refl _) (Nat.le_refl _) ?_
                    rw [← hQ]
                    refine ⟨congrArg (fun v => some (Value.int v)) (Eq.symm ?_), rfl⟩
                    unfold K_toldS
                    rw [if_neg c1]
                    rw [if_neg c11]
                    rw [if_neg c21]
                    rw [if_neg c27]
                    rw [if_pos c42]
                    rw [if_neg c69]
                    rw [if_neg c80]
                    rw [if_neg c96]
                    rw [if_pos c102]
              · skip
                refine Ev.aload_n rfl rfl ?_
                refine Ev.getf rfl rfl h0 rfl ?_
                refine Ev.iload_n rfl rfl ?_
                refine Ev.bipush (v := 30) rfl (by decide) ?_
                refine Ev.isub rfl ?_
                obtain ⟨kk, hkk, -, ekk⟩ := ix_vp (A := 30) (n := S.2.1) c69 c80 rfl (nq_add (a := 30) rfl rfl) (by omega)
                rw [ekk]
                refine Ev.ialdN (k := kk) rfl h7 rfl ⟨(by omega), by decide⟩ ?_
                rw [show kk = (w - 30).toNatClampNeg from by rw [ekk, nI_clamp (by omega)]]
                refine Ev.iret (ty := .int) rfl rfl rfl (Nat.le_refl _) (Nat.le_refl _) ?_
                rw [← hQ]
                refine ⟨congrArg (fun v => some (Value.int v)) (Eq.symm ?_), rfl⟩
                unfold K_toldS
                rw [if_neg c1]
                rw [if_neg c11]
                rw [if_neg c21]
                rw [if_neg c27]
                rw [if_pos c42]
                rw [if_neg c69]
                rw [if_pos c80]
          · skip
            refine Ev.iload_n rfl rfl ?_
            refine Ev.bipush (v := 20) rfl (by decide) ?_
            refine Ev.aload_n rfl rfl ?_
            refine Ev.getf rfl rfl h0 rfl ?_
            refine Ev.iadd rfl ?_
            refine Ev.jge (tgt := 66) rfl (by decide) (fun c53 => ?_) (fun c53 => ?_)
            · skip
              refine Ev.iload_n rfl rfl ?_
              refine Ev.bipush (v := 30) rfl (by decide) ?_
              refine Ev.jlt (tgt := 93) rfl (by decide) (fun c69 => ?_) (fun c69 => ?_)
              · skip
                refine Ev.iload_n rfl rfl ?_
                refine Ev.bipush (v := 40) rfl (by decide) ?_
                refine Ev.jlt (tgt := 115) rfl (by decide) (fun c96 => ?_) (fun c96 => ?_)
                · skip
                  refine Ev.iload_n rfl rfl ?_
                  refine Ev.bipush (v := 50) rfl (by decide) ?_
                  refine Ev.jlt (tgt := 139) rfl (by decide) (fun c118 => ?_) (fun c118 => ?_)
                  · skip
                    refine Ev.iconst (v := (-1)) rfl (by decide) ?_
                    refine Ev.iret (ty := .int) rfl rfl rfl (Nat.le_refl _) (Nat.le_refl _) ?_
                    rw [← hQ]
                    refine ⟨congrArg (fun v => some (Value.int v)) (Eq.symm ?_), rfl⟩
                    unfold K_toldS
                    rw [if_neg c1]
                    rw [if_neg c11]
                    rw [if_neg c21]
                    rw [if_neg c27]
                    rw [if_neg c42]
                    rw [if_neg c53]
                    rw [if_pos c69]
                    rw [if_pos c96]
                    rw [if_pos c118]
                  · skip
                    refine Ev.iload_n rfl rfl ?_
                    refine Ev.bipush (v := 57) rfl (by decide) ?_
                    refine Ev.jge (tgt := 139) rfl (by decide) (fun c124 => ?_) (fun c124 => ?_)
                    · skip
                      refine Ev.iconst (v := (-1)) rfl (by decide) ?_
                      refine Ev.iret (ty := .int) rfl rfl rfl (Nat.le_refl _) (Nat.le_refl _) ?_
                      rw [← hQ]
                      refine ⟨congrArg (fun v => some (Value.int v)) (Eq.symm ?_), rfl⟩
                      unfold K_toldS
                      rw [if_neg c1]
                      rw [if_neg c11]
                      rw [if_neg c21]
                      rw [if_neg c27]
                      rw [if_neg c42]
                      rw [if_neg c53]
                      rw [if_pos c69]
                      rw [if_pos c96]
                      rw [if_neg c118]
                      rw [if_neg c124]
                    · skip
                      refine Ev.aload_n rfl rfl ?_
                      refine Ev.getf rfl rfl h0 rfl ?_
                      refine Ev.iload_n rfl rfl ?_
                      refine Ev.bipush (v := 50) rfl (by decide) ?_
                      refine Ev.isub rfl ?_
                      obtain ⟨kk, hkk, -, ekk⟩ := ix_vp (A := 50) (n := 7) c118 c124 rfl rfl (by decide)
                      rw [ekk]
                      refine Ev.ialdN (k := kk) rfl h9 rfl ⟨(by omega), by decide⟩ ?_
                      rw [show kk = (w - 50).toNatClampNeg from by rw [ekk, nI_clamp (by omega)]]
                      refine Ev.goto (tgt := 140) rfl (by decide) ?_
                      refine Ev.iret (ty := .int) rfl rfl rfl (Nat.le_refl _) (Nat.le_refl _) ?_
                      rw [← hQ]
                      refine ⟨congrArg (fun v => some (Value.int v)) (Eq.symm ?_), rfl⟩
                      unfold K_toldS
                      rw [if_neg c1]
                      rw [if_neg c11]
                      rw [if_neg c21]
                      rw [if_neg c27]
                      rw [if_neg c42]
                      rw [if_neg c53]
                      rw [if_pos c69]
                      rw [if_pos c96]
                      rw [if_neg c118]
                      rw [if_pos c124]
                · skip
                  refine Ev.iload_n rfl rfl ?_
                  refine Ev.bipush (v := 47) rfl (by decide) ?_
                  refine Ev.jge (tgt := 115) rfl (by decide) (fun c102 => ?_) (fun c102 => ?_)
                  · skip
                    refine Ev.iload_n rfl rfl ?_
                    refine Ev.bipush (v := 50) rfl (by decide) ?_
                    refine Ev.jlt (tgt := 139) rfl (by decide) (fun c118 => ?_) (fun c118 => ?_)
                    · skip
                      refine Ev.iconst (v := (-1)) rfl (by decide) ?_
                      refine Ev.iret (ty := .int) rfl rfl rfl (Nat.le_refl _) (Nat.le_refl _) ?_
                      rw [← hQ]
                      refine ⟨congrArg (fun v => some (Value.int v)) (Eq.symm ?_), rfl⟩
                      unfold K_toldS
                      rw [if_neg c1]
                      rw [if_neg c11]
                      rw [if_neg c21]
                      rw [if_neg c27]
                      rw [if_neg c42]
                      rw [if_neg c53]
                      rw [if_pos c69]
                      rw [if_neg c96]
                      rw [if_neg c102]
                      rw [if_pos c118]
                    · skip
                      refine Ev.iload_n rfl rfl ?_
                      refine Ev.bipush (v := 57) rfl (by decide) ?_
                      refine Ev.jge (tgt := 139) rfl (by decide) (fun c124 => ?_) (fun c124 => ?_)
                      · skip
                        refine Ev.iconst (v := (-1)) rfl (by decide) ?_
                        refine Ev.iret (ty := .int) rfl rfl rfl (Nat.le_refl _) (Nat.le_refl _) ?_
                        rw [← hQ]
                        refine ⟨congrArg (fun v => some (Value.int v)) (Eq.symm ?_), rfl⟩
                        unfold K_toldS
                        rw [if_neg c1]
                        rw [if_neg c11]
                        rw [if_neg c21]
                        rw [if_neg c27]
                        rw [if_neg c42]
                        rw [if_neg c53]
                        rw [if_pos c69]
                        rw [if_neg c96]
                        rw [if_neg c102]
                        rw [if_neg c118]
                        rw [if_neg c124]
                      · skip
                        refine Ev.aload_n rfl rfl ?_
                        refine Ev.getf rfl rfl h0 rfl ?_
                        refine Ev.iload_n rfl rfl ?_
                        refine Ev.bipush (v := 50) rfl (by decide) ?_
                        refine Ev.isub rfl ?_
                        obtain ⟨kk, hkk, -, ekk⟩ := ix_vp (A := 50) (n := 7) c118 c124 rfl rfl (by decide)
                        rw [ekk]
                        refine Ev.ialdN (k := kk) rfl h9 rfl ⟨(by omega), by decide⟩ ?_
                        rw [show kk = (w - 50).toNatClampNeg from by rw [ekk, nI_clamp (by omega)]]
                        refine Ev.goto (tgt := 140) rfl (by decide) ?_
                        refine Ev.iret (ty := .int) rfl rfl rfl (Nat.le_refl _) (Nat.le_refl _) ?_
                        rw [← hQ]
                        refine ⟨congrArg (fun v => some (Value.int v)) (Eq.symm ?_), rfl⟩
                        unfold K_toldS
                        rw [if_neg c1]
                        rw [if_neg c11]
                        rw [if_neg c21]
                        rw [if_neg c27]
                        rw [if_neg c42]
                        rw [if_neg c53]
                        rw [if_pos c69]
                        rw [if_neg c96]
                        rw [if_neg c102]
                        rw [if_neg c118]
                        rw [if_pos c124]
                  · skip
                    refine Ev.aload_n rfl rfl ?_
                    refine Ev.getf rfl rfl h0 rfl ?_
                    refine Ev.iload_n rfl rfl ?_
                    refine Ev.bipush (v := 40) rfl (by decide) ?_
                    refine Ev.isub rfl ?_
                    obtain ⟨kk, hkk, -, ekk⟩ := ix_vp (A := 40) (n := 7) c96 c102 rfl rfl (by decide)
                    rw [ekk]
                    refine Ev.ialdN (k := kk) rfl h8 rfl ⟨(by omega), by decide⟩ ?_
                    rw [show kk = (w - 40).toNatClampNeg from by rw [ekk, nI_clamp (by omega)]]
                    refine Ev.iret (ty := .int) rfl rfl rfl (Nat.le_refl _) (Nat.le_refl _) ?_
                    rw [← hQ]
                    refine ⟨congrArg (fun v => some (Value.int v)) (Eq.symm ?_), rfl⟩
                    unfold K_toldS
                    rw [if_neg c1]
                    rw [if_neg c11]
                    rw [if_neg c21]
                    rw [if_neg c27]
                    rw [if_neg c42]
                    rw [if_neg c53]
                    rw [if_pos c69]
                    rw [if_neg c96]
                    rw [if_pos c102]
              · skip
                refine Ev.iload_n rfl rfl ?_
                refine Ev.bipush (v := 30) rfl (by decide) ?_
                refine Ev.aload_n rfl rfl ?_
                refine Ev.getf rfl rfl h0 rfl ?_
                refine Ev.iadd rfl ?_
                refine Ev.jge (tgt := 93) rfl (by decide) (fun c80 => ?_) (fun c80 => ?_)
                · skip
                  refine Ev.iload_n rfl rfl ?_
                  refine Ev.bipush (v := 40) rfl (by decide) ?_
                  refine Ev.jlt (tgt := 115) rfl (by decide) (fun c96 => ?_) (fun c96 => ?_)
                  · skip
                    refine Ev.iload_n rfl rfl ?_
                    refine Ev.bipush (v := 50) rfl (by decide) ?_
                    refine Ev.jlt (tgt := 139) rfl (by decide) (fun c118 => ?_) (fun c118 => ?_)
                    · skip
                      refine Ev.iconst (v := (-1)) rfl (by decide) ?_
                      refine Ev.iret (ty := .int) rfl rfl rfl (Nat.le_refl _) (Nat.le_refl _) ?_
                      rw [← hQ]
                      refine ⟨congrArg (fun v => some (Value.int v)) (Eq.symm ?_), rfl⟩
                      unfold K_toldS
                      rw [if_neg c1]
                      rw [if_neg c11]
                      rw [if_neg c21]
                      rw [if_neg c27]
                      rw [if_neg c42]
                      rw [if_neg c53]
                      rw [if_neg c69]
                      rw [if_neg c80]
                      rw [if_pos c96]
                      rw [if_pos c118]
                    · skip
                      refine Ev.iload_n rfl rfl ?_
                      refine Ev.bipush (v := 57) rfl (by decide) ?_
                      refine Ev.jge (tgt := 139) rfl (by decide) (fun c124 => ?_) (fun c124 => ?_)
                      · skip
                        refine Ev.iconst (v := (-1)) rfl (by decide) ?_
                        refine Ev.iret (ty := .int) rfl rfl rfl (Nat.le_refl _) (Nat.le_refl _) ?_
                        rw [← hQ]
                        refine ⟨congrArg (fun v => some (Value.int v)) (Eq.symm ?_), rfl⟩
                        unfold K_toldS
                        rw [if_neg c1]
                        rw [if_neg c11]
                        rw [if_neg c21]
                        rw [if_neg c27]
                        rw [if_neg c42]
                        rw [if_neg c53]
                        rw [if_neg c69]
                        rw [if_neg c80]
                        rw [if_pos c96]
                        rw [if_neg c118]
                        rw [if_neg c124]
                      · skip
                        refine Ev.aload_n rfl rfl ?_
                        refine Ev.getf rfl rfl h0 rfl ?_
                        refine Ev.iload_n rfl rfl ?_
                        refine Ev.bipush (v := 50) rfl (by decide) ?_
                        refine Ev.isub rfl ?_
                        obtain ⟨kk, hkk, -, ekk⟩ := ix_vp (A := 50) (n := 7) c118 c124 rfl rfl (by decide)
                        rw [ekk]
                        refine Ev.ialdN (k := kk) rfl h9 rfl ⟨(by omega), by decide⟩ ?_
                        rw [show kk = (w - 50).toNatClampNeg from by rw [ekk, nI_clamp (by omega)]]
                        refine Ev.goto (tgt := 140) rfl (by decide) ?_
                        refine Ev.iret (ty := .int) rfl rfl rfl (Nat.le_refl _) (Nat.le_refl _) ?_
                        rw [← hQ]
                        refine ⟨congrArg (fun v => some (Value.int v)) (Eq.symm ?_), rfl⟩
                        unfold K_toldS
                        rw [if_neg c1]
                        rw [if_neg c11]
                        rw [if_neg c21]
                        rw [if_neg c27]
                        rw [if_neg c42]
                        rw [if_neg c53]
                        rw [if_neg c69]
                        rw [if_neg c80]
                        rw [if_pos c96]
                        rw [if_neg c118]
                        rw [if_pos c124]
                  · skip
                    refine Ev.iload_n rfl rfl ?_
                    refine Ev.bipush (v := 47) rfl (by decide) ?_
                    refine Ev.jge (tgt := 115) rfl (by decide) (fun c102 => ?_) (fun c102 => ?_)
                    · skip
                      refine Ev.iload_n rfl rfl ?_
                      refine Ev.bipush (v := 50) rfl (by decide) ?_
                      refine Ev.jlt (tgt := 139) rfl (by decide) (fun c118 => ?_) (fun c118 => ?_)
                      · skip
                        refine Ev.iconst (v := (-1)) rfl (by decide) ?_
                        refine Ev.iret (ty := .int) rfl rfl rfl (Nat.le_refl _) (Nat.le_refl _) ?_
                        rw [← hQ]
                        refine ⟨congrArg (fun v => some (Value.int v)) (Eq.symm ?_), rfl⟩
                        unfold K_toldS
                        rw [if_neg c1]
                        rw [if_neg c11]
                        rw [if_neg c21]
                        rw [if_neg c27]
                        rw [if_neg c42]
                        rw [if_neg c53]
                        rw [if_neg c69]
                        rw [if_neg c80]
                        rw [if_neg c96]
                        rw [if_neg c102]
                        rw [if_pos c118]
                      · skip
                        refine Ev.iload_n rfl rfl ?_
                        refine Ev.bipush (v := 57) rfl (by decide) ?_
                        refine Ev.jge (tgt := 139) rfl (by decide) (fun c124 => ?_) (fun c124 => ?_)
                        · skip
                          refine Ev.iconst (v := (-1)) rfl (by decide) ?_
                          refine Ev.iret (ty := .int) rfl rfl rfl (Nat.le_refl _) (Nat.le_refl _) ?_
                          rw [← hQ]
                          refine ⟨congrArg (fun v => some (Value.int v)) (Eq.symm ?_), rfl⟩
                          unfold K_toldS
                          rw [if_neg c1]
                          rw [if_neg c11]
                          rw [if_neg c21]
                          rw [if_neg c27]
                          rw [if_neg c42]
                          rw [if_neg c53]
                          rw [if_neg c69]
                          rw [if_neg c80]
                          rw [if_neg c96]
                          rw [if_neg c102]
                          rw [if_neg c118]
                          rw [if_neg c124]
                        · skip
                          refine Ev.aload_n rfl rfl ?_
                          refine Ev.getf rfl rfl h0 rfl ?_
                          refine Ev.iload_n rfl rfl ?_
                          refine Ev.bipush (v := 50) rfl (by decide) ?_
                          refine Ev.isub rfl ?_
                          obtain ⟨kk, hkk, -, ekk⟩ := ix_vp (A := 50) (n := 7) c118 c124 rfl rfl (by decide)
                          rw [ekk]
                          refine Ev.ialdN (k := kk) rfl h9 rfl ⟨(by omega), by decide⟩ ?_
                          rw [show kk = (w - 50).toNatClampNeg from by rw [ekk, nI_clamp (by omega)]]
                          refine Ev.goto (tgt := 140) rfl (by decide) ?_
                          refine Ev.iret (ty := .int) rfl rfl rfl (Nat.le_refl _) (Nat.le_refl _) ?_
                          rw [← hQ]
                          refine ⟨congrArg (fun v => some (Value.int v)) (Eq.symm ?_), rfl⟩
                          unfold K_toldS
                          rw [if_neg c1]
                          rw [if_neg c11]
                          rw [if_neg c21]
                          rw [if_neg c27]
                          rw [if_neg c42]
                          rw [if_neg c53]
                          rw [if_neg c69]
                          rw [if_neg c80]
                          rw [if_neg c96]
                          rw [if_neg c102]
                          rw [if_neg c118]
                          rw [if_pos c124]
                    · skip
                      refine Ev.aload_n rfl rfl ?_
                      refine Ev.getf rfl rfl h0 rfl ?_
                      refine Ev.iload_n rfl rfl ?_
                      refine Ev.bipush (v := 40) rfl (by decide) ?_
                      refine Ev.isub rfl ?_
                      obtain ⟨kk, hkk, -, ekk⟩ := ix_vp (A := 40) (n := 7) c96 c102 rfl rfl (by decide)
                      rw [ekk]
                      refine Ev.ialdN (k := kk) rfl h8 rfl ⟨(by omega), by decide⟩ ?_
                      rw [show kk = (w - 40).toNatClampNeg from by rw [ekk, nI_clamp (by omega)]]
                      refine Ev.iret (ty := .int) rfl rfl rfl (Nat.le_refl _) (Nat.le_refl _) ?_
                      rw [← hQ]
                      refine ⟨congrArg (fun v => some (Value.int v)) (Eq.symm ?_), rfl⟩
                      unfold K_toldS
                      rw [if_neg c1]
                      rw [if_neg c11]
                      rw [if_neg c21]
                      rw [if_neg c27]
                      rw [if_neg c42]
                      rw [if_neg c53]
                      rw [if_neg c69]
                      rw [if_neg c80]
                      rw [if_neg c96]
                      rw [if_pos c102]
                · skip
                  refine Ev.aload_n rfl rfl ?_
                  refine Ev.getf rfl rfl h0 rfl ?_
                  refine Ev.iload_n rfl rfl ?_
                  refine Ev.bipush (v := 30) rfl (by decide) ?_
                  refine Ev.isub rfl ?_
                  obtain ⟨kk, hkk, -, ekk⟩ := ix_vp (A := 30) (n := S.2.1) c69 c80 rfl (nq_add (a := 30) rfl rfl) (by omega)
                  rw [ekk]
                  refine Ev.ialdN (k := kk) rfl h7 rfl ⟨(by omega), by decide⟩ ?_
                  rw [show kk = (w - 30).toNatClampNeg from by rw [ekk, nI_clamp (by omega)]]
                  refine Ev.iret (ty := .int) rfl rfl rfl (Nat.le_refl _) (Nat.le_refl _) ?_
                  rw [← hQ]
                  refine ⟨congrArg (fun v => some (Value.int v)) (Eq.symm ?_), rfl⟩
                  unfold K_toldS
                  rw [if_neg c1]
                  rw [if_neg c11]
                  rw [if_neg c21]
                  rw [if_neg c27]
                  rw [if_neg c42]
                  rw [if_neg c53]
                  rw [if_neg c69]
                  rw [if_pos c80]
            · skip
              refine Ev.aload_n rfl rfl ?_
              refine Ev.getf rfl rfl h0 rfl ?_
              refine Ev.iload_n rfl rfl ?_
              refine Ev.bipush (v := 20) rfl (by decide) ?_
              refine Ev.isub rfl ?_
              obtain ⟨kk, hkk, -, ekk⟩ := ix_vp (A := 20) (n := S.2.1) c42 c53 rfl (nq_add (a := 20) rfl rfl) (by omega)
              rw [ekk]
              refine Ev.ialdN (k := kk) rfl h6' rfl ⟨(by omega), by decide⟩ ?_
              rw [show kk = (w - 20).toNatClampNeg from by rw [ekk, nI_clamp (by omega)]]
              refine Ev.iret (ty := .int) rfl rfl rfl (Nat.le_refl _) (Nat.le_refl _) ?_
              rw [← hQ]
              refine ⟨congrArg (fun v => some (Value.int v)) (Eq.symm ?_), rfl⟩
              unfold K_toldS
              rw [if_neg c1]
              rw [if_neg c11]
              rw [if_neg c21]
              rw [if_neg c27]
              rw [if_neg c42]
              rw [if_pos c53]
        · skip
          refine Ev.aload_n rfl rfl ?_
          refine Ev.getf rfl rfl h0 rfl ?_
          refine Ev.iload_n rfl rfl ?_
          refine Ev.iconst (v := 2) rfl (by decide) ?_
          refine Ev.isub rfl ?_
          obtain ⟨kk, hkk, -, ekk⟩ := ix_vp (A := 2) (n := 11) c21 c27 rfl rfl (by decide)
          rw [ekk]
          refine Ev.ialdN (k := kk) rfl h10 rfl ⟨(by omega), by decide⟩ ?_
          rw [show kk = (w - 2).toNatClampNeg from by rw [ekk, nI_clamp (by omega)]]
          refine Ev.iret (ty := .int) rfl rfl rfl (Nat.le_refl _) (Nat.le_refl _) ?_
          rw [← hQ]
          refine ⟨congrArg (fun v => some (Value.int v)) (Eq.symm ?_), rfl⟩
          unfold K_toldS
          rw [if_neg c1]
          rw [if_neg c11]
          rw [if_neg c21]
          rw [if_pos c27]
    · skip
      refine Ev.aload_n rfl rfl ?_
      refine Ev.getf rfl rfl h0 rfl ?_
      refine Ev.iret (ty := .int) rfl rfl rfl (Nat.le_refl _) (Nat.le_refl _) ?_
      rw [← hQ]
      refine ⟨congrArg (fun v => some (Value.int v)) (Eq.symm ?_), rfl⟩
      unfold K_toldS
      rw [if_neg c1]
      rw [if_pos c11]
  · skip
    refine Ev.aload_n rfl rfl ?_
    refine Ev.getf rfl rfl h0 rfl ?_
    refine Ev.iret (ty := .int) rfl rfl rfl (Nat.le_refl _) (Nat.le_refl _) ?_
    rw [← hQ]
    refine ⟨congrArg (fun v => some (Value.int v)) (Eq.symm ?_), rfl⟩
    unfold K_toldS
    rw [if_pos c1]
def K_about (T : Tol) (i : Nat) (w : Int32) : Int32 := K_toldS (tS T i) w
theorem about_some (hX : isX σ x) (hT : isT σ (x + 1) T) (hw : wT T) {u : Int32} {i : Nat} (hg : u = nI i ∧ i < tSn T) (w : Int32) : RetV Γ m_SD_about [(.ref x), .int u, (.int w)] σ (.int (K_about T i w)) := by
  unfold isX at hX
  obtain ⟨t0, t1, ⟨fs, t2, t3⟩, ⟨fp, t4, t5⟩, t6, t7⟩ := id hT
  obtain ⟨rfl, hi⟩ := hg
  have hw1 := hw.2.1
  have hwS := hw.2.2.2.1 i hi
  have hn16 := hwS.1
  have hn5 := hwS.2.1
  have hSi := t6 i (by omega)
  obtain ⟨h0, h1, h2, h3, h4, h5, h6', h7, h8, h9, h10⟩ := id hSi
  unfold RetV
  generalize hQ : (fun (r : Option Value) (σ' : ex_S) => r = some ((.int (K_about T i w)) : Value) ∧ σ' = σ) = Q
  refine Ret.start pm_6 rfl ?_
  refine Ev.aload_n rfl rfl ?_
  refine Ev.getf rfl rfl hX rfl ?_
  refine Ev.iload_n rfl rfl ?_
  refine Ev.cV1 rfl rfl t0 rfl rfl (by decide) ⟨(Nat.le_refl _), (Nat.le_refl _)⟩ (schoolAt_some hT hw1 hi) ?_
  refine Ev.astore_n rfl rfl rfl ?_
  refine Ev.aload_n rfl rfl ?_
  refine Ev.ifnonnull (tgt := 17) rfl (by decide) ?_
  refine Ev.aload_n rfl rfl ?_
  refine Ev.iload_n rfl rfl ?_
  refine Ev.cV1 rfl rfl h0 rfl rfl (by decide) ⟨(Nat.le_refl _), (Nat.le_refl _)⟩ (told_ok hSi hn16 hn5 _) ?_
  refine Ev.iret (ty := .int) rfl rfl rfl (Nat.le_refl _) (Nat.le_refl _) ?_
  rw [← hQ]
  refine ⟨congrArg (fun v => some (Value.int v)) (Eq.symm ?_), rfl⟩
  rfl
end
end
