/-! The reference, printed by sym.py: what is wrong, moves, merges, fees, spread. -/
noncomputable section
theorem K_in2 {w : Nat} (h : w ≤ 2) : K_in (nI w) 0 2 = 1 := by
  have : w = 0 ∨ w = 1 ∨ w = 2 := by omega
  rcases this with rfl | rfl | rfl <;> decide
theorem K_in12 {w : Nat} (h1 : 1 ≤ w) (h : w ≤ 12) : K_in (nI w) 1 12 = 1 := by
  have e1 : (1 : Int32) = nI 1 := rfl
  have e2 : (12 : Int32) = nI 12 := rfl
  unfold K_in
  rw [e1, if_neg (nI_nlt h1 (by omega)), e2, if_neg (nI_nlt h (by omega))]
theorem K_in012 {w : Nat} (h : w ≤ 12) : K_in (nI w) 0 12 = 1 := by
  have e2 : (12 : Int32) = nI 12 := rfl
  unfold K_in
  rw [if_neg (nI_pos (by omega)), e2, if_neg (nI_nlt h (by omega))]
section
variable {Γ : ex_G} {σ : ex_S} {x q a p y : Nat} {S : Sch} {T : Tol} {P : Pln} {g A : Nat → Int32}
variable {fnd : Nat → Int32}
def F_m_wrongC_57 (S : Sch) (P : Pln) (c0 : Nat) : Nat → (Int32 × Int32) → (Int32 × Int32) := fun k z => if (P.2 k 2) = (P.2 c0 2) then (if z.2 = (0 : Int32) then (if (P.2 k 1) = (P.2 c0 1) then (z.1 + (1 : Int32), (1 : Int32)) else (z.1 + (1 : Int32), (0 : Int32))) else (z.1 + (1 : Int32), (1 : Int32))) else (if z.2 = (0 : Int32) then (z.1 + (0 : Int32), (0 : Int32)) else (z.1 + (0 : Int32), (1 : Int32)))
def K_m_wrongC (S : Sch) (P : Pln) (c0 : Nat) : Int32 := if (((S.2.2 5 ((P.2 c0 1).toNatClampNeg)) >>> ((P.2 c0 2) &&& 31)) &&& (1 : Int32)) = (0 : Int32) then (1 : Int32) else (if ((fo (F_m_wrongC_57 S P c0) (c0) 0 ((0 : Int32), (0 : Int32))).2) = (0 : Int32) then (if ((fo (F_m_wrongC_57 S P c0) (c0) 0 ((0 : Int32), (0 : Int32))).1) < (S.2.2 9 4) then (if (K_bc (P.2 c0 5)) < (S.2.2 9 2) then (4 : Int32) else (if (S.2.2 9 3) < (K_bc (P.2 c0 5)) then (5 : Int32) else (0 : Int32))) else (3 : Int32)) else (2 : Int32))
theorem m_wrongC_ok (hM : isM σ y g A) {s : Nat} (hS : mS A s S) (hs : s + 120 ≤ 4500) (hwS : wS S) (hP : mP A (970 + 40 * p) P) (hp : p < 3) (hwP : wP P) (hgo : goP S P) {c0 : Nat} (hc0 : c0 < P.1) : RetV Γ m_M_wrongClass [(.ref y), (.int (nI s)), (.int (nI p)), (.int (nI c0))] σ (.int (K_m_wrongC S P c0)) := by
  obtain ⟨m0, m1⟩ := id hM
  have hn16 := hwS.1
  have hn5 := hwS.2.1
  have h6 := hwP.1
  unfold RetV
  generalize hQ : (fun (r : Option Value) (σ' : ex_S) => r = some ((.int (K_m_wrongC S P c0)) : Value) ∧ σ' = σ) = Q
  refine Ret.start pm_217 rfl ?_
  refine Ev.aload_n rfl rfl ?_
  refine Ev.iload_n rfl rfl ?_
  refine Ev.iload_n rfl rfl ?_
  refine Ev.cV2 rfl rfl m0 rfl rfl (by decide) ⟨(Nat.le_refl _), (Nat.le_refl _)⟩ (m_classAt_ok hM c0) ?_
  refine Ev.istore rfl rfl rfl ?_
  refine Ev.aload_n rfl rfl ?_
  refine Ev.getf rfl rfl m0 rfl ?_
  refine Ev.iload rfl rfl ?_
  refine Ev.iconst (v := 2) rfl (by decide) ?_
  refine Ev.iadd rfl ?_
  refine Ev.ialdN (k := 970 + 40 * p + 1 + 6 * c0 + 2) rfl m1 (nq_to (a := 970 + 40 * p + 1 + 6 * c0 + 2) (nq_add (a := 970 + 40 * p + 1 + 6 * c0) (b := 2) rfl (rfl : (2 : Int32) = nI 2)) (by omega)) ⟨(by omega), by decide⟩ ?_
  rw [show A (970 + 40 * p + 1 + 6 * c0 + 2) = _ from hP.2 c0 (by omega) 2 (by decide)]
  refine Ev.istore rfl rfl rfl ?_
  refine Ev.aload_n rfl rfl ?_
  refine Ev.getf rfl rfl m0 rfl ?_
  refine Ev.iload_n rfl rfl ?_
  refine Ev.bipush (v := 93) rfl (by decide) ?_
  refine Ev.iadd rfl ?_
  refine Ev.aload_n rfl rfl ?_
  refine Ev.getf rfl rfl m0 rfl ?_
  refine Ev.iload rfl rfl ?_
  refine Ev.iconst (v := 1) rfl (by decide) ?_
  refine Ev.iadd rfl ?_
  refine Ev.ialdN (k := 970 + 40 * p + 1 + 6 * c0 + 1) rfl m1 (nq_to (a := 970 + 40 * p + 1 + 6 * c0 + 1) (nq_add (a := 970 + 40 * p + 1 + 6 * c0) (b := 1) rfl (rfl : (1 : Int32) = nI 1)) (by omega)) ⟨(by omega), by decide⟩ ?_
  rw [show A (970 + 40 * p + 1 + 6 * c0 + 1) = _ from hP.2 c0 (by omega) 1 (by decide)]
  have hqb := (goT_cl (hgo c0 (by omega)).1).2
  refine Ev.iadd rfl ?_
  refine Ev.ialdN (k := s + 93 + ((P.2 c0 1).toNatClampNeg)) rfl m1 (nq_to (a := s + 93 + ((P.2 c0 1).toNatClampNeg)) (nq_add (a := s + 93) (b := (P.2 c0 1).toNatClampNeg) (nq_add (a := s) (b := 93) rfl (rfl : (93 : Int32) = nI 93)) (goT_cl (hgo c0 (by omega)).1).1) (by omega)) ⟨(by omega), by decide⟩ ?_
  rw [(hS.2.2.2.2.1 ((P.2 c0 1).toNatClampNeg) (by omega)).1]
  refine Ev.iload rfl rfl ?_
  refine Ev.ishr rfl ?_
  refine Ev.iconst (v := 1) rfl (by decide) ?_
  refine Ev.iand rfl ?_
  refine Ev.zne (tgt := 48) rfl (by decide) (fun c43 => ?_) (fun c43 => ?_)
  · skip
    refine Ev.iconst (v := 0) rfl (by decide) ?_
    refine Ev.istore rfl rfl rfl ?_
    refine Ev.iconst (v := 0) rfl (by decide) ?_
    refine Ev.istore rfl rfl rfl ?_
    refine Ev.iconst (v := 0) rfl (by decide) ?_
    refine Ev.istore rfl rfl rfl ?_
    refine Ev.fg (L := [some (.ref y), some (.int (nI s)), some (.int (nI p)), some (.int (nI c0)), some (.int (nI (970 + 40 * p + 1 + 6 * c0))), some (.int (P.2 c0 2)), some (.int (0 : Int32)), some (.int (0 : Int32)), some (.int (nI 0)), none]) ?_ (gs rfl (gs rfl (gs rfl (gs rfl (gs rfl (gs rfl (gs rfl (gs rfl (gs (congrArg Value.int (rfl : (0 : Int32) = nI 0).symm) (gn gz))))))))))
    refine lp (fun (k : Nat) (z : Int32 × Int32) => Ev Γ 0 0 m_M_wrongClass 0 0 57 [some (.ref y), some (.int (nI s)), some (.int (nI p)), some (.int (nI c0)), some (.int (nI (970 + 40 * p + 1 + 6 * c0))), some (.int (P.2 c0 2)), some (.int z.1), some (.int z.2), some (.int (nI k)), none] [] σ Q) (F_m_wrongC_57 S P c0) (c0) (fun k z hk hx => ?_) (c0) 0 ((0 : Int32), (0 : Int32)) (by omega) ?_
    · skip
      refine Ev.iload rfl rfl ?_
      refine Ev.iload_n rfl rfl ?_
      refine Ev.jge (tgt := 153) rfl (by decide) (fun c60 => absurd (nI_lt hk (by omega)) c60) (fun c60 => ?_)
      refine Ev.aload_n rfl rfl ?_
      refine Ev.getf rfl rfl m0 rfl ?_
      refine Ev.aload_n rfl rfl ?_
      refine Ev.iload_n rfl rfl ?_
      refine Ev.iload rfl rfl ?_
      refine Ev.cV2 rfl rfl m0 rfl rfl (by decide) ⟨(Nat.le_refl _), (Nat.le_refl _)⟩ (m_classAt_ok hM k) ?_
      refine Ev.iconst (v := 2) rfl (by decide) ?_
      refine Ev.iadd rfl ?_
      refine Ev.ialdN (k := 970 + 40 * p + 1 + 6 * k + 2) rfl m1 (nq_to (a := 970 + 40 * p + 1 + 6 * k + 2) (nq_add (a := 970 + 40 * p + 1 + 6 * k) (b := 2) rfl (rfl : (2 : Int32) = nI 2)) (by omega)) ⟨(by omega), by decide⟩ ?_
      rw [show A (970 + 40 * p + 1 + 6 * k + 2) = _ from hP.2 k (by omega) 2 (by decide)]
      refine Ev.iload rfl rfl ?_
      refine Ev.jne (tgt := 86) rfl (by decide) (fun c79 => ?_) (fun c79 => ?_)
      · skip
        refine Ev.iconst (v := 0) rfl (by decide) ?_
        refine Ev.istore rfl rfl rfl ?_
        refine Ev.iload rfl rfl ?_
        refine Ev.iload rfl rfl ?_
        refine Ev.zeq (tgt := 100) rfl (by decide) (fun c93 => ?_) (fun c93 => absurd (by decide) c93)
        refine Ev.iconst (v := 0) rfl (by decide) ?_
        refine Ev.iadd rfl ?_
        refine Ev.istore rfl rfl rfl ?_
        refine Ev.iload rfl rfl ?_
        refine Ev.zne (tgt := 140) rfl (by decide) (fun c106 => ?_) (fun c106 => ?_)
        · skip
          refine Ev.iconst (v := 1) rfl (by decide) ?_
          refine Ev.goto (tgt := 145) rfl (by decide) ?_
          refine Ev.istore rfl rfl rfl ?_
          refine Ev.iinc (d := 1) rfl rfl rfl (by decide) rfl ?_
          refine Ev.goto (tgt := 57) rfl (by decide) ?_
          have hF : (F_m_wrongC_57 S P c0) k z = (z.1 + (0 : Int32), (1 : Int32)) := by
            unfold F_m_wrongC_57
            rw [if_neg c79]
            rw [if_neg c106]
          rw [hF] at hx
          exact hx.fg (gs rfl (gs rfl (gs rfl (gs rfl (gs rfl (gs rfl (gs rfl (gs rfl (gs (congrArg Value.int (show nI (k + 1) = (nI k) + (1 : Int32) from (nq_to (a := k + 1) (nq_add (a := k) (b := 1) rfl (rfl : (1 : Int32) = nI 1)) (by omega)).symm)) (gn gz))))))))))
        · skip
          refine Ev.iload rfl rfl ?_
          refine Ev.zeq (tgt := 144) rfl (by decide) (fun c111 => ?_) (fun c111 => absurd (by decide) c111)
          refine Ev.iconst (v := 0) rfl (by decide) ?_
          refine Ev.istore rfl rfl rfl ?_
          refine Ev.iinc (d := 1) rfl rfl rfl (by decide) rfl ?_
          refine Ev.goto (tgt := 57) rfl (by decide) ?_
          have hF : (F_m_wrongC_57 S P c0) k z = (z.1 + (0 : Int32), (0 : Int32)) := by
            unfold F_m_wrongC_57
            rw [if_neg c79]
            rw [if_pos c106]
          rw [hF] at hx
          exact hx.fg (gs rfl (gs rfl (gs rfl (gs rfl (gs rfl (gs rfl (gs rfl (gs rfl (gs (congrArg Value.int (show nI (k + 1) = (nI k) + (1 : Int32) from (nq_to (a := k + 1) (nq_add (a := k) (b := 1) rfl (rfl : (1 : Int32) = nI 1)) (by omega)).symm)) (gn gz))))))))))
      · skip
        refine Ev.iconst (v := 1) rfl (by decide) ?_
        refine Ev.goto (tgt := 87) rfl (by decide) ?_
        refine Ev.istore rfl rfl rfl ?_
        refine Ev.iload rfl rfl ?_
        refine Ev.iload rfl rfl ?_
        refine Ev.zeq (tgt := 100) rfl (by decide) (fun c93 => absurd c93 (by decide)) (fun c93 => ?_)
        refine Ev.iconst (v := 1) rfl (by decide) ?_
        refine Ev.goto (tgt := 101) rfl (by decide) ?_
        refine Ev.iadd rfl ?_
        refine Ev.istore rfl rfl rfl ?_
        refine Ev.iload rfl rfl ?_
        refine Ev.zne (tgt := 140) rfl (by decide) (fun c106 => ?_) (fun c106 => ?_)
        · skip
          refine Ev.iconst (v := 1) rfl (by decide) ?_
          refine Ev.goto (tgt := 145) rfl (by decide) ?_
          refine Ev.istore rfl rfl rfl ?_
          refine Ev.iinc (d := 1) rfl rfl rfl (by decide) rfl ?_
          refine Ev.goto (tgt := 57) rfl (by decide) ?_
          have hF : (F_m_wrongC_57 S P c0) k z = (z.1 + (1 : Int32), (1 : Int32)) := by
            unfold F_m_wrongC_57
            rw [if_pos c79]
            rw [if_neg c106]
          rw [hF] at hx
          exact hx.fg (gs rfl (gs rfl (gs rfl (gs rfl (gs rfl (gs rfl (gs rfl (gs rfl (gs (congrArg Value.int (show nI (k + 1) = (nI k) + (1 : Int32) from (nq_to (a := k + 1) (nq_add (a := k) (b := 1) rfl (rfl : (1 : Int32) = nI 1)) (by omega)).symm)) (gn gz))))))))))
        · skip
          refine Ev.iload rfl rfl ?_
          refine Ev.zeq (tgt := 144) rfl (by decide) (fun c111 => absurd c111 (by decide)) (fun c111 => ?_)
          refine Ev.aload_n rfl rfl ?_
          refine Ev.getf rfl rfl m0 rfl ?_
          refine Ev.aload_n rfl rfl ?_
          refine Ev.iload_n rfl rfl ?_
          refine Ev.iload rfl rfl ?_
          refine Ev.cV2 rfl rfl m0 rfl rfl (by decide) ⟨(Nat.le_refl _), (Nat.le_refl _)⟩ (m_classAt_ok hM k) ?_
          refine Ev.iconst (v := 1) rfl (by decide) ?_
          refine Ev.iadd rfl ?_
          refine Ev.ialdN (k := 970 + 40 * p + 1 + 6 * k + 1) rfl m1 (nq_to (a := 970 + 40 * p + 1 + 6 * k + 1) (nq_add (a := 970 + 40 * p + 1 + 6 * k) (b := 1) rfl (rfl : (1 : Int32) = nI 1)) (by omega)) ⟨(by omega), by decide⟩ ?_
          rw [show A (970 + 40 * p + 1 + 6 * k + 1) = _ from hP.2 k (by omega) 1 (by decide)]
          have hqb := (goT_cl (hgo k (by omega)).1).2
          refine Ev.aload_n rfl rfl ?_
          refine Ev.getf rfl rfl m0 rfl ?_
          refine Ev.iload rfl rfl ?_
          refine Ev.iconst (v := 1) rfl (by decide) ?_
          refine Ev.iadd rfl ?_
          refine Ev.ialdN (k := 970 + 40 * p + 1 + 6 * c0 + 1) rfl m1 (nq_to (a := 970 + 40 * p + 1 + 6 * c0 + 1) (nq_add (a := 970 + 40 * p + 1 + 6 * c0) (b := 1) rfl (rfl : (1 : Int32) = nI 1)) (by omega)) ⟨(by omega), by decide⟩ ?_
          rw [show A (970 + 40 * p + 1 + 6 * c0 + 1) = _ from hP.2 c0 (by omega) 1 (by decide)]
          have hqb := (goT_cl (hgo c0 (by omega)).1).2
          refine Ev.jne (tgt := 144) rfl (by decide) (fun c137 => ?_) (fun c137 => ?_)
          · skip
            refine Ev.iconst (v := 0) rfl (by decide) ?_
            refine Ev.istore rfl rfl rfl ?_
            refine Ev.iinc (d := 1) rfl rfl rfl (by decide) rfl ?_
            refine Ev.goto (tgt := 57) rfl (by decide) ?_
            have hF : (F_m_wrongC_57 S P c0) k z = (z.1 + (1 : Int32), (0 : Int32)) := by
              unfold F_m_wrongC_57
              rw [if_pos c79]
              rw [if_pos c106]
              rw [if_neg c137]
            rw [hF] at hx
            exact hx.fg (gs rfl (gs rfl (gs rfl (gs rfl (gs rfl (gs rfl (gs rfl (gs rfl (gs (congrArg Value.int (show nI (k + 1) = (nI k) + (1 : Int32) from (nq_to (a := k + 1) (nq_add (a := k) (b := 1) rfl (rfl : (1 : Int32) = nI 1)) (by omega)).symm)) (gn gz))))))))))
          · skip
            refine Ev.iconst (v := 1) rfl (by decide) ?_
            refine Ev.goto (tgt := 145) rfl (by decide) ?_
            refine Ev.istore rfl rfl rfl ?_
            refine Ev.iinc (d := 1) rfl rfl rfl (by decide) rfl ?_
            refine Ev.goto (tgt := 57) rfl (by decide) ?_
            have hF : (F_m_wrongC_57 S P c0) k z = (z.1 + (1 : Int32), (1 : Int32)) := by
              unfold F_m_wrongC_57
              rw [if_pos c79]
              rw [if_pos c106]
              rw [if_pos c137]
            rw [hF] at hx
            exact hx.fg (gs rfl (gs rfl (gs rfl (gs rfl (gs rfl (gs rfl (gs rfl (gs rfl (gs (congrArg Value.int (show nI (k + 1) = (nI k) + (1 : Int32) from (nq_to (a := k + 1) (nq_add (a := k) (b := 1) rfl (rfl : (1 : Int32) = nI 1)) (by omega)).symm)) (gn gz))))))))))
    · skip
      refine Ev.iload rfl rfl ?_
      refine Ev.iload_n rfl rfl ?_
      refine Ev.jge (tgt := 153) rfl (by decide) (fun c60 => ?_) (fun c60 => absurd c60 (nI_nlt (Nat.le_refl _) (by omega)))
      refine Ev.aload_n rfl rfl ?_
      refine Ev.getf rfl rfl m0 rfl ?_
      refine Ev.iload rfl rfl ?_
      refine Ev.iconst (v := 5) rfl (by decide) ?_
      refine Ev.iadd rfl ?_
      refine Ev.ialdN (k := 970 + 40 * p + 1 + 6 * c0 + 5) rfl m1 (nq_to (a := 970 + 40 * p + 1 + 6 * c0 + 5) (nq_add (a := 970 + 40 * p + 1 + 6 * c0) (b := 5) rfl (rfl : (5 : Int32) = nI 5)) (by omega)) ⟨(by omega), by decide⟩ ?_
      rw [show A (970 + 40 * p + 1 + 6 * c0 + 5) = _ from hP.2 c0 (by omega) 5 (by decide)]
      refine Ev.cS1 rfl rfl rfl (by decide) ⟨(Nat.le_refl _), (Nat.le_refl _)⟩ (m_many_W (S := S) hn16 (hgo c0 (by omega)).2) ?_
      refine Ev.istore rfl rfl rfl ?_
      refine Ev.iload rfl rfl ?_
      refine Ev.zeq (tgt := 176) rfl (by decide) (fun c169 => ?_) (fun c169 => ?_)
      · skip
        refine Ev.iload rfl rfl ?_
        refine Ev.aload_n rfl rfl ?_
        refine Ev.getf rfl rfl m0 rfl ?_
        refine Ev.iload_n rfl rfl ?_
        refine Ev.bipush (v := 6) rfl (by decide) ?_
        refine Ev.iadd rfl ?_
        refine Ev.ialdN (k := s + 6) rfl m1 (nq_to (a := s + 6) (nq_add (a := s) (b := 6) rfl (rfl : (6 : Int32) = nI 6)) (by omega)) ⟨(by omega), by decide⟩ ?_
        rw [show A (s + 6) = _ from hS.2.2.1 4 (by decide)]
        refine Ev.jlt (tgt := 194) rfl (by decide) (fun c187 => ?_) (fun c187 => ?_)
        · skip
          refine Ev.iload rfl rfl ?_
          refine Ev.aload_n rfl rfl ?_
          refine Ev.getf rfl rfl m0 rfl ?_
          refine Ev.iload_n rfl rfl ?_
          refine Ev.iconst (v := 4) rfl (by decide) ?_
          refine Ev.iadd rfl ?_
          refine Ev.ialdN (k := s + 4) rfl m1 (nq_to (a := s + 4) (nq_add (a := s) (b := 4) rfl (rfl : (4 : Int32) = nI 4)) (by omega)) ⟨(by omega), by decide⟩ ?_
          rw [show A (s + 4) = _ from hS.2.2.1 2 (by decide)]
          refine Ev.jge (tgt := 211) rfl (by decide) (fun c204 => ?_) (fun c204 => ?_)
          · skip
            refine Ev.iload rfl rfl ?_
            refine Ev.aload_n rfl rfl ?_
            refine Ev.getf rfl rfl m0 rfl ?_
            refine Ev.iload_n rfl rfl ?_
            refine Ev.iconst (v := 5) rfl (by decide) ?_
            refine Ev.iadd rfl ?_
            refine Ev.ialdN (k := s + 5) rfl m1 (nq_to (a := s + 5) (nq_add (a := s) (b := 5) rfl (rfl : (5 : Int32) = nI 5)) (by omega)) ⟨(by omega), by decide⟩ ?_
            rw [show A (s + 5) = _ from hS.2.2.1 3 (by decide)]
            refine Ev.jle (tgt := 228) rfl (by decide) (fun c221 => ?_) (fun c221 => ?_)
            · skip
              refine Ev.iconst (v := 0) rfl (by decide) ?_
              refine Ev.iret (ty := .int) rfl rfl rfl (Nat.le_refl _) (Nat.le_refl _) ?_
              rw [← hQ]
              refine ⟨congrArg (fun v => some (Value.int v)) (Eq.symm ?_), rfl⟩
              unfold K_m_wrongC
              rw [if_neg c43]
              rw [if_pos c169]
              rw [if_pos c187]
              rw [if_neg c204]
              rw [if_neg c221]
            · skip
              refine Ev.iconst (v := 5) rfl (by decide) ?_
              refine Ev.goto (tgt := 229) rfl (by decide) ?_
              refine Ev.iret (ty := .int) rfl rfl rfl (Nat.le_refl _) (Nat.le_refl _) ?_
              rw [← hQ]
              refine ⟨congrArg (fun v => some (Value.int v)) (Eq.symm ?_), rfl⟩
              unfold K_m_wrongC
              rw [if_neg c43]
              rw [if_pos c169]
              rw [if_pos c187]
              rw [if_neg c204]
              rw [if_pos c221]
          · skip
            refine Ev.iconst (v := 4) rfl (by decide) ?_
            refine Ev.goto (tgt := 229) rfl (by decide) ?_
            refine Ev.iret (ty := .int) rfl rfl rfl (Nat.le_refl _) (Nat.le_refl _) ?_
            rw [← hQ]
            refine ⟨congrArg (fun v => some (Value.int v)) (Eq.symm ?_), rfl⟩
            unfold K_m_wrongC
            rw [if_neg c43]
            rw [if_pos c169]
            rw [if_pos c187]
            rw [if_pos c204]
        · skip
          refine Ev.iconst (v := 3) rfl (by decide) ?_
          refine Ev.goto (tgt := 229) rfl (by decide) ?_
          refine Ev.iret (ty := .int) rfl rfl rfl (Nat.le_refl _) (Nat.le_refl _) ?_
          rw [← hQ]
          refine ⟨congrArg (fun v => some (Value.int v)) (Eq.symm ?_), rfl⟩
          unfold K_m_wrongC
          rw [if_neg c43]
          rw [if_pos c169]
          rw [if_neg c187]
      · skip
        refine Ev.iconst (v := 2) rfl (by decide) ?_
        refine Ev.goto (tgt := 229) rfl (by decide) ?_
        refine Ev.iret (ty := .int) rfl rfl rfl (Nat.le_refl _) (Nat.le_refl _) ?_
        rw [← hQ]
        refine ⟨congrArg (fun v => some (Value.int v)) (Eq.symm ?_), rfl⟩
        unfold K_m_wrongC
        rw [if_neg c43]
        rw [if_neg c169]
  · skip
    refine Ev.iconst (v := 1) rfl (by decide) ?_
    refine Ev.iret (ty := .int) rfl rfl rfl (Nat.le_refl _) (Nat.le_refl _) ?_
    rw [← hQ]
    refine ⟨congrArg (fun v => some (Value.int v)) (Eq.symm ?_), rfl⟩
    unfold K_m_wrongC
    rw [if_pos c43]
def F_m_wrongL_14 (S : Sch) (P : Pln) (c0 : Nat) (g : Nat → Int32) : Nat → Int32 → Int32 := fun k z => z ||| (P.2 k 5)
def F_m_wrongL_41 (S : Sch) (P : Pln) (c0 : Nat) (g : Nat → Int32) : Nat → (Nat → Int32) → ((Nat → Int32)) ⊕ (Int32 × (Nat → Int32)) := fun k z => if (((P.2 c0 5) >>> ((nI k) &&& 31)) &&& (1 : Int32)) = (0 : Int32) then (.inl z) else (if (((S.2.2 1 k) >>> ((P.2 c0 2) &&& 31)) &&& (1 : Int32)) = (0 : Int32) then (.inr ((6 : Int32), (upd z 11 (nI k)))) else (if (((fo (F_m_wrongL_14 S P c0 g) (c0) 0 (0 : Int32)) >>> ((nI k) &&& 31)) &&& (1 : Int32)) = (1 : Int32) then (.inr ((7 : Int32), (upd z 11 (nI k)))) else (if (S.2.2 2 k) < (S.2.2 9 6) then (.inr ((8 : Int32), (upd z 11 (nI k)))) else (if (S.2.2 3 k) < (0 : Int32) then (.inl (upd z 11 (nI k))) else (if (((P.2 c0 5) >>> ((S.2.2 3 k) &&& 31)) &&& (1 : Int32)) = (0 : Int32) then (.inr ((9 : Int32), (upd z 11 (nI k)))) else (.inl (upd z 11 (nI k))))))))
def K_m_wrongL (S : Sch) (P : Pln) (c0 : Nat) (g : Nat → Int32) : Int32 × (Nat → Int32) := Sum.elim (fun (zx : (Nat → Int32)) => ((0 : Int32), (upd zx 11 (-1 : Int32)))) (fun (rx : Int32 × (Nat → Int32)) => rx) (fe (F_m_wrongL_41 S P c0 g) (S.1) 0 g)
theorem m_wrongL_ok (hM : isM σ y g A) {s : Nat} (hS : mS A s S) (hs : s + 120 ≤ 4500) (hwS : wS S) (hP : mP A (970 + 40 * p) P) (hp : p < 3) (hwP : wP P) (hgo : goP S P) {c0 : Nat} (hc0 : c0 < P.1) : RetX Γ m_M_wrongSeats [(.ref y), (.int (nI s)), (.int (nI p)), (.int (nI c0))] σ y (y + 1) (some (.int ((K_m_wrongL S P c0 g).1))) (fun τ => τ.2 y = some (.inr (.inr (10, mo y ((K_m_wrongL S P c0 g).2))))) := by
  obtain ⟨m0, m10⟩ := id hM
  have hn16 := hwS.1
  have hn5 := hwS.2.1
  have h6 := hwP.1
  unfold RetX
  generalize hQ : (fun (r : Option Value) (τ : ex_S) => r = some (.int ((K_m_wrongL S P c0 g).1)) ∧ frm σ τ y (y + 1) ∧ (fun τ : ex_S => τ.2 y = some (.inr (.inr (10, mo y ((K_m_wrongL S P c0 g).2))))) τ) = Q
  refine Ret.start pm_218 rfl ?_
  have fr : frm σ σ y (y + 1) := frm.rf
  have m1 := frm.cell fr m10 (by omega)
  have hM : isM _ y g A := ⟨m0, m1⟩
  refine Ev.aload_n rfl rfl ?_
  refine Ev.iload_n rfl rfl ?_
  refine Ev.iload_n rfl rfl ?_
  refine Ev.cV2 rfl rfl m0 rfl rfl (by decide) ⟨(Nat.le_refl _), (Nat.le_refl _)⟩ (m_classAt_ok hM c0) ?_
  refine Ev.istore rfl rfl rfl ?_
  refine Ev.iconst (v := 0) rfl (by decide) ?_
  refine Ev.istore rfl rfl rfl ?_
  refine Ev.iconst (v := 0) rfl (by decide) ?_
  refine Ev.istore rfl rfl rfl ?_
  refine Ev.fg (L := [some (.ref y), some (.int (nI s)), some (.int (nI p)), some (.int (nI c0)), some (.int (nI (970 + 40 * p + 1 + 6 * c0))), some (.int (0 : Int32)), some (.int (nI 0)), none]) ?_ (gs rfl (gs rfl (gs rfl (gs rfl (gs rfl (gs rfl (gs (congrArg Value.int (rfl : (0 : Int32) = nI 0).symm) (gn gz))))))))
  refine lp (fun (k : Nat) (z : Int32) => Ev Γ 0 0 m_M_wrongSeats 0 0 14 [some (.ref y), some (.int (nI s)), some (.int (nI p)), some (.int (nI c0)), some (.int (nI (970 + 40 * p + 1 + 6 * c0))), some (.int z), some (.int (nI k)), none] [] σ Q) (F_m_wrongL_14 S P c0 g) (c0) (fun k z hk hx => ?_) (c0) 0 (0 : Int32) (by omega) ?_
  · skip
    refine Ev.iload rfl rfl ?_
    refine Ev.iload_n rfl rfl ?_
    refine Ev.jge (tgt := 38) rfl (by decide) (fun c17 => absurd (nI_lt hk (by omega)) c17) (fun c17 => ?_)
    refine Ev.iload rfl rfl ?_
    refine Ev.aload_n rfl rfl ?_
    refine Ev.iload_n rfl rfl ?_
    refine Ev.iload rfl rfl ?_
    refine Ev.cV2 rfl rfl m0 rfl rfl (by decide) ⟨(Nat.le_refl _), (Nat.le_refl _)⟩ (m_sitsIn_ok hM hP hp h6 k (by omega)) ?_
    refine Ev.ior rfl ?_
    refine Ev.istore rfl rfl rfl ?_
    refine Ev.iinc (d := 1) rfl rfl rfl (by decide) rfl ?_
    refine Ev.goto (tgt := 14) rfl (by decide) ?_
    have hF : (F_m_wrongL_14 S P c0 g) k z = z ||| (P.2 k 5) := by rfl
    rw [hF] at hx
    exact hx.fg (gs rfl (gs rfl (gs rfl (gs rfl (gs rfl (gs rfl (gs (congrArg Value.int (show nI (k + 1) = (nI k) + (1 : Int32) from (nq_to (a := k + 1) (nq_add (a := k) (b := 1) rfl (rfl : (1 : Int32) = nI 1)) (by omega)).symm)) (gn gz))))))))
  · skip
    refine Ev.iload rfl rfl ?_
    refine Ev.iload_n rfl rfl ?_
    refine Ev.jge (tgt := 38) rfl (by decide) (fun c17 => ?_) (fun c17 => absurd c17 (nI_nlt (Nat.le_refl _) (by omega)))
    refine Ev.iconst (v := 0) rfl (by decide) ?_
    refine Ev.istore rfl rfl rfl ?_
    refine Ev.fg (L := [some (.ref y), some (.int (nI s)), none, none, some (.int (nI (970 + 40 * p + 1 + 6 * c0))), some (.int (fo (F_m_wrongL_14 S P c0 g) (c0) 0 (0 : Int32))), some (.int (nI 0)), none]) ?_ (gs rfl (gs rfl (gn (gn (gs rfl (gs rfl (gs (congrArg Value.int (rfl : (0 : Int32) = nI 0).symm) (gn gz))))))))
    refine lpe (fun (k : Nat) (z : (Nat → Int32)) => ∀ τ' : ex_S, frm σ τ' y (y + 1) → τ'.2 y = some (.inr (.inr (10, mo y z))) → Ev Γ 0 0 m_M_wrongSeats 0 0 41 [some (.ref y), some (.int (nI s)), none, none, some (.int (nI (970 + 40 * p + 1 + 6 * c0))), some (.int (fo (F_m_wrongL_14 S P c0 g) (c0) 0 (0 : Int32))), some (.int (nI k)), none] [] τ' Q) (fun (r : Int32 × (Nat → Int32)) => ∀ t : ex_S, frm σ t y (y + 1) → t.2 y = some (.inr (.inr (10, mo y r.2))) → Q (some (.int r.1)) t) (F_m_wrongL_41 S P c0 g) (S.1) (fun k z hk hx he => ?_) (S.1) 0 g (by omega) (fun zx hzx => ?_) (fun rx hrx => ?_) σ fr m0
    · skip
      intro τ' fr m0
      have m1 := frm.cell fr m10 (by omega)
      have hM : isM _ y z A := ⟨m0, m1⟩
      refine Ev.iload rfl rfl ?_
      refine Ev.aload_n rfl rfl ?_
      refine Ev.getf rfl rfl m0 rfl ?_
      refine Ev.iload_n rfl rfl ?_
      refine Ev.ialdN (k := s) rfl m1 (nq_to (a := s) rfl (by omega)) ⟨(by omega), by decide⟩ ?_
      rw [hS.1]
      refine Ev.jge (tgt := 194) rfl (by decide) (fun c49 => absurd (nI_lt hk (by omega)) c49) (fun c49 => ?_)
      refine Ev.aload_n rfl rfl ?_
      refine Ev.getf rfl rfl m0 rfl ?_
      refine Ev.iload rfl rfl ?_
      refine Ev.iconst (v := 5) rfl (by decide) ?_
      refine Ev.iadd rfl ?_
      refine Ev.ialdN (k := 970 + 40 * p + 1 + 6 * c0 + 5) rfl m1 (nq_to (a := 970 + 40 * p + 1 + 6 * c0 + 5) (nq_add (a := 970 + 40 * p + 1 + 6 * c0) (b := 5) rfl (rfl : (5 : Int32) = nI 5)) (by omega)) ⟨(by omega), by decide⟩ ?_
      rw [show A (970 + 40 * p + 1 + 6 * c0 + 5) = _ from hP.2 c0 (by omega) 5 (by decide)]
      refine Ev.iload rfl rfl ?_
      refine Ev.ishr rfl ?_
      refine Ev.iconst (v := 1) rfl (by decide) ?_
      refine Ev.iand rfl ?_
      refine Ev.zne (tgt := 72) rfl (by decide) (fun c66 => ?_) (fun c66 => ?_)
      · skip
        refine Ev.aload_n rfl rfl ?_
        refine Ev.iload rfl rfl ?_
        refine Ev.putE rfl rfl m0 rfl rfl rfl (Nat.le_of_ble_eq_true rfl) (fun τ1 f1 q1 => ?_)
        have m0 : τ1.2 y = some (.inr (.inr (10, mo y (upd z 11 (nI k))))) := q1
        have fr := fr.step f1 (by omega) (by omega)
        have m1 := frm.cell fr m10 (by omega)
        have hM : isM _ y (upd z 11 (nI k)) A := ⟨m0, m1⟩
        refine Ev.aload_n rfl rfl ?_
        refine Ev.getf rfl rfl m0 rfl ?_
        refine Ev.iload_n rfl rfl ?_
        refine Ev.bipush (v := 61) rfl (by decide) ?_
        refine Ev.iadd rfl ?_
        refine Ev.iload rfl rfl ?_
        refine Ev.iadd rfl ?_
        refine Ev.ialdN (k := s + 61 + k) rfl m1 (nq_to (a := s + 61 + k) (nq_add (a := s + 61) (b := k) (nq_add (a := s) (b := 61) rfl (rfl : (61 : Int32) = nI 61)) rfl) (by omega)) ⟨(by omega), by decide⟩ ?_
        rw [(hS.2.2.2.1 k (by omega)).2.2.2.1]
        refine Ev.istore rfl rfl rfl ?_
        refine Ev.aload_n rfl rfl ?_
        refine Ev.getf rfl rfl m0 rfl ?_
        refine Ev.iload_n rfl rfl ?_
        refine Ev.bipush (v := 29) rfl (by decide) ?_
        refine Ev.iadd rfl ?_
        refine Ev.iload rfl rfl ?_
        refine Ev.iadd rfl ?_
        refine Ev.ialdN (k := s + 29 + k) rfl m1 (nq_to (a := s + 29 + k) (nq_add (a := s + 29) (b := k) (nq_add (a := s) (b := 29) rfl (rfl : (29 : Int32) = nI 29)) rfl) (by omega)) ⟨(by omega), by decide⟩ ?_
        rw [(hS.2.2.2.1 k (by omega)).2.1]
        refine Ev.aload_n rfl rfl ?_
        refine Ev.getf rfl rfl m0 rfl ?_
        refine Ev.iload rfl rfl ?_
        refine Ev.iconst (v := 2) rfl (by decide) ?_
        refine Ev.iadd rfl ?_
        refine Ev.ialdN (k := 970 + 40 * p + 1 + 6 * c0 + 2) rfl m1 (nq_to (a := 970 + 40 * p + 1 + 6 * c0 + 2) (nq_add (a := 970 + 40 * p + 1 + 6 * c0) (b := 2) rfl (rfl : (2 : Int32) = nI 2)) (by omega)) ⟨(by omega), by decide⟩ ?_
        rw [show A (970 + 40 * p + 1 + 6 * c0 + 2) = _ from hP.2 c0 (by omega) 2 (by decide)]
        refine Ev.ishr rfl ?_
        refine Ev.iconst (v := 1) rfl (by decide) ?_
        refine Ev.iand rfl ?_
        refine Ev.zne (tgt := 122) rfl (by decide) (fun c116 => ?_) (fun c116 => ?_)
        · skip
          refine Ev.iload rfl rfl ?_
          refine Ev.iload rfl rfl ?_
          refine Ev.ishr rfl ?_
          refine Ev.iconst (v := 1) rfl (by decide) ?_
          refine Ev.iand rfl ?_
          refine Ev.iconst (v := 1) rfl (by decide) ?_
          refine Ev.jne (tgt := 136) rfl (by decide) (fun c130 => ?_) (fun c130 => ?_)
          · skip
            refine Ev.aload_n rfl rfl ?_
            refine Ev.getf rfl rfl m0 rfl ?_
            refine Ev.iload_n rfl rfl ?_
            refine Ev.bipush (v := 45) rfl (by decide) ?_
            refine Ev.iadd rfl ?_
            refine Ev.iload rfl rfl ?_
            refine Ev.iadd rfl ?_
            refine Ev.ialdN (k := s + 45 + k) rfl m1 (nq_to (a := s + 45 + k) (nq_add (a := s + 45) (b := k) (nq_add (a := s) (b := 45) rfl (rfl : (45 : Int32) = nI 45)) rfl) (by omega)) ⟨(by omega), by decide⟩ ?_
            rw [(hS.2.2.2.1 k (by omega)).2.2.1]
            refine Ev.aload_n rfl rfl ?_
            refine Ev.getf rfl rfl m0 rfl ?_
            refine Ev.iload_n rfl rfl ?_
            refine Ev.bipush (v := 8) rfl (by decide) ?_
            refine Ev.iadd rfl ?_
            refine Ev.ialdN (k := s + 8) rfl m1 (nq_to (a := s + 8) (nq_add (a := s) (b := 8) rfl (rfl : (8 : Int32) = nI 8)) (by omega)) ⟨(by omega), by decide⟩ ?_
            rw [show A (s + 8) = _ from hS.2.2.1 6 (by decide)]
            refine Ev.jge (tgt := 163) rfl (by decide) (fun c157 => ?_) (fun c157 => ?_)
            · skip
              refine Ev.iload rfl rfl ?_
              refine Ev.zlt (tgt := 188) rfl (by decide) (fun c165 => ?_) (fun c165 => ?_)
              · skip
                refine Ev.iinc (d := 1) rfl rfl rfl (by decide) rfl ?_
                refine Ev.goto (tgt := 41) rfl (by decide) ?_
                have hF : (F_m_wrongL_41 S P c0 g) k z = .inl (upd z 11 (nI k)) := by
                  unfold F_m_wrongL_41
                  rw [if_neg c66]
                  rw [if_neg c116]
                  rw [if_neg c130]
                  rw [if_neg c157]
                  rw [if_pos c165]
                exact (hx _ hF τ1 fr m0).fg (gs rfl (gs rfl (gn (gn (gs rfl (gs rfl (gs (congrArg Value.int (show nI (k + 1) = (nI k) + (1 : Int32) from (nq_to (a := k + 1) (nq_add (a := k) (b := 1) rfl (rfl : (1 : Int32) = nI 1)) (by omega)).symm)) (gn gz))))))))
              · skip
                refine Ev.aload_n rfl rfl ?_
                refine Ev.getf rfl rfl m0 rfl ?_
                refine Ev.iload rfl rfl ?_
                refine Ev.iconst (v := 5) rfl (by decide) ?_
                refine Ev.iadd rfl ?_
                refine Ev.ialdN (k := 970 + 40 * p + 1 + 6 * c0 + 5) rfl m1 (nq_to (a := 970 + 40 * p + 1 + 6 * c0 + 5) (nq_add (a := 970 + 40 * p + 1 + 6 * c0) (b := 5) rfl (rfl : (5 : Int32) = nI 5)) (by omega)) ⟨(by omega), by decide⟩ ?_
                rw [show A (970 + 40 * p + 1 + 6 * c0 + 5) = _ from hP.2 c0 (by omega) 5 (by decide)]
                refine Ev.iload rfl rfl ?_
                refine Ev.ishr rfl ?_
                refine Ev.iconst (v := 1) rfl (by decide) ?_
                refine Ev.iand rfl ?_
                refine Ev.zne (tgt := 188) rfl (by decide) (fun c182 => ?_) (fun c182 => ?_)
                · skip
                  refine Ev.iinc (d := 1) rfl rfl rfl (by decide) rfl ?_
                  refine Ev.goto (tgt := 41) rfl (by decide) ?_
                  have hF : (F_m_wrongL_41 S P c0 g) k z = .inl (upd z 11 (nI k)) := by
                    unfold F_m_wrongL_41
                    rw [if_neg c66]
                    rw [if_neg c116]
                    rw [if_neg c130]
                    rw [if_neg c157]
                    rw [if_neg c165]
                    rw [if_neg c182]
                  exact (hx _ hF τ1 fr m0).fg (gs rfl (gs rfl (gn (gn (gs rfl (gs rfl (gs (congrArg Value.int (show nI (k + 1) = (nI k) + (1 : Int32) from (nq_to (a := k + 1) (nq_add (a := k) (b := 1) rfl (rfl : (1 : Int32) = nI 1)) (by omega)).symm)) (gn gz))))))))
                · skip
                  refine Ev.bipush (v := 9) rfl (by decide) ?_
                  refine Ev.iret (ty := .int) rfl rfl rfl (Nat.le_refl _) (Nat.le_refl _) ?_
                  have hF : (F_m_wrongL_41 S P c0 g) k z = .inr ((9 : Int32), (upd z 11 (nI k))) := by
                    unfold F_m_wrongL_41
                    rw [if_neg c66]
                    rw [if_neg c116]
                    rw [if_neg c130]
                    rw [if_neg c157]
                    rw [if_neg c165]
                    rw [if_pos c182]
                  exact he _ hF τ1 fr m0
            · skip
              refine Ev.bipush (v := 8) rfl (by decide) ?_
              refine Ev.iret (ty := .int) rfl rfl rfl (Nat.le_refl _) (Nat.le_refl _) ?_
              have hF : (F_m_wrongL_41 S P c0 g) k z = .inr ((8 : Int32), (upd z 11 (nI k))) := by
                unfold F_m_wrongL_41
                rw [if_neg c66]
                rw [if_neg c116]
                rw [if_neg c130]
                rw [if_pos c157]
              exact he _ hF τ1 fr m0
          · skip
            refine Ev.bipush (v := 7) rfl (by decide) ?_
            refine Ev.iret (ty := .int) rfl rfl rfl (Nat.le_refl _) (Nat.le_refl _) ?_
            have hF : (F_m_wrongL_41 S P c0 g) k z = .inr ((7 : Int32), (upd z 11 (nI k))) := by
              unfold F_m_wrongL_41
              rw [if_neg c66]
              rw [if_neg c116]
              rw [if_pos c130]
            exact he _ hF τ1 fr m0
        · skip
          refine Ev.bipush (v := 6) rfl (by decide) ?_
          refine Ev.iret (ty := .int) rfl rfl rfl (Nat.le_refl _) (Nat.le_refl _) ?_
          have hF : (F_m_wrongL_41 S P c0 g) k z = .inr ((6 : Int32), (upd z 11 (nI k))) := by
            unfold F_m_wrongL_41
            rw [if_neg c66]
            rw [if_pos c116]
          exact he _ hF τ1 fr m0
      · skip
        refine Ev.goto (tgt := 188) rfl (by decide) ?_
        refine Ev.iinc (d := 1) rfl rfl rfl (by decide) rfl ?_
        refine Ev.goto (tgt := 41) rfl (by decide) ?_
        have hF : (F_m_wrongL_41 S P c0 g) k z = .inl z := by
          unfold F_m_wrongL_41
          rw [if_pos c66]
        exact (hx _ hF τ' fr m0).fg (gs rfl (gs rfl (gn (gn (gs rfl (gs rfl (gs (congrArg Value.int (show nI (k + 1) = (nI k) + (1 : Int32) from (nq_to (a := k + 1) (nq_add (a := k) (b := 1) rfl (rfl : (1 : Int32) = nI 1)) (by omega)).symm)) (gn gz))))))))
    · skip
      intro τ' fr m0
      have m1 := frm.cell fr m10 (by omega)
      have hM : isM _ y zx A := ⟨m0, m1⟩
      refine Ev.iload rfl rfl ?_
      refine Ev.aload_n rfl rfl ?_
      refine Ev.getf rfl rfl m0 rfl ?_
      refine Ev.iload_n rfl rfl ?_
      refine Ev.ialdN (k := s) rfl m1 (nq_to (a := s) rfl (by omega)) ⟨(by omega), by decide⟩ ?_
      rw [hS.1]
      refine Ev.jge (tgt := 194) rfl (by decide) (fun c49 => ?_) (fun c49 => absurd c49 (nI_nlt (Nat.le_refl _) (by omega)))
      refine Ev.aload_n rfl rfl ?_
      refine Ev.iconst (v := (-1)) rfl (by decide) ?_
      refine Ev.putE rfl rfl m0 rfl rfl rfl (Nat.le_of_ble_eq_true rfl) (fun τ2 f1 q1 => ?_)
      have m0 : τ2.2 y = some (.inr (.inr (10, mo y (upd zx 11 (-1 : Int32))))) := q1
      have fr := fr.step f1 (by omega) (by omega)
      have m1 := frm.cell fr m10 (by omega)
      have hM : isM _ y (upd zx 11 (-1 : Int32)) A := ⟨m0, m1⟩
      refine Ev.iconst (v := 0) rfl (by decide) ?_
      refine Ev.iret (ty := .int) rfl rfl rfl (Nat.le_refl _) (Nat.le_refl _) ?_
      have hK : (K_m_wrongL S P c0 g) = ((0 : Int32), (upd zx 11 (-1 : Int32))) := by
        unfold K_m_wrongL
        rw [hzx, Sum.elim_inl]
      rw [← hQ]
      dsimp only
      rw [hK]
      exact ⟨rfl, fr, m0⟩
    · skip
      intro t fr m0
      have hK : (K_m_wrongL S P c0 g) = rx := by
        unfold K_m_wrongL
        rw [hrx, Sum.elim_inr]
      rw [← hQ]
      dsimp only
      rw [hK]
      exact ⟨rfl, fr, m0⟩
def F_m_wrong_30 (T : Tol) (i j : Nat) (w : Nat) (g : Nat → Int32) : Nat → (Nat → Int32) → ((Nat → Int32)) ⊕ (Int32 × (Nat → Int32)) := fun k z => if (K_m_wrongC (tS T i) (tP T j) k) = (0 : Int32) then (if (0 : Int32) < ((K_m_wrongL (tS T i) (tP T j) k (upd z 11 (-1 : Int32))).1) then (if (nI w) = (0 : Int32) then (.inr ((K_m_wrongL (tS T i) (tP T j) k (upd z 11 (-1 : Int32))).1, (K_m_wrongL (tS T i) (tP T j) k (upd z 11 (-1 : Int32))).2)) else (if (nI w) = (1 : Int32) then (.inr (nI k, (K_m_wrongL (tS T i) (tP T j) k (upd z 11 (-1 : Int32))).2)) else (.inr (((K_m_wrongL (tS T i) (tP T j) k (upd z 11 (-1 : Int32))).2) 11, (K_m_wrongL (tS T i) (tP T j) k (upd z 11 (-1 : Int32))).2)))) else (.inl ((K_m_wrongL (tS T i) (tP T j) k (upd z 11 (-1 : Int32))).2))) else (if (0 : Int32) < (K_m_wrongC (tS T i) (tP T j) k) then (if (nI w) = (0 : Int32) then (.inr (K_m_wrongC (tS T i) (tP T j) k, (upd z 11 (-1 : Int32)))) else (if (nI w) = (1 : Int32) then (.inr (nI k, (upd z 11 (-1 : Int32)))) else (.inr ((-1 : Int32), (upd z 11 (-1 : Int32)))))) else (.inl (upd z 11 (-1 : Int32))))
def K_m_wrong (T : Tol) (i j : Nat) (w : Nat) (g : Nat → Int32) : Int32 × (Nat → Int32) := Sum.elim (fun (zx : (Nat → Int32)) => if (nI w) = (0 : Int32) then ((0 : Int32), zx) else ((-1 : Int32), zx)) (fun (rx : Int32 × (Nat → Int32)) => rx) (fe (F_m_wrong_30 T i j w g) ((tP T j).1) 0 g)
theorem m_wrong_some (hM : isM σ y g A) (hT : mT A 0 T) (hw : wT T)  {u v : Int32} {i j : Nat} (hg : gd T u v i j) {w : Nat} (hw3 : w ≤ 2) : RetX Γ m_M_wrong [(.ref y), .int u, .int v, (.int (nI w))] σ y (y + 1) (some (.int ((K_m_wrong T i j w g).1))) (fun τ => τ.2 y = some (.inr (.inr (10, mo y ((K_m_wrong T i j w g).2))))) := by
  obtain ⟨m0, m10⟩ := id hM
  have hgd := hg
  obtain ⟨rfl, hi, rfl, hj, hgo⟩ := hg
  have hi3 : i < 3 := by have := hw.2.1; omega
  have hj3 : j < 3 := by have := hw.2.2.1; omega
  have hwS := hw.2.2.2.1 i hi
  have hwP := hw.2.2.2.2 j hj
  have hn16 := hwS.1
  have hn5 := hwS.2.1
  have h6 := hwP.1
  have hS := hT.s hi
  have hP := hT.p hj
  have hs : 610 + 120 * i + 120 ≤ 4500 := by omega
  unfold RetX
  generalize hQ : (fun (r : Option Value) (τ : ex_S) => r = some (.int ((K_m_wrong T i j w g).1)) ∧ frm σ τ y (y + 1) ∧ (fun τ : ex_S => τ.2 y = some (.inr (.inr (10, mo y ((K_m_wrong T i j w g).2))))) τ) = Q
  refine Ret.start pm_219 rfl ?_
  have fr : frm σ σ y (y + 1) := frm.rf
  have m1 := frm.cell fr m10 (by omega)
  have hM : isM _ y g A := ⟨m0, m1⟩
  refine Ev.aload_n rfl rfl ?_
  refine Ev.iload_n rfl rfl ?_
  refine Ev.iload_n rfl rfl ?_
  refine Ev.cV2 rfl rfl m0 rfl rfl (by decide) ⟨(Nat.le_refl _), (Nat.le_refl _)⟩ (m_goes_yes hM hT hw hgd) ?_
  refine Ev.zeq (tgt := 18) rfl (by decide) (fun c6 => absurd c6 (by decide)) (fun c6 => ?_)
  refine Ev.iload_n rfl rfl ?_
  refine Ev.iconst (v := 0) rfl (by decide) ?_
  refine Ev.iconst (v := 2) rfl (by decide) ?_
  refine Ev.cS3 rfl rfl rfl (by decide) ⟨(Nat.le_refl _), (Nat.le_refl _)⟩ (m_in_y (K_in2 hw3)) ?_
  refine Ev.zne (tgt := 20) rfl (by decide) (fun c15 => ?_) (fun c15 => absurd c15 (by decide))
  refine Ev.iconst (v := 0) rfl (by decide) ?_
  refine Ev.iload_n rfl rfl ?_
  refine Ev.cS2 rfl rfl rfl (by decide) ⟨(Nat.le_refl _), (Nat.le_refl _)⟩ (m_pl0_ok i) ?_
  refine Ev.istore rfl rfl rfl ?_
  refine Ev.iconst (v := 0) rfl (by decide) ?_
  refine Ev.istore rfl rfl rfl ?_
  refine Ev.fg (L := [some (.ref y), none, some (.int (nI j)), some (.int (nI w)), some (.int (nI (610 + 120 * i))), some (.int (nI 0)), none]) ?_ (gs rfl (gn (gs rfl (gs rfl (gs rfl (gs (congrArg Value.int (rfl : (0 : Int32) = nI 0).symm) (gn gz)))))))
  refine lpe (fun (k : Nat) (z : (Nat → Int32)) => ∀ τ' : ex_S, frm σ τ' y (y + 1) → τ'.2 y = some (.inr (.inr (10, mo y z))) → Ev Γ 0 0 m_M_wrong 0 0 30 [some (.ref y), none, some (.int (nI j)), some (.int (nI w)), some (.int (nI (610 + 120 * i))), some (.int (nI k)), none] [] τ' Q) (fun (r : Int32 × (Nat → Int32)) => ∀ t : ex_S, frm σ t y (y + 1) → t.2 y = some (.inr (.inr (10, mo y r.2))) → Q (some (.int r.1)) t) (F_m_wrong_30 T i j w g) ((tP T j).1) (fun k z hk hx he => ?_) ((tP T j).1) 0 g (by omega) (fun zx hzx => ?_) (fun rx hrx => ?_) σ fr m0
  · skip
    intro τ' fr m0
    have m1 := frm.cell fr m10 (by omega)
    have hM : isM _ y z A := ⟨m0, m1⟩
    refine Ev.iload rfl rfl ?_
    refine Ev.aload_n rfl rfl ?_
    refine Ev.iload_n rfl rfl ?_
    refine Ev.cV1 rfl rfl m0 rfl rfl (by decide) ⟨(Nat.le_refl _), (Nat.le_refl _)⟩ (m_classes_ok hM hP hj3 h6) ?_
    refine Ev.jge (tgt := 112) rfl (by decide) (fun c37 => absurd (nI_lt hk (by omega)) c37) (fun c37 => ?_)
    refine Ev.aload_n rfl rfl ?_
    refine Ev.iconst (v := (-1)) rfl (by decide) ?_
    refine Ev.putE rfl rfl m0 rfl rfl rfl (Nat.le_of_ble_eq_true rfl) (fun τ1 f1 q1 => ?_)
    have m0 : τ1.2 y = some (.inr (.inr (10, mo y (upd z 11 (-1 : Int32))))) := q1
    have fr := fr.step f1 (by omega) (by omega)
    have m1 := frm.cell fr m10 (by omega)
    have hM : isM _ y (upd z 11 (-1 : Int32)) A := ⟨m0, m1⟩
    refine Ev.aload_n rfl rfl ?_
    refine Ev.iload rfl rfl ?_
    refine Ev.iload_n rfl rfl ?_
    refine Ev.iload rfl rfl ?_
    refine Ev.cV3 rfl rfl m0 rfl rfl (by decide) ⟨(Nat.le_refl _), (Nat.le_refl _)⟩ (m_wrongC_ok hM hS hs hwS hP hj3 hwP hgo (by omega)) ?_
    refine Ev.istore rfl rfl rfl ?_
    refine Ev.iload rfl rfl ?_
    refine Ev.zne (tgt := 73) rfl (by decide) (fun c58 => ?_) (fun c58 => ?_)
    · skip
      refine Ev.iload rfl rfl ?_
      refine Ev.istore rfl rfl rfl ?_
      refine Ev.iload rfl rfl ?_
      refine Ev.zle (tgt := 106) rfl (by decide) (fun c79 => ?_) (fun c79 => ?_)
      · skip
        refine Ev.iinc (d := 1) rfl rfl rfl (by decide) rfl ?_
        refine Ev.goto (tgt := 30) rfl (by decide) ?_
        have hF : (F_m_wrong_30 T i j w g) k z = .inl (upd z 11 (-1 : Int32)) := by
          unfold F_m_wrong_30
          rw [if_neg c58]
          rw [if_neg c79]
        exact (hx _ hF τ1 fr m0).fg (gs rfl (gn (gs rfl (gs rfl (gs rfl (gs (congrArg Value.int (show nI (k + 1) = (nI k) + (1 : Int32) from (nq_to (a := k + 1) (nq_add (a := k) (b := 1) rfl (rfl : (1 : Int32) = nI 1)) (by omega)).symm)) (gn gz)))))))
      · skip
        refine Ev.iload_n rfl rfl ?_
        refine Ev.zne (tgt := 91) rfl (by decide) (fun c83 => ?_) (fun c83 => ?_)
        · skip
          refine Ev.iload_n rfl rfl ?_
          refine Ev.iconst (v := 1) rfl (by decide) ?_
          refine Ev.jne (tgt := 101) rfl (by decide) (fun c93 => ?_) (fun c93 => ?_)
          · skip
            refine Ev.aload_n rfl rfl ?_
            refine Ev.getf rfl rfl m0 rfl ?_
            rw [show (upd z 11 (-1 : Int32)) 11 = (-1 : Int32) from by
              simp only [pk_us]]
            refine Ev.iret (ty := .int) rfl rfl rfl (Nat.le_refl _) (Nat.le_refl _) ?_
            have hF : (F_m_wrong_30 T i j w g) k z = .inr ((-1 : Int32), (upd z 11 (-1 : Int32))) := by
              unfold F_m_wrong_30
              rw [if_neg c58]
              rw [if_pos c79]
              rw [if_neg c83]
              rw [if_neg c93]
            exact he _ hF τ1 fr m0
          · skip
            refine Ev.iload rfl rfl ?_
            refine Ev.goto (tgt := 105) rfl (by decide) ?_
            refine Ev.iret (ty := .int) rfl rfl rfl (Nat.le_refl _) (Nat.le_refl _) ?_
            have hF : (F_m_wrong_30 T i j w g) k z = .inr (nI k, (upd z 11 (-1 : Int32))) := by
              unfold F_m_wrong_30
              rw [if_neg c58]
              rw [if_pos c79]
              rw [if_neg c83]
              rw [if_pos c93]
            exact he _ hF τ1 fr m0
        · skip
          refine Ev.iload rfl rfl ?_
          refine Ev.goto (tgt := 105) rfl (by decide) ?_
          refine Ev.iret (ty := .int) rfl rfl rfl (Nat.le_refl _) (Nat.le_refl _) ?_
          have hF : (F_m_wrong_30 T i j w g) k z = .inr (K_m_wrongC (tS T i) (tP T j) k, (upd z 11 (-1 : Int32))) := by
            unfold F_m_wrong_30
            rw [if_neg c58]
            rw [if_pos c79]
            rw [if_pos c83]
          exact he _ hF τ1 fr m0
    · skip
      refine Ev.aload_n rfl rfl ?_
      refine Ev.iload rfl rfl ?_
      refine Ev.iload_n rfl rfl ?_
      refine Ev.iload rfl rfl ?_
      refine Ev.xV3 rfl rfl m0 rfl rfl (by decide) ⟨(Nat.le_refl _), (Nat.le_refl _)⟩ (m_wrongL_ok hM hS hs hwS hP hj3 hwP hgo (by omega)) (fun τ2 f1 q1 => ?_)
      have m0 := q1
      have fr := fr.step f1 (by omega) (by omega)
      have m1 := frm.cell fr m10 (by omega)
      have hM : isM _ y ((K_m_wrongL (tS T i) (tP T j) k (upd z 11 (-1 : Int32))).2) A := ⟨m0, m1⟩
      refine Ev.goto (tgt := 75) rfl (by decide) ?_
      refine Ev.istore rfl rfl rfl ?_
      refine Ev.iload rfl rfl ?_
      refine Ev.zle (tgt := 106) rfl (by decide) (fun c79 => ?_) (fun c79 => ?_)
      · skip
        refine Ev.iinc (d := 1) rfl rfl rfl (by decide) rfl ?_
        refine Ev.goto (tgt := 30) rfl (by decide) ?_
        have hF : (F_m_wrong_30 T i j w g) k z = .inl ((K_m_wrongL (tS T i) (tP T j) k (upd z 11 (-1 : Int32))).2) := by
          unfold F_m_wrong_30
          rw [if_pos c58]
          rw [if_neg c79]
        exact (hx _ hF τ2 fr m0).fg (gs rfl (gn (gs rfl (gs rfl (gs rfl (gs (congrArg Value.int (show nI (k + 1) = (nI k) + (1 : Int32) from (nq_to (a := k + 1) (nq_add (a := k) (b := 1) rfl (rfl : (1 : Int32) = nI 1)) (by omega)).symm)) (gn gz)))))))
      · skip
        refine Ev.iload_n rfl rfl ?_
        refine Ev.zne (tgt := 91) rfl (by decide) (fun c83 => ?_) (fun c83 => ?_)
        · skip
          refine Ev.iload_n rfl rfl ?_
          refine Ev.iconst (v := 1) rfl (by decide) ?_
          refine Ev.jne (tgt := 101) rfl (by decide) (fun c93 => ?_) (fun c93 => ?_)
          · skip
            refine Ev.aload_n rfl rfl ?_
            refine Ev.getf rfl rfl m0 rfl ?_
            refine Ev.iret (ty := .int) rfl rfl rfl (Nat.le_refl _) (Nat.le_refl _) ?_
            have hF : (F_m_wrong_30 T i j w g) k z = .inr (((K_m_wrongL (tS T i) (tP T j) k (upd z 11 (-1 : Int32))).2) 11, (K_m_wrongL (tS T i) (tP T j) k (upd z 11 (-1 : Int32))).2) := by
              unfold F_m_wrong_30
              rw [if_pos c58]
              rw [if_pos c79]
              rw [if_neg c83]
              rw [if_neg c93]
            exact he _ hF τ2 fr m0
          · skip
            refine Ev.iload rfl rfl ?_
            refine Ev.goto (tgt := 105) rfl (by decide) ?_
            refine Ev.iret (ty := .int) rfl rfl rfl (Nat.le_refl _) (Nat.le_refl _) ?_
            have hF : (F_m_wrong_30 T i j w g) k z = .inr (nI k, (K_m_wrongL (tS T i) (tP T j) k (upd z 11 (-1 : Int32))).2) := by
              unfold F_m_wrong_30
              rw [if_pos c58]
              rw [if_pos c79]
              rw [if_neg c83]
              rw [if_pos c93]
            exact he _ hF τ2 fr m0
        · skip
          refine Ev.iload rfl rfl ?_
          refine Ev.goto (tgt := 105) rfl (by decide) ?_
          refine Ev.iret (ty := .int) rfl rfl rfl (Nat.le_refl _) (Nat.le_refl _) ?_
          have hF : (F_m_wrong_30 T i j w g) k z = .inr ((K_m_wrongL (tS T i) (tP T j) k (upd z 11 (-1 : Int32))).1, (K_m_wrongL (tS T i) (tP T j) k (upd z 11 (-1 : Int32))).2) := by
            unfold F_m_wrong_30
            rw [if_pos c58]
            rw [if_pos c79]
            rw [if_pos c83]
          exact he _ hF τ2 fr m0
  · skip
    intro τ' fr m0
    have m1 := frm.cell fr m10 (by omega)
    have hM : isM _ y zx A := ⟨m0, m1⟩
    refine Ev.iload rfl rfl ?_
    refine Ev.aload_n rfl rfl ?_
    refine Ev.iload_n rfl rfl ?_
    refine Ev.cV1 rfl rfl m0 rfl rfl (by decide) ⟨(Nat.le_refl _), (Nat.le_refl _)⟩ (m_classes_ok hM hP hj3 h6) ?_
    refine Ev.jge (tgt := 112) rfl (by decide) (fun c37 => ?_) (fun c37 => absurd c37 (nI_nlt (Nat.le_refl _) (by omega)))
    refine Ev.iload_n rfl rfl ?_
    refine Ev.zne (tgt := 120) rfl (by decide) (fun c113 => ?_) (fun c113 => ?_)
    · skip
      refine Ev.iconst (v := (-1)) rfl (by decide) ?_
      refine Ev.iret (ty := .int) rfl rfl rfl (Nat.le_refl _) (Nat.le_refl _) ?_
      have hK : (K_m_wrong T i j w g) = ((-1 : Int32), zx) := by
        unfold K_m_wrong
        rw [hzx, Sum.elim_inl]
        rw [if_neg c113]
      rw [← hQ]
      dsimp only
      rw [hK]
      exact ⟨rfl, fr, m0⟩
    · skip
      refine Ev.iconst (v := 0) rfl (by decide) ?_
      refine Ev.goto (tgt := 121) rfl (by decide) ?_
      refine Ev.iret (ty := .int) rfl rfl rfl (Nat.le_refl _) (Nat.le_refl _) ?_
      have hK : (K_m_wrong T i j w g) = ((0 : Int32), zx) := by
        unfold K_m_wrong
        rw [hzx, Sum.elim_inl]
        rw [if_pos c113]
      rw [← hQ]
      dsimp only
      rw [hK]
      exact ⟨rfl, fr, m0⟩
  · skip
    intro t fr m0
    have hK : (K_m_wrong T i j w g) = rx := by
      unfold K_m_wrong
      rw [hrx, Sum.elim_inr]
    rw [← hQ]
    dsimp only
    rw [hK]
    exact ⟨rfl, fr, m0⟩
def F_m_seatsOf_5 (P : Pln) (l : Nat) (g : Nat → Int32) : Nat → (Int32 × (Nat → Int32)) → (Int32 × (Nat → Int32)) := fun k z => if (((P.2 k 5) >>> ((nI l) &&& 31)) &&& (1 : Int32)) = (0 : Int32) then (z.1, z.2) else (z.1 + (1 : Int32), (upd z.2 20 (nI k)))
def K_m_seatsOf (P : Pln) (l : Nat) (g : Nat → Int32) : Int32 × (Nat → Int32) := ((fo (F_m_seatsOf_5 P l g) (P.1) 0 ((0 : Int32), g)).1, (fo (F_m_seatsOf_5 P l g) (P.1) 0 ((0 : Int32), g)).2)
theorem m_seatsOf_ok (hM : isM σ y g A) {s : Nat} (hS : mS A s S) (hs : s + 120 ≤ 4500) (hwS : wS S) (hP : mP A (970 + 40 * p) P) (hp : p < 3) (hwP : wP P) (hgo : goP S P) (l : Nat) : RetX Γ m_M_seatsOf [(.ref y), (.int (nI p)), (.int (nI l))] σ y (y + 1) (some (.int ((K_m_seatsOf P l g).1))) (fun τ => τ.2 y = some (.inr (.inr (10, mo y ((K_m_seatsOf P l g).2))))) := by
  obtain ⟨m0, m10⟩ := id hM
  have hn16 := hwS.1
  have hn5 := hwS.2.1
  have h6 := hwP.1
  unfold RetX
  generalize hQ : (fun (r : Option Value) (τ : ex_S) => r = some (.int ((K_m_seatsOf P l g).1)) ∧ frm σ τ y (y + 1) ∧ (fun τ : ex_S => τ.2 y = some (.inr (.inr (10, mo y ((K_m_seatsOf P l g).2))))) τ) = Q
  refine Ret.start pm_237 rfl ?_
  have fr : frm σ σ y (y + 1) := frm.rf
  have m1 := frm.cell fr m10 (by omega)
  have hM : isM _ y g A := ⟨m0, m1⟩
  refine Ev.iconst (v := 0) rfl (by decide) ?_
  refine Ev.istore_n rfl rfl rfl ?_
  refine Ev.iconst (v := 0) rfl (by decide) ?_
  refine Ev.istore rfl rfl rfl ?_
  refine Ev.fg (L := [some (.ref y), some (.int (nI p)), some (.int (nI l)), some (.int (0 : Int32)), some (.int (nI 0))]) ?_ (gs rfl (gs rfl (gs rfl (gs rfl (gs (congrArg Value.int (rfl : (0 : Int32) = nI 0).symm) gz)))))
  refine lp (fun (k : Nat) (z : Int32 × (Nat → Int32)) => ∀ τ' : ex_S, frm σ τ' y (y + 1) → τ'.2 y = some (.inr (.inr (10, mo y z.2))) → Ev Γ 0 0 m_M_seatsOf 0 0 5 [some (.ref y), some (.int (nI p)), some (.int (nI l)), some (.int z.1), some (.int (nI k))] [] τ' Q) (F_m_seatsOf_5 P l g) (P.1) (fun k z hk hx => ?_) (P.1) 0 ((0 : Int32), g) (by omega) ?_ σ fr m0
  · skip
    intro τ' fr m0
    have m1 := frm.cell fr m10 (by omega)
    have hM : isM _ y z.2 A := ⟨m0, m1⟩
    refine Ev.iload rfl rfl ?_
    refine Ev.aload_n rfl rfl ?_
    refine Ev.iload_n rfl rfl ?_
    refine Ev.cV1 rfl rfl m0 rfl rfl (by decide) ⟨(Nat.le_refl _), (Nat.le_refl _)⟩ (m_classes_ok hM hP hp h6) ?_
    refine Ev.jge (tgt := 47) rfl (by decide) (fun c12 => absurd (nI_lt hk (by omega)) c12) (fun c12 => ?_)
    refine Ev.aload_n rfl rfl ?_
    refine Ev.iload_n rfl rfl ?_
    refine Ev.iload rfl rfl ?_
    refine Ev.cV2 rfl rfl m0 rfl rfl (by decide) ⟨(Nat.le_refl _), (Nat.le_refl _)⟩ (m_sitsIn_ok hM hP hp h6 k (by omega)) ?_
    refine Ev.iload_n rfl rfl ?_
    refine Ev.ishr rfl ?_
    refine Ev.iconst (v := 1) rfl (by decide) ?_
    refine Ev.iand rfl ?_
    refine Ev.zne (tgt := 32) rfl (by decide) (fun c26 => ?_) (fun c26 => ?_)
    · skip
      refine Ev.iinc (d := 1) rfl rfl rfl (by decide) rfl ?_
      refine Ev.aload_n rfl rfl ?_
      refine Ev.iload rfl rfl ?_
      refine Ev.putE rfl rfl m0 rfl rfl rfl (Nat.le_of_ble_eq_true rfl) (fun τ1 f1 q1 => ?_)
      have m0 : τ1.2 y = some (.inr (.inr (10, mo y (upd z.2 20 (nI k))))) := q1
      have fr := fr.step f1 (by omega) (by omega)
      have m1 := frm.cell fr m10 (by omega)
      have hM : isM _ y (upd z.2 20 (nI k)) A := ⟨m0, m1⟩
      refine Ev.iinc (d := 1) rfl rfl rfl (by decide) rfl ?_
      refine Ev.goto (tgt := 5) rfl (by decide) ?_
      have hF : (F_m_seatsOf_5 P l g) k z = (z.1 + (1 : Int32), (upd z.2 20 (nI k))) := by
        unfold F_m_seatsOf_5
        rw [if_neg c26]
      rw [hF] at hx
      exact (hx τ1 fr m0).fg (gs rfl (gs rfl (gs rfl (gs rfl (gs (congrArg Value.int (show nI (k + 1) = (nI k) + (1 : Int32) from (nq_to (a := k + 1) (nq_add (a := k) (b := 1) rfl (rfl : (1 : Int32) = nI 1)) (by omega)).symm)) gz)))))
    · skip
      refine Ev.goto (tgt := 41) rfl (by decide) ?_
      refine Ev.iinc (d := 1) rfl rfl rfl (by decide) rfl ?_
      refine Ev.goto (tgt := 5) rfl (by decide) ?_
      have hF : (F_m_seatsOf_5 P l g) k z = (z.1, z.2) := by
        unfold F_m_seatsOf_5
        rw [if_pos c26]
      rw [hF] at hx
      exact (hx τ' fr m0).fg (gs rfl (gs rfl (gs rfl (gs rfl (gs (congrArg Value.int (show nI (k + 1) = (nI k) + (1 : Int32) from (nq_to (a := k + 1) (nq_add (a := k) (b := 1) rfl (rfl : (1 : Int32) = nI 1)) (by omega)).symm)) gz)))))
  · skip
    intro τ' fr m0
    have m1 := frm.cell fr m10 (by omega)
    have hM : isM _ y ((fo (F_m_seatsOf_5 P l g) (P.1) 0 ((0 : Int32), g)).2) A := ⟨m0, m1⟩
    refine Ev.iload rfl rfl ?_
    refine Ev.aload_n rfl rfl ?_
    refine Ev.iload_n rfl rfl ?_
    refine Ev.cV1 rfl rfl m0 rfl rfl (by decide) ⟨(Nat.le_refl _), (Nat.le_refl _)⟩ (m_classes_ok hM hP hp h6) ?_
    refine Ev.jge (tgt := 47) rfl (by decide) (fun c12 => ?_) (fun c12 => absurd c12 (nI_nlt (Nat.le_refl _) (by omega)))
    refine Ev.iload_n rfl rfl ?_
    refine Ev.iret (ty := .int) rfl rfl rfl (Nat.le_refl _) (Nat.le_refl _) ?_
    have hK : (K_m_seatsOf P l g) = ((fo (F_m_seatsOf_5 P l g) (P.1) 0 ((0 : Int32), g)).1, (fo (F_m_seatsOf_5 P l g) (P.1) 0 ((0 : Int32), g)).2) := by rfl
    rw [← hQ]
    dsimp only
    rw [hK]
    exact ⟨rfl, fr, m0⟩
def K_m_moved (S : Sch) (P : Pln) (l c0 d0 : Nat) : Int32 := if (nI d0) = (nI c0) then (0 : Int32) else (if (K_can S (P.2 d0) (nI l)) = (0 : Int32) then (0 : Int32) else (if (K_bc (P.2 d0 5)) < (S.2.2 9 3) then (if (0 : Int32) < ((K_bc (P.2 c0 5)) - (1 : Int32)) then (if ((K_bc (P.2 c0 5)) - (1 : Int32)) < (S.2.2 9 2) then (0 : Int32) else (((K_tog S (P.2 c0) ((P.2 c0 5) &&& (((1 : Int32) <<< ((nI l) &&& 31)) ^^^ (-1 : Int32)))) + (K_tog S (P.2 d0) ((P.2 d0 5) ||| ((1 : Int32) <<< ((nI l) &&& 31))))) - ((K_tog S (P.2 c0) (P.2 c0 5)) + (K_tog S (P.2 d0) (P.2 d0 5))))) else (((K_tog S (P.2 c0) ((P.2 c0 5) &&& (((1 : Int32) <<< ((nI l) &&& 31)) ^^^ (-1 : Int32)))) + (K_tog S (P.2 d0) ((P.2 d0 5) ||| ((1 : Int32) <<< ((nI l) &&& 31))))) - ((K_tog S (P.2 c0) (P.2 c0 5)) + (K_tog S (P.2 d0) (P.2 d0 5))))) else (0 : Int32)))
theorem m_moved_ok (hM : isM σ y g A) {s : Nat} (hS : mS A s S) (hs : s + 120 ≤ 4500) (hwS : wS S) (hP : mP A (970 + 40 * p) P) (hp : p < 3) (hwP : wP P) (hgo : goP S P) {l c0 d0 : Nat} {cv : Int32} (hcv : cv = nI c0) (hl : l < S.1) (hc0 : c0 < P.1) (hd0 : d0 < P.1) : RetV Γ m_M_moved [(.ref y), (.int (nI s)), (.int (nI p)), (.int (nI l)), .int cv, (.int (nI d0))] σ (.int (K_m_moved S P l c0 d0)) := by
  obtain ⟨m0, m1⟩ := id hM
  have hn16 := hwS.1
  have hn5 := hwS.2.1
  have h6 := hwP.1
  subst hcv
  unfold RetV
  generalize hQ : (fun (r : Option Value) (σ' : ex_S) => r = some ((.int (K_m_moved S P l c0 d0)) : Value) ∧ σ' = σ) = Q
  refine Ret.start pm_238 rfl ?_
  refine Ev.aload_n rfl rfl ?_
  refine Ev.iload_n rfl rfl ?_
  refine Ev.iload rfl rfl ?_
  refine Ev.cV2 rfl rfl m0 rfl rfl (by decide) ⟨(Nat.le_refl _), (Nat.le_refl _)⟩ (m_sitsIn_ok hM hP hp h6 c0 (by omega)) ?_
  refine Ev.cS1 rfl rfl rfl (by decide) ⟨(Nat.le_refl _), (Nat.le_refl _)⟩ (m_many_W (S := S) hn16 (hgo c0 (by omega)).2) ?_
  refine Ev.iconst (v := 1) rfl (by decide) ?_
  refine Ev.isub rfl ?_
  refine Ev.istore rfl rfl rfl ?_
  refine Ev.iload rfl rfl ?_
  refine Ev.iload rfl rfl ?_
  refine Ev.jeq (tgt := 76) rfl (by decide) (fun c18 => ?_) (fun c18 => ?_)
  · skip
    refine Ev.iconst (v := 0) rfl (by decide) ?_
    refine Ev.iret (ty := .int) rfl rfl rfl (Nat.le_refl _) (Nat.le_refl _) ?_
    rw [← hQ]
    refine ⟨congrArg (fun v => some (Value.int v)) (Eq.symm ?_), rfl⟩
    unfold K_m_moved
    rw [if_pos c18]
  · skip
    refine Ev.aload_n rfl rfl ?_
    refine Ev.iload_n rfl rfl ?_
    refine Ev.aload_n rfl rfl ?_
    refine Ev.iload_n rfl rfl ?_
    refine Ev.iload rfl rfl ?_
    refine Ev.cV2 rfl rfl m0 rfl rfl (by decide) ⟨(Nat.le_refl _), (Nat.le_refl _)⟩ (m_classAt_ok hM d0) ?_
    refine Ev.iload_n rfl rfl ?_
    refine Ev.cV3 rfl rfl m0 rfl rfl (by decide) ⟨(Nat.le_refl _), (Nat.le_refl _)⟩ (m_can_ok hM hS hs hwS (hP.2 d0 (by omega)) (by omega) l (by omega)) ?_
    refine Ev.zeq (tgt := 76) rfl (by decide) (fun c34 => ?_) (fun c34 => ?_)
    · skip
      refine Ev.iconst (v := 0) rfl (by decide) ?_
      refine Ev.iret (ty := .int) rfl rfl rfl (Nat.le_refl _) (Nat.le_refl _) ?_
      rw [← hQ]
      refine ⟨congrArg (fun v => some (Value.int v)) (Eq.symm ?_), rfl⟩
      unfold K_m_moved
      rw [if_neg c18]
      rw [if_pos c34]
    · skip
      refine Ev.aload_n rfl rfl ?_
      refine Ev.iload_n rfl rfl ?_
      refine Ev.iload rfl rfl ?_
      refine Ev.cV2 rfl rfl m0 rfl rfl (by decide) ⟨(Nat.le_refl _), (Nat.le_refl _)⟩ (m_sitsIn_ok hM hP hp h6 d0 (by omega)) ?_
      refine Ev.cS1 rfl rfl rfl (by decide) ⟨(Nat.le_refl _), (Nat.le_refl _)⟩ (m_many_W (S := S) hn16 (hgo d0 (by omega)).2) ?_
      refine Ev.aload_n rfl rfl ?_
      refine Ev.getf rfl rfl m0 rfl ?_
      refine Ev.iload_n rfl rfl ?_
      refine Ev.iconst (v := 5) rfl (by decide) ?_
      refine Ev.iadd rfl ?_
      refine Ev.ialdN (k := s + 5) rfl m1 (nq_to (a := s + 5) (nq_add (a := s) (b := 5) rfl (rfl : (5 : Int32) = nI 5)) (by omega)) ⟨(by omega), by decide⟩ ?_
      rw [show A (s + 5) = _ from hS.2.2.1 3 (by decide)]
      refine Ev.jge (tgt := 76) rfl (by decide) (fun c55 => ?_) (fun c55 => ?_)
      · skip
        refine Ev.iconst (v := 0) rfl (by decide) ?_
        refine Ev.iret (ty := .int) rfl rfl rfl (Nat.le_refl _) (Nat.le_refl _) ?_
        rw [← hQ]
        refine ⟨congrArg (fun v => some (Value.int v)) (Eq.symm ?_), rfl⟩
        unfold K_m_moved
        rw [if_neg c18]
        rw [if_neg c34]
        rw [if_neg c55]
      · skip
        refine Ev.iload rfl rfl ?_
        refine Ev.zle (tgt := 78) rfl (by decide) (fun c60 => ?_) (fun c60 => ?_)
        · skip
          refine Ev.iconst (v := 1) rfl (by decide) ?_
          refine Ev.iload_n rfl rfl ?_
          refine Ev.ishl rfl ?_
          refine Ev.istore rfl rfl rfl ?_
          refine Ev.aload_n rfl rfl ?_
          refine Ev.iload_n rfl rfl ?_
          refine Ev.aload_n rfl rfl ?_
          refine Ev.iload_n rfl rfl ?_
          refine Ev.iload rfl rfl ?_
          refine Ev.cV2 rfl rfl m0 rfl rfl (by decide) ⟨(Nat.le_refl _), (Nat.le_refl _)⟩ (m_classAt_ok hM c0) ?_
          refine Ev.aload_n rfl rfl ?_
          refine Ev.iload_n rfl rfl ?_
          refine Ev.iload rfl rfl ?_
          refine Ev.cV2 rfl rfl m0 rfl rfl (by decide) ⟨(Nat.le_refl _), (Nat.le_refl _)⟩ (m_sitsIn_ok hM hP hp h6 c0 (by omega)) ?_
          refine Ev.cV3 rfl rfl m0 rfl rfl (by decide) ⟨(Nat.le_refl _), (Nat.le_refl _)⟩ (m_tog_W hM hS hs hwS (hP.2 c0 (by omega)) (by omega) (hwP.2 c0 (by omega)) (hgo c0 (by omega)).1 (hgo c0 (by omega)).2) ?_
          refine Ev.aload_n rfl rfl ?_
          refine Ev.iload_n rfl rfl ?_
          refine Ev.aload_n rfl rfl ?_
          refine Ev.iload_n rfl rfl ?_
          refine Ev.iload rfl rfl ?_
          refine Ev.cV2 rfl rfl m0 rfl rfl (by decide) ⟨(Nat.le_refl _), (Nat.le_refl _)⟩ (m_classAt_ok hM d0) ?_
          refine Ev.aload_n rfl rfl ?_
          refine Ev.iload_n rfl rfl ?_
          refine Ev.iload rfl rfl ?_
          refine Ev.cV2 rfl rfl m0 rfl rfl (by decide) ⟨(Nat.le_refl _), (Nat.le_refl _)⟩ (m_sitsIn_ok hM hP hp h6 d0 (by omega)) ?_
          refine Ev.cV3 rfl rfl m0 rfl rfl (by decide) ⟨(Nat.le_refl _), (Nat.le_refl _)⟩ (m_tog_W hM hS hs hwS (hP.2 d0 (by omega)) (by omega) (hwP.2 d0 (by omega)) (hgo d0 (by omega)).1 (hgo d0 (by omega)).2) ?_
          refine Ev.iadd rfl ?_
          refine Ev.istore rfl rfl rfl ?_
          refine Ev.aload_n rfl rfl ?_
          refine Ev.iload_n rfl rfl ?_
          refine Ev.aload_n rfl rfl ?_
          refine Ev.iload_n rfl rfl ?_
          refine Ev.iload rfl rfl ?_
          refine Ev.cV2 rfl rfl m0 rfl rfl (by decide) ⟨(Nat.le_refl _), (Nat.le_refl _)⟩ (m_classAt_ok hM c0) ?_
          refine Ev.aload_n rfl rfl ?_
          refine Ev.iload_n rfl rfl ?_
          refine Ev.iload rfl rfl ?_
          refine Ev.cV2 rfl rfl m0 rfl rfl (by decide) ⟨(Nat.le_refl _), (Nat.le_refl _)⟩ (m_sitsIn_ok hM hP hp h6 c0 (by omega)) ?_
          refine Ev.iload rfl rfl ?_
          refine Ev.iconst (v := (-1)) rfl (by decide) ?_
          refine Ev.ixor rfl ?_
          refine Ev.iand rfl ?_
          refine Ev.cV3 rfl rfl m0 rfl rfl (by decide) ⟨(Nat.le_refl _), (Nat.le_refl _)⟩ (m_tog_W hM hS hs hwS (hP.2 c0 (by omega)) (by omega) (hwP.2 c0 (by omega)) (hgo c0 (by omega)).1 (inS_and hn16 (hgo c0 (by omega)).2 _)) ?_
          refine Ev.aload_n rfl rfl ?_
          refine Ev.iload_n rfl rfl ?_
          refine Ev.aload_n rfl rfl ?_
          refine Ev.iload_n rfl rfl ?_
          refine Ev.iload rfl rfl ?_
          refine Ev.cV2 rfl rfl m0 rfl rfl (by decide) ⟨(Nat.le_refl _), (Nat.le_refl _)⟩ (m_classAt_ok hM d0) ?_
          refine Ev.aload_n rfl rfl ?_
          refine Ev.iload_n rfl rfl ?_
          refine Ev.iload rfl rfl ?_
          refine Ev.cV2 rfl rfl m0 rfl rfl (by decide) ⟨(Nat.le_refl _), (Nat.le_refl _)⟩ (m_sitsIn_ok hM hP hp h6 d0 (by omega)) ?_
          refine Ev.iload rfl rfl ?_
          refine Ev.ior rfl ?_
          refine Ev.cV3 rfl rfl m0 rfl rfl (by decide) ⟨(Nat.le_refl _), (Nat.le_refl _)⟩ (m_tog_W hM hS hs hwS (hP.2 d0 (by omega)) (by omega) (hwP.2 d0 (by omega)) (hgo d0 (by omega)).1 (inS_or hn16 (hgo d0 (by omega)).2 (inS_bit hn16 (by omega)))) ?_
          refine Ev.iadd rfl ?_
          refine Ev.iload rfl rfl ?_
          refine Ev.isub rfl ?_
          refine Ev.iret (ty := .int) rfl rfl rfl (Nat.le_refl _) (Nat.le_refl _) ?_
          rw [← hQ]
          refine ⟨congrArg (fun v => some (Value.int v)) (Eq.symm ?_), rfl⟩
          unfold K_m_moved
          rw [if_neg c18]
          rw [if_neg c34]
          rw [if_pos c55]
          rw [if_neg c60]
        · skip
          refine Ev.iload rfl rfl ?_
          refine Ev.aload_n rfl rfl ?_
          refine Ev.getf rfl rfl m0 rfl ?_
          refine Ev.iload_n rfl rfl ?_
          refine Ev.iconst (v := 4) rfl (by decide) ?_
          refine Ev.iadd rfl ?_
          refine Ev.ialdN (k := s + 4) rfl m1 (nq_to (a := s + 4) (nq_add (a := s) (b := 4) rfl (rfl : (4 : Int32) = nI 4)) (by omega)) ⟨(by omega), by decide⟩ ?_
          rw [show A (s + 4) = _ from hS.2.2.1 2 (by decide)]
          refine Ev.jge (tgt := 78) rfl (by decide) (fun c73 => ?_) (fun c73 => ?_)
          · skip
            refine Ev.iconst (v := 1) rfl (by decide) ?_
            refine Ev.iload_n rfl rfl ?_
            refine Ev.ishl rfl ?_
            refine Ev.istore rfl rfl rfl ?_
            refine Ev.aload_n rfl rfl ?_
            refine Ev.iload_n rfl rfl ?_
            refine Ev.aload_n rfl rfl ?_
            refine Ev.iload_n rfl rfl ?_
            refine Ev.iload rfl rfl ?_
            refine Ev.cV2 rfl rfl m0 rfl rfl (by decide) ⟨(Nat.le_refl _), (Nat.le_refl _)⟩ (m_classAt_ok hM c0) ?_
            refine Ev.aload_n rfl rfl ?_
            refine Ev.iload_n rfl rfl ?_
            refine Ev.iload rfl rfl ?_
            refine Ev.cV2 rfl rfl m0 rfl rfl (by decide) ⟨(Nat.le_refl _), (Nat.le_refl _)⟩ (m_sitsIn_ok hM hP hp h6 c0 (by omega)) ?_
            refine Ev.cV3 rfl rfl m0 rfl rfl (by decide) ⟨(Nat.le_refl _), (Nat.le_refl _)⟩ (m_tog_W hM hS hs hwS (hP.2 c0 (by omega)) (by omega) (hwP.2 c0 (by omega)) (hgo c0 (by omega)).1 (hgo c0 (by omega)).2) ?_
            refine Ev.aload_n rfl rfl ?_
            refine Ev.iload_n rfl rfl ?_
            refine Ev.aload_n rfl rfl ?_
            refine Ev.iload_n rfl rfl ?_
            refine Ev.iload rfl rfl ?_
            refine Ev.cV2 rfl rfl m0 rfl rfl (by decide) ⟨(Nat.le_refl _), (Nat.le_refl _)⟩ (m_classAt_ok hM d0) ?_
            refine Ev.aload_n rfl rfl ?_
            refine Ev.iload_n rfl rfl ?_
            refine Ev.iload rfl rfl ?_
            refine Ev.cV2 rfl rfl m0 rfl rfl (by decide) ⟨(Nat.le_refl _), (Nat.le_refl _)⟩ (m_sitsIn_ok hM hP hp h6 d0 (by omega)) ?_
            refine Ev.cV3 rfl rfl m0 rfl rfl (by decide) ⟨(Nat.le_refl _), (Nat.le_refl _)⟩ (m_tog_W hM hS hs hwS (hP.2 d0 (by omega)) (by omega) (hwP.2 d0 (by omega)) (hgo d0 (by omega)).1 (hgo d0 (by omega)).2) ?_
            refine Ev.iadd rfl ?_
            refine Ev.istore rfl rfl rfl ?_
            refine Ev.aload_n rfl rfl ?_
            refine Ev.iload_n rfl rfl ?_
            refine Ev.aload_n rfl rfl ?_
            refine Ev.iload_n rfl rfl ?_
            refine Ev.iload rfl rfl ?_
            refine Ev.cV2 rfl rfl m0 rfl rfl (by decide) ⟨(Nat.le_refl _), (Nat.le_refl _)⟩ (m_classAt_ok hM c0) ?_
            refine Ev.aload_n rfl rfl ?_
            refine Ev.iload_n rfl rfl ?_
            refine Ev.iload rfl rfl ?_
            refine Ev.cV2 rfl rfl m0 rfl rfl (by decide) ⟨(Nat.le_refl _), (Nat.le_refl _)⟩ (m_sitsIn_ok hM hP hp h6 c0 (by omega)) ?_
            refine Ev.iload rfl rfl ?_
            refine Ev.iconst (v := (-1)) rfl (by decide) ?_
            refine Ev.ixor rfl ?_
            refine Ev.iand rfl ?_
            refine Ev.cV3 rfl rfl m0 rfl rfl (by decide) ⟨(Nat.le_refl _), (Nat.le_refl _)⟩ (m_tog_W hM hS hs hwS (hP.2 c0 (by omega)) (by omega) (hwP.2 c0 (by omega)) (hgo c0 (by omega)).1 (inS_and hn16 (hgo c0 (by omega)).2 _)) ?_
            refine Ev.aload_n rfl rfl ?_
            refine Ev.iload_n rfl rfl ?_
            refine Ev.aload_n rfl rfl ?_
            refine Ev.iload_n rfl rfl ?_
            refine Ev.iload rfl rfl ?_
            refine Ev.cV2 rfl rfl m0 rfl rfl (by decide) ⟨(Nat.le_refl _), (Nat.le_refl _)⟩ (m_classAt_ok hM d0) ?_
            refine Ev.aload_n rfl rfl ?_
            refine Ev.iload_n rfl rfl ?_
            refine Ev.iload rfl rfl ?_
            refine Ev.cV2 rfl rfl m0 rfl rfl (by decide) ⟨(Nat.le_refl _), (Nat.le_refl _)⟩ (m_sitsIn_ok hM hP hp h6 d0 (by omega)) ?_
            refine Ev.iload rfl rfl ?_
            refine Ev.ior rfl ?_
            refine Ev.cV3 rfl rfl m0 rfl rfl (by decide) ⟨(Nat.le_refl _), (Nat.le_refl _)⟩ (m_tog_W hM hS hs hwS (hP.2 d0 (by omega)) (by omega) (hwP.2 d0 (by omega)) (hgo d0 (by omega)).1 (inS_or hn16 (hgo d0 (by omega)).2 (inS_bit hn16 (by omega)))) ?_
            refine Ev.iadd rfl ?_
            refine Ev.iload rfl rfl ?_
            refine Ev.isub rfl ?_
            refine Ev.iret (ty := .int) rfl rfl rfl (Nat.le_refl _) (Nat.le_refl _) ?_
            rw [← hQ]
            refine ⟨congrArg (fun v => some (Value.int v)) (Eq.symm ?_), rfl⟩
            unfold K_m_moved
            rw [if_neg c18]
            rw [if_neg c34]
            rw [if_pos c55]
            rw [if_pos c60]
            rw [if_neg c73]
          · skip
            refine Ev.iconst (v := 0) rfl (by decide) ?_
            refine Ev.iret (ty := .int) rfl rfl rfl (Nat.le_refl _) (Nat.le_refl _) ?_
            rw [← hQ]
            refine ⟨congrArg (fun v => some (Value.int v)) (Eq.symm ?_), rfl⟩
            unfold K_m_moved
            rw [if_neg c18]
            rw [if_neg c34]
            rw [if_pos c55]
            rw [if_pos c60]
            rw [if_pos c73]
theorem seat_cl {P : Pln} {l : Nat} {g : Nat → Int32} (h6 : P.1 ≤ 6) (h : (K_m_seatsOf P l g).1 = 1) : (K_m_seatsOf P l g).2 20 = nI ((K_m_seatsOf P l g).2 20).toNatClampNeg ∧ ((K_m_seatsOf P l g).2 20).toNatClampNeg < P.1 := by
  have key := fo_inv (F := F_m_seatsOf_5 P l g) (fun i z => z.1 = 0 ∨ ∃ k, k < i ∧ z.2 20 = nI k) P.1 0 ((0 : Int32), g) (Or.inl rfl) (fun j z _ hj hz => by
    unfold F_m_seatsOf_5
    by_cases c : ((P.2 j 5 >>> (nI l &&& 31)) &&& 1) = 0
    · rw [if_pos c]
      rcases hz with hz | ⟨k, h1, h2⟩
      · exact Or.inl hz
      · exact Or.inr ⟨k, by omega, h2⟩
    · rw [if_neg c]
      exact Or.inr ⟨j, by omega, (pk_us : upd z.2 20 (nI j) 20 = nI j)⟩)
  have h1 : (K_m_seatsOf P l g).1 = (fo (F_m_seatsOf_5 P l g) P.1 0 ((0 : Int32), g)).1 := rfl
  have h2 : (K_m_seatsOf P l g).2 = (fo (F_m_seatsOf_5 P l g) P.1 0 ((0 : Int32), g)).2 := rfl
  rw [h1] at h
  rw [h2]
  rcases key with h0 | ⟨k, hk, e⟩
  · rw [h0] at h
    exact absurd h (by decide)
  · rw [e, nI_clamp (by omega)]
    exact ⟨rfl, by omega⟩
def F_m_move_74 (T : Tol) (i j : Nat) (w : Nat) (g : Nat → Int32) (k : Nat) (z : Int32 × Int32 × Int32 × (Nat → Int32)) : Nat → (Int32 × Int32 × Int32) → (Int32 × Int32 × Int32) := fun k' z' => if z'.2.2 < (K_m_moved (tS T i) (tP T j) k ((((K_m_seatsOf (tP T j) k z.2.2.2).2) 20).toNatClampNeg) k') then (nI k, nI k', K_m_moved (tS T i) (tP T j) k ((((K_m_seatsOf (tP T j) k z.2.2.2).2) 20).toNatClampNeg) k') else (z'.1, z'.2.1, z'.2.2)
def F_m_move_39 (T : Tol) (i j : Nat) (w : Nat) (g : Nat → Int32) : Nat → (Int32 × Int32 × Int32 × (Nat → Int32)) → (Int32 × Int32 × Int32 × (Nat → Int32)) := fun k z => if ((K_m_seatsOf (tP T j) k z.2.2.2).1) = (1 : Int32) then ((fo (F_m_move_74 T i j w g k z) ((tP T j).1) 0 (z.1, z.2.1, z.2.2.1)).1, (fo (F_m_move_74 T i j w g k z) ((tP T j).1) 0 (z.1, z.2.1, z.2.2.1)).2.1, (fo (F_m_move_74 T i j w g k z) ((tP T j).1) 0 (z.1, z.2.1, z.2.2.1)).2.2, (K_m_seatsOf (tP T j) k z.2.2.2).2) else (z.1, z.2.1, z.2.2.1, (K_m_seatsOf (tP T j) k z.2.2.2).2)
def K_m_move (T : Tol) (i j : Nat) (w : Nat) (g : Nat → Int32) : Int32 × (Nat → Int32) := if ((fo (F_m_move_39 T i j w g) ((tS T i).1) 0 ((-1 : Int32), (-1 : Int32), (0 : Int32), g)).1) < (0 : Int32) then ((-1 : Int32), (fo (F_m_move_39 T i j w g) ((tS T i).1) 0 ((-1 : Int32), (-1 : Int32), (0 : Int32), g)).2.2.2) else (if (nI w) = (0 : Int32) then ((fo (F_m_move_39 T i j w g) ((tS T i).1) 0 ((-1 : Int32), (-1 : Int32), (0 : Int32), g)).1, (fo (F_m_move_39 T i j w g) ((tS T i).1) 0 ((-1 : Int32), (-1 : Int32), (0 : Int32), g)).2.2.2) else (if (nI w) = (1 : Int32) then ((fo (F_m_move_39 T i j w g) ((tS T i).1) 0 ((-1 : Int32), (-1 : Int32), (0 : Int32), g)).2.1, (fo (F_m_move_39 T i j w g) ((tS T i).1) 0 ((-1 : Int32), (-1 : Int32), (0 : Int32), g)).2.2.2) else ((fo (F_m_move_39 T i j w g) ((tS T i).1) 0 ((-1 : Int32), (-1 : Int32), (0 : Int32), g)).2.2.1, (fo (F_m_move_39 T i j w g) ((tS T i).1) 0 ((-1 : Int32), (-1 : Int32), (0 : Int32), g)).2.2.2)))
theorem m_move_some (hM : isM σ y g A) (hT : mT A 0 T) (hw : wT T)  {u v : Int32} {i j : Nat} (hg : gd T u v i j) {w : Nat} (hw3 : w ≤ 2) : RetX Γ m_M_move [(.ref y), .int u, .int v, (.int (nI w))] σ y (y + 1) (some (.int ((K_m_move T i j w g).1))) (fun τ => τ.2 y = some (.inr (.inr (10, mo y ((K_m_move T i j w g).2))))) := by
  obtain ⟨m0, m10⟩ := id hM
  have hgd := hg
  obtain ⟨rfl, hi, rfl, hj, hgo⟩ := hg
  have hi3 : i < 3 := by have := hw.2.1; omega
  have hj3 : j < 3 := by have := hw.2.2.1; omega
  have hwS := hw.2.2.2.1 i hi
  have hwP := hw.2.2.2.2 j hj
  have hn16 := hwS.1
  have hn5 := hwS.2.1
  have h6 := hwP.1
  have hS := hT.s hi
  have hP := hT.p hj
  have hs : 610 + 120 * i + 120 ≤ 4500 := by omega
  unfold RetX
  generalize hQ : (fun (r : Option Value) (τ : ex_S) => r = some (.int ((K_m_move T i j w g).1)) ∧ frm σ τ y (y + 1) ∧ (fun τ : ex_S => τ.2 y = some (.inr (.inr (10, mo y ((K_m_move T i j w g).2))))) τ) = Q
  refine Ret.start pm_239 rfl ?_
  have fr : frm σ σ y (y + 1) := frm.rf
  have m1 := frm.cell fr m10 (by omega)
  have hM : isM _ y g A := ⟨m0, m1⟩
  refine Ev.aload_n rfl rfl ?_
  refine Ev.iload_n rfl rfl ?_
  refine Ev.iload_n rfl rfl ?_
  refine Ev.cV2 rfl rfl m0 rfl rfl (by decide) ⟨(Nat.le_refl _), (Nat.le_refl _)⟩ (m_goes_yes hM hT hw hgd) ?_
  refine Ev.zeq (tgt := 18) rfl (by decide) (fun c6 => absurd c6 (by decide)) (fun c6 => ?_)
  refine Ev.iload_n rfl rfl ?_
  refine Ev.iconst (v := 0) rfl (by decide) ?_
  refine Ev.iconst (v := 2) rfl (by decide) ?_
  refine Ev.cS3 rfl rfl rfl (by decide) ⟨(Nat.le_refl _), (Nat.le_refl _)⟩ (m_in_y (K_in2 hw3)) ?_
  refine Ev.zne (tgt := 20) rfl (by decide) (fun c15 => ?_) (fun c15 => absurd c15 (by decide))
  refine Ev.iconst (v := 0) rfl (by decide) ?_
  refine Ev.iload_n rfl rfl ?_
  refine Ev.cS2 rfl rfl rfl (by decide) ⟨(Nat.le_refl _), (Nat.le_refl _)⟩ (m_pl0_ok i) ?_
  refine Ev.istore rfl rfl rfl ?_
  refine Ev.iconst (v := (-1)) rfl (by decide) ?_
  refine Ev.istore rfl rfl rfl ?_
  refine Ev.iconst (v := (-1)) rfl (by decide) ?_
  refine Ev.istore rfl rfl rfl ?_
  refine Ev.iconst (v := 0) rfl (by decide) ?_
  refine Ev.istore rfl rfl rfl ?_
  refine Ev.iconst (v := 0) rfl (by decide) ?_
  refine Ev.istore rfl rfl rfl ?_
  refine Ev.fg (L := [some (.ref y), none, some (.int (nI j)), some (.int (nI w)), some (.int (nI (610 + 120 * i))), some (.int (-1 : Int32)), some (.int (-1 : Int32)), some (.int (0 : Int32)), some (.int (nI 0)), none, none, none]) ?_ (gs rfl (gn (gs rfl (gs rfl (gs rfl (gs rfl (gs rfl (gs rfl (gs (congrArg Value.int (rfl : (0 : Int32) = nI 0).symm) (gn (gn (gn gz))))))))))))
  refine lp (fun (k : Nat) (z : Int32 × Int32 × Int32 × (Nat → Int32)) => ∀ τ' : ex_S, frm σ τ' y (y + 1) → τ'.2 y = some (.inr (.inr (10, mo y z.2.2.2))) → Ev Γ 0 0 m_M_move 0 0 39 [some (.ref y), none, some (.int (nI j)), some (.int (nI w)), some (.int (nI (610 + 120 * i))), some (.int z.1), some (.int z.2.1), some (.int z.2.2.1), some (.int (nI k)), none, none, none] [] τ' Q) (F_m_move_39 T i j w g) ((tS T i).1) (fun k z hk hx => ?_) ((tS T i).1) 0 ((-1 : Int32), (-1 : Int32), (0 : Int32), g) (by omega) ?_ σ fr m0
  · skip
    intro τ' fr m0
    have m1 := frm.cell fr m10 (by omega)
    have hM : isM _ y z.2.2.2 A := ⟨m0, m1⟩
    refine Ev.iload rfl rfl ?_
    refine Ev.aload_n rfl rfl ?_
    refine Ev.getf rfl rfl m0 rfl ?_
    refine Ev.iload rfl rfl ?_
    refine Ev.ialdN (k := 610 + 120 * i) rfl m1 (nq_to (a := 610 + 120 * i) rfl (by omega)) ⟨(by omega), by decide⟩ ?_
    rw [hS.1]
    refine Ev.jge (tgt := 133) rfl (by decide) (fun c48 => absurd (nI_lt hk (by omega)) c48) (fun c48 => ?_)
    refine Ev.aload_n rfl rfl ?_
    refine Ev.iload_n rfl rfl ?_
    refine Ev.iload rfl rfl ?_
    refine Ev.xV2 rfl rfl m0 rfl rfl (by decide) ⟨(Nat.le_refl _), (Nat.le_refl _)⟩ (m_seatsOf_ok hM hS hs hwS hP hj3 hwP hgo k) (fun τ1 f1 q1 => ?_)
    have m0 := q1
    have fr := fr.step f1 (by omega) (by omega)
    have m1 := frm.cell fr m10 (by omega)
    have hM : isM _ y ((K_m_seatsOf (tP T j) k z.2.2.2).2) A := ⟨m0, m1⟩
    refine Ev.iconst (v := 1) rfl (by decide) ?_
    refine Ev.jeq (tgt := 65) rfl (by decide) (fun c59 => ?_) (fun c59 => ?_)
    · skip
      refine Ev.aload_n rfl rfl ?_
      refine Ev.getf rfl rfl m0 rfl ?_
      obtain ⟨hq, hql⟩ := seat_cl h6 c59
      refine Ev.istore rfl rfl rfl ?_
      refine Ev.iconst (v := 0) rfl (by decide) ?_
      refine Ev.istore rfl rfl rfl ?_
      refine Ev.fg (L := [some (.ref y), none, some (.int (nI j)), some (.int (nI w)), some (.int (nI (610 + 120 * i))), some (.int z.1), some (.int z.2.1), some (.int z.2.2.1), some (.int (nI k)), some (.int (((K_m_seatsOf (tP T j) k z.2.2.2).2) 20)), some (.int (nI 0)), none]) ?_ (gs rfl (gn (gs rfl (gs rfl (gs rfl (gs rfl (gs rfl (gs rfl (gs rfl (gs rfl (gs (congrArg Value.int (rfl : (0 : Int32) = nI 0).symm) (gn gz))))))))))))
      refine lp (fun (k' : Nat) (z' : Int32 × Int32 × Int32) => Ev Γ 0 0 m_M_move 0 0 74 [some (.ref y), none, some (.int (nI j)), some (.int (nI w)), some (.int (nI (610 + 120 * i))), some (.int z'.1), some (.int z'.2.1), some (.int z'.2.2), some (.int (nI k)), some (.int (((K_m_seatsOf (tP T j) k z.2.2.2).2) 20)), some (.int (nI k')), none] [] τ1 Q) (F_m_move_74 T i j w g k z) ((tP T j).1) (fun k' z' hk' hx' => ?_) ((tP T j).1) 0 (z.1, z.2.1, z.2.2.1) (by omega) ?_
      · skip
        refine Ev.iload rfl rfl ?_
        refine Ev.aload_n rfl rfl ?_
        refine Ev.iload_n rfl rfl ?_
        refine Ev.cV1 rfl rfl m0 rfl rfl (by decide) ⟨(Nat.le_refl _), (Nat.le_refl _)⟩ (m_classes_ok hM hP hj3 h6) ?_
        refine Ev.jge (tgt := 127) rfl (by decide) (fun c81 => absurd (nI_lt hk' (by omega)) c81) (fun c81 => ?_)
        refine Ev.aload_n rfl rfl ?_
        refine Ev.iload rfl rfl ?_
        refine Ev.iload_n rfl rfl ?_
        refine Ev.iload rfl rfl ?_
        refine Ev.iload rfl rfl ?_
        refine Ev.iload rfl rfl ?_
        refine Ev.cV5 rfl rfl m0 rfl rfl (by decide) ⟨(Nat.le_refl _), (Nat.le_refl _)⟩ (m_moved_ok hM hS hs hwS hP hj3 hwP hgo hq (by omega) (by omega) (by omega)) ?_
        refine Ev.istore rfl rfl rfl ?_
        refine Ev.iload rfl rfl ?_
        refine Ev.iload rfl rfl ?_
        refine Ev.jgt (tgt := 109) rfl (by decide) (fun c103 => ?_) (fun c103 => ?_)
        · skip
          refine Ev.iload rfl rfl ?_
          refine Ev.istore rfl rfl rfl ?_
          refine Ev.iload rfl rfl ?_
          refine Ev.istore rfl rfl rfl ?_
          refine Ev.iload rfl rfl ?_
          refine Ev.istore rfl rfl rfl ?_
          refine Ev.iinc (d := 1) rfl rfl rfl (by decide) rfl ?_
          refine Ev.goto (tgt := 74) rfl (by decide) ?_
          have hF : (F_m_move_74 T i j w g k z) k' z' = (nI k, nI k', K_m_moved (tS T i) (tP T j) k ((((K_m_seatsOf (tP T j) k z.2.2.2).2) 20).toNatClampNeg) k') := by
            unfold F_m_move_74
            rw [if_pos c103]
          rw [hF] at hx'
          exact hx'.fg (gs rfl (gn (gs rfl (gs rfl (gs rfl (gs rfl (gs rfl (gs rfl (gs rfl (gs rfl (gs (congrArg Value.int (show nI (k' + 1) = (nI k') + (1 : Int32) from (nq_to (a := k' + 1) (nq_add (a := k') (b := 1) rfl (rfl : (1 : Int32) = nI 1)) (by omega)).symm)) (gn gz))))))))))))
        · skip
          refine Ev.goto (tgt := 121) rfl (by decide) ?_
          refine Ev.iinc (d := 1) rfl rfl rfl (by decide) rfl ?_
          refine Ev.goto (tgt := 74) rfl (by decide) ?_
          have hF : (F_m_move_74 T i j w g k z) k' z' = (z'.1, z'.2.1, z'.2.2) := by
            unfold F_m_move_74
            rw [if_neg c103]
          rw [hF] at hx'
          exact hx'.fg (gs rfl (gn (gs rfl (gs rfl (gs rfl (gs rfl (gs rfl (gs rfl (gs rfl (gs rfl (gs (congrArg Value.int (show nI (k' + 1) = (nI k') + (1 : Int32) from (nq_to (a := k' + 1) (nq_add (a := k') (b := 1) rfl (rfl : (1 : Int32) = nI 1)) (by omega)).symm)) (gn gz))))))))))))
      · skip
        refine Ev.iload rfl rfl ?_
        refine Ev.aload_n rfl rfl ?_
        refine Ev.iload_n rfl rfl ?_
        refine Ev.cV1 rfl rfl m0 rfl rfl (by decide) ⟨(Nat.le_refl _), (Nat.le_refl _)⟩ (m_classes_ok hM hP hj3 h6) ?_
        refine Ev.jge (tgt := 127) rfl (by decide) (fun c81 => ?_) (fun c81 => absurd c81 (nI_nlt (Nat.le_refl _) (by omega)))
        refine Ev.iinc (d := 1) rfl rfl rfl (by decide) rfl ?_
        refine Ev.goto (tgt := 39) rfl (by decide) ?_
        have hF : (F_m_move_39 T i j w g) k z = ((fo (F_m_move_74 T i j w g k z) ((tP T j).1) 0 (z.1, z.2.1, z.2.2.1)).1, (fo (F_m_move_74 T i j w g k z) ((tP T j).1) 0 (z.1, z.2.1, z.2.2.1)).2.1, (fo (F_m_move_74 T i j w g k z) ((tP T j).1) 0 (z.1, z.2.1, z.2.2.1)).2.2, (K_m_seatsOf (tP T j) k z.2.2.2).2) := by
          unfold F_m_move_39
          rw [if_pos c59]
        rw [hF] at hx
        exact (hx τ1 fr m0).fg (gs rfl (gn (gs rfl (gs rfl (gs rfl (gs rfl (gs rfl (gs rfl (gs (congrArg Value.int (show nI (k + 1) = (nI k) + (1 : Int32) from (nq_to (a := k + 1) (nq_add (a := k) (b := 1) rfl (rfl : (1 : Int32) = nI 1)) (by omega)).symm)) (gn (gn (gn gz))))))))))))
    · skip
      refine Ev.goto (tgt := 127) rfl (by decide) ?_
      refine Ev.iinc (d := 1) rfl rfl rfl (by decide) rfl ?_
      refine Ev.goto (tgt := 39) rfl (by decide) ?_
      have hF : (F_m_move_39 T i j w g) k z = (z.1, z.2.1, z.2.2.1, (K_m_seatsOf (tP T j) k z.2.2.2).2) := by
        unfold F_m_move_39
        rw [if_neg c59]
      rw [hF] at hx
      exact (hx τ1 fr m0).fg (gs rfl (gn (gs rfl (gs rfl (gs rfl (gs rfl (gs rfl (gs rfl (gs (congrArg Value.int (show nI (k + 1) = (nI k) + (1 : Int32) from (nq_to (a := k + 1) (nq_add (a := k) (b := 1) rfl (rfl : (1 : Int32) = nI 1)) (by omega)).symm)) (gn (gn (gn gz))))))))))))
  · skip
    intro τ' fr m0
    have m1 := frm.cell fr m10 (by omega)
    have hM : isM _ y ((fo (F_m_move_39 T i j w g) ((tS T i).1) 0 ((-1 : Int32), (-1 : Int32), (0 : Int32), g)).2.2.2) A := ⟨m0, m1⟩
    refine Ev.iload rfl rfl ?_
    refine Ev.aload_n rfl rfl ?_
    refine Ev.getf rfl rfl m0 rfl ?_
    refine Ev.iload rfl rfl ?_
    refine Ev.ialdN (k := 610 + 120 * i) rfl m1 (nq_to (a := 610 + 120 * i) rfl (by omega)) ⟨(by omega), by decide⟩ ?_
    rw [hS.1]
    refine Ev.jge (tgt := 133) rfl (by decide) (fun c48 => ?_) (fun c48 => absurd c48 (nI_nlt (Nat.le_refl _) (by omega)))
    refine Ev.iload rfl rfl ?_
    refine Ev.zge (tgt := 142) rfl (by decide) (fun c135 => ?_) (fun c135 => ?_)
    · skip
      refine Ev.iload_n rfl rfl ?_
      refine Ev.zne (tgt := 151) rfl (by decide) (fun c143 => ?_) (fun c143 => ?_)
      · skip
        refine Ev.iload_n rfl rfl ?_
        refine Ev.iconst (v := 1) rfl (by decide) ?_
        refine Ev.jne (tgt := 161) rfl (by decide) (fun c153 => ?_) (fun c153 => ?_)
        · skip
          refine Ev.iload rfl rfl ?_
          refine Ev.iret (ty := .int) rfl rfl rfl (Nat.le_refl _) (Nat.le_refl _) ?_
          have hK : (K_m_move T i j w g) = ((fo (F_m_move_39 T i j w g) ((tS T i).1) 0 ((-1 : Int32), (-1 : Int32), (0 : Int32), g)).2.2.1, (fo (F_m_move_39 T i j w g) ((tS T i).1) 0 ((-1 : Int32), (-1 : Int32), (0 : Int32), g)).2.2.2) := by
            unfold K_m_move
            rw [if_neg c135]
            rw [if_neg c143]
            rw [if_neg c153]
          rw [← hQ]
          dsimp only
          rw [hK]
          exact ⟨rfl, fr, m0⟩
        · skip
          refine Ev.iload rfl rfl ?_
          refine Ev.goto (tgt := 163) rfl (by decide) ?_
          refine Ev.iret (ty := .int) rfl rfl rfl (Nat.le_refl _) (Nat.le_refl _) ?_
          have hK : (K_m_move T i j w g) = ((fo (F_m_move_39 T i j w g) ((tS T i).1) 0 ((-1 : Int32), (-1 : Int32), (0 : Int32), g)).2.1, (fo (F_m_move_39 T i j w g) ((tS T i).1) 0 ((-1 : Int32), (-1 : Int32), (0 : Int32), g)).2.2.2) := by
            unfold K_m_move
            rw [if_neg c135]
            rw [if_neg c143]
            rw [if_pos c153]
          rw [← hQ]
          dsimp only
          rw [hK]
          exact ⟨rfl, fr, m0⟩
      · skip
        refine Ev.iload rfl rfl ?_
        refine Ev.goto (tgt := 163) rfl (by decide) ?_
        refine Ev.iret (ty := .int) rfl rfl rfl (Nat.le_refl _) (Nat.le_refl _) ?_
        have hK : (K_m_move T i j w g) = ((fo (F_m_move_39 T i j w g) ((tS T i).1) 0 ((-1 : Int32), (-1 : Int32), (0 : Int32), g)).1, (fo (F_m_move_39 T i j w g) ((tS T i).1) 0 ((-1 : Int32), (-1 : Int32), (0 : Int32), g)).2.2.2) := by
          unfold K_m_move
          rw [if_neg c135]
          rw [if_pos c143]
        rw [← hQ]
        dsimp only
        rw [hK]
        exact ⟨rfl, fr, m0⟩
    · skip
      refine Ev.iconst (v := (-1)) rfl (by decide) ?_
      refine Ev.goto (tgt := 163) rfl (by decide) ?_
      refine Ev.iret (ty := .int) rfl rfl rfl (Nat.le_refl _) (Nat.le_refl _) ?_
      have hK : (K_m_move T i j w g) = ((-1 : Int32), (fo (F_m_move_39 T i j w g) ((tS T i).1) 0 ((-1 : Int32), (-1 : Int32), (0 : Int32), g)).2.2.2) := by
        unfold K_m_move
        rw [if_pos c135]
      rw [← hQ]
      dsimp only
      rw [hK]
      exact ⟨rfl, fr, m0⟩
def F_m_merge_56 (T : Tol) (i j : Nat) (w : Nat) (k : Nat) (z : Int32 × Int32 × Int32) : Nat → (Int32 × Int32 × Int32) → (Int32 × Int32 × Int32) := fun k' z' => if ((tP T j).2 k 2) = ((tP T j).2 k' 2) then (if ((tS T i).2.2 9 3) < (K_bc (((tP T j).2 k 5) ||| ((tP T j).2 k' 5))) then (z'.1, z'.2.1, z'.2.2) else (if z'.1 < (0 : Int32) then (nI k, nI k', ((K_tog (tS T i) ((tP T j).2 k) (((tP T j).2 k 5) ||| ((tP T j).2 k' 5))) - (K_tog (tS T i) ((tP T j).2 k) ((tP T j).2 k 5))) - (K_tog (tS T i) ((tP T j).2 k') ((tP T j).2 k' 5))) else (if z'.2.2 < (((K_tog (tS T i) ((tP T j).2 k) (((tP T j).2 k 5) ||| ((tP T j).2 k' 5))) - (K_tog (tS T i) ((tP T j).2 k) ((tP T j).2 k 5))) - (K_tog (tS T i) ((tP T j).2 k') ((tP T j).2 k' 5))) then (nI k, nI k', ((K_tog (tS T i) ((tP T j).2 k) (((tP T j).2 k 5) ||| ((tP T j).2 k' 5))) - (K_tog (tS T i) ((tP T j).2 k) ((tP T j).2 k 5))) - (K_tog (tS T i) ((tP T j).2 k') ((tP T j).2 k' 5))) else (z'.1, z'.2.1, z'.2.2)))) else (z'.1, z'.2.1, z'.2.2)
def F_m_merge_40 (T : Tol) (i j : Nat) (w : Nat) : Nat → (Int32 × Int32 × Int32) → (Int32 × Int32 × Int32) := fun k z => ((fo (F_m_merge_56 T i j w k z) (((tP T j).1) - (k + 1)) (k + 1) (z.1, z.2.1, z.2.2)).1, (fo (F_m_merge_56 T i j w k z) (((tP T j).1) - (k + 1)) (k + 1) (z.1, z.2.1, z.2.2)).2.1, (fo (F_m_merge_56 T i j w k z) (((tP T j).1) - (k + 1)) (k + 1) (z.1, z.2.1, z.2.2)).2.2)
def K_m_merge (T : Tol) (i j : Nat) (w : Nat) : Int32 := if ((fo (F_m_merge_40 T i j w) ((tP T j).1) 0 ((-1 : Int32), (-1 : Int32), (0 : Int32))).1) < (0 : Int32) then (-1000000 : Int32) else (if (nI w) = (0 : Int32) then ((fo (F_m_merge_40 T i j w) ((tP T j).1) 0 ((-1 : Int32), (-1 : Int32), (0 : Int32))).1) else (if (nI w) = (1 : Int32) then ((fo (F_m_merge_40 T i j w) ((tP T j).1) 0 ((-1 : Int32), (-1 : Int32), (0 : Int32))).2.1) else ((fo (F_m_merge_40 T i j w) ((tP T j).1) 0 ((-1 : Int32), (-1 : Int32), (0 : Int32))).2.2)))
theorem m_merge_some (hM : isM σ y g A) (hT : mT A 0 T) (hw : wT T) {u v : Int32} {i j : Nat} (hg : gd T u v i j) {w : Nat} (hw3 : w ≤ 2) : RetV Γ m_M_merge [(.ref y), .int u, .int v, (.int (nI w))] σ (.int (K_m_merge T i j w)) := by
  obtain ⟨m0, m1⟩ := id hM
  have hgd := hg
  obtain ⟨rfl, hi, rfl, hj, hgo⟩ := hg
  have hi3 : i < 3 := by have := hw.2.1; omega
  have hj3 : j < 3 := by have := hw.2.2.1; omega
  have hwS := hw.2.2.2.1 i hi
  have hwP := hw.2.2.2.2 j hj
  have hn16 := hwS.1
  have hn5 := hwS.2.1
  have h6 := hwP.1
  have hS := hT.s hi
  have hP := hT.p hj
  have hs : 610 + 120 * i + 120 ≤ 4500 := by omega
  unfold RetV
  generalize hQ : (fun (r : Option Value) (σ' : ex_S) => r = some ((.int (K_m_merge T i j w)) : Value) ∧ σ' = σ) = Q
  refine Ret.start pm_265 rfl ?_
  refine Ev.aload_n rfl rfl ?_
  refine Ev.iload_n rfl rfl ?_
  refine Ev.iload_n rfl rfl ?_
  refine Ev.cV2 rfl rfl m0 rfl rfl (by decide) ⟨(Nat.le_refl _), (Nat.le_refl _)⟩ (m_goes_yes hM hT hw hgd) ?_
  refine Ev.zeq (tgt := 18) rfl (by decide) (fun c6 => absurd c6 (by decide)) (fun c6 => ?_)
  refine Ev.iload_n rfl rfl ?_
  refine Ev.iconst (v := 0) rfl (by decide) ?_
  refine Ev.iconst (v := 2) rfl (by decide) ?_
  refine Ev.cS3 rfl rfl rfl (by decide) ⟨(Nat.le_refl _), (Nat.le_refl _)⟩ (m_in_y (K_in2 hw3)) ?_
  refine Ev.zne (tgt := 21) rfl (by decide) (fun c15 => ?_) (fun c15 => absurd c15 (by decide))
  refine Ev.iconst (v := 0) rfl (by decide) ?_
  refine Ev.iload_n rfl rfl ?_
  refine Ev.cS2 rfl rfl rfl (by decide) ⟨(Nat.le_refl _), (Nat.le_refl _)⟩ (m_pl0_ok i) ?_
  refine Ev.istore rfl rfl rfl ?_
  refine Ev.iconst (v := (-1)) rfl (by decide) ?_
  refine Ev.istore rfl rfl rfl ?_
  refine Ev.iconst (v := (-1)) rfl (by decide) ?_
  refine Ev.istore rfl rfl rfl ?_
  refine Ev.iconst (v := 0) rfl (by decide) ?_
  refine Ev.istore rfl rfl rfl ?_
  refine Ev.iconst (v := 0) rfl (by decide) ?_
  refine Ev.istore rfl rfl rfl ?_
  refine Ev.fg (L := [some (.ref y), none, some (.int (nI j)), some (.int (nI w)), some (.int (nI (610 + 120 * i))), some (.int (-1 : Int32)), some (.int (-1 : Int32)), some (.int (0 : Int32)), some (.int (nI 0)), none, none, none, none, none]) ?_ (gs rfl (gn (gs rfl (gs rfl (gs rfl (gs rfl (gs rfl (gs rfl (gs (congrArg Value.int (rfl : (0 : Int32) = nI 0).symm) (gn (gn (gn (gn (gn gz))))))))))))))
  refine lp (fun (k : Nat) (z : Int32 × Int32 × Int32) => Ev Γ 0 0 m_M_merge 0 0 40 [some (.ref y), none, some (.int (nI j)), some (.int (nI w)), some (.int (nI (610 + 120 * i))), some (.int z.1), some (.int z.2.1), some (.int z.2.2), some (.int (nI k)), none, none, none, none, none] [] σ Q) (F_m_merge_40 T i j w) ((tP T j).1) (fun k z hk hx => ?_) ((tP T j).1) 0 ((-1 : Int32), (-1 : Int32), (0 : Int32)) (by omega) ?_
  · skip
    refine Ev.iload rfl rfl ?_
    refine Ev.aload_n rfl rfl ?_
    refine Ev.iload_n rfl rfl ?_
    refine Ev.cV1 rfl rfl m0 rfl rfl (by decide) ⟨(Nat.le_refl _), (Nat.le_refl _)⟩ (m_classes_ok hM hP hj3 h6) ?_
    refine Ev.jge (tgt := 233) rfl (by decide) (fun c47 => absurd (nI_lt hk (by omega)) c47) (fun c47 => ?_)
    refine Ev.iload rfl rfl ?_
    refine Ev.iconst (v := 1) rfl (by decide) ?_
    refine Ev.iadd rfl ?_
    refine Ev.istore rfl rfl rfl ?_
    refine Ev.fg (L := [some (.ref y), none, some (.int (nI j)), some (.int (nI w)), some (.int (nI (610 + 120 * i))), some (.int z.1), some (.int z.2.1), some (.int z.2.2), some (.int (nI k)), some (.int (nI (k + 1))), none, none, none, none]) ?_ (gs rfl (gn (gs rfl (gs rfl (gs rfl (gs rfl (gs rfl (gs rfl (gs rfl (gs (congrArg Value.int (nq_add (a := k) (b := 1) rfl (rfl : (1 : Int32) = nI 1)).symm) (gn (gn (gn (gn gz))))))))))))))
    refine lp (fun (k' : Nat) (z' : Int32 × Int32 × Int32) => Ev Γ 0 0 m_M_merge 0 0 56 [some (.ref y), none, some (.int (nI j)), some (.int (nI w)), some (.int (nI (610 + 120 * i))), some (.int z'.1), some (.int z'.2.1), some (.int z'.2.2), some (.int (nI k)), some (.int (nI k')), none, none, none, none] [] σ Q) (F_m_merge_56 T i j w k z) ((tP T j).1) (fun k' z' hk' hx' => ?_) (((tP T j).1) - (k + 1)) (k + 1) (z.1, z.2.1, z.2.2) (by omega) ?_
    · skip
      refine Ev.iload rfl rfl ?_
      refine Ev.aload_n rfl rfl ?_
      refine Ev.iload_n rfl rfl ?_
      refine Ev.cV1 rfl rfl m0 rfl rfl (by decide) ⟨(Nat.le_refl _), (Nat.le_refl _)⟩ (m_classes_ok hM hP hj3 h6) ?_
      refine Ev.jge (tgt := 227) rfl (by decide) (fun c63 => absurd (nI_lt hk' (by omega)) c63) (fun c63 => ?_)
      refine Ev.aload_n rfl rfl ?_
      refine Ev.iload_n rfl rfl ?_
      refine Ev.iload rfl rfl ?_
      refine Ev.cV2 rfl rfl m0 rfl rfl (by decide) ⟨(Nat.le_refl _), (Nat.le_refl _)⟩ (m_classAt_ok hM k) ?_
      refine Ev.istore rfl rfl rfl ?_
      refine Ev.aload_n rfl rfl ?_
      refine Ev.iload_n rfl rfl ?_
      refine Ev.iload rfl rfl ?_
      refine Ev.cV2 rfl rfl m0 rfl rfl (by decide) ⟨(Nat.le_refl _), (Nat.le_refl _)⟩ (m_classAt_ok hM k') ?_
      refine Ev.istore rfl rfl rfl ?_
      refine Ev.aload_n rfl rfl ?_
      refine Ev.getf rfl rfl m0 rfl ?_
      refine Ev.iload rfl rfl ?_
      refine Ev.iconst (v := 5) rfl (by decide) ?_
      refine Ev.iadd rfl ?_
      refine Ev.ialdN (k := 970 + 40 * j + 1 + 6 * k + 5) rfl m1 (nq_to (a := 970 + 40 * j + 1 + 6 * k + 5) (nq_add (a := 970 + 40 * j + 1 + 6 * k) (b := 5) rfl (rfl : (5 : Int32) = nI 5)) (by omega)) ⟨(by omega), by decide⟩ ?_
      rw [show A (970 + 40 * j + 1 + 6 * k + 5) = _ from hP.2 k (by omega) 5 (by decide)]
      refine Ev.aload_n rfl rfl ?_
      refine Ev.getf rfl rfl m0 rfl ?_
      refine Ev.iload rfl rfl ?_
      refine Ev.iconst (v := 5) rfl (by decide) ?_
      refine Ev.iadd rfl ?_
      refine Ev.ialdN (k := 970 + 40 * j + 1 + 6 * k' + 5) rfl m1 (nq_to (a := 970 + 40 * j + 1 + 6 * k' + 5) (nq_add (a := 970 + 40 * j + 1 + 6 * k') (b := 5) rfl (rfl : (5 : Int32) = nI 5)) (by omega)) ⟨(by omega), by decide⟩ ?_
      rw [show A (970 + 40 * j + 1 + 6 * k' + 5) = _ from hP.2 k' (by omega) 5 (by decide)]
      refine Ev.ior rfl ?_
      refine Ev.istore rfl rfl rfl ?_
      refine Ev.aload_n rfl rfl ?_
      refine Ev.getf rfl rfl m0 rfl ?_
      refine Ev.iload rfl rfl ?_
      refine Ev.iconst (v := 2) rfl (by decide) ?_
      refine Ev.iadd rfl ?_
      refine Ev.ialdN (k := 970 + 40 * j + 1 + 6 * k + 2) rfl m1 (nq_to (a := 970 + 40 * j + 1 + 6 * k + 2) (nq_add (a := 970 + 40 * j + 1 + 6 * k) (b := 2) rfl (rfl : (2 : Int32) = nI 2)) (by omega)) ⟨(by omega), by decide⟩ ?_
      rw [show A (970 + 40 * j + 1 + 6 * k + 2) = _ from hP.2 k (by omega) 2 (by decide)]
      refine Ev.aload_n rfl rfl ?_
      refine Ev.getf rfl rfl m0 rfl ?_
      refine Ev.iload rfl rfl ?_
      refine Ev.iconst (v := 2) rfl (by decide) ?_
      refine Ev.iadd rfl ?_
      refine Ev.ialdN (k := 970 + 40 * j + 1 + 6 * k' + 2) rfl m1 (nq_to (a := 970 + 40 * j + 1 + 6 * k' + 2) (nq_add (a := 970 + 40 * j + 1 + 6 * k') (b := 2) rfl (rfl : (2 : Int32) = nI 2)) (by omega)) ⟨(by omega), by decide⟩ ?_
      rw [show A (970 + 40 * j + 1 + 6 * k' + 2) = _ from hP.2 k' (by omega) 2 (by decide)]
      refine Ev.jne (tgt := 221) rfl (by decide) (fun c123 => ?_) (fun c123 => ?_)
      · skip
        refine Ev.iinc (d := 1) rfl rfl rfl (by decide) rfl ?_
        refine Ev.goto (tgt := 56) rfl (by decide) ?_
        have hF : (F_m_merge_56 T i j w k z) k' z' = (z'.1, z'.2.1, z'.2.2) := by
          unfold F_m_merge_56
          rw [if_neg c123]
        rw [hF] at hx'
        exact hx'.fg (gs rfl (gn (gs rfl (gs rfl (gs rfl (gs rfl (gs rfl (gs rfl (gs rfl (gs (congrArg Value.int (show nI (k' + 1) = (nI k') + (1 : Int32) from (nq_to (a := k' + 1) (nq_add (a := k') (b := 1) rfl (rfl : (1 : Int32) = nI 1)) (by omega)).symm)) (gn (gn (gn (gn gz))))))))))))))
      · skip
        refine Ev.iload rfl rfl ?_
        refine Ev.cS1 rfl rfl rfl (by decide) ⟨(Nat.le_refl _), (Nat.le_refl _)⟩ (m_many_W (S := (tS T i)) hn16 (inS_or hn16 (hgo k (by omega)).2 (hgo k' (by omega)).2)) ?_
        refine Ev.aload_n rfl rfl ?_
        refine Ev.getf rfl rfl m0 rfl ?_
        refine Ev.iload rfl rfl ?_
        refine Ev.iconst (v := 5) rfl (by decide) ?_
        refine Ev.iadd rfl ?_
        refine Ev.ialdN (k := 610 + 120 * i + 5) rfl m1 (nq_to (a := 610 + 120 * i + 5) (nq_add (a := 610 + 120 * i) (b := 5) rfl (rfl : (5 : Int32) = nI 5)) (by omega)) ⟨(by omega), by decide⟩ ?_
        rw [show A (610 + 120 * i + 5) = _ from hS.2.2.1 3 (by decide)]
        refine Ev.jle (tgt := 146) rfl (by decide) (fun c140 => ?_) (fun c140 => ?_)
        · skip
          refine Ev.aload_n rfl rfl ?_
          refine Ev.iload rfl rfl ?_
          refine Ev.iload rfl rfl ?_
          refine Ev.iload rfl rfl ?_
          refine Ev.cV3 rfl rfl m0 rfl rfl (by decide) ⟨(Nat.le_refl _), (Nat.le_refl _)⟩ (m_tog_W hM hS hs hwS (hP.2 k (by omega)) (by omega) (hwP.2 k (by omega)) (hgo k (by omega)).1 (inS_or hn16 (hgo k (by omega)).2 (hgo k' (by omega)).2)) ?_
          refine Ev.aload_n rfl rfl ?_
          refine Ev.iload rfl rfl ?_
          refine Ev.iload rfl rfl ?_
          refine Ev.aload_n rfl rfl ?_
          refine Ev.getf rfl rfl m0 rfl ?_
          refine Ev.iload rfl rfl ?_
          refine Ev.iconst (v := 5) rfl (by decide) ?_
          refine Ev.iadd rfl ?_
          refine Ev.ialdN (k := 970 + 40 * j + 1 + 6 * k + 5) rfl m1 (nq_to (a := 970 + 40 * j + 1 + 6 * k + 5) (nq_add (a := 970 + 40 * j + 1 + 6 * k) (b := 5) rfl (rfl : (5 : Int32) = nI 5)) (by omega)) ⟨(by omega), by decide⟩ ?_
          rw [show A (970 + 40 * j + 1 + 6 * k + 5) = _ from hP.2 k (by omega) 5 (by decide)]
          refine Ev.cV3 rfl rfl m0 rfl rfl (by decide) ⟨(Nat.le_refl _), (Nat.le_refl _)⟩ (m_tog_W hM hS hs hwS (hP.2 k (by omega)) (by omega) (hwP.2 k (by omega)) (hgo k (by omega)).1 (hgo k (by omega)).2) ?_
          refine Ev.isub rfl ?_
          refine Ev.aload_n rfl rfl ?_
          refine Ev.iload rfl rfl ?_
          refine Ev.iload rfl rfl ?_
          refine Ev.aload_n rfl rfl ?_
          refine Ev.getf rfl rfl m0 rfl ?_
          refine Ev.iload rfl rfl ?_
          refine Ev.iconst (v := 5) rfl (by decide) ?_
          refine Ev.iadd rfl ?_
          refine Ev.ialdN (k := 970 + 40 * j + 1 + 6 * k' + 5) rfl m1 (nq_to (a := 970 + 40 * j + 1 + 6 * k' + 5) (nq_add (a := 970 + 40 * j + 1 + 6 * k') (b := 5) rfl (rfl : (5 : Int32) = nI 5)) (by omega)) ⟨(by omega), by decide⟩ ?_
          rw [show A (970 + 40 * j + 1 + 6 * k' + 5) = _ from hP.2 k' (by omega) 5 (by decide)]
          refine Ev.cV3 rfl rfl m0 rfl rfl (by decide) ⟨(Nat.le_refl _), (Nat.le_refl _)⟩ (m_tog_W hM hS hs hwS (hP.2 k' (by omega)) (by omega) (hwP.2 k' (by omega)) (hgo k' (by omega)).1 (hgo k' (by omega)).2) ?_
          refine Ev.isub rfl ?_
          refine Ev.istore rfl rfl rfl ?_
          refine Ev.iload rfl rfl ?_
          refine Ev.zlt (tgt := 209) rfl (by decide) (fun c196 => ?_) (fun c196 => ?_)
          · skip
            refine Ev.iload rfl rfl ?_
            refine Ev.istore rfl rfl rfl ?_
            refine Ev.iload rfl rfl ?_
            refine Ev.istore rfl rfl rfl ?_
            refine Ev.iload rfl rfl ?_
            refine Ev.istore rfl rfl rfl ?_
            refine Ev.iinc (d := 1) rfl rfl rfl (by decide) rfl ?_
            refine Ev.goto (tgt := 56) rfl (by decide) ?_
            have hF : (F_m_merge_56 T i j w k z) k' z' = (nI k, nI k', ((K_tog (tS T i) ((tP T j).2 k) (((tP T j).2 k 5) ||| ((tP T j).2 k' 5))) - (K_tog (tS T i) ((tP T j).2 k) ((tP T j).2 k 5))) - (K_tog (tS T i) ((tP T j).2 k') ((tP T j).2 k' 5))) := by
              unfold F_m_merge_56
              rw [if_pos c123]
              rw [if_neg c140]
              rw [if_pos c196]
            rw [hF] at hx'
            exact hx'.fg (gs rfl (gn (gs rfl (gs rfl (gs rfl (gs rfl (gs rfl (gs rfl (gs rfl (gs (congrArg Value.int (show nI (k' + 1) = (nI k') + (1 : Int32) from (nq_to (a := k' + 1) (nq_add (a := k') (b := 1) rfl (rfl : (1 : Int32) = nI 1)) (by omega)).symm)) (gn (gn (gn (gn gz))))))))))))))
          · skip
            refine Ev.iload rfl rfl ?_
            refine Ev.iload rfl rfl ?_
            refine Ev.jgt (tgt := 209) rfl (by decide) (fun c203 => ?_) (fun c203 => ?_)
            · skip
              refine Ev.iload rfl rfl ?_
              refine Ev.istore rfl rfl rfl ?_
              refine Ev.iload rfl rfl ?_
              refine Ev.istore rfl rfl rfl ?_
              refine Ev.iload rfl rfl ?_
              refine Ev.istore rfl rfl rfl ?_
              refine Ev.iinc (d := 1) rfl rfl rfl (by decide) rfl ?_
              refine Ev.goto (tgt := 56) rfl (by decide) ?_
              have hF : (F_m_merge_56 T i j w k z) k' z' = (nI k, nI k', ((K_tog (tS T i) ((tP T j).2 k) (((tP T j).2 k 5) ||| ((tP T j).2 k' 5))) - (K_tog (tS T i) ((tP T j).2 k) ((tP T j).2 k 5))) - (K_tog (tS T i) ((tP T j).2 k') ((tP T j).2 k' 5))) := by
                unfold F_m_merge_56
                rw [if_pos c123]
                rw [if_neg c140]
                rw [if_neg c196]
                rw [if_pos c203]
              rw [hF] at hx'
              exact hx'.fg (gs rfl (gn (gs rfl (gs rfl (gs rfl (gs rfl (gs rfl (gs rfl (gs rfl (gs (congrArg Value.int (show nI (k' + 1) = (nI k') + (1 : Int32) from (nq_to (a := k' + 1) (nq_add (a := k') (b := 1) rfl (rfl : (1 : Int32) = nI 1)) (by omega)).symm)) (gn (gn (gn (gn gz))))))))))))))
            · skip
              refine Ev.goto (tgt := 221) rfl (by decide) ?_
              refine Ev.iinc (d := 1) rfl rfl rfl (by decide) rfl ?_
              refine Ev.goto (tgt := 56) rfl (by decide) ?_
              have hF : (F_m_merge_56 T i j w k z) k' z' = (z'.1, z'.2.1, z'.2.2) := by
                unfold F_m_merge_56
                rw [if_pos c123]
                rw [if_neg c140]
                rw [if_neg c196]
                rw [if_neg c203]
              rw [hF] at hx'
              exact hx'.fg (gs rfl (gn (gs rfl (gs rfl (gs rfl (gs rfl (gs rfl (gs rfl (gs rfl (gs (congrArg Value.int (show nI (k' + 1) = (nI k') + (1 : Int32) from (nq_to (a := k' + 1) (nq_add (a := k') (b := 1) rfl (rfl : (1 : Int32) = nI 1)) (by omega)).symm)) (gn (gn (gn (gn gz))))))))))))))
        · skip
          refine Ev.goto (tgt := 221) rfl (by decide) ?_
          refine Ev.iinc (d := 1) rfl rfl rfl (by decide) rfl ?_
          refine Ev.goto (tgt := 56) rfl (by decide) ?_
          have hF : (F_m_merge_56 T i j w k z) k' z' = (z'.1, z'.2.1, z'.2.2) := by
            unfold F_m_merge_56
            rw [if_pos c123]
            rw [if_pos c140]
          rw [hF] at hx'
          exact hx'.fg (gs rfl (gn (gs rfl (gs rfl (gs rfl (gs rfl (gs rfl (gs rfl (gs rfl (gs (congrArg Value.int (show nI (k' + 1) = (nI k') + (1 : Int32) from (nq_to (a := k' + 1) (nq_add (a := k') (b := 1) rfl (rfl : (1 : Int32) = nI 1)) (by omega)).symm)) (gn (gn (gn (gn gz))))))))))))))
    · skip
      refine Ev.iload rfl rfl ?_
      refine Ev.aload_n rfl rfl ?_
      refine Ev.iload_n rfl rfl ?_
      refine Ev.cV1 rfl rfl m0 rfl rfl (by decide) ⟨(Nat.le_refl _), (Nat.le_refl _)⟩ (m_classes_ok hM hP hj3 h6) ?_
      refine Ev.jge (tgt := 227) rfl (by decide) (fun c63 => ?_) (fun c63 => absurd c63 (nI_nlt (Nat.le_refl _) (by omega)))
      refine Ev.iinc (d := 1) rfl rfl rfl (by decide) rfl ?_
      refine Ev.goto (tgt := 40) rfl (by decide) ?_
      have hF : (F_m_merge_40 T i j w) k z = ((fo (F_m_merge_56 T i j w k z) (((tP T j).1) - (k + 1)) (k + 1) (z.1, z.2.1, z.2.2)).1, (fo (F_m_merge_56 T i j w k z) (((tP T j).1) - (k + 1)) (k + 1) (z.1, z.2.1, z.2.2)).2.1, (fo (F_m_merge_56 T i j w k z) (((tP T j).1) - (k + 1)) (k + 1) (z.1, z.2.1, z.2.2)).2.2) := by rfl
      rw [hF] at hx
      exact hx.fg (gs rfl (gn (gs rfl (gs rfl (gs rfl (gs rfl (gs rfl (gs rfl (gs (congrArg Value.int (show nI (k + 1) = (nI k) + (1 : Int32) from (nq_to (a := k + 1) (nq_add (a := k) (b := 1) rfl (rfl : (1 : Int32) = nI 1)) (by omega)).symm)) (gn (gn (gn (gn (gn gz))))))))))))))
  · skip
    refine Ev.iload rfl rfl ?_
    refine Ev.aload_n rfl rfl ?_
    refine Ev.iload_n rfl rfl ?_
    refine Ev.cV1 rfl rfl m0 rfl rfl (by decide) ⟨(Nat.le_refl _), (Nat.le_refl _)⟩ (m_classes_ok hM hP hj3 h6) ?_
    refine Ev.jge (tgt := 233) rfl (by decide) (fun c47 => ?_) (fun c47 => absurd c47 (nI_nlt (Nat.le_refl _) (by omega)))
    refine Ev.iload rfl rfl ?_
    refine Ev.zge (tgt := 243) rfl (by decide) (fun c235 => ?_) (fun c235 => ?_)
    · skip
      refine Ev.iload_n rfl rfl ?_
      refine Ev.zne (tgt := 252) rfl (by decide) (fun c244 => ?_) (fun c244 => ?_)
      · skip
        refine Ev.iload_n rfl rfl ?_
        refine Ev.iconst (v := 1) rfl (by decide) ?_
        refine Ev.jne (tgt := 262) rfl (by decide) (fun c254 => ?_) (fun c254 => ?_)
        · skip
          refine Ev.iload rfl rfl ?_
          refine Ev.iret (ty := .int) rfl rfl rfl (Nat.le_refl _) (Nat.le_refl _) ?_
          rw [← hQ]
          refine ⟨congrArg (fun v => some (Value.int v)) (Eq.symm ?_), rfl⟩
          unfold K_m_merge
          rw [if_neg c235]
          rw [if_neg c244]
          rw [if_neg c254]
        · skip
          refine Ev.iload rfl rfl ?_
          refine Ev.goto (tgt := 264) rfl (by decide) ?_
          refine Ev.iret (ty := .int) rfl rfl rfl (Nat.le_refl _) (Nat.le_refl _) ?_
          rw [← hQ]
          refine ⟨congrArg (fun v => some (Value.int v)) (Eq.symm ?_), rfl⟩
          unfold K_m_merge
          rw [if_neg c235]
          rw [if_neg c244]
          rw [if_pos c254]
      · skip
        refine Ev.iload rfl rfl ?_
        refine Ev.goto (tgt := 264) rfl (by decide) ?_
        refine Ev.iret (ty := .int) rfl rfl rfl (Nat.le_refl _) (Nat.le_refl _) ?_
        rw [← hQ]
        refine ⟨congrArg (fun v => some (Value.int v)) (Eq.symm ?_), rfl⟩
        unfold K_m_merge
        rw [if_neg c235]
        rw [if_pos c244]
    · skip
      refine Ev.ldc (v := (-1000000)) rfl rfl ?_
      refine Ev.goto (tgt := 264) rfl (by decide) ?_
      refine Ev.iret (ty := .int) rfl rfl rfl (Nat.le_refl _) (Nat.le_refl _) ?_
      rw [← hQ]
      refine ⟨congrArg (fun v => some (Value.int v)) (Eq.symm ?_), rfl⟩
      unfold K_m_merge
      rw [if_pos c235]
def F_m_toll_23 (T : Tol) (i j : Nat) : Nat → Int32 → Int32 := fun k z => z + (K_bc ((tP T j).2 k 5))
def F_m_toll_57 (T : Tol) (i j : Nat) : Nat → Unit → (Unit) ⊕ Nat := fun k z => if ((((tS T i).2.2 9 6) * (fo (F_m_toll_23 T i j) ((tP T j).1) 0 (0 : Int32))) - ((nI k) * (nI ((tP T j).1)))) < (0 : Int32) then (.inr k) else (.inl ())
def K_m_toll (T : Tol) (i j : Nat) : Int32 := Sum.elim (fun (zx : Unit) => nI 1000) (fun (rx : Nat) => nI rx) (fe (F_m_toll_57 T i j) (1000) 0 ())
theorem m_toll_some (hM : isM σ y g A) (hT : mT A 0 T) (hw : wT T) {u v : Int32} {i j : Nat} (hg : gd T u v i j)  : RetV Γ m_M_toll [(.ref y), .int u, .int v] σ (.int (K_m_toll T i j)) := by
  obtain ⟨m0, m1⟩ := id hM
  have hgd := hg
  obtain ⟨rfl, hi, rfl, hj, hgo⟩ := hg
  have hi3 : i < 3 := by have := hw.2.1; omega
  have hj3 : j < 3 := by have := hw.2.2.1; omega
  have hwS := hw.2.2.2.1 i hi
  have hwP := hw.2.2.2.2 j hj
  have hn16 := hwS.1
  have hn5 := hwS.2.1
  have h6 := hwP.1
  have hS := hT.s hi
  have hP := hT.p hj
  have hs : 610 + 120 * i + 120 ≤ 4500 := by omega
  unfold RetV
  generalize hQ : (fun (r : Option Value) (σ' : ex_S) => r = some ((.int (K_m_toll T i j)) : Value) ∧ σ' = σ) = Q
  refine Ret.start pm_271 rfl ?_
  refine Ev.aload_n rfl rfl ?_
  refine Ev.iload_n rfl rfl ?_
  refine Ev.iload_n rfl rfl ?_
  refine Ev.cV2 rfl rfl m0 rfl rfl (by decide) ⟨(Nat.le_refl _), (Nat.le_refl _)⟩ (m_goes_yes hM hT hw hgd) ?_
  refine Ev.zne (tgt := 11) rfl (by decide) (fun c6 => ?_) (fun c6 => absurd c6 (by decide))
  refine Ev.iconst (v := 0) rfl (by decide) ?_
  refine Ev.iload_n rfl rfl ?_
  refine Ev.cS2 rfl rfl rfl (by decide) ⟨(Nat.le_refl _), (Nat.le_refl _)⟩ (m_pl0_ok i) ?_
  refine Ev.istore_n rfl rfl rfl ?_
  refine Ev.iconst (v := 0) rfl (by decide) ?_
  refine Ev.istore rfl rfl rfl ?_
  refine Ev.iconst (v := 0) rfl (by decide) ?_
  refine Ev.istore rfl rfl rfl ?_
  refine Ev.fg (L := [some (.ref y), none, some (.int (nI j)), some (.int (nI (610 + 120 * i))), some (.int (0 : Int32)), some (.int (nI 0))]) ?_ (gs rfl (gn (gs rfl (gs rfl (gs rfl (gs (congrArg Value.int (rfl : (0 : Int32) = nI 0).symm) gz))))))
  refine lp (fun (k : Nat) (z : Int32) => Ev Γ 0 0 m_M_toll 0 0 23 [some (.ref y), none, some (.int (nI j)), some (.int (nI (610 + 120 * i))), some (.int z), some (.int (nI k))] [] σ Q) (F_m_toll_23 T i j) ((tP T j).1) (fun k z hk hx => ?_) ((tP T j).1) 0 (0 : Int32) (by omega) ?_
  · skip
    refine Ev.iload rfl rfl ?_
    refine Ev.aload_n rfl rfl ?_
    refine Ev.iload_n rfl rfl ?_
    refine Ev.cV1 rfl rfl m0 rfl rfl (by decide) ⟨(Nat.le_refl _), (Nat.le_refl _)⟩ (m_classes_ok hM hP hj3 h6) ?_
    refine Ev.jge (tgt := 54) rfl (by decide) (fun c30 => absurd (nI_lt hk (by omega)) c30) (fun c30 => ?_)
    refine Ev.iload rfl rfl ?_
    refine Ev.aload_n rfl rfl ?_
    refine Ev.iload_n rfl rfl ?_
    refine Ev.iload rfl rfl ?_
    refine Ev.cV2 rfl rfl m0 rfl rfl (by decide) ⟨(Nat.le_refl _), (Nat.le_refl _)⟩ (m_sitsIn_ok hM hP hj3 h6 k (by omega)) ?_
    refine Ev.cS1 rfl rfl rfl (by decide) ⟨(Nat.le_refl _), (Nat.le_refl _)⟩ (m_many_W (S := (tS T i)) hn16 (hgo k (by omega)).2) ?_
    refine Ev.iadd rfl ?_
    refine Ev.istore rfl rfl rfl ?_
    refine Ev.iinc (d := 1) rfl rfl rfl (by decide) rfl ?_
    refine Ev.goto (tgt := 23) rfl (by decide) ?_
    have hF : (F_m_toll_23 T i j) k z = z + (K_bc ((tP T j).2 k 5)) := by rfl
    rw [hF] at hx
    exact hx.fg (gs rfl (gn (gs rfl (gs rfl (gs rfl (gs (congrArg Value.int (show nI (k + 1) = (nI k) + (1 : Int32) from (nq_to (a := k + 1) (nq_add (a := k) (b := 1) rfl (rfl : (1 : Int32) = nI 1)) (by omega)).symm)) gz))))))
  · skip
    refine Ev.iload rfl rfl ?_
    refine Ev.aload_n rfl rfl ?_
    refine Ev.iload_n rfl rfl ?_
    refine Ev.cV1 rfl rfl m0 rfl rfl (by decide) ⟨(Nat.le_refl _), (Nat.le_refl _)⟩ (m_classes_ok hM hP hj3 h6) ?_
    refine Ev.jge (tgt := 54) rfl (by decide) (fun c30 => ?_) (fun c30 => absurd c30 (nI_nlt (Nat.le_refl _) (by omega)))
    refine Ev.iconst (v := 0) rfl (by decide) ?_
    refine Ev.istore rfl rfl rfl ?_
    refine Ev.fg (L := [some (.ref y), none, some (.int (nI j)), some (.int (nI (610 + 120 * i))), some (.int (fo (F_m_toll_23 T i j) ((tP T j).1) 0 (0 : Int32))), some (.int (nI 0))]) ?_ (gs rfl (gn (gs rfl (gs rfl (gs rfl (gs (congrArg Value.int (rfl : (0 : Int32) = nI 0).symm) gz))))))
    refine lpe (fun (k : Nat) (z : Unit) => Ev Γ 0 0 m_M_toll 0 0 57 [some (.ref y), none, some (.int (nI j)), some (.int (nI (610 + 120 * i))), some (.int (fo (F_m_toll_23 T i j) ((tP T j).1) 0 (0 : Int32))), some (.int (nI k))] [] σ Q) (fun (r : Nat) => Ev Γ 0 0 m_M_toll 0 0 95 [none, none, none, none, none, some (.int (nI r))] [] σ Q) (F_m_toll_57 T i j) (1000) (fun k z hk hx he => ?_) (1000) 0 () (by omega) (fun zx hzx => ?_) (fun rx hrx => ?_)
    · skip
      refine Ev.iload rfl rfl ?_
      refine Ev.sipush (v := 1000) rfl (by decide) ?_
      refine Ev.jge (tgt := 95) rfl (by decide) (fun c62 => absurd (nI_lt hk (by omega)) c62) (fun c62 => ?_)
      refine Ev.aload_n rfl rfl ?_
      refine Ev.getf rfl rfl m0 rfl ?_
      refine Ev.iload_n rfl rfl ?_
      refine Ev.bipush (v := 8) rfl (by decide) ?_
      refine Ev.iadd rfl ?_
      refine Ev.ialdN (k := 610 + 120 * i + 8) rfl m1 (nq_to (a := 610 + 120 * i + 8) (nq_add (a := 610 + 120 * i) (b := 8) rfl (rfl : (8 : Int32) = nI 8)) (by omega)) ⟨(by omega), by decide⟩ ?_
      rw [show A (610 + 120 * i + 8) = _ from hS.2.2.1 6 (by decide)]
      refine Ev.iload rfl rfl ?_
      refine Ev.imul rfl ?_
      refine Ev.iload rfl rfl ?_
      refine Ev.aload_n rfl rfl ?_
      refine Ev.iload_n rfl rfl ?_
      refine Ev.cV1 rfl rfl m0 rfl rfl (by decide) ⟨(Nat.le_refl _), (Nat.le_refl _)⟩ (m_classes_ok hM hP hj3 h6) ?_
      refine Ev.imul rfl ?_
      refine Ev.isub rfl ?_
      refine Ev.zlt (tgt := 95) rfl (by decide) (fun c86 => ?_) (fun c86 => ?_)
      · skip
        have hF : (F_m_toll_57 T i j) k z = .inr k := by
          unfold F_m_toll_57
          rw [if_pos c86]
        exact (he _ hF).fg (gn (gn (gn (gn (gn (gs rfl gz))))))
      · skip
        refine Ev.iinc (d := 1) rfl rfl rfl (by decide) rfl ?_
        refine Ev.goto (tgt := 57) rfl (by decide) ?_
        have hF : (F_m_toll_57 T i j) k z = .inl () := by
          unfold F_m_toll_57
          rw [if_neg c86]
        exact (hx _ hF).fg (gs rfl (gn (gs rfl (gs rfl (gs rfl (gs (congrArg Value.int (show nI (k + 1) = (nI k) + (1 : Int32) from (nq_to (a := k + 1) (nq_add (a := k) (b := 1) rfl (rfl : (1 : Int32) = nI 1)) (by omega)).symm)) gz))))))
    · skip
      refine Ev.iload rfl rfl ?_
      refine Ev.sipush (v := 1000) rfl (by decide) ?_
      refine Ev.jge (tgt := 95) rfl (by decide) (fun c62 => ?_) (fun c62 => absurd c62 (nI_nlt (Nat.le_refl _) (by omega)))
      refine Ev.iload rfl rfl ?_
      refine Ev.iret (ty := .int) rfl rfl rfl (Nat.le_refl _) (Nat.le_refl _) ?_
      rw [← hQ]
      refine ⟨congrArg (fun v => some (Value.int v)) (Eq.symm ?_), rfl⟩
      unfold K_m_toll
      rw [hzx, Sum.elim_inl]
    · skip
      refine Ev.iload rfl rfl ?_
      refine Ev.iret (ty := .int) rfl rfl rfl (Nat.le_refl _) (Nat.le_refl _) ?_
      rw [← hQ]
      refine ⟨congrArg (fun v => some (Value.int v)) (Eq.symm ?_), rfl⟩
      unfold K_m_toll
      rw [hrx, Sum.elim_inr]
def F_m_spread_29 (T : Tol) (i j : Nat) (k0 : Nat) : Nat → (Int32 × Int32) → (Int32 × Int32) := fun k z => if ((((tP T j).2 k0 5) >>> ((nI k) &&& 31)) &&& (1 : Int32)) = (0 : Int32) then (z.1, z.2) else (if ((tS T i).2.2 0 k) < z.1 then (if z.2 < ((tS T i).2.2 0 k) then ((tS T i).2.2 0 k, (tS T i).2.2 0 k) else ((tS T i).2.2 0 k, z.2)) else (if z.2 < ((tS T i).2.2 0 k) then (z.1, (tS T i).2.2 0 k) else (z.1, z.2)))
def K_m_spread (T : Tol) (i j : Nat) (k0 : Nat) : Int32 := if ((fo (F_m_spread_29 T i j k0) ((tS T i).1) 0 ((99 : Int32), (-1 : Int32))).2) < (0 : Int32) then (-1 : Int32) else (((fo (F_m_spread_29 T i j k0) ((tS T i).1) 0 ((99 : Int32), (-1 : Int32))).2) - ((fo (F_m_spread_29 T i j k0) ((tS T i).1) 0 ((99 : Int32), (-1 : Int32))).1))
theorem m_spread_some (hM : isM σ y g A) (hT : mT A 0 T) (hw : wT T) {u v : Int32} {i j : Nat} (hg : gd T u v i j) {k0 : Nat} (hkk : k0 < (tP T j).1) : RetV Γ m_M_spread [(.ref y), .int u, .int v, (.int (nI k0))] σ (.int (K_m_spread T i j k0)) := by
  obtain ⟨m0, m1⟩ := id hM
  have hgd := hg
  obtain ⟨rfl, hi, rfl, hj, hgo⟩ := hg
  have hi3 : i < 3 := by have := hw.2.1; omega
  have hj3 : j < 3 := by have := hw.2.2.1; omega
  have hwS := hw.2.2.2.1 i hi
  have hwP := hw.2.2.2.2 j hj
  have hn16 := hwS.1
  have hn5 := hwS.2.1
  have h6 := hwP.1
  have hS := hT.s hi
  have hP := hT.p hj
  have hs : 610 + 120 * i + 120 ≤ 4500 := by omega
  unfold RetV
  generalize hQ : (fun (r : Option Value) (σ' : ex_S) => r = some ((.int (K_m_spread T i j k0)) : Value) ∧ σ' = σ) = Q
  refine Ret.start pm_270 rfl ?_
  refine Ev.aload_n rfl rfl ?_
  refine Ev.iload_n rfl rfl ?_
  refine Ev.iload_n rfl rfl ?_
  refine Ev.iload_n rfl rfl ?_
  refine Ev.cV3 rfl rfl m0 rfl rfl (by decide) ⟨(Nat.le_refl _), (Nat.le_refl _)⟩ (m_isGoing_yes hM hT hw hgd hkk) ?_
  refine Ev.zne (tgt := 12) rfl (by decide) (fun c7 => ?_) (fun c7 => absurd c7 (by decide))
  refine Ev.iconst (v := 0) rfl (by decide) ?_
  refine Ev.iload_n rfl rfl ?_
  refine Ev.cS2 rfl rfl rfl (by decide) ⟨(Nat.le_refl _), (Nat.le_refl _)⟩ (m_pl0_ok i) ?_
  refine Ev.istore rfl rfl rfl ?_
  refine Ev.bipush (v := 99) rfl (by decide) ?_
  refine Ev.istore rfl rfl rfl ?_
  refine Ev.iconst (v := (-1)) rfl (by decide) ?_
  refine Ev.istore rfl rfl rfl ?_
  refine Ev.iconst (v := 0) rfl (by decide) ?_
  refine Ev.istore rfl rfl rfl ?_
  refine Ev.fg (L := [some (.ref y), none, some (.int (nI j)), some (.int (nI k0)), some (.int (nI (610 + 120 * i))), some (.int (99 : Int32)), some (.int (-1 : Int32)), some (.int (nI 0))]) ?_ (gs rfl (gn (gs rfl (gs rfl (gs rfl (gs rfl (gs rfl (gs (congrArg Value.int (rfl : (0 : Int32) = nI 0).symm) gz))))))))
  refine lp (fun (k : Nat) (z : Int32 × Int32) => Ev Γ 0 0 m_M_spread 0 0 29 [some (.ref y), none, some (.int (nI j)), some (.int (nI k0)), some (.int (nI (610 + 120 * i))), some (.int z.1), some (.int z.2), some (.int (nI k))] [] σ Q) (F_m_spread_29 T i j k0) ((tS T i).1) (fun k z hk hx => ?_) ((tS T i).1) 0 ((99 : Int32), (-1 : Int32)) (by omega) ?_
  · skip
    refine Ev.iload rfl rfl ?_
    refine Ev.aload_n rfl rfl ?_
    refine Ev.getf rfl rfl m0 rfl ?_
    refine Ev.iload rfl rfl ?_
    refine Ev.ialdN (k := 610 + 120 * i) rfl m1 (nq_to (a := 610 + 120 * i) rfl (by omega)) ⟨(by omega), by decide⟩ ?_
    rw [hS.1]
    refine Ev.jge (tgt := 120) rfl (by decide) (fun c38 => absurd (nI_lt hk (by omega)) c38) (fun c38 => ?_)
    refine Ev.aload_n rfl rfl ?_
    refine Ev.iload_n rfl rfl ?_
    refine Ev.iload_n rfl rfl ?_
    refine Ev.cV2 rfl rfl m0 rfl rfl (by decide) ⟨(Nat.le_refl _), (Nat.le_refl _)⟩ (m_sitsIn_ok hM hP hj3 h6 k0 (by omega)) ?_
    refine Ev.iload rfl rfl ?_
    refine Ev.ishr rfl ?_
    refine Ev.iconst (v := 1) rfl (by decide) ?_
    refine Ev.iand rfl ?_
    refine Ev.zne (tgt := 58) rfl (by decide) (fun c52 => ?_) (fun c52 => ?_)
    · skip
      refine Ev.aload_n rfl rfl ?_
      refine Ev.iload rfl rfl ?_
      refine Ev.iload rfl rfl ?_
      refine Ev.cV2 rfl rfl m0 rfl rfl (by decide) ⟨(Nat.le_refl _), (Nat.le_refl _)⟩ (m_step_ok hM hS hs hwS k (by omega)) ?_
      refine Ev.iload rfl rfl ?_
      refine Ev.jge (tgt := 82) rfl (by decide) (fun c68 => ?_) (fun c68 => ?_)
      · skip
        refine Ev.iload rfl rfl ?_
        refine Ev.istore rfl rfl rfl ?_
        refine Ev.aload_n rfl rfl ?_
        refine Ev.iload rfl rfl ?_
        refine Ev.iload rfl rfl ?_
        refine Ev.cV2 rfl rfl m0 rfl rfl (by decide) ⟨(Nat.le_refl _), (Nat.le_refl _)⟩ (m_step_ok hM hS hs hwS k (by omega)) ?_
        refine Ev.iload rfl rfl ?_
        refine Ev.jle (tgt := 110) rfl (by decide) (fun c96 => ?_) (fun c96 => ?_)
        · skip
          refine Ev.iload rfl rfl ?_
          refine Ev.istore rfl rfl rfl ?_
          refine Ev.iinc (d := 1) rfl rfl rfl (by decide) rfl ?_
          refine Ev.goto (tgt := 29) rfl (by decide) ?_
          have hF : (F_m_spread_29 T i j k0) k z = (z.1, z.2) := by
            unfold F_m_spread_29
            rw [if_neg c52]
            rw [if_neg c68]
            rw [if_neg c96]
          rw [hF] at hx
          exact hx.fg (gs rfl (gn (gs rfl (gs rfl (gs rfl (gs rfl (gs rfl (gs (congrArg Value.int (show nI (k + 1) = (nI k) + (1 : Int32) from (nq_to (a := k + 1) (nq_add (a := k) (b := 1) rfl (rfl : (1 : Int32) = nI 1)) (by omega)).symm)) gz))))))))
        · skip
          refine Ev.aload_n rfl rfl ?_
          refine Ev.iload rfl rfl ?_
          refine Ev.iload rfl rfl ?_
          refine Ev.cV2 rfl rfl m0 rfl rfl (by decide) ⟨(Nat.le_refl _), (Nat.le_refl _)⟩ (m_step_ok hM hS hs hwS k (by omega)) ?_
          refine Ev.goto (tgt := 112) rfl (by decide) ?_
          refine Ev.istore rfl rfl rfl ?_
          refine Ev.iinc (d := 1) rfl rfl rfl (by decide) rfl ?_
          refine Ev.goto (tgt := 29) rfl (by decide) ?_
          have hF : (F_m_spread_29 T i j k0) k z = (z.1, (tS T i).2.2 0 k) := by
            unfold F_m_spread_29
            rw [if_neg c52]
            rw [if_neg c68]
            rw [if_pos c96]
          rw [hF] at hx
          exact hx.fg (gs rfl (gn (gs rfl (gs rfl (gs rfl (gs rfl (gs rfl (gs (congrArg Value.int (show nI (k + 1) = (nI k) + (1 : Int32) from (nq_to (a := k + 1) (nq_add (a := k) (b := 1) rfl (rfl : (1 : Int32) = nI 1)) (by omega)).symm)) gz))))))))
      · skip
        refine Ev.aload_n rfl rfl ?_
        refine Ev.iload rfl rfl ?_
        refine Ev.iload rfl rfl ?_
        refine Ev.cV2 rfl rfl m0 rfl rfl (by decide) ⟨(Nat.le_refl _), (Nat.le_refl _)⟩ (m_step_ok hM hS hs hwS k (by omega)) ?_
        refine Ev.goto (tgt := 84) rfl (by decide) ?_
        refine Ev.istore rfl rfl rfl ?_
        refine Ev.aload_n rfl rfl ?_
        refine Ev.iload rfl rfl ?_
        refine Ev.iload rfl rfl ?_
        refine Ev.cV2 rfl rfl m0 rfl rfl (by decide) ⟨(Nat.le_refl _), (Nat.le_refl _)⟩ (m_step_ok hM hS hs hwS k (by omega)) ?_
        refine Ev.iload rfl rfl ?_
        refine Ev.jle (tgt := 110) rfl (by decide) (fun c96 => ?_) (fun c96 => ?_)
        · skip
          refine Ev.iload rfl rfl ?_
          refine Ev.istore rfl rfl rfl ?_
          refine Ev.iinc (d := 1) rfl rfl rfl (by decide) rfl ?_
          refine Ev.goto (tgt := 29) rfl (by decide) ?_
          have hF : (F_m_spread_29 T i j k0) k z = ((tS T i).2.2 0 k, z.2) := by
            unfold F_m_spread_29
            rw [if_neg c52]
            rw [if_pos c68]
            rw [if_neg c96]
          rw [hF] at hx
          exact hx.fg (gs rfl (gn (gs rfl (gs rfl (gs rfl (gs rfl (gs rfl (gs (congrArg Value.int (show nI (k + 1) = (nI k) + (1 : Int32) from (nq_to (a := k + 1) (nq_add (a := k) (b := 1) rfl (rfl : (1 : Int32) = nI 1)) (by omega)).symm)) gz))))))))
        · skip
          refine Ev.aload_n rfl rfl ?_
          refine Ev.iload rfl rfl ?_
          refine Ev.iload rfl rfl ?_
          refine Ev.cV2 rfl rfl m0 rfl rfl (by decide) ⟨(Nat.le_refl _), (Nat.le_refl _)⟩ (m_step_ok hM hS hs hwS k (by omega)) ?_
          refine Ev.goto (tgt := 112) rfl (by decide) ?_
          refine Ev.istore rfl rfl rfl ?_
          refine Ev.iinc (d := 1) rfl rfl rfl (by decide) rfl ?_
          refine Ev.goto (tgt := 29) rfl (by decide) ?_
          have hF : (F_m_spread_29 T i j k0) k z = ((tS T i).2.2 0 k, (tS T i).2.2 0 k) := by
            unfold F_m_spread_29
            rw [if_neg c52]
            rw [if_pos c68]
            rw [if_pos c96]
          rw [hF] at hx
          exact hx.fg (gs rfl (gn (gs rfl (gs rfl (gs rfl (gs rfl (gs rfl (gs (congrArg Value.int (show nI (k + 1) = (nI k) + (1 : Int32) from (nq_to (a := k + 1) (nq_add (a := k) (b := 1) rfl (rfl : (1 : Int32) = nI 1)) (by omega)).symm)) gz))))))))
    · skip
      refine Ev.goto (tgt := 114) rfl (by decide) ?_
      refine Ev.iinc (d := 1) rfl rfl rfl (by decide) rfl ?_
      refine Ev.goto (tgt := 29) rfl (by decide) ?_
      have hF : (F_m_spread_29 T i j k0) k z = (z.1, z.2) := by
        unfold F_m_spread_29
        rw [if_pos c52]
      rw [hF] at hx
      exact hx.fg (gs rfl (gn (gs rfl (gs rfl (gs rfl (gs rfl (gs rfl (gs (congrArg Value.int (show nI (k + 1) = (nI k) + (1 : Int32) from (nq_to (a := k + 1) (nq_add (a := k) (b := 1) rfl (rfl : (1 : Int32) = nI 1)) (by omega)).symm)) gz))))))))
  · skip
    refine Ev.iload rfl rfl ?_
    refine Ev.aload_n rfl rfl ?_
    refine Ev.getf rfl rfl m0 rfl ?_
    refine Ev.iload rfl rfl ?_
    refine Ev.ialdN (k := 610 + 120 * i) rfl m1 (nq_to (a := 610 + 120 * i) rfl (by omega)) ⟨(by omega), by decide⟩ ?_
    rw [hS.1]
    refine Ev.jge (tgt := 120) rfl (by decide) (fun c38 => ?_) (fun c38 => absurd c38 (nI_nlt (Nat.le_refl _) (by omega)))
    refine Ev.iload rfl rfl ?_
    refine Ev.zge (tgt := 129) rfl (by decide) (fun c122 => ?_) (fun c122 => ?_)
    · skip
      refine Ev.iload rfl rfl ?_
      refine Ev.iload rfl rfl ?_
      refine Ev.isub rfl ?_
      refine Ev.iret (ty := .int) rfl rfl rfl (Nat.le_refl _) (Nat.le_refl _) ?_
      rw [← hQ]
      refine ⟨congrArg (fun v => some (Value.int v)) (Eq.symm ?_), rfl⟩
      unfold K_m_spread
      rw [if_neg c122]
    · skip
      refine Ev.iconst (v := (-1)) rfl (by decide) ?_
      refine Ev.goto (tgt := 134) rfl (by decide) ?_
      refine Ev.iret (ty := .int) rfl rfl rfl (Nat.le_refl _) (Nat.le_refl _) ?_
      rw [← hQ]
      refine ⟨congrArg (fun v => some (Value.int v)) (Eq.symm ?_), rfl⟩
      unfold K_m_spread
      rw [if_pos c122]
theorem pop_le16 {m : Nat} (h : m < 65536) : pop m ≤ 16 := by
  unfold pop
  rw [show (17 : Nat) = 16 + 1 by rfl, fo_last, show m / 2 ^ (0 + 16) % 2 = 0 by rw [show (2 : Nat) ^ (0 + 16) = 65536 by decide]; omega]
  have := fo_inv (F := fun k x => x + m / 2 ^ k % 2) (fun i x => x ≤ i) 16 0 0 (Nat.le_refl _) (fun j y _ _ hy => by
    have := Nat.mod_lt (m / 2 ^ j) (show 0 < 2 by decide)
    show y + m / 2 ^ j % 2 ≤ j + 1
    omega)
  omega
theorem bc1_inS {S : Sch} {W : Int32} (hn : S.1 ≤ 16) (h : inS S W) : ∃ k, k ≤ 17 ∧ K_bc W + 1 = nI k := by
  obtain ⟨w, hw, rfl⟩ := h
  have := p16 hn
  refine ⟨pop w + 1, by have := pop_le16 (m := w) (by omega); omega, ?_⟩
  rw [bc_nI (by omega), nI_1]
def F_m_more_85 (T : Tol) (i j : Nat) (k0 : Nat) (st : Int32) : Nat → (Int32 × Int32) → (Int32 × Int32) := fun k z => if ((((tP T j).2 k0 5) >>> ((nI k) &&& 31)) &&& (1 : Int32)) = (0 : Int32) then (z.1, z.2) else (if (K_abs (((tS T i).2.2 0 k) - st)) = (1 : Int32) then (if z.1 = (0 : Int32) then ((1 : Int32), z.2 + (((K_fitting (tS T i) ((tP T j).2 k0) ((tS T i).2.2 0 k) (K_steps (tS T i) ((tP T j).2 k0 5))) * (K_part (tS T i) ((K_bc ((tP T j).2 k0 5)) + (1 : Int32)))) / (100 : Int32))) else ((1 : Int32), z.2 + (((K_fitting (tS T i) ((tP T j).2 k0) ((tS T i).2.2 0 k) (K_steps (tS T i) ((tP T j).2 k0 5))) * (K_part (tS T i) ((K_bc ((tP T j).2 k0 5)) + (1 : Int32)))) / (100 : Int32)))) else (if z.1 = (0 : Int32) then ((0 : Int32), z.2 + (((K_fitting (tS T i) ((tP T j).2 k0) ((tS T i).2.2 0 k) (K_steps (tS T i) ((tP T j).2 k0 5))) * (K_part (tS T i) ((K_bc ((tP T j).2 k0 5)) + (1 : Int32)))) / (100 : Int32))) else ((1 : Int32), z.2 + (((K_fitting (tS T i) ((tP T j).2 k0) ((tS T i).2.2 0 k) (K_steps (tS T i) ((tP T j).2 k0 5))) * (K_part (tS T i) ((K_bc ((tP T j).2 k0 5)) + (1 : Int32)))) / (100 : Int32)))))
def F_m_more_85_2 (T : Tol) (i j : Nat) (k0 : Nat) (st : Int32) : Nat → (Int32 × Int32) → (Int32 × Int32) := fun k z => if ((((tP T j).2 k0 5) >>> ((nI k) &&& 31)) &&& (1 : Int32)) = (0 : Int32) then (z.1, z.2) else (if (K_abs (((tS T i).2.2 0 k) - st)) = (1 : Int32) then (if z.1 = (0 : Int32) then ((1 : Int32), z.2 + ((((K_alone (tS T i) ((tP T j).2 k0) ((tS T i).2.2 0 k)) + ((tS T i).2.2 9 9)) * (K_part (tS T i) ((K_bc ((tP T j).2 k0 5)) + (1 : Int32)))) / (100 : Int32))) else ((1 : Int32), z.2 + ((((K_alone (tS T i) ((tP T j).2 k0) ((tS T i).2.2 0 k)) + ((tS T i).2.2 9 9)) * (K_part (tS T i) ((K_bc ((tP T j).2 k0 5)) + (1 : Int32)))) / (100 : Int32)))) else (if z.1 = (0 : Int32) then ((0 : Int32), z.2 + (((K_fitting (tS T i) ((tP T j).2 k0) ((tS T i).2.2 0 k) (K_steps (tS T i) ((tP T j).2 k0 5))) * (K_part (tS T i) ((K_bc ((tP T j).2 k0 5)) + (1 : Int32)))) / (100 : Int32))) else ((1 : Int32), z.2 + (((K_fitting (tS T i) ((tP T j).2 k0) ((tS T i).2.2 0 k) (K_steps (tS T i) ((tP T j).2 k0 5))) * (K_part (tS T i) ((K_bc ((tP T j).2 k0 5)) + (1 : Int32)))) / (100 : Int32)))))
def K_m_more (T : Tol) (i j : Nat) (k0 : Nat) (st : Int32) : Int32 := if ((tP T j).2 k0 0) = (4 : Int32) then (if ((fo (F_m_more_85_2 T i j k0 st) ((tS T i).1) 0 ((0 : Int32), (0 : Int32))).1) = (0 : Int32) then ((((fo (F_m_more_85_2 T i j k0 st) ((tS T i).1) 0 ((0 : Int32), (0 : Int32))).2) + ((((K_alone (tS T i) ((tP T j).2 k0) st) + (0 : Int32)) * (K_part (tS T i) ((K_bc ((tP T j).2 k0 5)) + (1 : Int32)))) / (100 : Int32))) - (K_tog (tS T i) ((tP T j).2 k0) ((tP T j).2 k0 5))) else ((((fo (F_m_more_85_2 T i j k0 st) ((tS T i).1) 0 ((0 : Int32), (0 : Int32))).2) + ((((K_alone (tS T i) ((tP T j).2 k0) st) + ((tS T i).2.2 9 9)) * (K_part (tS T i) ((K_bc ((tP T j).2 k0 5)) + (1 : Int32)))) / (100 : Int32))) - (K_tog (tS T i) ((tP T j).2 k0) ((tP T j).2 k0 5)))) else ((((fo (F_m_more_85 T i j k0 st) ((tS T i).1) 0 ((0 : Int32), (0 : Int32))).2) + ((((K_alone (tS T i) ((tP T j).2 k0) st) + (0 : Int32)) * (K_part (tS T i) ((K_bc ((tP T j).2 k0 5)) + (1 : Int32)))) / (100 : Int32))) - (K_tog (tS T i) ((tP T j).2 k0) ((tP T j).2 k0 5)))
theorem m_more_some (hM : isM σ y g A) (hT : mT A 0 T) (hw : wT T) {u v : Int32} {i j : Nat} (hg : gd T u v i j) {k0 : Nat} (hkk : k0 < (tP T j).1) {st : Int32} (hst : rg st 0 11) : RetV Γ m_M_more [(.ref y), .int u, .int v, (.int (nI k0)), (.int st)] σ (.int (K_m_more T i j k0 st)) := by
  obtain ⟨m0, m1⟩ := id hM
  have hgd := hg
  obtain ⟨rfl, hi, rfl, hj, hgo⟩ := hg
  have hi3 : i < 3 := by have := hw.2.1; omega
  have hj3 : j < 3 := by have := hw.2.2.1; omega
  have hwS := hw.2.2.2.1 i hi
  have hwP := hw.2.2.2.2 j hj
  have hn16 := hwS.1
  have hn5 := hwS.2.1
  have h6 := hwP.1
  have hS := hT.s hi
  have hP := hT.p hj
  have hs : 610 + 120 * i + 120 ≤ 4500 := by omega
  unfold RetV
  generalize hQ : (fun (r : Option Value) (σ' : ex_S) => r = some ((.int (K_m_more T i j k0 st)) : Value) ∧ σ' = σ) = Q
  refine Ret.start pm_258 rfl ?_
  refine Ev.aload_n rfl rfl ?_
  refine Ev.iload_n rfl rfl ?_
  refine Ev.iload_n rfl rfl ?_
  refine Ev.iload_n rfl rfl ?_
  refine Ev.cV3 rfl rfl m0 rfl rfl (by decide) ⟨(Nat.le_refl _), (Nat.le_refl _)⟩ (m_isGoing_yes hM hT hw hgd hkk) ?_
  refine Ev.zeq (tgt := 21) rfl (by decide) (fun c7 => absurd c7 (by decide)) (fun c7 => ?_)
  refine Ev.iload rfl rfl ?_
  refine Ev.iconst (v := 0) rfl (by decide) ?_
  refine Ev.bipush (v := 11) rfl (by decide) ?_
  refine Ev.cS3 rfl rfl rfl (by decide) ⟨(Nat.le_refl _), (Nat.le_refl _)⟩ (m_in_y (K_in11 hst)) ?_
  refine Ev.zne (tgt := 24) rfl (by decide) (fun c18 => ?_) (fun c18 => absurd c18 (by decide))
  refine Ev.iconst (v := 0) rfl (by decide) ?_
  refine Ev.iload_n rfl rfl ?_
  refine Ev.cS2 rfl rfl rfl (by decide) ⟨(Nat.le_refl _), (Nat.le_refl _)⟩ (m_pl0_ok i) ?_
  refine Ev.istore rfl rfl rfl ?_
  refine Ev.aload_n rfl rfl ?_
  refine Ev.iload_n rfl rfl ?_
  refine Ev.iload_n rfl rfl ?_
  refine Ev.cV2 rfl rfl m0 rfl rfl (by decide) ⟨(Nat.le_refl _), (Nat.le_refl _)⟩ (m_classAt_ok hM k0) ?_
  refine Ev.istore rfl rfl rfl ?_
  refine Ev.aload_n rfl rfl ?_
  refine Ev.iload_n rfl rfl ?_
  refine Ev.iload_n rfl rfl ?_
  refine Ev.cV2 rfl rfl m0 rfl rfl (by decide) ⟨(Nat.le_refl _), (Nat.le_refl _)⟩ (m_sitsIn_ok hM hP hj3 h6 k0 (by omega)) ?_
  refine Ev.istore rfl rfl rfl ?_
  refine Ev.iload rfl rfl ?_
  refine Ev.cS1 rfl rfl rfl (by decide) ⟨(Nat.le_refl _), (Nat.le_refl _)⟩ (m_many_W (S := (tS T i)) hn16 (hgo k0 (by omega)).2) ?_
  refine Ev.iconst (v := 1) rfl (by decide) ?_
  refine Ev.iadd rfl ?_
  refine Ev.istore rfl rfl rfl ?_
  refine Ev.aload_n rfl rfl ?_
  refine Ev.getf rfl rfl m0 rfl ?_
  refine Ev.iload rfl rfl ?_
  refine Ev.iconst (v := 0) rfl (by decide) ?_
  refine Ev.iadd rfl ?_
  refine Ev.ialdN (k := 970 + 40 * j + 1 + 6 * k0 + 0) rfl m1 (nq_to (a := 970 + 40 * j + 1 + 6 * k0 + 0) (nq_add (a := 970 + 40 * j + 1 + 6 * k0) (b := 0) rfl (rfl : (0 : Int32) = nI 0)) (by omega)) ⟨(by omega), by decide⟩ ?_
  rw [show A (970 + 40 * j + 1 + 6 * k0 + 0) = _ from hP.2 k0 (by omega) 0 (by decide)]
  refine Ev.iconst (v := 4) rfl (by decide) ?_
  refine Ev.jne (tgt := 73) rfl (by decide) (fun c66 => ?_) (fun c66 => ?_)
  · skip
    refine Ev.iconst (v := 0) rfl (by decide) ?_
    refine Ev.istore rfl rfl rfl ?_
    refine Ev.iconst (v := 0) rfl (by decide) ?_
    refine Ev.istore rfl rfl rfl ?_
    refine Ev.iconst (v := 0) rfl (by decide) ?_
    refine Ev.istore rfl rfl rfl ?_
    refine Ev.iconst (v := 0) rfl (by decide) ?_
    refine Ev.istore rfl rfl rfl ?_
    refine Ev.fg (L := [some (.ref y), none, none, none, some (.int st), some (.int (nI (610 + 120 * i))), some (.int (nI (970 + 40 * j + 1 + 6 * k0))), some (.int ((tP T j).2 k0 5)), some (.int ((K_bc ((tP T j).2 k0 5)) + (1 : Int32))), some (.int (0 : Int32)), some (.int (0 : Int32)), some (.int (0 : Int32)), some (.int (nI 0)), none, none]) ?_ (gs rfl (gn (gn (gn (gs rfl (gs rfl (gs rfl (gs rfl (gs rfl (gs rfl (gs rfl (gs rfl (gs (congrArg Value.int (rfl : (0 : Int32) = nI 0).symm) (gn (gn gz)))))))))))))))
    refine lp (fun (k : Nat) (z : Int32 × Int32) => Ev Γ 0 0 m_M_more 0 0 85 [some (.ref y), none, none, none, some (.int st), some (.int (nI (610 + 120 * i))), some (.int (nI (970 + 40 * j + 1 + 6 * k0))), some (.int ((tP T j).2 k0 5)), some (.int ((K_bc ((tP T j).2 k0 5)) + (1 : Int32))), some (.int (0 : Int32)), some (.int z.1), some (.int z.2), some (.int (nI k)), none, none] [] σ Q) (F_m_more_85 T i j k0 st) ((tS T i).1) (fun k z hk hx => ?_) ((tS T i).1) 0 ((0 : Int32), (0 : Int32)) (by omega) ?_
    · skip
      refine Ev.iload rfl rfl ?_
      refine Ev.aload_n rfl rfl ?_
      refine Ev.getf rfl rfl m0 rfl ?_
      refine Ev.iload rfl rfl ?_
      refine Ev.ialdN (k := 610 + 120 * i) rfl m1 (nq_to (a := 610 + 120 * i) rfl (by omega)) ⟨(by omega), by decide⟩ ?_
      rw [hS.1]
      refine Ev.jge (tgt := 231) rfl (by decide) (fun c94 => absurd (nI_lt hk (by omega)) c94) (fun c94 => ?_)
      refine Ev.iload rfl rfl ?_
      refine Ev.iload rfl rfl ?_
      refine Ev.ishr rfl ?_
      refine Ev.iconst (v := 1) rfl (by decide) ?_
      refine Ev.iand rfl ?_
      refine Ev.zne (tgt := 110) rfl (by decide) (fun c104 => ?_) (fun c104 => ?_)
      · skip
        refine Ev.aload_n rfl rfl ?_
        refine Ev.iload rfl rfl ?_
        refine Ev.iload rfl rfl ?_
        refine Ev.cV2 rfl rfl m0 rfl rfl (by decide) ⟨(Nat.le_refl _), (Nat.le_refl _)⟩ (m_step_ok hM hS hs hwS k (by omega)) ?_
        refine Ev.iload rfl rfl ?_
        refine Ev.isub rfl ?_
        refine Ev.cS1 rfl rfl rfl (by decide) ⟨(Nat.le_refl _), (Nat.le_refl _)⟩ (m_size_ok _) ?_
        refine Ev.iconst (v := 1) rfl (by decide) ?_
        refine Ev.jne (tgt := 132) rfl (by decide) (fun c125 => ?_) (fun c125 => ?_)
        · skip
          refine Ev.iconst (v := 0) rfl (by decide) ?_
          refine Ev.istore rfl rfl rfl ?_
          refine Ev.iload rfl rfl ?_
          refine Ev.zne (tgt := 145) rfl (by decide) (fun c137 => ?_) (fun c137 => ?_)
          · skip
            refine Ev.iconst (v := 1) rfl (by decide) ?_
            refine Ev.goto (tgt := 150) rfl (by decide) ?_
            refine Ev.istore rfl rfl rfl ?_
            refine Ev.iload rfl rfl ?_
            refine Ev.zeq (tgt := 192) rfl (by decide) (fun c154 => ?_) (fun c154 => absurd (by decide) c154)
            refine Ev.aload_n rfl rfl ?_
            refine Ev.iload rfl rfl ?_
            refine Ev.iload rfl rfl ?_
            refine Ev.iload rfl rfl ?_
            refine Ev.iload rfl rfl ?_
            refine Ev.cV4 rfl rfl m0 rfl rfl (by decide) ⟨(Nat.le_refl _), (Nat.le_refl _)⟩ (m_fit_W hM hS hs hwS (hP.2 k0 (by omega)) (by omega) (hwP.2 k0 (by omega)) (hgo k0 (by omega)).1 (by omega) (hgo k0 (by omega)).2) ?_
            refine Ev.istore rfl rfl rfl ?_
            refine Ev.iload rfl rfl ?_
            refine Ev.iload rfl rfl ?_
            refine Ev.aload_n rfl rfl ?_
            refine Ev.iload rfl rfl ?_
            refine Ev.iload rfl rfl ?_
            refine Ev.cV2 rfl rfl m0 rfl rfl (by decide) ⟨(Nat.le_refl _), (Nat.le_refl _)⟩ (m_leaves_W hM hS hs hwS (bc1_inS hn16 (hgo k0 hkk).2)) ?_
            refine Ev.imul rfl ?_
            refine Ev.bipush (v := 100) rfl (by decide) ?_
            refine Ev.idiv rfl (by decide) ?_
            refine Ev.iadd rfl ?_
            refine Ev.istore rfl rfl rfl ?_
            refine Ev.iinc (d := 1) rfl rfl rfl (by decide) rfl ?_
            refine Ev.goto (tgt := 85) rfl (by decide) ?_
            have hF : (F_m_more_85 T i j k0 st) k z = ((1 : Int32), z.2 + (((K_fitting (tS T i) ((tP T j).2 k0) ((tS T i).2.2 0 k) (K_steps (tS T i) ((tP T j).2 k0 5))) * (K_part (tS T i) ((K_bc ((tP T j).2 k0 5)) + (1 : Int32)))) / (100 : Int32))) := by
              unfold F_m_more_85
              rw [if_neg c104]
              rw [if_neg c125]
              rw [if_neg c137]
            rw [hF] at hx
            exact hx.fg (gs rfl (gn (gn (gn (gs rfl (gs rfl (gs rfl (gs rfl (gs rfl (gs rfl (gs rfl (gs rfl (gs (congrArg Value.int (show nI (k + 1) = (nI k) + (1 : Int32) from (nq_to (a := k + 1) (nq_add (a := k) (b := 1) rfl (rfl : (1 : Int32) = nI 1)) (by omega)).symm)) (gn (gn gz)))))))))))))))
          · skip
            refine Ev.iload rfl rfl ?_
            refine Ev.zeq (tgt := 149) rfl (by decide) (fun c142 => ?_) (fun c142 => absurd (by decide) c142)
            refine Ev.iconst (v := 0) rfl (by decide) ?_
            refine Ev.istore rfl rfl rfl ?_
            refine Ev.iload rfl rfl ?_
            refine Ev.zeq (tgt := 192) rfl (by decide) (fun c154 => ?_) (fun c154 => absurd (by decide) c154)
            refine Ev.aload_n rfl rfl ?_
            refine Ev.iload rfl rfl ?_
            refine Ev.iload rfl rfl ?_
            refine Ev.iload rfl rfl ?_
            refine Ev.iload rfl rfl ?_
            refine Ev.cV4 rfl rfl m0 rfl rfl (by decide) ⟨(Nat.le_refl _), (Nat.le_refl _)⟩ (m_fit_W hM hS hs hwS (hP.2 k0 (by omega)) (by omega) (hwP.2 k0 (by omega)) (hgo k0 (by omega)).1 (by omega) (hgo k0 (by omega)).2) ?_
            refine Ev.istore rfl rfl rfl ?_
            refine Ev.iload rfl rfl ?_
            refine Ev.iload rfl rfl ?_
            refine Ev.aload_n rfl rfl ?_
            refine Ev.iload rfl rfl ?_
            refine Ev.iload rfl rfl ?_
            refine Ev.cV2 rfl rfl m0 rfl rfl (by decide) ⟨(Nat.le_refl _), (Nat.le_refl _)⟩ (m_leaves_W hM hS hs hwS (bc1_inS hn16 (hgo k0 hkk).2)) ?_
            refine Ev.imul rfl ?_
            refine Ev.bipush (v := 100) rfl (by decide) ?_
            refine Ev.idiv rfl (by decide) ?_
            refine Ev.iadd rfl ?_
            refine Ev.istore rfl rfl rfl ?_
            refine Ev.iinc (d := 1) rfl rfl rfl (by decide) rfl ?_
            refine Ev.goto (tgt := 85) rfl (by decide) ?_
            have hF : (F_m_more_85 T i j k0 st) k z = ((0 : Int32), z.2 + (((K_fitting (tS T i) ((tP T j).2 k0) ((tS T i).2.2 0 k) (K_steps (tS T i) ((tP T j).2 k0 5))) * (K_part (tS T i) ((K_bc ((tP T j).2 k0 5)) + (1 : Int32)))) / (100 : Int32))) := by
              unfold F_m_more_85
              rw [if_neg c104]
              rw [if_neg c125]
              rw [if_pos c137]
            rw [hF] at hx
            exact hx.fg (gs rfl (gn (gn (gn (gs rfl (gs rfl (gs rfl (gs rfl (gs rfl (gs rfl (gs rfl (gs rfl (gs (congrArg Value.int (show nI (k + 1) = (nI k) + (1 : Int32) from (nq_to (a := k + 1) (nq_add (a := k) (b := 1) rfl (rfl : (1 : Int32) = nI 1)) (by omega)).symm)) (gn (gn gz)))))))))))))))
        · skip
          refine Ev.iconst (v := 1) rfl (by decide) ?_
          refine Ev.goto (tgt := 133) rfl (by decide) ?_
          refine Ev.istore rfl rfl rfl ?_
          refine Ev.iload rfl rfl ?_
          refine Ev.zne (tgt := 145) rfl (by decide) (fun c137 => ?_) (fun c137 => ?_)
          · skip
            refine Ev.iconst (v := 1) rfl (by decide) ?_
            refine Ev.goto (tgt := 150) rfl (by decide) ?_
            refine Ev.istore rfl rfl rfl ?_
            refine Ev.iload rfl rfl ?_
            refine Ev.zeq (tgt := 192) rfl (by decide) (fun c154 => absurd c154 (by decide)) (fun c154 => ?_)
            refine Ev.iload rfl rfl ?_
            refine Ev.zeq (tgt := 192) rfl (by decide) (fun c159 => ?_) (fun c159 => absurd (by decide) c159)
            refine Ev.aload_n rfl rfl ?_
            refine Ev.iload rfl rfl ?_
            refine Ev.iload rfl rfl ?_
            refine Ev.iload rfl rfl ?_
            refine Ev.iload rfl rfl ?_
            refine Ev.cV4 rfl rfl m0 rfl rfl (by decide) ⟨(Nat.le_refl _), (Nat.le_refl _)⟩ (m_fit_W hM hS hs hwS (hP.2 k0 (by omega)) (by omega) (hwP.2 k0 (by omega)) (hgo k0 (by omega)).1 (by omega) (hgo k0 (by omega)).2) ?_
            refine Ev.istore rfl rfl rfl ?_
            refine Ev.iload rfl rfl ?_
            refine Ev.iload rfl rfl ?_
            refine Ev.aload_n rfl rfl ?_
            refine Ev.iload rfl rfl ?_
            refine Ev.iload rfl rfl ?_
            refine Ev.cV2 rfl rfl m0 rfl rfl (by decide) ⟨(Nat.le_refl _), (Nat.le_refl _)⟩ (m_leaves_W hM hS hs hwS (bc1_inS hn16 (hgo k0 hkk).2)) ?_
            refine Ev.imul rfl ?_
            refine Ev.bipush (v := 100) rfl (by decide) ?_
            refine Ev.idiv rfl (by decide) ?_
            refine Ev.iadd rfl ?_
            refine Ev.istore rfl rfl rfl ?_
            refine Ev.iinc (d := 1) rfl rfl rfl (by decide) rfl ?_
            refine Ev.goto (tgt := 85) rfl (by decide) ?_
            have hF : (F_m_more_85 T i j k0 st) k z = ((1 : Int32), z.2 + (((K_fitting (tS T i) ((tP T j).2 k0) ((tS T i).2.2 0 k) (K_steps (tS T i) ((tP T j).2 k0 5))) * (K_part (tS T i) ((K_bc ((tP T j).2 k0 5)) + (1 : Int32)))) / (100 : Int32))) := by
              unfold F_m_more_85
              rw [if_neg c104]
              rw [if_pos c125]
              rw [if_neg c137]
            rw [hF] at hx
            exact hx.fg (gs rfl (gn (gn (gn (gs rfl (gs rfl (gs rfl (gs rfl (gs rfl (gs rfl (gs rfl (gs rfl (gs (congrArg Value.int (show nI (k + 1) = (nI k) + (1 : Int32) from (nq_to (a := k + 1) (nq_add (a := k) (b := 1) rfl (rfl : (1 : Int32) = nI 1)) (by omega)).symm)) (gn (gn gz)))))))))))))))
          · skip
            refine Ev.iload rfl rfl ?_
            refine Ev.zeq (tgt := 149) rfl (by decide) (fun c142 => absurd c142 (by decide)) (fun c142 => ?_)
            refine Ev.iconst (v := 1) rfl (by decide) ?_
            refine Ev.goto (tgt := 150) rfl (by decide) ?_
            refine Ev.istore rfl rfl rfl ?_
            refine Ev.iload rfl rfl ?_
            refine Ev.zeq (tgt := 192) rfl (by decide) (fun c154 => absurd c154 (by decide)) (fun c154 => ?_)
            refine Ev.iload rfl rfl ?_
            refine Ev.zeq (tgt := 192) rfl (by decide) (fun c159 => ?_) (fun c159 => absurd (by decide) c159)
            refine Ev.aload_n rfl rfl ?_
            refine Ev.iload rfl rfl ?_
            refine Ev.iload rfl rfl ?_
            refine Ev.iload rfl rfl ?_
            refine Ev.iload rfl rfl ?_
            refine Ev.cV4 rfl rfl m0 rfl rfl (by decide) ⟨(Nat.le_refl _), (Nat.le_refl _)⟩ (m_fit_W hM hS hs hwS (hP.2 k0 (by omega)) (by omega) (hwP.2 k0 (by omega)) (hgo k0 (by omega)).1 (by omega) (hgo k0 (by omega)).2) ?_
            refine Ev.istore rfl rfl rfl ?_
            refine Ev.iload rfl rfl ?_
            refine Ev.iload rfl rfl ?_
            refine Ev.aload_n rfl rfl ?_
            refine Ev.iload rfl rfl ?_
            refine Ev.iload rfl rfl ?_
            refine Ev.cV2 rfl rfl m0 rfl rfl (by decide) ⟨(Nat.le_refl _), (Nat.le_refl _)⟩ (m_leaves_W hM hS hs hwS (bc1_inS hn16 (hgo k0 hkk).2)) ?_
            refine Ev.imul rfl ?_
            refine Ev.bipush (v := 100) rfl (by decide) ?_
            refine Ev.idiv rfl (by decide) ?_
            refine Ev.iadd rfl ?_
            refine Ev.istore rfl rfl rfl ?_
            refine Ev.iinc (d := 1) rfl rfl rfl (by decide) rfl ?_
            refine Ev.goto (tgt := 85) rfl (by decide) ?_
            have hF : (F_m_more_85 T i j k0 st) k z = ((1 : Int32), z.2 + (((K_fitting (tS T i) ((tP T j).2 k0) ((tS T i).2.2 0 k) (K_steps (tS T i) ((tP T j).2 k0 5))) * (K_part (tS T i) ((K_bc ((tP T j).2 k0 5)) + (1 : Int32)))) / (100 : Int32))) := by
              unfold F_m_more_85
              rw [if_neg c104]
              rw [if_pos c125]
              rw [if_pos c137]
            rw [hF] at hx
            exact hx.fg (gs rfl (gn (gn (gn (gs rfl (gs rfl (gs rfl (gs rfl (gs rfl (gs rfl (gs rfl (gs rfl (gs (congrArg Value.int (show nI (k + 1) = (nI k) + (1 : Int32) from (nq_to (a := k + 1) (nq_add (a := k) (b := 1) rfl (rfl : (1 : Int32) = nI 1)) (by omega)).symm)) (gn (gn gz)))))))))))))))
      · skip
        refine Ev.goto (tgt := 225) rfl (by decide) ?_
        refine Ev.iinc (d := 1) rfl rfl rfl (by decide) rfl ?_
        refine Ev.goto (tgt := 85) rfl (by decide) ?_
        have hF : (F_m_more_85 T i j k0 st) k z = (z.1, z.2) := by
          unfold F_m_more_85
          rw [if_pos c104]
        rw [hF] at hx
        exact hx.fg (gs rfl (gn (gn (gn (gs rfl (gs rfl (gs rfl (gs rfl (gs rfl (gs rfl (gs rfl (gs rfl (gs (congrArg Value.int (show nI (k + 1) = (nI k) + (1 : Int32) from (nq_to (a := k + 1) (nq_add (a := k) (b := 1) rfl (rfl : (1 : Int32) = nI 1)) (by omega)).symm)) (gn (gn gz)))))))))))))))
    · skip
      refine Ev.iload rfl rfl ?_
      refine Ev.aload_n rfl rfl ?_
      refine Ev.getf rfl rfl m0 rfl ?_
      refine Ev.iload rfl rfl ?_
      refine Ev.ialdN (k := 610 + 120 * i) rfl m1 (nq_to (a := 610 + 120 * i) rfl (by omega)) ⟨(by omega), by decide⟩ ?_
      rw [hS.1]
      refine Ev.jge (tgt := 231) rfl (by decide) (fun c94 => ?_) (fun c94 => absurd c94 (nI_nlt (Nat.le_refl _) (by omega)))
      refine Ev.aload_n rfl rfl ?_
      refine Ev.iload rfl rfl ?_
      refine Ev.iload rfl rfl ?_
      refine Ev.iload rfl rfl ?_
      refine Ev.cV3 rfl rfl m0 rfl rfl (by decide) ⟨(Nat.le_refl _), (Nat.le_refl _)⟩ (m_plain_ok hM hS hs hwS (hP.2 k0 (by omega)) (by omega) (hwP.2 k0 (by omega)) (hgo k0 (by omega)).1 _ (hst.mono (by decide) (by decide))) ?_
      refine Ev.iload rfl rfl ?_
      refine Ev.zeq (tgt := 264) rfl (by decide) (fun c243 => ?_) (fun c243 => absurd (by decide) c243)
      refine Ev.iconst (v := 0) rfl (by decide) ?_
      refine Ev.iadd rfl ?_
      refine Ev.istore rfl rfl rfl ?_
      refine Ev.iload rfl rfl ?_
      refine Ev.iload rfl rfl ?_
      refine Ev.aload_n rfl rfl ?_
      refine Ev.iload rfl rfl ?_
      refine Ev.iload rfl rfl ?_
      refine Ev.cV2 rfl rfl m0 rfl rfl (by decide) ⟨(Nat.le_refl _), (Nat.le_refl _)⟩ (m_leaves_W hM hS hs hwS (bc1_inS hn16 (hgo k0 hkk).2)) ?_
      refine Ev.imul rfl ?_
      refine Ev.bipush (v := 100) rfl (by decide) ?_
      refine Ev.idiv rfl (by decide) ?_
      refine Ev.iadd rfl ?_
      refine Ev.aload_n rfl rfl ?_
      refine Ev.iload rfl rfl ?_
      refine Ev.iload rfl rfl ?_
      refine Ev.iload rfl rfl ?_
      refine Ev.cV3 rfl rfl m0 rfl rfl (by decide) ⟨(Nat.le_refl _), (Nat.le_refl _)⟩ (m_tog_W hM hS hs hwS (hP.2 k0 (by omega)) (by omega) (hwP.2 k0 (by omega)) (hgo k0 (by omega)).1 (hgo k0 (by omega)).2) ?_
      refine Ev.isub rfl ?_
      refine Ev.iret (ty := .int) rfl rfl rfl (Nat.le_refl _) (Nat.le_refl _) ?_
      rw [← hQ]
      refine ⟨congrArg (fun v => some (Value.int v)) (Eq.symm ?_), rfl⟩
      unfold K_m_more
      rw [if_neg c66]
  · skip
    refine Ev.iconst (v := 1) rfl (by decide) ?_
    refine Ev.goto (tgt := 74) rfl (by decide) ?_
    refine Ev.istore rfl rfl rfl ?_
    refine Ev.iconst (v := 0) rfl (by decide) ?_
    refine Ev.istore rfl rfl rfl ?_
    refine Ev.iconst (v := 0) rfl (by decide) ?_
    refine Ev.istore rfl rfl rfl ?_
    refine Ev.iconst (v := 0) rfl (by decide) ?_
    refine Ev.istore rfl rfl rfl ?_
    refine Ev.fg (L := [some (.ref y), none, none, none, some (.int st), some (.int (nI (610 + 120 * i))), some (.int (nI (970 + 40 * j + 1 + 6 * k0))), some (.int ((tP T j).2 k0 5)), some (.int ((K_bc ((tP T j).2 k0 5)) + (1 : Int32))), some (.int (1 : Int32)), some (.int (0 : Int32)), some (.int (0 : Int32)), some (.int (nI 0)), none, none]) ?_ (gs rfl (gn (gn (gn (gs rfl (gs rfl (gs rfl (gs rfl (gs rfl (gs rfl (gs rfl (gs rfl (gs (congrArg Value.int (rfl : (0 : Int32) = nI 0).symm) (gn (gn gz)))))))))))))))
    refine lp (fun (k : Nat) (z : Int32 × Int32) => Ev Γ 0 0 m_M_more 0 0 85 [some (.ref y), none, none, none, some (.int st), some (.int (nI (610 + 120 * i))), some (.int (nI (970 + 40 * j + 1 + 6 * k0))), some (.int ((tP T j).2 k0 5)), some (.int ((K_bc ((tP T j).2 k0 5)) + (1 : Int32))), some (.int (1 : Int32)), some (.int z.1), some (.int z.2), some (.int (nI k)), none, none] [] σ Q) (F_m_more_85_2 T i j k0 st) ((tS T i).1) (fun k z hk hx => ?_) ((tS T i).1) 0 ((0 : Int32), (0 : Int32)) (by omega) ?_
    · skip
      refine Ev.iload rfl rfl ?_
      refine Ev.aload_n rfl rfl ?_
      refine Ev.getf rfl rfl m0 rfl ?_
      refine Ev.iload rfl rfl ?_
      refine Ev.ialdN (k := 610 + 120 * i) rfl m1 (nq_to (a := 610 + 120 * i) rfl (by omega)) ⟨(by omega), by decide⟩ ?_
      rw [hS.1]
      refine Ev.jge (tgt := 231) rfl (by decide) (fun c94 => absurd (nI_lt hk (by omega)) c94) (fun c94 => ?_)
      refine Ev.iload rfl rfl ?_
      refine Ev.iload rfl rfl ?_
      refine Ev.ishr rfl ?_
      refine Ev.iconst (v := 1) rfl (by decide) ?_
      refine Ev.iand rfl ?_
      refine Ev.zne (tgt := 110) rfl (by decide) (fun c104 => ?_) (fun c104 => ?_)
      · skip
        refine Ev.aload_n rfl rfl ?_
        refine Ev.iload rfl rfl ?_
        refine Ev.iload rfl rfl ?_
        refine Ev.cV2 rfl rfl m0 rfl rfl (by decide) ⟨(Nat.le_refl _), (Nat.le_refl _)⟩ (m_step_ok hM hS hs hwS k (by omega)) ?_
        refine Ev.iload rfl rfl ?_
        refine Ev.isub rfl ?_
        refine Ev.cS1 rfl rfl rfl (by decide) ⟨(Nat.le_refl _), (Nat.le_refl _)⟩ (m_size_ok _) ?_
        refine Ev.iconst (v := 1) rfl (by decide) ?_
        refine Ev.jne (tgt := 132) rfl (by decide) (fun c125 => ?_) (fun c125 => ?_)
        · skip
          refine Ev.iconst (v := 0) rfl (by decide) ?_
          refine Ev.istore rfl rfl rfl ?_
          refine Ev.iload rfl rfl ?_
          refine Ev.zne (tgt := 145) rfl (by decide) (fun c137 => ?_) (fun c137 => ?_)
          · skip
            refine Ev.iconst (v := 1) rfl (by decide) ?_
            refine Ev.goto (tgt := 150) rfl (by decide) ?_
            refine Ev.istore rfl rfl rfl ?_
            refine Ev.iload rfl rfl ?_
            refine Ev.zeq (tgt := 192) rfl (by decide) (fun c154 => ?_) (fun c154 => absurd (by decide) c154)
            refine Ev.aload_n rfl rfl ?_
            refine Ev.iload rfl rfl ?_
            refine Ev.iload rfl rfl ?_
            refine Ev.iload rfl rfl ?_
            refine Ev.iload rfl rfl ?_
            refine Ev.cV4 rfl rfl m0 rfl rfl (by decide) ⟨(Nat.le_refl _), (Nat.le_refl _)⟩ (m_fit_W hM hS hs hwS (hP.2 k0 (by omega)) (by omega) (hwP.2 k0 (by omega)) (hgo k0 (by omega)).1 (by omega) (hgo k0 (by omega)).2) ?_
            refine Ev.istore rfl rfl rfl ?_
            refine Ev.iload rfl rfl ?_
            refine Ev.iload rfl rfl ?_
            refine Ev.aload_n rfl rfl ?_
            refine Ev.iload rfl rfl ?_
            refine Ev.iload rfl rfl ?_
            refine Ev.cV2 rfl rfl m0 rfl rfl (by decide) ⟨(Nat.le_refl _), (Nat.le_refl _)⟩ (m_leaves_W hM hS hs hwS (bc1_inS hn16 (hgo k0 hkk).2)) ?_
            refine Ev.imul rfl ?_
            refine Ev.bipush (v := 100) rfl (by decide) ?_
            refine Ev.idiv rfl (by decide) ?_
            refine Ev.iadd rfl ?_
            refine Ev.istore rfl rfl rfl ?_
            refine Ev.iinc (d := 1) rfl rfl rfl (by decide) rfl ?_
            refine Ev.goto (tgt := 85) rfl (by decide) ?_
            have hF : (F_m_more_85_2 T i j k0 st) k z = ((1 : Int32), z.2 + (((K_fitting (tS T i) ((tP T j).2 k0) ((tS T i).2.2 0 k) (K_steps (tS T i) ((tP T j).2 k0 5))) * (K_part (tS T i) ((K_bc ((tP T j).2 k0 5)) + (1 : Int32)))) / (100 : Int32))) := by
              unfold F_m_more_85_2
              rw [if_neg c104]
              rw [if_neg c125]
              rw [if_neg c137]
            rw [hF] at hx
            exact hx.fg (gs rfl (gn (gn (gn (gs rfl (gs rfl (gs rfl (gs rfl (gs rfl (gs rfl (gs rfl (gs rfl (gs (congrArg Value.int (show nI (k + 1) = (nI k) + (1 : Int32) from (nq_to (a := k + 1) (nq_add (a := k) (b := 1) rfl (rfl : (1 : Int32) = nI 1)) (by omega)).symm)) (gn (gn gz)))))))))))))))
          · skip
            refine Ev.iload rfl rfl ?_
            refine Ev.zeq (tgt := 149) rfl (by decide) (fun c142 => ?_) (fun c142 => absurd (by decide) c142)
            refine Ev.iconst (v := 0) rfl (by decide) ?_
            refine Ev.istore rfl rfl rfl ?_
            refine Ev.iload rfl rfl ?_
            refine Ev.zeq (tgt := 192) rfl (by decide) (fun c154 => ?_) (fun c154 => absurd (by decide) c154)
            refine Ev.aload_n rfl rfl ?_
            refine Ev.iload rfl rfl ?_
            refine Ev.iload rfl rfl ?_
            refine Ev.iload rfl rfl ?_
            refine Ev.iload rfl rfl ?_
            refine Ev.cV4 rfl rfl m0 rfl rfl (by decide) ⟨(Nat.le_refl _), (Nat.le_refl _)⟩ (m_fit_W hM hS hs hwS (hP.2 k0 (by omega)) (by omega) (hwP.2 k0 (by omega)) (hgo k0 (by omega)).1 (by omega) (hgo k0 (by omega)).2) ?_
            refine Ev.istore rfl rfl rfl ?_
            refine Ev.iload rfl rfl ?_
            refine Ev.iload rfl rfl ?_
            refine Ev.aload_n rfl rfl ?_
            refine Ev.iload rfl rfl ?_
            refine Ev.iload rfl rfl ?_
            refine Ev.cV2 rfl rfl m0 rfl rfl (by decide) ⟨(Nat.le_refl _), (Nat.le_refl _)⟩ (m_leaves_W hM hS hs hwS (bc1_inS hn16 (hgo k0 hkk).2)) ?_
            refine Ev.imul rfl ?_
            refine Ev.bipush (v := 100) rfl (by decide) ?_
            refine Ev.idiv rfl (by decide) ?_
            refine Ev.iadd rfl ?_
            refine Ev.istore rfl rfl rfl ?_
            refine Ev.iinc (d := 1) rfl rfl rfl (by decide) rfl ?_
            refine Ev.goto (tgt := 85) rfl (by decide) ?_
            have hF : (F_m_more_85_2 T i j k0 st) k z = ((0 : Int32), z.2 + (((K_fitting (tS T i) ((tP T j).2 k0) ((tS T i).2.2 0 k) (K_steps (tS T i) ((tP T j).2 k0 5))) * (K_part (tS T i) ((K_bc ((tP T j).2 k0 5)) + (1 : Int32)))) / (100 : Int32))) := by
              unfold F_m_more_85_2
              rw [if_neg c104]
              rw [if_neg c125]
              rw [if_pos c137]
            rw [hF] at hx
            exact hx.fg (gs rfl (gn (gn (gn (gs rfl (gs rfl (gs rfl (gs rfl (gs rfl (gs rfl (gs rfl (gs rfl (gs (congrArg Value.int (show nI (k + 1) = (nI k) + (1 : Int32) from (nq_to (a := k + 1) (nq_add (a := k) (b := 1) rfl (rfl : (1 : Int32) = nI 1)) (by omega)).symm)) (gn (gn gz)))))))))))))))
        · skip
          refine Ev.iconst (v := 1) rfl (by decide) ?_
          refine Ev.goto (tgt := 133) rfl (by decide) ?_
          refine Ev.istore rfl rfl rfl ?_
          refine Ev.iload rfl rfl ?_
          refine Ev.zne (tgt := 145) rfl (by decide) (fun c137 => ?_) (fun c137 => ?_)
          · skip
            refine Ev.iconst (v := 1) rfl (by decide) ?_
            refine Ev.goto (tgt := 150) rfl (by decide) ?_
            refine Ev.istore rfl rfl rfl ?_
            refine Ev.iload rfl rfl ?_
            refine Ev.zeq (tgt := 192) rfl (by decide) (fun c154 => absurd c154 (by decide)) (fun c154 => ?_)
            refine Ev.iload rfl rfl ?_
            refine Ev.zeq (tgt := 192) rfl (by decide) (fun c159 => absurd c159 (by decide)) (fun c159 => ?_)
            refine Ev.aload_n rfl rfl ?_
            refine Ev.iload rfl rfl ?_
            refine Ev.iload rfl rfl ?_
            refine Ev.aload_n rfl rfl ?_
            refine Ev.iload rfl rfl ?_
            refine Ev.iload rfl rfl ?_
            refine Ev.cV2 rfl rfl m0 rfl rfl (by decide) ⟨(Nat.le_refl _), (Nat.le_refl _)⟩ (m_step_ok hM hS hs hwS k (by omega)) ?_
            refine Ev.cV3 rfl rfl m0 rfl rfl (by decide) ⟨(Nat.le_refl _), (Nat.le_refl _)⟩ (m_plain_ok hM hS hs hwS (hP.2 k0 (by omega)) (by omega) (hwP.2 k0 (by omega)) (hgo k0 (by omega)).1 _ ((hwS.2.2.1 _ (by omega)).1.mono (by decide) (by decide))) ?_
            refine Ev.aload_n rfl rfl ?_
            refine Ev.getf rfl rfl m0 rfl ?_
            refine Ev.iload rfl rfl ?_
            refine Ev.bipush (v := 11) rfl (by decide) ?_
            refine Ev.iadd rfl ?_
            refine Ev.ialdN (k := 610 + 120 * i + 11) rfl m1 (nq_to (a := 610 + 120 * i + 11) (nq_add (a := 610 + 120 * i) (b := 11) rfl (rfl : (11 : Int32) = nI 11)) (by omega)) ⟨(by omega), by decide⟩ ?_
            rw [show A (610 + 120 * i + 11) = _ from hS.2.2.1 9 (by decide)]
            refine Ev.iadd rfl ?_
            refine Ev.goto (tgt := 204) rfl (by decide) ?_
            refine Ev.istore rfl rfl rfl ?_
            refine Ev.iload rfl rfl ?_
            refine Ev.iload rfl rfl ?_
            refine Ev.aload_n rfl rfl ?_
            refine Ev.iload rfl rfl ?_
            refine Ev.iload rfl rfl ?_
            refine Ev.cV2 rfl rfl m0 rfl rfl (by decide) ⟨(Nat.le_refl _), (Nat.le_refl _)⟩ (m_leaves_W hM hS hs hwS (bc1_inS hn16 (hgo k0 hkk).2)) ?_
            refine Ev.imul rfl ?_
            refine Ev.bipush (v := 100) rfl (by decide) ?_
            refine Ev.idiv rfl (by decide) ?_
            refine Ev.iadd rfl ?_
            refine Ev.istore rfl rfl rfl ?_
            refine Ev.iinc (d := 1) rfl rfl rfl (by decide) rfl ?_
            refine Ev.goto (tgt := 85) rfl (by decide) ?_
            have hF : (F_m_more_85_2 T i j k0 st) k z = ((1 : Int32), z.2 + ((((K_alone (tS T i) ((tP T j).2 k0) ((tS T i).2.2 0 k)) + ((tS T i).2.2 9 9)) * (K_part (tS T i) ((K_bc ((tP T j).2 k0 5)) + (1 : Int32)))) / (100 : Int32))) := by
              unfold F_m_more_85_2
              rw [if_neg c104]
              rw [if_pos c125]
              rw [if_neg c137]
            rw [hF] at hx
            exact hx.fg (gs rfl (gn (gn (gn (gs rfl (gs rfl (gs rfl (gs rfl (gs rfl (gs rfl (gs rfl (gs rfl (gs (congrArg Value.int (show nI (k + 1) = (nI k) + (1 : Int32) from (nq_to (a := k + 1) (nq_add (a := k) (b := 1) rfl (rfl : (1 : Int32) = nI 1)) (by omega)).symm)) (gn (gn gz)))))))))))))))
          · skip
            refine Ev.iload rfl rfl ?_
            refine Ev.zeq (tgt := 149) rfl (by decide) (fun c142 => absurd c142 (by decide)) (fun c142 => ?_)
            refine Ev.iconst (v := 1) rfl (by decide) ?_
            refine Ev.goto (tgt := 150) rfl (by decide) ?_
            refine Ev.istore rfl rfl rfl ?_
            refine Ev.iload rfl rfl ?_
            refine Ev.zeq (tgt := 192) rfl (by decide) (fun c154 => absurd c154 (by decide)) (fun c154 => ?_)
            refine Ev.iload rfl rfl ?_
            refine Ev.zeq (tgt := 192) rfl (by decide) (fun c159 => absurd c159 (by decide)) (fun c159 => ?_)
            refine Ev.aload_n rfl rfl ?_
            refine Ev.iload rfl rfl ?_
            refine Ev.iload rfl rfl ?_
            refine Ev.aload_n rfl rfl ?_
            refine Ev.iload rfl rfl ?_
            refine Ev.iload rfl rfl ?_
            refine Ev.cV2 rfl rfl m0 rfl rfl (by decide) ⟨(Nat.le_refl _), (Nat.le_refl _)⟩ (m_step_ok hM hS hs hwS k (by omega)) ?_
            refine Ev.cV3 rfl rfl m0 rfl rfl (by decide) ⟨(Nat.le_refl _), (Nat.le_refl _)⟩ (m_plain_ok hM hS hs hwS (hP.2 k0 (by omega)) (by omega) (hwP.2 k0 (by omega)) (hgo k0 (by omega)).1 _ ((hwS.2.2.1 _ (by omega)).1.mono (by decide) (by decide))) ?_
            refine Ev.aload_n rfl rfl ?_
            refine Ev.getf rfl rfl m0 rfl ?_
            refine Ev.iload rfl rfl ?_
            refine Ev.bipush (v := 11) rfl (by decide) ?_
            refine Ev.iadd rfl ?_
            refine Ev.ialdN (k := 610 + 120 * i + 11) rfl m1 (nq_to (a := 610 + 120 * i + 11) (nq_add (a := 610 + 120 * i) (b := 11) rfl (rfl : (11 : Int32) = nI 11)) (by omega)) ⟨(by omega), by decide⟩ ?_
            rw [show A (610 + 120 * i + 11) = _ from hS.2.2.1 9 (by decide)]
            refine Ev.iadd rfl ?_
            refine Ev.goto (tgt := 204) rfl (by decide) ?_
            refine Ev.istore rfl rfl rfl ?_
            refine Ev.iload rfl rfl ?_
            refine Ev.iload rfl rfl ?_
            refine Ev.aload_n rfl rfl ?_
            refine Ev.iload rfl rfl ?_
            refine Ev.iload rfl rfl ?_
            refine Ev.cV2 rfl rfl m0 rfl rfl (by decide) ⟨(Nat.le_refl _), (Nat.le_refl _)⟩ (m_leaves_W hM hS hs hwS (bc1_inS hn16 (hgo k0 hkk).2)) ?_
            refine Ev.imul rfl ?_
            refine Ev.bipush (v := 100) rfl (by decide) ?_
            refine Ev.idiv rfl (by decide) ?_
            refine Ev.iadd rfl ?_
            refine Ev.istore rfl rfl rfl ?_
            refine Ev.iinc (d := 1) rfl rfl rfl (by decide) rfl ?_
            refine Ev.goto (tgt := 85) rfl (by decide) ?_
            have hF : (F_m_more_85_2 T i j k0 st) k z = ((1 : Int32), z.2 + ((((K_alone (tS T i) ((tP T j).2 k0) ((tS T i).2.2 0 k)) + ((tS T i).2.2 9 9)) * (K_part (tS T i) ((K_bc ((tP T j).2 k0 5)) + (1 : Int32)))) / (100 : Int32))) := by
              unfold F_m_more_85_2
              rw [if_neg c104]
              rw [if_pos c125]
              rw [if_pos c137]
            rw [hF] at hx
            exact hx.fg (gs rfl (gn (gn (gn (gs rfl (gs rfl (gs rfl (gs rfl (gs rfl (gs rfl (gs rfl (gs rfl (gs (congrArg Value.int (show nI (k + 1) = (nI k) + (1 : Int32) from (nq_to (a := k + 1) (nq_add (a := k) (b := 1) rfl (rfl : (1 : Int32) = nI 1)) (by omega)).symm)) (gn (gn gz)))))))))))))))
      · skip
        refine Ev.goto (tgt := 225) rfl (by decide) ?_
        refine Ev.iinc (d := 1) rfl rfl rfl (by decide) rfl ?_
        refine Ev.goto (tgt := 85) rfl (by decide) ?_
        have hF : (F_m_more_85_2 T i j k0 st) k z = (z.1, z.2) := by
          unfold F_m_more_85_2
          rw [if_pos c104]
        rw [hF] at hx
        exact hx.fg (gs rfl (gn (gn (gn (gs rfl (gs rfl (gs rfl (gs rfl (gs rfl (gs rfl (gs rfl (gs rfl (gs (congrArg Value.int (show nI (k + 1) = (nI k) + (1 : Int32) from (nq_to (a := k + 1) (nq_add (a := k) (b := 1) rfl (rfl : (1 : Int32) = nI 1)) (by omega)).symm)) (gn (gn gz)))))))))))))))
    · skip
      refine Ev.iload rfl rfl ?_
      refine Ev.aload_n rfl rfl ?_
      refine Ev.getf rfl rfl m0 rfl ?_
      refine Ev.iload rfl rfl ?_
      refine Ev.ialdN (k := 610 + 120 * i) rfl m1 (nq_to (a := 610 + 120 * i) rfl (by omega)) ⟨(by omega), by decide⟩ ?_
      rw [hS.1]
      refine Ev.jge (tgt := 231) rfl (by decide) (fun c94 => ?_) (fun c94 => absurd c94 (nI_nlt (Nat.le_refl _) (by omega)))
      refine Ev.aload_n rfl rfl ?_
      refine Ev.iload rfl rfl ?_
      refine Ev.iload rfl rfl ?_
      refine Ev.iload rfl rfl ?_
      refine Ev.cV3 rfl rfl m0 rfl rfl (by decide) ⟨(Nat.le_refl _), (Nat.le_refl _)⟩ (m_plain_ok hM hS hs hwS (hP.2 k0 (by omega)) (by omega) (hwP.2 k0 (by omega)) (hgo k0 (by omega)).1 _ (hst.mono (by decide) (by decide))) ?_
      refine Ev.iload rfl rfl ?_
      refine Ev.zeq (tgt := 264) rfl (by decide) (fun c243 => absurd c243 (by decide)) (fun c243 => ?_)
      refine Ev.iload rfl rfl ?_
      refine Ev.zeq (tgt := 264) rfl (by decide) (fun c248 => ?_) (fun c248 => ?_)
      · skip
        refine Ev.iconst (v := 0) rfl (by decide) ?_
        refine Ev.iadd rfl ?_
        refine Ev.istore rfl rfl rfl ?_
        refine Ev.iload rfl rfl ?_
        refine Ev.iload rfl rfl ?_
        refine Ev.aload_n rfl rfl ?_
        refine Ev.iload rfl rfl ?_
        refine Ev.iload rfl rfl ?_
        refine Ev.cV2 rfl rfl m0 rfl rfl (by decide) ⟨(Nat.le_refl _), (Nat.le_refl _)⟩ (m_leaves_W hM hS hs hwS (bc1_inS hn16 (hgo k0 hkk).2)) ?_
        refine Ev.imul rfl ?_
        refine Ev.bipush (v := 100) rfl (by decide) ?_
        refine Ev.idiv rfl (by decide) ?_
        refine Ev.iadd rfl ?_
        refine Ev.aload_n rfl rfl ?_
        refine Ev.iload rfl rfl ?_
        refine Ev.iload rfl rfl ?_
        refine Ev.iload rfl rfl ?_
        refine Ev.cV3 rfl rfl m0 rfl rfl (by decide) ⟨(Nat.le_refl _), (Nat.le_refl _)⟩ (m_tog_W hM hS hs hwS (hP.2 k0 (by omega)) (by omega) (hwP.2 k0 (by omega)) (hgo k0 (by omega)).1 (hgo k0 (by omega)).2) ?_
        refine Ev.isub rfl ?_
        refine Ev.iret (ty := .int) rfl rfl rfl (Nat.le_refl _) (Nat.le_refl _) ?_
        rw [← hQ]
        refine ⟨congrArg (fun v => some (Value.int v)) (Eq.symm ?_), rfl⟩
        unfold K_m_more
        rw [if_pos c66]
        rw [if_pos c248]
      · skip
        refine Ev.aload_n rfl rfl ?_
        refine Ev.getf rfl rfl m0 rfl ?_
        refine Ev.iload rfl rfl ?_
        refine Ev.bipush (v := 11) rfl (by decide) ?_
        refine Ev.iadd rfl ?_
        refine Ev.ialdN (k := 610 + 120 * i + 11) rfl m1 (nq_to (a := 610 + 120 * i + 11) (nq_add (a := 610 + 120 * i) (b := 11) rfl (rfl : (11 : Int32) = nI 11)) (by omega)) ⟨(by omega), by decide⟩ ?_
        rw [show A (610 + 120 * i + 11) = _ from hS.2.2.1 9 (by decide)]
        refine Ev.goto (tgt := 265) rfl (by decide) ?_
        refine Ev.iadd rfl ?_
        refine Ev.istore rfl rfl rfl ?_
        refine Ev.iload rfl rfl ?_
        refine Ev.iload rfl rfl ?_
        refine Ev.aload_n rfl rfl ?_
        refine Ev.iload rfl rfl ?_
        refine Ev.iload rfl rfl ?_
        refine Ev.cV2 rfl rfl m0 rfl rfl (by decide) ⟨(Nat.le_refl _), (Nat.le_refl _)⟩ (m_leaves_W hM hS hs hwS (bc1_inS hn16 (hgo k0 hkk).2)) ?_
        refine Ev.imul rfl ?_
        refine Ev.bipush (v := 100) rfl (by decide) ?_
        refine Ev.idiv rfl (by decide) ?_
        refine Ev.iadd rfl ?_
        refine Ev.aload_n rfl rfl ?_
        refine Ev.iload rfl rfl ?_
        refine Ev.iload rfl rfl ?_
        refine Ev.iload rfl rfl ?_
        refine Ev.cV3 rfl rfl m0 rfl rfl (by decide) ⟨(Nat.le_refl _), (Nat.le_refl _)⟩ (m_tog_W hM hS hs hwS (hP.2 k0 (by omega)) (by omega) (hwP.2 k0 (by omega)) (hgo k0 (by omega)).1 (hgo k0 (by omega)).2) ?_
        refine Ev.isub rfl ?_
        refine Ev.iret (ty := .int) rfl rfl rfl (Nat.le_refl _) (Nat.le_refl _) ?_
        rw [← hQ]
        refine ⟨congrArg (fun v => some (Value.int v)) (Eq.symm ?_), rfl⟩
        unfold K_m_more
        rw [if_pos c66]
        rw [if_neg c248]
end
end
