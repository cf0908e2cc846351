/-! Printed by sym.py: sharing out (class). -/
noncomputable section
section
variable {Γ : ex_G} {σ : ex_S} {x q a p y : Nat} {S : Sch} {T : Tol} {P : Pln} {g A : Nat → Int32}
def K_most (n : Nat) (be : Nat → Int32) : Int32 := (((be ((2 ^ n) - 1)) + (65536 : Int32)) - (1 : Int32)) / (65536 : Int32)
theorem most_ok {n : Nat} {wo be we : Nat → Int32} (hsh : σ.2 (q) = some (.inr (.inr (7, [.ref (q + 1), .int (nI n), .ref (q + 2), .ref (q + 3)])))) (h_who : σ.2 (q + 1) = some (.inl (0, 8, wo))) (h_best : σ.2 (q + 2) = some (.inl (0, 256, be))) (h_worth : σ.2 (q + 3) = some (.inl (0, 256, we))) (hn8 : n ≤ 8) : RetV Γ m_Sharing_most [(.ref q)] σ (.int (K_most n be)) := by
  obtain ⟨hp1, hp2⟩ := pow8 hn8
  unfold RetV
  generalize hQ : (fun (r : Option Value) (σ' : ex_S) => r = some ((.int (K_most n be)) : Value) ∧ σ' = σ) = Q
  refine Ret.start pm_140 rfl ?_
  refine Ev.aload_n rfl rfl ?_
  refine Ev.getf rfl rfl hsh rfl ?_
  refine Ev.iconst (v := 1) rfl (by decide) ?_
  refine Ev.aload_n rfl rfl ?_
  refine Ev.getf rfl rfl hsh rfl ?_
  refine Ev.ishl rfl ?_
  refine Ev.iconst (v := 1) rfl (by decide) ?_
  refine Ev.isub rfl ?_
  refine Ev.ialdN (k := (2 ^ n) - 1) rfl h_best (nq_sub (a := 2 ^ n) (b := 1) (nq_shl rfl (by omega)) (rfl : (1 : Int32) = nI 1) (by omega)) ⟨(by omega), by decide⟩ ?_
  refine Ev.ldc (v := (65536)) rfl rfl ?_
  refine Ev.iadd rfl ?_
  refine Ev.iconst (v := 1) rfl (by decide) ?_
  refine Ev.isub rfl ?_
  refine Ev.ldc (v := (65536)) rfl rfl ?_
  refine Ev.idiv rfl (by decide) ?_
  refine Ev.iret (ty := .int) rfl rfl rfl (Nat.le_refl _) (Nat.le_refl _) ?_
  rw [← hQ]
  refine ⟨congrArg (fun v => some (Value.int v)) (Eq.symm ?_), rfl⟩
  rfl
def K_classOf (n : Nat) (be : Nat → Int32) (l : Nat) : Int32 := ((((K_most n be) * (65536 : Int32)) - (be ((2 ^ n) - 1))) >>> (((2 : Int32) * ((7 : Int32) - (nI l))) &&& 31)) &&& (3 : Int32)
theorem classOf_ok {n : Nat} {wo be we : Nat → Int32} (hsh : σ.2 (q) = some (.inr (.inr (7, [.ref (q + 1), .int (nI n), .ref (q + 2), .ref (q + 3)])))) (h_who : σ.2 (q + 1) = some (.inl (0, 8, wo))) (h_best : σ.2 (q + 2) = some (.inl (0, 256, be))) (h_worth : σ.2 (q + 3) = some (.inl (0, 256, we))) (hn8 : n ≤ 8) {l : Nat} (hl : l < 8) : RetV Γ m_Sharing_classOf [(.ref q), (.int (nI l))] σ (.int (K_classOf n be l)) := by
  obtain ⟨hp1, hp2⟩ := pow8 hn8
  unfold RetV
  generalize hQ : (fun (r : Option Value) (σ' : ex_S) => r = some ((.int (K_classOf n be l)) : Value) ∧ σ' = σ) = Q
  refine Ret.start pm_141 rfl ?_
  refine Ev.iload_n rfl rfl ?_
  refine Ev.zlt (tgt := 10) rfl (by decide) (fun c1 => absurd c1 (nI_pos (by omega))) (fun c1 => ?_)
  refine Ev.iload_n rfl rfl ?_
  refine Ev.bipush (v := 8) rfl (by decide) ?_
  refine Ev.jlt (tgt := 12) rfl (by decide) (fun c7 => ?_) (fun c7 => absurd (nI_lt (b := 8) hl (by omega)) c7)
  refine Ev.aload_n rfl rfl ?_
  refine Ev.cV0 rfl rfl hsh rfl rfl (by decide) ⟨(Nat.le_refl _), (Nat.le_refl _)⟩ (most_ok hsh h_who h_best h_worth (by omega)) ?_
  refine Ev.ldc (v := (65536)) rfl rfl ?_
  refine Ev.imul rfl ?_
  refine Ev.aload_n rfl rfl ?_
  refine Ev.getf rfl rfl hsh rfl ?_
  refine Ev.iconst (v := 1) rfl (by decide) ?_
  refine Ev.aload_n rfl rfl ?_
  refine Ev.getf rfl rfl hsh rfl ?_
  refine Ev.ishl rfl ?_
  refine Ev.iconst (v := 1) rfl (by decide) ?_
  refine Ev.isub rfl ?_
  refine Ev.ialdN (k := (2 ^ n) - 1) rfl h_best (nq_sub (a := 2 ^ n) (b := 1) (nq_shl rfl (by omega)) (rfl : (1 : Int32) = nI 1) (by omega)) ⟨(by omega), by decide⟩ ?_
  refine Ev.isub rfl ?_
  refine Ev.istore_n rfl rfl rfl ?_
  refine Ev.iload_n rfl rfl ?_
  refine Ev.iconst (v := 2) rfl (by decide) ?_
  refine Ev.bipush (v := 7) rfl (by decide) ?_
  refine Ev.iload_n rfl rfl ?_
  refine Ev.isub rfl ?_
  refine Ev.imul rfl ?_
  refine Ev.ishr rfl ?_
  refine Ev.iconst (v := 3) rfl (by decide) ?_
  refine Ev.iand rfl ?_
  refine Ev.iret (ty := .int) rfl rfl rfl (Nat.le_refl _) (Nat.le_refl _) ?_
  rw [← hQ]
  refine ⟨congrArg (fun v => some (Value.int v)) (Eq.symm ?_), rfl⟩
  rfl
end
end

