/-! Printed by sym.py: sharing out (class). -/
noncomputable section
section
variable {Γ : ex_G} {σ : ex_S} {x q a p y : Nat} {S : Sch} {T : Tol} {P : Pln} {g A : Nat → Int32}
def F_rank_4 (n : Nat) (w : Int32) : Nat → Int32 → Int32 := fun k z => z + (((w >>> ((nI k) &&& 31)) &&& (1 : Int32)) <<< (((2 : Int32) * ((7 : Int32) - (nI k))) &&& 31))
def K_rank (n : Nat) (w : Int32) : Int32 := (fo (F_rank_4 n w) (n) 0 (0 : Int32))
theorem rank_ok {n : Nat} {wo be we : Nat → Int32} (hsh : σ.2 (q) = some (.inr (.inr (7, [.ref (q + 1), .int (nI n), .ref (q + 2), .ref (q + 3)])))) (h_who : σ.2 (q + 1) = some (.inl (0, 8, wo))) (h_best : σ.2 (q + 2) = some (.inl (0, 256, be))) (h_worth : σ.2 (q + 3) = some (.inl (0, 256, we))) (hn8 : n ≤ 8) (w : Int32) : RetV Γ m_Sharing_rank [(.ref q), (.int w)] σ (.int (K_rank n w)) := by
  unfold RetV
  generalize hQ : (fun (r : Option Value) (σ' : ex_S) => r = some ((.int (K_rank n w)) : Value) ∧ σ' = σ) = Q
  refine Ret.start pm_145 rfl ?_
  refine Ev.iconst (v := 0) rfl (by decide) ?_
  refine Ev.istore_n rfl rfl rfl ?_
  refine Ev.iconst (v := 0) rfl (by decide) ?_
  refine Ev.istore_n rfl rfl rfl ?_
  refine Ev.fg (L := [some (.ref q), some (.int w), some (.int (0 : Int32)), some (.int (nI 0))]) ?_ (gs rfl (gs rfl (gs rfl (gs (congrArg Value.int (rfl : (0 : Int32) = nI 0).symm) gz))))
  refine lp (fun (k : Nat) (z : Int32) => Ev Γ 0 0 m_Sharing_rank 0 0 4 [some (.ref q), some (.int w), some (.int z), some (.int (nI k))] [] σ Q) (F_rank_4 n w) (n) (fun k z hk hx => ?_) (n) 0 (0 : Int32) (by omega) ?_
  · skip
    refine Ev.iload_n rfl rfl ?_
    refine Ev.aload_n rfl rfl ?_
    refine Ev.getf rfl rfl hsh rfl ?_
    refine Ev.jge (tgt := 33) rfl (by decide) (fun c9 => absurd (nI_lt hk (by omega)) c9) (fun c9 => ?_)
    refine Ev.iload_n rfl rfl ?_
    refine Ev.iload_n rfl rfl ?_
    refine Ev.iload_n rfl rfl ?_
    refine Ev.ishr rfl ?_
    refine Ev.iconst (v := 1) rfl (by decide) ?_
    refine Ev.iand rfl ?_
    refine Ev.iconst (v := 2) rfl (by decide) ?_
    refine Ev.bipush (v := 7) rfl (by decide) ?_
    refine Ev.iload_n rfl rfl ?_
    refine Ev.isub rfl ?_
    refine Ev.imul rfl ?_
    refine Ev.ishl rfl ?_
    refine Ev.iadd rfl ?_
    refine Ev.istore_n rfl rfl rfl ?_
    refine Ev.iinc (d := 1) rfl rfl rfl (by decide) rfl ?_
    refine Ev.goto (tgt := 4) rfl (by decide) ?_
    have hF : (F_rank_4 n w) k z = z + (((w >>> ((nI k) &&& 31)) &&& (1 : Int32)) <<< (((2 : Int32) * ((7 : Int32) - (nI k))) &&& 31)) := by rfl
    rw [hF] at hx
    exact hx.fg (gs rfl (gs rfl (gs rfl (gs (congrArg Value.int (show nI (k + 1) = (nI k) + (1 : Int32) from (nq_to (a := k + 1) (nq_add (a := k) (b := 1) rfl (rfl : (1 : Int32) = nI 1)) (by omega)).symm)) gz))))
  · skip
    refine Ev.iload_n rfl rfl ?_
    refine Ev.aload_n rfl rfl ?_
    refine Ev.getf rfl rfl hsh rfl ?_
    refine Ev.jge (tgt := 33) rfl (by decide) (fun c9 => ?_) (fun c9 => absurd c9 (nI_nlt (Nat.le_refl _) (by omega)))
    refine Ev.iload_n rfl rfl ?_
    refine Ev.iret (ty := .int) rfl rfl rfl (Nat.le_refl _) (Nat.le_refl _) ?_
    rw [← hQ]
    refine ⟨congrArg (fun v => some (Value.int v)) (Eq.symm ?_), rfl⟩
    rfl
def F_lOf_4 (n : Nat) (wo : Nat → Int32) (w : Int32) : Nat → Int32 → Int32 := fun k z => z ||| (((w >>> ((nI k) &&& 31)) &&& (1 : Int32)) <<< ((wo k) &&& 31))
def K_lOf (n : Nat) (wo : Nat → Int32) (w : Int32) : Int32 := (fo (F_lOf_4 n wo w) (n) 0 (0 : Int32))
theorem lOf_ok {n : Nat} {wo be we : Nat → Int32} (hsh : σ.2 (q) = some (.inr (.inr (7, [.ref (q + 1), .int (nI n), .ref (q + 2), .ref (q + 3)])))) (h_who : σ.2 (q + 1) = some (.inl (0, 8, wo))) (h_best : σ.2 (q + 2) = some (.inl (0, 256, be))) (h_worth : σ.2 (q + 3) = some (.inl (0, 256, we))) (hn8 : n ≤ 8) (w : Int32) : RetV Γ m_Sharing_learnersOf [(.ref q), (.int w)] σ (.int (K_lOf n wo w)) := by
  unfold RetV
  generalize hQ : (fun (r : Option Value) (σ' : ex_S) => r = some ((.int (K_lOf n wo w)) : Value) ∧ σ' = σ) = Q
  refine Ret.start pm_146 rfl ?_
  refine Ev.iconst (v := 0) rfl (by decide) ?_
  refine Ev.istore_n rfl rfl rfl ?_
  refine Ev.iconst (v := 0) rfl (by decide) ?_
  refine Ev.istore_n rfl rfl rfl ?_
  refine Ev.fg (L := [some (.ref q), some (.int w), some (.int (0 : Int32)), some (.int (nI 0))]) ?_ (gs rfl (gs rfl (gs rfl (gs (congrArg Value.int (rfl : (0 : Int32) = nI 0).symm) gz))))
  refine lp (fun (k : Nat) (z : Int32) => Ev Γ 0 0 m_Sharing_learnersOf 0 0 4 [some (.ref q), some (.int w), some (.int z), some (.int (nI k))] [] σ Q) (F_lOf_4 n wo w) (n) (fun k z hk hx => ?_) (n) 0 (0 : Int32) (by omega) ?_
  · skip
    refine Ev.iload_n rfl rfl ?_
    refine Ev.aload_n rfl rfl ?_
    refine Ev.getf rfl rfl hsh rfl ?_
    refine Ev.jge (tgt := 33) rfl (by decide) (fun c9 => absurd (nI_lt hk (by omega)) c9) (fun c9 => ?_)
    refine Ev.iload_n rfl rfl ?_
    refine Ev.iload_n rfl rfl ?_
    refine Ev.iload_n rfl rfl ?_
    refine Ev.ishr rfl ?_
    refine Ev.iconst (v := 1) rfl (by decide) ?_
    refine Ev.iand rfl ?_
    refine Ev.aload_n rfl rfl ?_
    refine Ev.getf rfl rfl hsh rfl ?_
    refine Ev.iload_n rfl rfl ?_
    refine Ev.ialdN (k := k) rfl h_who rfl ⟨(by omega), by decide⟩ ?_
    refine Ev.ishl rfl ?_
    refine Ev.ior rfl ?_
    refine Ev.istore_n rfl rfl rfl ?_
    refine Ev.iinc (d := 1) rfl rfl rfl (by decide) rfl ?_
    refine Ev.goto (tgt := 4) rfl (by decide) ?_
    have hF : (F_lOf_4 n wo w) k z = z ||| (((w >>> ((nI k) &&& 31)) &&& (1 : Int32)) <<< ((wo k) &&& 31)) := by rfl
    rw [hF] at hx
    exact hx.fg (gs rfl (gs rfl (gs rfl (gs (congrArg Value.int (show nI (k + 1) = (nI k) + (1 : Int32) from (nq_to (a := k + 1) (nq_add (a := k) (b := 1) rfl (rfl : (1 : Int32) = nI 1)) (by omega)).symm)) gz))))
  · skip
    refine Ev.iload_n rfl rfl ?_
    refine Ev.aload_n rfl rfl ?_
    refine Ev.getf rfl rfl hsh rfl ?_
    refine Ev.jge (tgt := 33) rfl (by decide) (fun c9 => ?_) (fun c9 => absurd c9 (nI_nlt (Nat.le_refl _) (by omega)))
    refine Ev.iload_n rfl rfl ?_
    refine Ev.iret (ty := .int) rfl rfl rfl (Nat.le_refl _) (Nat.le_refl _) ?_
    rw [← hQ]
    refine ⟨congrArg (fun v => some (Value.int v)) (Eq.symm ?_), rfl⟩
    rfl
end
end

