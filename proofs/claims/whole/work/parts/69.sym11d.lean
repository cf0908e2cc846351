/-! Printed by sym.py: sharing out (class). -/
noncomputable section
section
variable {Γ : ex_G} {σ : ex_S} {x q a p y : Nat} {S : Sch} {T : Tol} {P : Pln} {g A : Nat → Int32}
def F_give_18 (n : Nat) (be we : Nat → Int32) (z : Int32 × (Nat → Int32)) : (Int32 × Int32) → (Int32 × Int32) ⊕ Int32 := fun z' => if z'.2 < (0 : Int32) then (.inr z'.1) else (if (we ((z'.2).toNatClampNeg)) = (-1000000000 : Int32) then (if z'.2 = (0 : Int32) then (.inl (z'.1, (-1 : Int32))) else (.inl (z'.1, (z'.2 - (1 : Int32)) &&& z.1))) else (if z'.2 = (0 : Int32) then (.inl (if z'.1 < ((we ((z'.2).toNatClampNeg)) + (z.2 ((z.1 &&& (z'.2 ^^^ (-1 : Int32))).toNatClampNeg))) then (we ((z'.2).toNatClampNeg)) + (z.2 ((z.1 &&& (z'.2 ^^^ (-1 : Int32))).toNatClampNeg)) else z'.1, (-1 : Int32))) else (.inl (if z'.1 < ((we ((z'.2).toNatClampNeg)) + (z.2 ((z.1 &&& (z'.2 ^^^ (-1 : Int32))).toNatClampNeg))) then (we ((z'.2).toNatClampNeg)) + (z.2 ((z.1 &&& (z'.2 ^^^ (-1 : Int32))).toNatClampNeg)) else z'.1, (z'.2 - (1 : Int32)) &&& z.1))))
def F_give_9 (n : Nat) (be we : Nat → Int32) : (Int32 × (Nat → Int32)) → (Int32 × (Nat → Int32)) ⊕ (Nat → Int32) := fun z => if z.1 < (0 : Int32) then (.inr z.2) else (.inl (z.1 + (-1 : Int32), (upd z.2 ((z.1).toNatClampNeg) (fw (F_give_18 n be we z) (0 : Int32) (z.1.toNatClampNeg + 2) ((-1000000000 : Int32), z.1)))))
theorem give_m18 {n : Nat} {be we : Nat → Int32} {z : Int32 × (Nat → Int32)} {s0 : Nat} (hs : s0 < 2 ^ 31) (e : z.1 = nI s0) (u u' : Int32 × Int32) (hj : J_sub s0 u.2) (h : F_give_18 n be we z u = .inl u') : J_sub s0 u'.2 ∧ mu_sub u'.2 < mu_sub u.2 := by
  unfold F_give_18 at h
  by_cases c : u.2 < 0
  · rw [if_pos c] at h
    cases h
  · rw [if_neg c] at h
    obtain ⟨h1, h2, -⟩ := sub_next2 hs hj c
    rw [← e] at h2
    split at h
    · split at h
      · cases h
        exact h1 (by assumption)
      · cases h
        exact h2 (by assumption)
    · split at h
      · cases h
        exact h1 (by assumption)
      · cases h
        exact h2 (by assumption)
theorem give_m9 {n : Nat} {be we : Nat → Int32} {s0 : Nat} (hs : s0 < 2 ^ 31) (u u' : Int32 × (Nat → Int32)) (hj : J_sub s0 u.1) (h : F_give_9 n be we u = .inl u') : J_sub s0 u'.1 ∧ mu_sub u'.1 < mu_sub u.1 := by
  unfold F_give_9 at h
  by_cases c : u.1 < 0
  · rw [if_pos c] at h
    cases h
  · rw [if_neg c] at h
    obtain rfl := Sum.inl.inj h
    exact (sub_next2 hs hj c).2.2
def K_give (n : Nat) (be we : Nat → Int32) : (Nat → Int32) := (fw (F_give_9 n be we) be (2 ^ n + 2) (nI ((2 ^ n) - 1), be))
theorem give_ok {n : Nat} {wo be we : Nat → Int32} (hsh : σ.2 (q) = some (.inr (.inr (7, [.ref (q + 1), .int (nI n), .ref (q + 2), .ref (q + 3)])))) (h_who : σ.2 (q + 1) = some (.inl (0, 8, wo))) (h_best : σ.2 (q + 2) = some (.inl (0, 256, be))) (h_worth : σ.2 (q + 3) = some (.inl (0, 256, we))) (hn8 : n ≤ 8) : RetX Γ m_Sharing_give [(.ref q)] σ q (q + 4) none (fun τ => τ.2 (q + 2) = some (.inl (0, 256, (K_give n be we))) ∧ τ.2 q = some (.inr (.inr (7, [(.ref (q + 1)), (.int (nI n)), (.ref (q + 2)), (.ref (q + 3))]))) ∧ τ.2 (q + 1) = some (.inl (0, 8, wo)) ∧ τ.2 (q + 3) = some (.inl (0, 256, we))) := by
  obtain ⟨hp1, hp2⟩ := pow8 hn8
  unfold RetX
  generalize hQ : (fun (r : Option Value) (τ : ex_S) => r = none ∧ frm σ τ q (q + 4) ∧ (fun τ : ex_S => τ.2 (q + 2) = some (.inl (0, 256, (K_give n be we))) ∧ τ.2 q = some (.inr (.inr (7, [(.ref (q + 1)), (.int (nI n)), (.ref (q + 2)), (.ref (q + 3))]))) ∧ τ.2 (q + 1) = some (.inl (0, 8, wo)) ∧ τ.2 (q + 3) = some (.inl (0, 256, we))) τ) = Q
  refine Ret.start pm_144 rfl ?_
  have fr : frm σ σ q (q + 4) := frm.rf
  refine Ev.iconst (v := 1) rfl (by decide) ?_
  refine Ev.aload_n rfl rfl ?_
  refine Ev.getf rfl rfl hsh rfl ?_
  refine Ev.ishl rfl ?_
  refine Ev.iconst (v := 1) rfl (by decide) ?_
  refine Ev.isub rfl ?_
  rw [show ((1 : Int32) <<< ((nI n) &&& 31)) - (1 : Int32) = nI ((2 ^ n) - 1) from (nq_sub (a := 2 ^ n) (b := 1) (nq_shl rfl (by omega)) (rfl : (1 : Int32) = nI 1) (by omega))]
  refine Ev.istore_n rfl rfl rfl ?_
  refine Ev.fg (L := [some (.ref q), some (.int (nI ((2 ^ n) - 1))), none, none]) ?_ (gs rfl (gs rfl (gn (gn gz))))
  refine lw (fun (z : Int32 × (Nat → Int32)) => ∀ τ' : ex_S, frm σ τ' q (q + 4) → τ'.2 q = some (.inr (.inr (7, [(.ref (q + 1)), (.int (nI n)), (.ref (q + 2)), (.ref (q + 3))]))) → τ'.2 (q + 1) = some (.inl (0, 8, wo)) → τ'.2 (q + 2) = some (.inl (0, 256, z.2)) → τ'.2 (q + 3) = some (.inl (0, 256, we)) → Ev Γ 0 0 m_Sharing_give 0 0 9 [some (.ref q), some (.int z.1), none, none] [] τ' Q) (fun (r : (Nat → Int32)) => ∀ τ' : ex_S, frm σ τ' q (q + 4) → τ'.2 q = some (.inr (.inr (7, [(.ref (q + 1)), (.int (nI n)), (.ref (q + 2)), (.ref (q + 3))]))) → τ'.2 (q + 1) = some (.inl (0, 8, wo)) → τ'.2 (q + 2) = some (.inl (0, 256, r)) → τ'.2 (q + 3) = some (.inl (0, 256, we)) → Ev Γ 0 0 m_Sharing_give 0 0 85 [none, none, none, none] [] τ' Q) (F_give_9 n be we) be (fun z => J_sub (2 ^ n - 1) z.1) (fun z => mu_sub z.1) (give_m9 (s0 := 2 ^ n - 1) (by omega)) (fun z hj hx he => ?_) (2 ^ n + 2) (nI ((2 ^ n) - 1), be) (Or.inr ⟨_, Nat.le_refl _, rfl⟩) (by unfold mu_sub; rw [if_neg (nI_pos (by omega)), nI_clamp (by omega)]; omega) ?_ σ fr hsh h_who h_best h_worth
  · skip
    intro τ' fr hsh h_who h_best h_worth
    refine Ev.iload_n rfl rfl ?_
    refine Ev.zlt (tgt := 85) rfl (by decide) (fun c10 => ?_) (fun c10 => ?_)
    · skip
      have hF : (F_give_9 n be we)  z = .inr z.2 := by
        unfold F_give_9
        rw [if_pos c10]
      exact (he _ hF τ' fr hsh h_who h_best h_worth).fg (gn (gn (gn (gn gz))))
    · skip
      have hb2 := (J_nat hj (by omega) c10).2
      refine Ev.ldc (v := (-1000000000)) rfl rfl ?_
      refine Ev.istore_n rfl rfl rfl ?_
      refine Ev.iload_n rfl rfl ?_
      refine Ev.istore_n rfl rfl rfl ?_
      refine Ev.fg (L := [some (.ref q), some (.int z.1), some (.int (-1000000000 : Int32)), some (.int z.1)]) ?_ (gs rfl (gs rfl (gs rfl (gs rfl gz))))
      refine lw (fun (z' : Int32 × Int32) => Ev Γ 0 0 m_Sharing_give 0 0 18 [some (.ref q), some (.int z.1), some (.int z'.1), some (.int z'.2)] [] τ' Q) (fun (r : Int32) => Ev Γ 0 0 m_Sharing_give 0 0 72 [some (.ref q), some (.int z.1), some (.int r), none] [] τ' Q) (F_give_18 n be we z) (0 : Int32) (fun z' => J_sub z.1.toNatClampNeg z'.2) (fun z' => mu_sub z'.2) (give_m18 (s0 := z.1.toNatClampNeg) (by omega) (J_nat hj (by omega) c10).1) (fun z' hj' hx he => ?_) (z.1.toNatClampNeg + 2) ((-1000000000 : Int32), z.1) (Or.inr ⟨_, Nat.le_refl _, (J_nat hj (by omega) c10).1⟩) (by show mu_sub z.1 < _; unfold mu_sub; rw [if_neg c10]; omega) ?_
      · skip
        refine Ev.iload_n rfl rfl ?_
        refine Ev.zlt (tgt := 72) rfl (by decide) (fun c19 => ?_) (fun c19 => ?_)
        · skip
          have hF : (F_give_18 n be we z)  z' = .inr z'.1 := by
            unfold F_give_18
            rw [if_pos c19]
          exact (he _ hF).fg (gs rfl (gs rfl (gs rfl (gn gz))))
        · skip
          have hb1 := (J_nat hj' (by omega) c19).2
          have hb3 := (and_nat (w := (z'.2 ^^^ (-1 : Int32))) (J_nat hj (by omega) c10).1 (by omega)).2
          refine Ev.aload_n rfl rfl ?_
          refine Ev.getf rfl rfl hsh rfl ?_
          refine Ev.iload_n rfl rfl ?_
          refine Ev.ialdN (k := (z'.2).toNatClampNeg) rfl h_worth (J_nat hj' (by omega) c19).1 ⟨(by omega), by decide⟩ ?_
          refine Ev.ldc (v := (-1000000000)) rfl rfl ?_
          refine Ev.jeq (tgt := 55) rfl (by decide) (fun c30 => ?_) (fun c30 => ?_)
          · skip
            refine Ev.iload_n rfl rfl ?_
            refine Ev.zne (tgt := 63) rfl (by decide) (fun c56 => ?_) (fun c56 => ?_)
            · skip
              refine Ev.iload_n rfl rfl ?_
              refine Ev.iconst (v := 1) rfl (by decide) ?_
              refine Ev.isub rfl ?_
              refine Ev.iload_n rfl rfl ?_
              refine Ev.iand rfl ?_
              refine Ev.istore_n rfl rfl rfl ?_
              refine Ev.goto (tgt := 18) rfl (by decide) ?_
              have hF : (F_give_18 n be we z)  z' = .inl (z'.1, (z'.2 - (1 : Int32)) &&& z.1) := by
                unfold F_give_18
                rw [if_neg c19]
                rw [if_pos c30]
                rw [if_neg c56]
              exact (hx _ hF).fg (gs rfl (gs rfl (gs rfl (gs rfl gz))))
            · skip
              refine Ev.iconst (v := (-1)) rfl (by decide) ?_
              refine Ev.goto (tgt := 68) rfl (by decide) ?_
              refine Ev.istore_n rfl rfl rfl ?_
              refine Ev.goto (tgt := 18) rfl (by decide) ?_
              have hF : (F_give_18 n be we z)  z' = .inl (z'.1, (-1 : Int32)) := by
                unfold F_give_18
                rw [if_neg c19]
                rw [if_pos c30]
                rw [if_pos c56]
              exact (hx _ hF).fg (gs rfl (gs rfl (gs rfl (gs rfl gz))))
          · skip
            refine Ev.iload_n rfl rfl ?_
            refine Ev.aload_n rfl rfl ?_
            refine Ev.getf rfl rfl hsh rfl ?_
            refine Ev.iload_n rfl rfl ?_
            refine Ev.ialdN (k := (z'.2).toNatClampNeg) rfl h_worth (J_nat hj' (by omega) c19).1 ⟨(by omega), by decide⟩ ?_
            refine Ev.aload_n rfl rfl ?_
            refine Ev.getf rfl rfl hsh rfl ?_
            refine Ev.iload_n rfl rfl ?_
            refine Ev.iload_n rfl rfl ?_
            refine Ev.iconst (v := (-1)) rfl (by decide) ?_
            refine Ev.ixor rfl ?_
            refine Ev.iand rfl ?_
            refine Ev.ialdN (k := (z.1 &&& (z'.2 ^^^ (-1 : Int32))).toNatClampNeg) rfl h_best (and_nat (J_nat hj (by omega) c10).1 (by omega)).1 ⟨(by omega), by decide⟩ ?_
            refine Ev.iadd rfl ?_
            refine Ev.mmax rfl rfl rfl (Nat.le_of_ble_eq_true rfl) ⟨(Nat.le_refl _), (Nat.le_refl _)⟩ ?_
            refine Ev.istore_n rfl rfl rfl ?_
            refine Ev.iload_n rfl rfl ?_
            refine Ev.zne (tgt := 63) rfl (by decide) (fun c56 => ?_) (fun c56 => ?_)
            · skip
              refine Ev.iload_n rfl rfl ?_
              refine Ev.iconst (v := 1) rfl (by decide) ?_
              refine Ev.isub rfl ?_
              refine Ev.iload_n rfl rfl ?_
              refine Ev.iand rfl ?_
              refine Ev.istore_n rfl rfl rfl ?_
              refine Ev.goto (tgt := 18) rfl (by decide) ?_
              have hF : (F_give_18 n be we z)  z' = .inl (if z'.1 < ((we ((z'.2).toNatClampNeg)) + (z.2 ((z.1 &&& (z'.2 ^^^ (-1 : Int32))).toNatClampNeg))) then (we ((z'.2).toNatClampNeg)) + (z.2 ((z.1 &&& (z'.2 ^^^ (-1 : Int32))).toNatClampNeg)) else z'.1, (z'.2 - (1 : Int32)) &&& z.1) := by
                unfold F_give_18
                rw [if_neg c19]
                rw [if_neg c30]
                rw [if_neg c56]
              exact (hx _ hF).fg (gs rfl (gs rfl (gs rfl (gs rfl gz))))
            · skip
              refine Ev.iconst (v := (-1)) rfl (by decide) ?_
              refine Ev.goto (tgt := 68) rfl (by decide) ?_
              refine Ev.istore_n rfl rfl rfl ?_
              refine Ev.goto (tgt := 18) rfl (by decide) ?_
              have hF : (F_give_18 n be we z)  z' = .inl (if z'.1 < ((we ((z'.2).toNatClampNeg)) + (z.2 ((z.1 &&& (z'.2 ^^^ (-1 : Int32))).toNatClampNeg))) then (we ((z'.2).toNatClampNeg)) + (z.2 ((z.1 &&& (z'.2 ^^^ (-1 : Int32))).toNatClampNeg)) else z'.1, (-1 : Int32)) := by
                unfold F_give_18
                rw [if_neg c19]
                rw [if_neg c30]
                rw [if_pos c56]
              exact (hx _ hF).fg (gs rfl (gs rfl (gs rfl (gs rfl gz))))
      · skip
        refine Ev.aload_n rfl rfl ?_
        refine Ev.getf rfl rfl hsh rfl ?_
        refine Ev.iload_n rfl rfl ?_
        refine Ev.iload_n rfl rfl ?_
        refine Ev.iastE (k := (z.1).toNatClampNeg) rfl h_best (J_nat hj (by omega) c10).1 ⟨(by omega), by decide⟩ (fun τ1 f1 h_best => ?_)
        have hsh := frm.cell f1 hsh (by omega)
        have h_who := frm.cell f1 h_who (by omega)
        have h_worth := frm.cell f1 h_worth (by omega)
        have fr := fr.step f1 (by omega) (by omega)
        refine Ev.iinc (d := (-1)) rfl rfl rfl (by decide) rfl ?_
        refine Ev.goto (tgt := 9) rfl (by decide) ?_
        have hF : (F_give_9 n be we)  z = .inl (z.1 + (-1 : Int32), (upd z.2 ((z.1).toNatClampNeg) (fw (F_give_18 n be we z) (0 : Int32) (z.1.toNatClampNeg + 2) ((-1000000000 : Int32), z.1)))) := by
          unfold F_give_9
          rw [if_neg c10]
        exact (hx _ hF τ1 fr hsh h_who h_best h_worth).fg (gs rfl (gs rfl (gn (gn gz))))
  · skip
    intro τ' fr hsh h_who h_best h_worth
    refine Ev.ret rfl rfl (Nat.le_refl _) (Nat.le_refl _) ?_
    have hK : (K_give n be we) = (fw (F_give_9 n be we) be (2 ^ n + 2) (nI ((2 ^ n) - 1), be)) := by rfl
    rw [← hQ]
    dsimp only
    rw [hK]
    exact ⟨rfl, fr, h_best, hsh, h_who, h_worth⟩
end
end

