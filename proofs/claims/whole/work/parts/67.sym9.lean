/-! Printed by sym.py: fewest, on both sides; feed. -/
noncomputable section
section
variable {Γ : ex_G} {σ : ex_S} {x q a p y : Nat} {S : Sch} {T : Tol} {P : Pln} {g A : Nat → Int32}
variable {wh : Nat → Int32}
theorem nq_shl {y : Int32} {b : Nat} (hy : y = nI b) (h : b < 31) : (1 : Int32) <<< (y &&& 31) = nI (2 ^ b) := by subst hy; exact shl1_nI b h
theorem ltN {k N : Nat} {y : Int32} (h : k < N) (p : y = nI N) (hN : N < 2 ^ 31) : nI k < y := by subst p; exact nI_lt h hN
theorem nltN {N : Nat} {y : Int32} (p : y = nI N) (hN : N < 2 ^ 31) : ¬ nI N < y := by subst p; exact nI_nlt (Nat.le_refl _) hN
theorem pow6 {n : Nat} (h : n ≤ 6) : 2 ^ n ≤ 64 := Nat.pow_le_pow_right (by decide) h
/-- a loop without a counter: F gives the next state, or what is left behind; d where n steps are too few -/
def fw {T U : Type} (F : T → T ⊕ U) (d : U) : Nat → T → U
  | 0, _ => d
  | n + 1, z => Sum.elim (fun z' => fw F d n z') (fun r => r) (F z)
theorem fw_succ {T U : Type} (F : T → T ⊕ U) (d : U) (n : Nat) (z : T) : fw F d (n + 1) z = Sum.elim (fun z' => fw F d n z') (fun r => r) (F z) := rfl
theorem lw {T U : Type} (P : T → Prop) (E : U → Prop) (F : T → T ⊕ U) (d : U) (J : T → Prop) (mu : T → Nat) (hm : ∀ z z', J z → F z = .inl z' → J z' ∧ mu z' < mu z) (hs : ∀ z, J z → (∀ z', F z = .inl z' → P z') → (∀ r, F z = .inr r → E r) → P z) : ∀ n z, J z → mu z < n → E (fw F d n z) → P z := by
  intro n
  induction n with
  | zero => intro z _ h _; omega
  | succ n ih =>
    intro z hj h he
    refine hs z hj (fun z' hz => ?_) (fun r hr => ?_)
    · obtain ⟨a, b⟩ := hm z z' hj hz
      refine ih z' a (by omega) ?_
      rw [fw_succ, hz, Sum.elim_inl] at he
      exact he
    · rw [fw_succ, hr, Sum.elim_inr] at he
      exact he
/-- a set of classes, or -1 behind the last -/
def J_sub (s0 : Nat) (z : Int32) : Prop := z = -1 ∨ ∃ m, m ≤ s0 ∧ z = nI m
def mu_sub (z : Int32) : Nat := if z < 0 then 0 else z.toNatClampNeg + 1
theorem sub_next {s0 : Nat} {z : Int32} (hs : s0 < 64) (h : J_sub s0 z) (h0 : ¬ z < 0) : (z = 0 → J_sub s0 (-1) ∧ mu_sub (-1) < mu_sub z) ∧ (¬ z = 0 → J_sub s0 ((z - 1) &&& nI s0) ∧ mu_sub ((z - 1) &&& nI s0) < mu_sub z) := by
  rcases h with rfl | ⟨m, hm, rfl⟩
  · exact absurd (by decide) h0
  · refine ⟨fun e => ⟨Or.inl rfl, ?_⟩, fun e => ?_⟩
    · unfold mu_sub
      rw [if_pos (by decide), if_neg h0]
      omega
    · obtain ⟨q, rfl⟩ : ∃ q, m = q + 1 := ⟨m - 1, by
        have : m ≠ 0 := fun c => e (by rw [c]; rfl)
        omega⟩
      rw [nI_pred, and_nI (by omega) (by omega)]
      have h1 : q &&& s0 ≤ q := Nat.and_le_left
      refine ⟨Or.inr ⟨_, by omega, rfl⟩, ?_⟩
      unfold mu_sub
      rw [if_neg (nI_pos (by omega)), if_neg h0, nI_clamp (by omega), nI_clamp (by omega)]
      omega
def F_allCan_15 (S : Sch) (wh : Nat → Int32) (s0 : Nat) (z : Int32) : Nat → (Int32 × Int32) → (Int32 × Int32) := fun k' z' => if (((wh k') &&& (nI s0)) &&& (z ^^^ (-1 : Int32))) = (0 : Int32) then (if ((wh k') &&& z) = (0 : Int32) then (z'.1 + (1 : Int32), z'.2 + (0 : Int32)) else (z'.1 + (1 : Int32), z'.2 + (1 : Int32))) else (if ((wh k') &&& z) = (0 : Int32) then (z'.1 + (0 : Int32), z'.2 + (0 : Int32)) else (z'.1 + (0 : Int32), z'.2 + (1 : Int32)))
def F_allCan_2 (S : Sch) (wh : Nat → Int32) (s0 : Nat) : Int32 → (Int32) ⊕ Int32 := fun z => if z < (0 : Int32) then (.inr (1 : Int32)) else (if (((S.2.2 9) 3) * (K_bc z)) < ((fo (F_allCan_15 S wh s0 z) (S.1) 0 ((0 : Int32), (0 : Int32))).1) then (.inr (0 : Int32)) else (if ((fo (F_allCan_15 S wh s0 z) (S.1) 0 ((0 : Int32), (0 : Int32))).2) < (((S.2.2 9) 2) * (K_bc z)) then (.inr (0 : Int32)) else (if z = (0 : Int32) then (.inl (-1 : Int32)) else (.inl ((z - (1 : Int32)) &&& (nI s0))))))
theorem allCan_m {S : Sch} {wh : Nat → Int32} {s0 : Nat} (hs : s0 < 64) (z z' : Int32) (hj : J_sub s0 z) (h : F_allCan_2 S wh s0 z = .inl z') : J_sub s0 z' ∧ mu_sub z' < mu_sub z := by
  unfold F_allCan_2 at h
  by_cases c : z < 0
  · rw [if_pos c] at h
    cases h
  · rw [if_neg c] at h
    obtain ⟨h1, h2⟩ := sub_next hs hj c
    split at h
    · cases h
    · split at h
      · cases h
      · split at h
        · cases h
          exact h1 (by assumption)
        · cases h
          exact h2 (by assumption)
def K_allCan (S : Sch) (wh : Nat → Int32) (s0 : Nat) : Int32 := (fw (F_allCan_2 S wh s0) (0 : Int32) (s0 + 2) (nI s0))
theorem allCan_ok (hX : isX σ x) (hwh : σ.2 (x + 116) = some (.inl (0, 16, wh))) (hS : isS σ a S) (hn16 : S.1 ≤ 16) {s0 : Nat} (hs0 : s0 < 64) : RetV Γ m_SD_allCanSit [(.ref x), (.ref a), (.int (nI s0))] σ (.int (K_allCan S wh s0)) := by
  obtain ⟨h0, h1, h2, h3, h4, h5, h6', h7, h8, h9, h10⟩ := id hS
  unfold RetV
  generalize hQ : (fun (r : Option Value) (σ' : ex_S) => r = some ((.int (K_allCan S wh s0)) : Value) ∧ σ' = σ) = Q
  refine Ret.start pm_56 rfl ?_
  refine Ev.iload_n rfl rfl ?_
  refine Ev.istore_n rfl rfl rfl ?_
  refine Ev.fg (L := [some (.ref x), some (.ref a), some (.int (nI s0)), some (.int (nI s0)), none, none, none]) ?_ (gs rfl (gs rfl (gs rfl (gs rfl (gn (gn (gn gz)))))))
  refine lw (fun (z : Int32) => Ev Γ 0 0 m_SD_allCanSit 0 0 2 [some (.ref x), some (.ref a), some (.int (nI s0)), some (.int z), none, none, none] [] σ Q) (fun (r : Int32) => Q (some (.int r)) σ) (F_allCan_2 S wh s0) (0 : Int32) (fun z => J_sub s0 z) (fun z => mu_sub z) (allCan_m hs0) (fun z hj hx he => ?_) (s0 + 2) (nI s0) (Or.inr ⟨s0, Nat.le_refl _, rfl⟩) (by unfold mu_sub; rw [if_neg (nI_pos (by omega)), nI_clamp (by omega)]; omega) ?_
  · skip
    refine Ev.iload_n rfl rfl ?_
    refine Ev.zlt (tgt := 131) rfl (by decide) (fun c3 => ?_) (fun c3 => ?_)
    · skip
      refine Ev.iconst (v := 1) rfl (by decide) ?_
      refine Ev.iret (ty := .boolean) rfl rfl rfl (Nat.le_refl _) (Nat.le_refl _) ?_
      refine he _ ?_
      unfold F_allCan_2
      rw [if_pos c3]
    · skip
      refine Ev.iconst (v := 0) rfl (by decide) ?_
      refine Ev.istore rfl rfl rfl ?_
      refine Ev.iconst (v := 0) rfl (by decide) ?_
      refine Ev.istore rfl rfl rfl ?_
      refine Ev.iconst (v := 0) rfl (by decide) ?_
      refine Ev.istore rfl rfl rfl ?_
      refine Ev.fg (L := [some (.ref x), some (.ref a), some (.int (nI s0)), some (.int z), some (.int (0 : Int32)), some (.int (0 : Int32)), some (.int (nI 0))]) ?_ (gs rfl (gs rfl (gs rfl (gs rfl (gs rfl (gs rfl (gs (congrArg Value.int (rfl : (0 : Int32) = nI 0).symm) gz)))))))
      refine lp (fun (k' : Nat) (z' : Int32 × Int32) => Ev Γ 0 0 m_SD_allCanSit 0 0 15 [some (.ref x), some (.ref a), some (.int (nI s0)), some (.int z), some (.int z'.1), some (.int z'.2), some (.int (nI k'))] [] σ Q) (F_allCan_15 S wh s0 z) (S.1) (fun k' z' hk' hx' => ?_) (S.1) 0 ((0 : Int32), (0 : Int32)) (by omega) ?_
      · skip
        refine Ev.iload rfl rfl ?_
        refine Ev.aload_n rfl rfl ?_
        refine Ev.getf rfl rfl h0 rfl ?_
        refine Ev.jge (tgt := 78) rfl (by decide) (fun c21 => absurd (nI_lt hk' (by omega)) c21) (fun c21 => ?_)
        refine Ev.iload rfl rfl ?_
        refine Ev.aload_n rfl rfl ?_
        refine Ev.getf rfl rfl hX rfl ?_
        refine Ev.iload rfl rfl ?_
        refine Ev.ialdN (k := k') rfl hwh rfl ⟨(by omega), by decide⟩ ?_
        refine Ev.iload_n rfl rfl ?_
        refine Ev.iand rfl ?_
        refine Ev.iload_n rfl rfl ?_
        refine Ev.iconst (v := (-1)) rfl (by decide) ?_
        refine Ev.ixor rfl ?_
        refine Ev.iand rfl ?_
        refine Ev.zne (tgt := 46) rfl (by decide) (fun c39 => ?_) (fun c39 => ?_)
        · skip
          refine Ev.iconst (v := 0) rfl (by decide) ?_
          refine Ev.iadd rfl ?_
          refine Ev.istore rfl rfl rfl ?_
          refine Ev.iload rfl rfl ?_
          refine Ev.aload_n rfl rfl ?_
          refine Ev.getf rfl rfl hX rfl ?_
          refine Ev.iload rfl rfl ?_
          refine Ev.ialdN (k := k') rfl hwh rfl ⟨(by omega), by decide⟩ ?_
          refine Ev.iload_n rfl rfl ?_
          refine Ev.iand rfl ?_
          refine Ev.zeq (tgt := 68) rfl (by decide) (fun c61 => ?_) (fun c61 => ?_)
          · skip
            refine Ev.iconst (v := 0) rfl (by decide) ?_
            refine Ev.iadd rfl ?_
            refine Ev.istore rfl rfl rfl ?_
            refine Ev.iinc (d := 1) rfl rfl rfl (by decide) rfl ?_
            refine Ev.goto (tgt := 15) rfl (by decide) ?_
            have hF : (F_allCan_15 S wh s0 z) k' z' = (z'.1 + (0 : Int32), z'.2 + (0 : Int32)) := by
              unfold F_allCan_15
              rw [if_neg c39]
              rw [if_pos c61]
            rw [hF] at hx'
            exact hx'.fg (gs rfl (gs rfl (gs rfl (gs rfl (gs rfl (gs rfl (gs (congrArg Value.int (show nI (k' + 1) = (nI k') + (1 : Int32) from (nq_to (a := k' + 1) (nq_add (a := k') (b := 1) rfl (rfl : (1 : Int32) = nI 1)) (by omega)).symm)) gz)))))))
          · skip
            refine Ev.iconst (v := 1) rfl (by decide) ?_
            refine Ev.goto (tgt := 69) rfl (by decide) ?_
            refine Ev.iadd rfl ?_
            refine Ev.istore rfl rfl rfl ?_
            refine Ev.iinc (d := 1) rfl rfl rfl (by decide) rfl ?_
            refine Ev.goto (tgt := 15) rfl (by decide) ?_
            have hF : (F_allCan_15 S wh s0 z) k' z' = (z'.1 + (0 : Int32), z'.2 + (1 : Int32)) := by
              unfold F_allCan_15
              rw [if_neg c39]
              rw [if_neg c61]
            rw [hF] at hx'
            exact hx'.fg (gs rfl (gs rfl (gs rfl (gs rfl (gs rfl (gs rfl (gs (congrArg Value.int (show nI (k' + 1) = (nI k') + (1 : Int32) from (nq_to (a := k' + 1) (nq_add (a := k') (b := 1) rfl (rfl : (1 : Int32) = nI 1)) (by omega)).symm)) gz)))))))
        · skip
          refine Ev.iconst (v := 1) rfl (by decide) ?_
          refine Ev.goto (tgt := 47) rfl (by decide) ?_
          refine Ev.iadd rfl ?_
          refine Ev.istore rfl rfl rfl ?_
          refine Ev.iload rfl rfl ?_
          refine Ev.aload_n rfl rfl ?_
          refine Ev.getf rfl rfl hX rfl ?_
          refine Ev.iload rfl rfl ?_
          refine Ev.ialdN (k := k') rfl hwh rfl ⟨(by omega), by decide⟩ ?_
          refine Ev.iload_n rfl rfl ?_
          refine Ev.iand rfl ?_
          refine Ev.zeq (tgt := 68) rfl (by decide) (fun c61 => ?_) (fun c61 => ?_)
          · skip
            refine Ev.iconst (v := 0) rfl (by decide) ?_
            refine Ev.iadd rfl ?_
            refine Ev.istore rfl rfl rfl ?_
            refine Ev.iinc (d := 1) rfl rfl rfl (by decide) rfl ?_
            refine Ev.goto (tgt := 15) rfl (by decide) ?_
            have hF : (F_allCan_15 S wh s0 z) k' z' = (z'.1 + (1 : Int32), z'.2 + (0 : Int32)) := by
              unfold F_allCan_15
              rw [if_pos c39]
              rw [if_pos c61]
            rw [hF] at hx'
            exact hx'.fg (gs rfl (gs rfl (gs rfl (gs rfl (gs rfl (gs rfl (gs (congrArg Value.int (show nI (k' + 1) = (nI k') + (1 : Int32) from (nq_to (a := k' + 1) (nq_add (a := k') (b := 1) rfl (rfl : (1 : Int32) = nI 1)) (by omega)).symm)) gz)))))))
          · skip
            refine Ev.iconst (v := 1) rfl (by decide) ?_
            refine Ev.goto (tgt := 69) rfl (by decide) ?_
            refine Ev.iadd rfl ?_
            refine Ev.istore rfl rfl rfl ?_
            refine Ev.iinc (d := 1) rfl rfl rfl (by decide) rfl ?_
            refine Ev.goto (tgt := 15) rfl (by decide) ?_
            have hF : (F_allCan_15 S wh s0 z) k' z' = (z'.1 + (1 : Int32), z'.2 + (1 : Int32)) := by
              unfold F_allCan_15
              rw [if_pos c39]
              rw [if_neg c61]
            rw [hF] at hx'
            exact hx'.fg (gs rfl (gs rfl (gs rfl (gs rfl (gs rfl (gs rfl (gs (congrArg Value.int (show nI (k' + 1) = (nI k') + (1 : Int32) from (nq_to (a := k' + 1) (nq_add (a := k') (b := 1) rfl (rfl : (1 : Int32) = nI 1)) (by omega)).symm)) gz)))))))
      · skip
        refine Ev.iload rfl rfl ?_
        refine Ev.aload_n rfl rfl ?_
        refine Ev.getf rfl rfl h0 rfl ?_
        refine Ev.jge (tgt := 78) rfl (by decide) (fun c21 => ?_) (fun c21 => absurd c21 (nI_nlt (Nat.le_refl _) (by omega)))
        refine Ev.iload_n rfl rfl ?_
        refine Ev.cS1 rfl rfl rfl (by decide) ⟨(Nat.le_refl _), (Nat.le_refl _)⟩ (bc_ok _) ?_
        refine Ev.istore rfl rfl rfl ?_
        refine Ev.iload rfl rfl ?_
        refine Ev.aload_n rfl rfl ?_
        refine Ev.getf rfl rfl h0 rfl ?_
        refine Ev.iconst (v := 3) rfl (by decide) ?_
        refine Ev.ialdN (k := 3) rfl h10 (rfl : (3 : Int32) = nI 3) ⟨(by omega), by decide⟩ ?_
        refine Ev.iload rfl rfl ?_
        refine Ev.imul rfl ?_
        refine Ev.jgt (tgt := 112) rfl (by decide) (fun c95 => ?_) (fun c95 => ?_)
        · skip
          refine Ev.iconst (v := 0) rfl (by decide) ?_
          refine Ev.iret (ty := .boolean) rfl rfl rfl (Nat.le_refl _) (Nat.le_refl _) ?_
          refine he _ ?_
          unfold F_allCan_2
          rw [if_neg c3]
          rw [if_pos c95]
        · skip
          refine Ev.iload rfl rfl ?_
          refine Ev.aload_n rfl rfl ?_
          refine Ev.getf rfl rfl h0 rfl ?_
          refine Ev.iconst (v := 2) rfl (by decide) ?_
          refine Ev.ialdN (k := 2) rfl h10 (rfl : (2 : Int32) = nI 2) ⟨(by omega), by decide⟩ ?_
          refine Ev.iload rfl rfl ?_
          refine Ev.imul rfl ?_
          refine Ev.jge (tgt := 114) rfl (by decide) (fun c109 => ?_) (fun c109 => ?_)
          · skip
            refine Ev.iload_n rfl rfl ?_
            refine Ev.zne (tgt := 122) rfl (by decide) (fun c115 => ?_) (fun c115 => ?_)
            · skip
              refine Ev.iload_n rfl rfl ?_
              refine Ev.iconst (v := 1) rfl (by decide) ?_
              refine Ev.isub rfl ?_
              refine Ev.iload_n rfl rfl ?_
              refine Ev.iand rfl ?_
              refine Ev.istore_n rfl rfl rfl ?_
              refine Ev.goto (tgt := 2) rfl (by decide) ?_
              have hF : (F_allCan_2 S wh s0)  z = .inl ((z - (1 : Int32)) &&& (nI s0)) := by
                unfold F_allCan_2
                rw [if_neg c3]
                rw [if_neg c95]
                rw [if_neg c109]
                rw [if_neg c115]
              exact (hx _ hF).fg (gs rfl (gs rfl (gs rfl (gs rfl (gn (gn (gn gz)))))))
            · skip
              refine Ev.iconst (v := (-1)) rfl (by decide) ?_
              refine Ev.goto (tgt := 127) rfl (by decide) ?_
              refine Ev.istore_n rfl rfl rfl ?_
              refine Ev.goto (tgt := 2) rfl (by decide) ?_
              have hF : (F_allCan_2 S wh s0)  z = .inl (-1 : Int32) := by
                unfold F_allCan_2
                rw [if_neg c3]
                rw [if_neg c95]
                rw [if_neg c109]
                rw [if_pos c115]
              exact (hx _ hF).fg (gs rfl (gs rfl (gs rfl (gs rfl (gn (gn (gn gz)))))))
          · skip
            refine Ev.iconst (v := 0) rfl (by decide) ?_
            refine Ev.iret (ty := .boolean) rfl rfl rfl (Nat.le_refl _) (Nat.le_refl _) ?_
            refine he _ ?_
            unfold F_allCan_2
            rw [if_neg c3]
            rw [if_neg c95]
            rw [if_pos c109]
  · skip
    rw [← hQ]
    refine ⟨congrArg (fun v => some (Value.int v)) (Eq.symm ?_), rfl⟩
    rfl
def F_fewestOf_2 (S : Sch) (P : Pln) (wh : Nat → Int32) : Nat → (Nat → Int32) → (Nat → Int32) := fun k z => (upd z k (K_where S P k))
def F_fewestOf_33 (S : Sch) (P : Pln) (wh : Nat → Int32) : Nat → Int32 → Int32 := fun k z => if z = (-1 : Int32) then (if (K_allCan S (fo (F_fewestOf_2 S P wh) (S.1) 0 wh) k) = (0 : Int32) then z else (nI k)) else (if (K_bc (nI k)) < (K_bc z) then (if (K_allCan S (fo (F_fewestOf_2 S P wh) (S.1) 0 wh) k) = (0 : Int32) then z else (nI k)) else z)
def K_fewestOf (S : Sch) (P : Pln) (wh : Nat → Int32) : Int32 × (Nat → Int32) := ((fo (F_fewestOf_33 S P wh) (2 ^ P.1) 0 (-1 : Int32)), (fo (F_fewestOf_2 S P wh) (S.1) 0 wh))
theorem fewestOf_ok (hX0 : isX σ x) (hwh : σ.2 (x + 116) = some (.inl (0, 16, wh))) (hS0 : isS σ a S) (hP0 : isP σ p P) (hn16 : S.1 ≤ 16) (h6 : P.1 ≤ 6) (ha : a + 11 ≤ x + 116) (hp : p + 8 ≤ x + 116) : RetX Γ m_SD_fewestOf [(.ref x), (.ref a), (.ref p)] σ (x + 116) (x + 117) (some (.int ((K_fewestOf S P wh).1))) (fun τ => τ.2 (x + 116) = some (.inl (0, 16, (K_fewestOf S P wh).2))) := by
  have h64 := pow6 h6
  unfold RetX
  generalize hQ : (fun (r : Option Value) (τ : ex_S) => r = some (.int ((K_fewestOf S P wh).1)) ∧ frm σ τ (x + 116) (x + 117) ∧ (fun τ : ex_S => τ.2 (x + 116) = some (.inl (0, 16, (K_fewestOf S P wh).2))) τ) = Q
  refine Ret.start pm_55 rfl ?_
  have fr : frm σ σ (x + 116) (x + 117) := frm.rf
  have hX := isX.frm hX0 fr (by omega)
  have hS := hS0.frm fr (by omega)
  obtain ⟨h0, h1, h2, h3, h4, h5, h6', h7, h8, h9, h10⟩ := id hS
  have hP := hP0.frm fr (by omega)
  obtain ⟨p0, ⟨pf, p1, p2⟩, p3⟩ := id hP
  refine Ev.iconst (v := 0) rfl (by decide) ?_
  refine Ev.istore_n rfl rfl rfl ?_
  refine Ev.fg (L := [some (.ref x), some (.ref a), some (.ref p), some (.int (nI 0)), none, none]) ?_ (gs rfl (gs rfl (gs rfl (gs (congrArg Value.int (rfl : (0 : Int32) = nI 0).symm) (gn (gn gz))))))
  refine lp (fun (k : Nat) (z : (Nat → Int32)) => ∀ τ' : ex_S, frm σ τ' (x + 116) (x + 117) → τ'.2 (x + 116) = some (.inl (0, 16, z)) → Ev Γ 0 0 m_SD_fewestOf 0 0 2 [some (.ref x), some (.ref a), some (.ref p), some (.int (nI k)), none, none] [] τ' Q) (F_fewestOf_2 S P wh) (S.1) (fun k z hk hx => ?_) (S.1) 0 wh (by omega) ?_ σ fr hwh
  · skip
    intro τ' fr hwh
    have hX := isX.frm hX0 fr (by omega)
    have hS := hS0.frm fr (by omega)
    obtain ⟨h0, h1, h2, h3, h4, h5, h6', h7, h8, h9, h10⟩ := id hS
    have hP := hP0.frm fr (by omega)
    obtain ⟨p0, ⟨pf, p1, p2⟩, p3⟩ := id hP
    refine Ev.iload_n rfl rfl ?_
    refine Ev.aload_n rfl rfl ?_
    refine Ev.getf rfl rfl h0 rfl ?_
    refine Ev.jge (tgt := 28) rfl (by decide) (fun c7 => absurd (nI_lt hk (by omega)) c7) (fun c7 => ?_)
    refine Ev.aload_n rfl rfl ?_
    refine Ev.getf rfl rfl hX rfl ?_
    refine Ev.iload_n rfl rfl ?_
    refine Ev.aload_n rfl rfl ?_
    refine Ev.aload_n rfl rfl ?_
    refine Ev.iload_n rfl rfl ?_
    refine Ev.cV2 rfl rfl h0 rfl rfl (by decide) ⟨(Nat.le_refl _), (Nat.le_refl _)⟩ (where_ok hS hP h6 k (by omega)) ?_
    refine Ev.iastE (k := k) rfl hwh rfl ⟨(by omega), by decide⟩ (fun τ1 f1 hwh => ?_)
    have fr := fr.step f1 (by omega) (by omega)
    have hX := isX.frm hX0 fr (by omega)
    have hS := hS0.frm fr (by omega)
    obtain ⟨h0, h1, h2, h3, h4, h5, h6', h7, h8, h9, h10⟩ := id hS
    have hP := hP0.frm fr (by omega)
    obtain ⟨p0, ⟨pf, p1, p2⟩, p3⟩ := id hP
    refine Ev.iinc (d := 1) rfl rfl rfl (by decide) rfl ?_
    refine Ev.goto (tgt := 2) rfl (by decide) ?_
    have hF : (F_fewestOf_2 S P wh) k z = (upd z k (K_where S P k)) := by rfl
    rw [hF] at hx
    exact (hx τ1 fr hwh).fg (gs rfl (gs rfl (gs rfl (gs (congrArg Value.int (show nI (k + 1) = (nI k) + (1 : Int32) from (nq_to (a := k + 1) (nq_add (a := k) (b := 1) rfl (rfl : (1 : Int32) = nI 1)) (by omega)).symm)) (gn (gn gz))))))
  · skip
    intro τ' fr hwh
    have hX := isX.frm hX0 fr (by omega)
    have hS := hS0.frm fr (by omega)
    obtain ⟨h0, h1, h2, h3, h4, h5, h6', h7, h8, h9, h10⟩ := id hS
    have hP := hP0.frm fr (by omega)
    obtain ⟨p0, ⟨pf, p1, p2⟩, p3⟩ := id hP
    refine Ev.iload_n rfl rfl ?_
    refine Ev.aload_n rfl rfl ?_
    refine Ev.getf rfl rfl h0 rfl ?_
    refine Ev.jge (tgt := 28) rfl (by decide) (fun c7 => ?_) (fun c7 => absurd c7 (nI_nlt (Nat.le_refl _) (by omega)))
    refine Ev.iconst (v := (-1)) rfl (by decide) ?_
    refine Ev.istore_n rfl rfl rfl ?_
    refine Ev.iconst (v := 0) rfl (by decide) ?_
    refine Ev.istore rfl rfl rfl ?_
    refine Ev.fg (L := [some (.ref x), some (.ref a), some (.ref p), some (.int (-1 : Int32)), some (.int (nI 0)), none]) ?_ (gs rfl (gs rfl (gs rfl (gs rfl (gs (congrArg Value.int (rfl : (0 : Int32) = nI 0).symm) (gn gz))))))
    refine lp (fun (k : Nat) (z : Int32) => Ev Γ 0 0 m_SD_fewestOf 0 0 33 [some (.ref x), some (.ref a), some (.ref p), some (.int z), some (.int (nI k)), none] [] τ' Q) (F_fewestOf_33 S P wh) (2 ^ P.1) (fun k z hk hx => ?_) (2 ^ P.1) 0 (-1 : Int32) (by omega) ?_
    · skip
      refine Ev.iload rfl rfl ?_
      refine Ev.iconst (v := 1) rfl (by decide) ?_
      refine Ev.aload_n rfl rfl ?_
      refine Ev.getf rfl rfl p0 rfl ?_
      refine Ev.ishl rfl ?_
      refine Ev.jge (tgt := 92) rfl (by decide) (fun c41 => absurd (ltN hk (nq_shl rfl (by omega)) (by omega)) c41) (fun c41 => ?_)
      refine Ev.iload_n rfl rfl ?_
      refine Ev.iconst (v := (-1)) rfl (by decide) ?_
      refine Ev.jeq (tgt := 61) rfl (by decide) (fun c46 => ?_) (fun c46 => ?_)
      · skip
        refine Ev.iconst (v := 1) rfl (by decide) ?_
        refine Ev.goto (tgt := 66) rfl (by decide) ?_
        refine Ev.istore rfl rfl rfl ?_
        refine Ev.iload rfl rfl ?_
        refine Ev.zeq (tgt := 86) rfl (by decide) (fun c70 => absurd c70 (by decide)) (fun c70 => ?_)
        refine Ev.aload_n rfl rfl ?_
        refine Ev.aload_n rfl rfl ?_
        refine Ev.iload rfl rfl ?_
        refine Ev.cV2 rfl rfl hX rfl rfl (by decide) ⟨(Nat.le_refl _), (Nat.le_refl _)⟩ (allCan_ok hX hwh hS hn16 (by have := Nat.pow_le_pow_right (show 0 < 2 by decide) h6; omega)) ?_
        refine Ev.zeq (tgt := 86) rfl (by decide) (fun c80 => ?_) (fun c80 => ?_)
        · skip
          refine Ev.iinc (d := 1) rfl rfl rfl (by decide) rfl ?_
          refine Ev.goto (tgt := 33) rfl (by decide) ?_
          have hF : (F_fewestOf_33 S P wh) k z = z := by
            unfold F_fewestOf_33
            rw [if_pos c46]
            rw [if_pos c80]
          rw [hF] at hx
          exact hx.fg (gs rfl (gs rfl (gs rfl (gs rfl (gs (congrArg Value.int (show nI (k + 1) = (nI k) + (1 : Int32) from (nq_to (a := k + 1) (nq_add (a := k) (b := 1) rfl (rfl : (1 : Int32) = nI 1)) (by omega)).symm)) (gn gz))))))
        · skip
          refine Ev.iload rfl rfl ?_
          refine Ev.istore_n rfl rfl rfl ?_
          refine Ev.iinc (d := 1) rfl rfl rfl (by decide) rfl ?_
          refine Ev.goto (tgt := 33) rfl (by decide) ?_
          have hF : (F_fewestOf_33 S P wh) k z = nI k := by
            unfold F_fewestOf_33
            rw [if_pos c46]
            rw [if_neg c80]
          rw [hF] at hx
          exact hx.fg (gs rfl (gs rfl (gs rfl (gs rfl (gs (congrArg Value.int (show nI (k + 1) = (nI k) + (1 : Int32) from (nq_to (a := k + 1) (nq_add (a := k) (b := 1) rfl (rfl : (1 : Int32) = nI 1)) (by omega)).symm)) (gn gz))))))
      · skip
        refine Ev.iload rfl rfl ?_
        refine Ev.cS1 rfl rfl rfl (by decide) ⟨(Nat.le_refl _), (Nat.le_refl _)⟩ (bc_ok _) ?_
        refine Ev.iload_n rfl rfl ?_
        refine Ev.cS1 rfl rfl rfl (by decide) ⟨(Nat.le_refl _), (Nat.le_refl _)⟩ (bc_ok _) ?_
        refine Ev.jge (tgt := 65) rfl (by decide) (fun c58 => ?_) (fun c58 => ?_)
        · skip
          refine Ev.iconst (v := 0) rfl (by decide) ?_
          refine Ev.istore rfl rfl rfl ?_
          refine Ev.iload rfl rfl ?_
          refine Ev.zeq (tgt := 86) rfl (by decide) (fun c70 => ?_) (fun c70 => absurd (by decide) c70)
          refine Ev.iinc (d := 1) rfl rfl rfl (by decide) rfl ?_
          refine Ev.goto (tgt := 33) rfl (by decide) ?_
          have hF : (F_fewestOf_33 S P wh) k z = z := by
            unfold F_fewestOf_33
            rw [if_neg c46]
            rw [if_neg c58]
          rw [hF] at hx
          exact hx.fg (gs rfl (gs rfl (gs rfl (gs rfl (gs (congrArg Value.int (show nI (k + 1) = (nI k) + (1 : Int32) from (nq_to (a := k + 1) (nq_add (a := k) (b := 1) rfl (rfl : (1 : Int32) = nI 1)) (by omega)).symm)) (gn gz))))))
        · skip
          refine Ev.iconst (v := 1) rfl (by decide) ?_
          refine Ev.goto (tgt := 66) rfl (by decide) ?_
          refine Ev.istore rfl rfl rfl ?_
          refine Ev.iload rfl rfl ?_
          refine Ev.zeq (tgt := 86) rfl (by decide) (fun c70 => absurd c70 (by decide)) (fun c70 => ?_)
          refine Ev.aload_n rfl rfl ?_
          refine Ev.aload_n rfl rfl ?_
          refine Ev.iload rfl rfl ?_
          refine Ev.cV2 rfl rfl hX rfl rfl (by decide) ⟨(Nat.le_refl _), (Nat.le_refl _)⟩ (allCan_ok hX hwh hS hn16 (by have := Nat.pow_le_pow_right (show 0 < 2 by decide) h6; omega)) ?_
          refine Ev.zeq (tgt := 86) rfl (by decide) (fun c80 => ?_) (fun c80 => ?_)
          · skip
            refine Ev.iinc (d := 1) rfl rfl rfl (by decide) rfl ?_
            refine Ev.goto (tgt := 33) rfl (by decide) ?_
            have hF : (F_fewestOf_33 S P wh) k z = z := by
              unfold F_fewestOf_33
              rw [if_neg c46]
              rw [if_pos c58]
              rw [if_pos c80]
            rw [hF] at hx
            exact hx.fg (gs rfl (gs rfl (gs rfl (gs rfl (gs (congrArg Value.int (show nI (k + 1) = (nI k) + (1 : Int32) from (nq_to (a := k + 1) (nq_add (a := k) (b := 1) rfl (rfl : (1 : Int32) = nI 1)) (by omega)).symm)) (gn gz))))))
          · skip
            refine Ev.iload rfl rfl ?_
            refine Ev.istore_n rfl rfl rfl ?_
            refine Ev.iinc (d := 1) rfl rfl rfl (by decide) rfl ?_
            refine Ev.goto (tgt := 33) rfl (by decide) ?_
            have hF : (F_fewestOf_33 S P wh) k z = nI k := by
              unfold F_fewestOf_33
              rw [if_neg c46]
              rw [if_pos c58]
              rw [if_neg c80]
            rw [hF] at hx
            exact hx.fg (gs rfl (gs rfl (gs rfl (gs rfl (gs (congrArg Value.int (show nI (k + 1) = (nI k) + (1 : Int32) from (nq_to (a := k + 1) (nq_add (a := k) (b := 1) rfl (rfl : (1 : Int32) = nI 1)) (by omega)).symm)) (gn gz))))))
    · skip
      refine Ev.iload rfl rfl ?_
      refine Ev.iconst (v := 1) rfl (by decide) ?_
      refine Ev.aload_n rfl rfl ?_
      refine Ev.getf rfl rfl p0 rfl ?_
      refine Ev.ishl rfl ?_
      refine Ev.jge (tgt := 92) rfl (by decide) (fun c41 => ?_) (fun c41 => absurd c41 (nltN (nq_shl rfl (by omega)) (by omega)))
      refine Ev.iload_n rfl rfl ?_
      refine Ev.iret (ty := .int) rfl rfl rfl (Nat.le_refl _) (Nat.le_refl _) ?_
      have hK : (K_fewestOf S P wh) = ((fo (F_fewestOf_33 S P wh) (2 ^ P.1) 0 (-1 : Int32)), (fo (F_fewestOf_2 S P wh) (S.1) 0 wh)) := by rfl
      rw [← hQ]
      dsimp only
      rw [hK]
      exact ⟨rfl, fr, hwh⟩
def K_fewest (T : Tol) (i j : Nat) (wh : Nat → Int32) : Int32 × (Nat → Int32) := ((K_fewestOf (tS T i) (tP T j) wh).1, (K_fewestOf (tS T i) (tP T j) wh).2)
theorem fewest_some (hX0 : isX σ x) (hT0 : isT σ (x + 1) T) (hw : wT T) {u v : Int32} {i j : Nat} (hg : gd T u v i j) {wh : Nat → Int32} (hwh : σ.2 (x + 116) = some (.inl (0, 16, wh))) : RetX Γ m_SD_fewest [(.ref x), .int u, .int v] σ (x + 116) (x + 117) (some (.int ((K_fewest T i j wh).1))) (fun τ => τ.2 (x + 116) = some (.inl (0, 16, (K_fewest T i j wh).2))) := by
  obtain ⟨rfl, hi, rfl, hj, hgo⟩ := hg
  have hw1 := hw.2.1
  have hw2 := hw.2.2.1
  have hwS := hw.2.2.2.1 i hi
  have hwP := hw.2.2.2.2 j hj
  have hn16 := hwS.1
  have hn5 := hwS.2.1
  have h6 := hwP.1
  have hokL : ∀ k, k < (tP T j).1 → okL (tS T i) ((tP T j).2 k) := fun k hk => goT_okL hwS (hgo k hk).1
  unfold RetX
  generalize hQ : (fun (r : Option Value) (τ : ex_S) => r = some (.int ((K_fewest T i j wh).1)) ∧ frm σ τ (x + 116) (x + 117) ∧ (fun τ : ex_S => τ.2 (x + 116) = some (.inl (0, 16, (K_fewest T i j wh).2))) τ) = Q
  refine Ret.start pm_18 rfl ?_
  have fr : frm σ σ (x + 116) (x + 117) := frm.rf
  have hX := isX.frm hX0 fr (by omega)
  have hT := isT.frm hT0 fr (by omega)
  obtain ⟨t0, t1, ⟨fs, t2, t3⟩, ⟨fp, t4, t5⟩, t6, t7⟩ := id hT
  have hSi := t6 i (by omega)
  obtain ⟨h0, h1, h2, h3, h4, h5, h6', h7, h8, h9, h10⟩ := id hSi
  have hPj := t7 j (by omega)
  obtain ⟨p0, ⟨pf, p1, p2⟩, p3⟩ := id hPj
  refine Ev.aload_n rfl rfl ?_
  refine Ev.iload_n rfl rfl ?_
  refine Ev.iload_n rfl rfl ?_
  refine Ev.cV2 rfl rfl hX rfl rfl (by decide) ⟨(Nat.le_refl _), (Nat.le_refl _)⟩ (going_some hX hT hw ⟨rfl, hi, rfl, hj, hgo⟩) ?_
  refine Ev.astore_n rfl rfl rfl ?_
  refine Ev.aload_n rfl rfl ?_
  refine Ev.getf rfl rfl hX rfl ?_
  refine Ev.iload_n rfl rfl ?_
  refine Ev.cV1 rfl rfl t0 rfl rfl (by decide) ⟨(Nat.le_refl _), (Nat.le_refl _)⟩ (schoolAt_some hT hw1 hi) ?_
  refine Ev.astore rfl rfl rfl ?_
  refine Ev.aload_n rfl rfl ?_
  refine Ev.ifnull rfl ?_
  refine Ev.aload rfl rfl ?_
  refine Ev.ifnonnull (tgt := 30) rfl (by decide) ?_
  refine Ev.aload_n rfl rfl ?_
  refine Ev.aload rfl rfl ?_
  refine Ev.aload_n rfl rfl ?_
  refine Ev.xV2 rfl rfl hX rfl rfl (by decide) ⟨(Nat.le_refl _), (Nat.le_refl _)⟩ (fewestOf_ok hX hwh hSi hPj hn16 h6 (by omega) (by omega)) (fun τ1 f1 q1 => ?_)
  have hwh := q1
  have fr := fr.step f1 (by omega) (by omega)
  have hX := isX.frm hX0 fr (by omega)
  have hT := isT.frm hT0 fr (by omega)
  obtain ⟨t0, t1, ⟨fs, t2, t3⟩, ⟨fp, t4, t5⟩, t6, t7⟩ := id hT
  have hSi := t6 i (by omega)
  obtain ⟨h0, h1, h2, h3, h4, h5, h6', h7, h8, h9, h10⟩ := id hSi
  have hPj := t7 j (by omega)
  obtain ⟨p0, ⟨pf, p1, p2⟩, p3⟩ := id hPj
  refine Ev.iret (ty := .int) rfl rfl rfl (Nat.le_refl _) (Nat.le_refl _) ?_
  have hK : (K_fewest T i j wh) = ((K_fewestOf (tS T i) (tP T j) wh).1, (K_fewestOf (tS T i) (tP T j) wh).2) := by rfl
  rw [← hQ]
  dsimp only
  rw [hK]
  exact ⟨rfl, fr, hwh⟩
def F_m_isEnough_27 (S : Sch) (vo : Nat → Int32) (s0 : Nat) (k : Nat) (z : Unit) : Nat → (Int32 × Int32) → (Int32 × Int32) := fun k' z' => if (((vo k') &&& (nI s0)) &&& ((nI k) ^^^ (-1 : Int32))) = (0 : Int32) then (if ((vo k') &&& (nI k)) = (0 : Int32) then (z'.1 + (1 : Int32), z'.2 + (0 : Int32)) else (z'.1 + (1 : Int32), z'.2 + (1 : Int32))) else (if ((vo k') &&& (nI k)) = (0 : Int32) then (z'.1 + (0 : Int32), z'.2 + (0 : Int32)) else (z'.1 + (0 : Int32), z'.2 + (1 : Int32)))
def F_m_isEnough_2 (S : Sch) (vo : Nat → Int32) (s0 : Nat) : Nat → Unit → (Unit) ⊕ Int32 := fun k z => if ((nI k) &&& ((nI s0) ^^^ (-1 : Int32))) = (0 : Int32) then (if ((S.2.2 9 3) * (K_many (nI k))) < ((fo (F_m_isEnough_27 S vo s0 k z) (S.1) 0 ((0 : Int32), (0 : Int32))).1) then (.inr (0 : Int32)) else (if ((fo (F_m_isEnough_27 S vo s0 k z) (S.1) 0 ((0 : Int32), (0 : Int32))).2) < ((S.2.2 9 2) * (K_many (nI k))) then (.inr (0 : Int32)) else (.inl ()))) else (.inl ())
def K_m_isEnough (S : Sch) (vo : Nat → Int32) (s0 : Nat) : Int32 := Sum.elim (fun (zx : Unit) => (1 : Int32)) (fun (rx : Int32) => rx) (fe (F_m_isEnough_2 S vo s0) (s0 + 1) 0 ())
theorem m_isEnough_ok (hM : isM σ y g A) {s : Nat} (hS : mS A s S) (hs : s + 120 ≤ 4500) (hwS : wS S) {vo : Nat → Int32} (m_open : σ.2 (y + 10) = some (.inl (0, 16, vo))) {s0 : Nat} (hs0 : s0 < 64) : RetV Γ m_M_isEnough [(.ref y), (.int (nI s)), (.int (nI s0))] σ (.int (K_m_isEnough S vo s0)) := by
  obtain ⟨m0, m1⟩ := id hM
  have hn16 := hwS.1
  have hn5 := hwS.2.1
  unfold RetV
  generalize hQ : (fun (r : Option Value) (σ' : ex_S) => r = some ((.int (K_m_isEnough S vo s0)) : Value) ∧ σ' = σ) = Q
  refine Ret.start pm_232 rfl ?_
  refine Ev.iconst (v := 0) rfl (by decide) ?_
  refine Ev.istore_n rfl rfl rfl ?_
  refine Ev.fg (L := [some (.ref y), some (.int (nI s)), some (.int (nI s0)), some (.int (nI 0)), none, none, none]) ?_ (gs rfl (gs rfl (gs rfl (gs (congrArg Value.int (rfl : (0 : Int32) = nI 0).symm) (gn (gn (gn gz)))))))
  refine lpe (fun (k : Nat) (z : Unit) => Ev Γ 0 0 m_M_isEnough 0 0 2 [some (.ref y), some (.int (nI s)), some (.int (nI s0)), some (.int (nI k)), none, none, none] [] σ Q) (fun (r : Int32) => Q (some (.int r)) σ) (F_m_isEnough_2 S vo s0) (s0 + 1) (fun k z hk hx he => ?_) (s0 + 1) 0 () (by omega) (fun zx hzx => ?_) (fun rx hrx => ?_)
  · skip
    refine Ev.iload_n rfl rfl ?_
    refine Ev.iload_n rfl rfl ?_
    refine Ev.jgt (tgt := 136) rfl (by decide) (fun c4 => absurd c4 (nI_nlt (by omega) (by omega))) (fun c4 => ?_)
    refine Ev.iload_n rfl rfl ?_
    refine Ev.iload_n rfl rfl ?_
    refine Ev.iconst (v := (-1)) rfl (by decide) ?_
    refine Ev.ixor rfl ?_
    refine Ev.iand rfl ?_
    refine Ev.zeq (tgt := 18) rfl (by decide) (fun c12 => ?_) (fun c12 => ?_)
    · skip
      refine Ev.iconst (v := 0) rfl (by decide) ?_
      refine Ev.istore rfl rfl rfl ?_
      refine Ev.iconst (v := 0) rfl (by decide) ?_
      refine Ev.istore rfl rfl rfl ?_
      refine Ev.iconst (v := 0) rfl (by decide) ?_
      refine Ev.istore rfl rfl rfl ?_
      refine Ev.fg (L := [some (.ref y), some (.int (nI s)), some (.int (nI s0)), some (.int (nI k)), some (.int (0 : Int32)), some (.int (0 : Int32)), some (.int (nI 0))]) ?_ (gs rfl (gs rfl (gs rfl (gs rfl (gs rfl (gs rfl (gs (congrArg Value.int (rfl : (0 : Int32) = nI 0).symm) gz)))))))
      refine lp (fun (k' : Nat) (z' : Int32 × Int32) => Ev Γ 0 0 m_M_isEnough 0 0 27 [some (.ref y), some (.int (nI s)), some (.int (nI s0)), some (.int (nI k)), some (.int z'.1), some (.int z'.2), some (.int (nI k'))] [] σ Q) (F_m_isEnough_27 S vo s0 k z) (S.1) (fun k' z' hk' hx' => ?_) (S.1) 0 ((0 : Int32), (0 : Int32)) (by omega) ?_
      · skip
        refine Ev.iload rfl rfl ?_
        refine Ev.aload_n rfl rfl ?_
        refine Ev.getf rfl rfl m0 rfl ?_
        refine Ev.iload_n rfl rfl ?_
        refine Ev.ialdN (k := s) rfl m1 (nq_to (a := s) rfl (by omega)) ⟨(by omega), by decide⟩ ?_
        rw [hS.1]
        refine Ev.jge (tgt := 92) rfl (by decide) (fun c35 => absurd (nI_lt hk' (by omega)) c35) (fun c35 => ?_)
        refine Ev.iload rfl rfl ?_
        refine Ev.aload_n rfl rfl ?_
        refine Ev.getf rfl rfl m0 rfl ?_
        refine Ev.iload rfl rfl ?_
        refine Ev.ialdN (k := k') rfl m_open rfl ⟨(by omega), by decide⟩ ?_
        refine Ev.iload_n rfl rfl ?_
        refine Ev.iand rfl ?_
        refine Ev.iload_n rfl rfl ?_
        refine Ev.iconst (v := (-1)) rfl (by decide) ?_
        refine Ev.ixor rfl ?_
        refine Ev.iand rfl ?_
        refine Ev.zne (tgt := 60) rfl (by decide) (fun c53 => ?_) (fun c53 => ?_)
        · skip
          refine Ev.iconst (v := 0) rfl (by decide) ?_
          refine Ev.iadd rfl ?_
          refine Ev.istore rfl rfl rfl ?_
          refine Ev.iload rfl rfl ?_
          refine Ev.aload_n rfl rfl ?_
          refine Ev.getf rfl rfl m0 rfl ?_
          refine Ev.iload rfl rfl ?_
          refine Ev.ialdN (k := k') rfl m_open rfl ⟨(by omega), by decide⟩ ?_
          refine Ev.iload_n rfl rfl ?_
          refine Ev.iand rfl ?_
          refine Ev.zeq (tgt := 82) rfl (by decide) (fun c75 => ?_) (fun c75 => ?_)
          · skip
            refine Ev.iconst (v := 0) rfl (by decide) ?_
            refine Ev.iadd rfl ?_
            refine Ev.istore rfl rfl rfl ?_
            refine Ev.iinc (d := 1) rfl rfl rfl (by decide) rfl ?_
            refine Ev.goto (tgt := 27) rfl (by decide) ?_
            have hF : (F_m_isEnough_27 S vo s0 k z) k' z' = (z'.1 + (0 : Int32), z'.2 + (0 : Int32)) := by
              unfold F_m_isEnough_27
              rw [if_neg c53]
              rw [if_pos c75]
            rw [hF] at hx'
            exact hx'.fg (gs rfl (gs rfl (gs rfl (gs rfl (gs rfl (gs rfl (gs (congrArg Value.int (show nI (k' + 1) = (nI k') + (1 : Int32) from (nq_to (a := k' + 1) (nq_add (a := k') (b := 1) rfl (rfl : (1 : Int32) = nI 1)) (by omega)).symm)) gz)))))))
          · skip
            refine Ev.iconst (v := 1) rfl (by decide) ?_
            refine Ev.goto (tgt := 83) rfl (by decide) ?_
            refine Ev.iadd rfl ?_
            refine Ev.istore rfl rfl rfl ?_
            refine Ev.iinc (d := 1) rfl rfl rfl (by decide) rfl ?_
            refine Ev.goto (tgt := 27) rfl (by decide) ?_
            have hF : (F_m_isEnough_27 S vo s0 k z) k' z' = (z'.1 + (0 : Int32), z'.2 + (1 : Int32)) := by
              unfold F_m_isEnough_27
              rw [if_neg c53]
              rw [if_neg c75]
            rw [hF] at hx'
            exact hx'.fg (gs rfl (gs rfl (gs rfl (gs rfl (gs rfl (gs rfl (gs (congrArg Value.int (show nI (k' + 1) = (nI k') + (1 : Int32) from (nq_to (a := k' + 1) (nq_add (a := k') (b := 1) rfl (rfl : (1 : Int32) = nI 1)) (by omega)).symm)) gz)))))))
        · skip
          refine Ev.iconst (v := 1) rfl (by decide) ?_
          refine Ev.goto (tgt := 61) rfl (by decide) ?_
          refine Ev.iadd rfl ?_
          refine Ev.istore rfl rfl rfl ?_
          refine Ev.iload rfl rfl ?_
          refine Ev.aload_n rfl rfl ?_
          refine Ev.getf rfl rfl m0 rfl ?_
          refine Ev.iload rfl rfl ?_
          refine Ev.ialdN (k := k') rfl m_open rfl ⟨(by omega), by decide⟩ ?_
          refine Ev.iload_n rfl rfl ?_
          refine Ev.iand rfl ?_
          refine Ev.zeq (tgt := 82) rfl (by decide) (fun c75 => ?_) (fun c75 => ?_)
          · skip
            refine Ev.iconst (v := 0) rfl (by decide) ?_
            refine Ev.iadd rfl ?_
            refine Ev.istore rfl rfl rfl ?_
            refine Ev.iinc (d := 1) rfl rfl rfl (by decide) rfl ?_
            refine Ev.goto (tgt := 27) rfl (by decide) ?_
            have hF : (F_m_isEnough_27 S vo s0 k z) k' z' = (z'.1 + (1 : Int32), z'.2 + (0 : Int32)) := by
              unfold F_m_isEnough_27
              rw [if_pos c53]
              rw [if_pos c75]
            rw [hF] at hx'
            exact hx'.fg (gs rfl (gs rfl (gs rfl (gs rfl (gs rfl (gs rfl (gs (congrArg Value.int (show nI (k' + 1) = (nI k') + (1 : Int32) from (nq_to (a := k' + 1) (nq_add (a := k') (b := 1) rfl (rfl : (1 : Int32) = nI 1)) (by omega)).symm)) gz)))))))
          · skip
            refine Ev.iconst (v := 1) rfl (by decide) ?_
            refine Ev.goto (tgt := 83) rfl (by decide) ?_
            refine Ev.iadd rfl ?_
            refine Ev.istore rfl rfl rfl ?_
            refine Ev.iinc (d := 1) rfl rfl rfl (by decide) rfl ?_
            refine Ev.goto (tgt := 27) rfl (by decide) ?_
            have hF : (F_m_isEnough_27 S vo s0 k z) k' z' = (z'.1 + (1 : Int32), z'.2 + (1 : Int32)) := by
              unfold F_m_isEnough_27
              rw [if_pos c53]
              rw [if_neg c75]
            rw [hF] at hx'
            exact hx'.fg (gs rfl (gs rfl (gs rfl (gs rfl (gs rfl (gs rfl (gs (congrArg Value.int (show nI (k' + 1) = (nI k') + (1 : Int32) from (nq_to (a := k' + 1) (nq_add (a := k') (b := 1) rfl (rfl : (1 : Int32) = nI 1)) (by omega)).symm)) gz)))))))
      · skip
        refine Ev.iload rfl rfl ?_
        refine Ev.aload_n rfl rfl ?_
        refine Ev.getf rfl rfl m0 rfl ?_
        refine Ev.iload_n rfl rfl ?_
        refine Ev.ialdN (k := s) rfl m1 (nq_to (a := s) rfl (by omega)) ⟨(by omega), by decide⟩ ?_
        rw [hS.1]
        refine Ev.jge (tgt := 92) rfl (by decide) (fun c35 => ?_) (fun c35 => absurd c35 (nI_nlt (Nat.le_refl _) (by omega)))
        refine Ev.iload rfl rfl ?_
        refine Ev.aload_n rfl rfl ?_
        refine Ev.getf rfl rfl m0 rfl ?_
        refine Ev.iload_n rfl rfl ?_
        refine Ev.iconst (v := 5) rfl (by decide) ?_
        refine Ev.iadd rfl ?_
        refine Ev.ialdN (k := s + 5) rfl m1 (nq_to (a := s + 5) (nq_add (a := s) (b := 5) rfl (rfl : (5 : Int32) = nI 5)) (by omega)) ⟨(by omega), by decide⟩ ?_
        rw [show A (s + 5) = _ from hS.2.2.1 3 (by decide)]
        refine Ev.iload_n rfl rfl ?_
        refine Ev.cS1 rfl rfl rfl (by decide) ⟨(Nat.le_refl _), (Nat.le_refl _)⟩ (m_many_ok _) ?_
        refine Ev.imul rfl ?_
        refine Ev.jgt (tgt := 128) rfl (by decide) (fun c107 => ?_) (fun c107 => ?_)
        · skip
          refine Ev.iconst (v := 0) rfl (by decide) ?_
          refine Ev.iret (ty := .boolean) rfl rfl rfl (Nat.le_refl _) (Nat.le_refl _) ?_
          refine he _ ?_
          unfold F_m_isEnough_2
          rw [if_pos c12]
          rw [if_pos c107]
        · skip
          refine Ev.iload rfl rfl ?_
          refine Ev.aload_n rfl rfl ?_
          refine Ev.getf rfl rfl m0 rfl ?_
          refine Ev.iload_n rfl rfl ?_
          refine Ev.iconst (v := 4) rfl (by decide) ?_
          refine Ev.iadd rfl ?_
          refine Ev.ialdN (k := s + 4) rfl m1 (nq_to (a := s + 4) (nq_add (a := s) (b := 4) rfl (rfl : (4 : Int32) = nI 4)) (by omega)) ⟨(by omega), by decide⟩ ?_
          rw [show A (s + 4) = _ from hS.2.2.1 2 (by decide)]
          refine Ev.iload_n rfl rfl ?_
          refine Ev.cS1 rfl rfl rfl (by decide) ⟨(Nat.le_refl _), (Nat.le_refl _)⟩ (m_many_ok _) ?_
          refine Ev.imul rfl ?_
          refine Ev.jge (tgt := 130) rfl (by decide) (fun c125 => ?_) (fun c125 => ?_)
          · skip
            refine Ev.iinc (d := 1) rfl rfl rfl (by decide) rfl ?_
            refine Ev.goto (tgt := 2) rfl (by decide) ?_
            have hF : (F_m_isEnough_2 S vo s0) k z = .inl () := by
              unfold F_m_isEnough_2
              rw [if_pos c12]
              rw [if_neg c107]
              rw [if_neg c125]
            exact (hx _ hF).fg (gs rfl (gs rfl (gs rfl (gs (congrArg Value.int (show nI (k + 1) = (nI k) + (1 : Int32) from (nq_to (a := k + 1) (nq_add (a := k) (b := 1) rfl (rfl : (1 : Int32) = nI 1)) (by omega)).symm)) (gn (gn (gn gz)))))))
          · skip
            refine Ev.iconst (v := 0) rfl (by decide) ?_
            refine Ev.iret (ty := .boolean) rfl rfl rfl (Nat.le_refl _) (Nat.le_refl _) ?_
            refine he _ ?_
            unfold F_m_isEnough_2
            rw [if_pos c12]
            rw [if_neg c107]
            rw [if_pos c125]
    · skip
      refine Ev.goto (tgt := 130) rfl (by decide) ?_
      refine Ev.iinc (d := 1) rfl rfl rfl (by decide) rfl ?_
      refine Ev.goto (tgt := 2) rfl (by decide) ?_
      have hF : (F_m_isEnough_2 S vo s0) k z = .inl () := by
        unfold F_m_isEnough_2
        rw [if_neg c12]
      exact (hx _ hF).fg (gs rfl (gs rfl (gs rfl (gs (congrArg Value.int (show nI (k + 1) = (nI k) + (1 : Int32) from (nq_to (a := k + 1) (nq_add (a := k) (b := 1) rfl (rfl : (1 : Int32) = nI 1)) (by omega)).symm)) (gn (gn (gn gz)))))))
  · skip
    refine Ev.iload_n rfl rfl ?_
    refine Ev.iload_n rfl rfl ?_
    refine Ev.jgt (tgt := 136) rfl (by decide) (fun c4 => ?_) (fun c4 => absurd (nI_lt (by omega) (by omega)) c4)
    refine Ev.iconst (v := 1) rfl (by decide) ?_
    refine Ev.iret (ty := .boolean) rfl rfl rfl (Nat.le_refl _) (Nat.le_refl _) ?_
    rw [← hQ]
    refine ⟨congrArg (fun v => some (Value.int v)) (Eq.symm ?_), rfl⟩
    unfold K_m_isEnough
    rw [hzx, Sum.elim_inl]
  · skip
    rw [← hQ]
    refine ⟨congrArg (fun v => some (Value.int v)) (Eq.symm ?_), rfl⟩
    unfold K_m_isEnough
    rw [hrx, Sum.elim_inr]
def F_m_fewest_42 (T : Tol) (i j : Nat) (g : Nat → Int32) (v_open : Nat → Int32) (k : Nat) (z : (Nat → Int32)) : Nat → (Nat → Int32) → (Nat → Int32) := fun k' z' => if (K_can (tS T i) ((tP T j).2 k') (nI k)) = (0 : Int32) then (upd z' k ((z' k) ||| (0 : Int32))) else (upd z' k ((z' k) ||| ((1 : Int32) <<< ((nI k') &&& 31))))
def F_m_fewest_20 (T : Tol) (i j : Nat) (g : Nat → Int32) (v_open : Nat → Int32) : Nat → (Nat → Int32) → (Nat → Int32) := fun k z => (fo (F_m_fewest_42 T i j g v_open k z) ((tP T j).1) 0 (upd z k (0 : Int32)))
def F_m_fewest_105 (T : Tol) (i j : Nat) (g : Nat → Int32) (v_open : Nat → Int32) : Nat → Int32 → Int32 := fun k z => if z < (0 : Int32) then (if (K_m_isEnough (tS T i) (fo (F_m_fewest_20 T i j g v_open) ((tS T i).1) 0 v_open) k) = (0 : Int32) then z else (nI k)) else (if (K_many (nI k)) < (K_many z) then (if (K_m_isEnough (tS T i) (fo (F_m_fewest_20 T i j g v_open) ((tS T i).1) 0 v_open) k) = (0 : Int32) then z else (nI k)) else z)
def K_m_fewest (T : Tol) (i j : Nat) (g : Nat → Int32) (v_open : Nat → Int32) : Int32 × (Nat → Int32) := ((fo (F_m_fewest_105 T i j g v_open) (2 ^ ((tP T j).1)) 0 (-1 : Int32)), (fo (F_m_fewest_20 T i j g v_open) ((tS T i).1) 0 v_open))
theorem m_fewest_some (hM : isM σ y g A) (hT : mT A 0 T) (hw : wT T)  {v_open : Nat → Int32} (m_open : σ.2 (y + 10) = some (.inl (0, 16, v_open))) {u v : Int32} {i j : Nat} (hg : gd T u v i j)  : RetX Γ m_M_fewest [(.ref y), .int u, .int v] σ y (y + 17) (some (.int ((K_m_fewest T i j g v_open).1))) (fun τ => τ.2 (y + 10) = some (.inl (0, 16, (K_m_fewest T i j g v_open).2)) ∧ (∀ q, q ≠ y + 10 → τ.2 q = σ.2 q)) := by
  obtain ⟨m0, m1⟩ := id hM
  have hgd := hg
  obtain ⟨rfl, hi, rfl, hj, hgo⟩ := hg
  have hi3 : i < 3 := by have := hw.2.1; omega
  have hj3 : j < 3 := by have := hw.2.2.1; omega
  have hwS := hw.2.2.2.1 i hi
  have hwP := hw.2.2.2.2 j hj
  have hn16 := hwS.1
  have hn5 := hwS.2.1
  have h6 := hwP.1
  have hS := hT.s hi
  have hP := hT.p hj
  have hs : 610 + 120 * i + 120 ≤ 4500 := by omega
  have h64 := pow6 h6
  unfold RetX
  generalize hQ : (fun (r : Option Value) (τ : ex_S) => r = some (.int ((K_m_fewest T i j g v_open).1)) ∧ frm σ τ y (y + 17) ∧ (fun τ : ex_S => τ.2 (y + 10) = some (.inl (0, 16, (K_m_fewest T i j g v_open).2)) ∧ (∀ q, q ≠ y + 10 → τ.2 q = σ.2 q)) τ) = Q
  refine Ret.start pm_233 rfl ?_
  have fr : frm σ σ y (y + 17) := frm.rf
  have kp : (∀ q, q ≠ y + 10 → σ.2 q = σ.2 q) := fun _ _ => rfl
  have hM : isM _ y g A := ⟨m0, m1⟩
  refine Ev.aload_n rfl rfl ?_
  refine Ev.iload_n rfl rfl ?_
  refine Ev.iload_n rfl rfl ?_
  refine Ev.cV2 rfl rfl m0 rfl rfl (by decide) ⟨(Nat.le_refl _), (Nat.le_refl _)⟩ (m_goes_yes hM hT hw hgd) ?_
  refine Ev.zne (tgt := 11) rfl (by decide) (fun c6 => ?_) (fun c6 => absurd c6 (by decide))
  refine Ev.iconst (v := 0) rfl (by decide) ?_
  refine Ev.iload_n rfl rfl ?_
  refine Ev.cS2 rfl rfl rfl (by decide) ⟨(Nat.le_refl _), (Nat.le_refl _)⟩ (m_pl0_ok i) ?_
  refine Ev.istore_n rfl rfl rfl ?_
  refine Ev.iconst (v := 0) rfl (by decide) ?_
  refine Ev.istore rfl rfl rfl ?_
  refine Ev.fg (L := [some (.ref y), none, some (.int (nI j)), some (.int (nI (610 + 120 * i))), some (.int (nI 0)), none]) ?_ (gs rfl (gn (gs rfl (gs rfl (gs (congrArg Value.int (rfl : (0 : Int32) = nI 0).symm) (gn gz))))))
  refine lp (fun (k : Nat) (z : (Nat → Int32)) => ∀ τ' : ex_S, frm σ τ' y (y + 17) → τ'.2 (y + 1) = some (.inl (0, 4500, A)) → τ'.2 y = some (.inr (.inr (10, mo y g))) → τ'.2 (y + 10) = some (.inl (0, 16, z)) → (∀ q, q ≠ y + 10 → τ'.2 q = σ.2 q) → Ev Γ 0 0 m_M_fewest 0 0 20 [some (.ref y), none, some (.int (nI j)), some (.int (nI (610 + 120 * i))), some (.int (nI k)), none] [] τ' Q) (F_m_fewest_20 T i j g v_open) ((tS T i).1) (fun k z hk hx => ?_) ((tS T i).1) 0 v_open (by omega) ?_ σ fr m1 m0 m_open kp
  · skip
    intro τ' fr m1 m0 m_open kp
    have hM : isM _ y g A := ⟨m0, m1⟩
    refine Ev.iload rfl rfl ?_
    refine Ev.aload_n rfl rfl ?_
    refine Ev.getf rfl rfl m0 rfl ?_
    refine Ev.iload_n rfl rfl ?_
    refine Ev.ialdN (k := 610 + 120 * i) rfl m1 (nq_to (a := 610 + 120 * i) rfl (by omega)) ⟨(by omega), by decide⟩ ?_
    rw [hS.1]
    refine Ev.jge (tgt := 99) rfl (by decide) (fun c28 => absurd (nI_lt hk (by omega)) c28) (fun c28 => ?_)
    refine Ev.aload_n rfl rfl ?_
    refine Ev.getf rfl rfl m0 rfl ?_
    refine Ev.iload rfl rfl ?_
    refine Ev.iconst (v := 0) rfl (by decide) ?_
    refine Ev.iastE (k := k) rfl m_open rfl ⟨(by omega), by decide⟩ (fun τ1 f1 m_open => ?_)
    have m1 := frm.cell f1 m1 (by omega)
    have m0 := frm.cell f1 m0 (by omega)
    have kp : (∀ q, q ≠ y + 10 → τ1.2 q = σ.2 q) := fun q n0 => (f1.2 q (by omega)).trans (kp q n0)
    have fr := fr.step f1 (by omega) (by omega)
    have hM : isM _ y g A := ⟨m0, m1⟩
    refine Ev.iconst (v := 0) rfl (by decide) ?_
    refine Ev.istore rfl rfl rfl ?_
    refine Ev.fg (L := [some (.ref y), none, some (.int (nI j)), some (.int (nI (610 + 120 * i))), some (.int (nI k)), some (.int (nI 0))]) ?_ (gs rfl (gn (gs rfl (gs rfl (gs rfl (gs (congrArg Value.int (rfl : (0 : Int32) = nI 0).symm) gz))))))
    refine lp (fun (k' : Nat) (z' : (Nat → Int32)) => ∀ τ'' : ex_S, frm σ τ'' y (y + 17) → τ''.2 (y + 1) = some (.inl (0, 4500, A)) → τ''.2 y = some (.inr (.inr (10, mo y g))) → τ''.2 (y + 10) = some (.inl (0, 16, z')) → (∀ q, q ≠ y + 10 → τ''.2 q = σ.2 q) → Ev Γ 0 0 m_M_fewest 0 0 42 [some (.ref y), none, some (.int (nI j)), some (.int (nI (610 + 120 * i))), some (.int (nI k)), some (.int (nI k'))] [] τ'' Q) (F_m_fewest_42 T i j g v_open k z) ((tP T j).1) (fun k' z' hk' hx' => ?_) ((tP T j).1) 0 (upd z k (0 : Int32)) (by omega) ?_ τ1 fr m1 m0 m_open kp
    · skip
      intro τ'' fr m1 m0 m_open kp
      have hM : isM _ y g A := ⟨m0, m1⟩
      refine Ev.iload rfl rfl ?_
      refine Ev.aload_n rfl rfl ?_
      refine Ev.iload_n rfl rfl ?_
      refine Ev.cV1 rfl rfl m0 rfl rfl (by decide) ⟨(Nat.le_refl _), (Nat.le_refl _)⟩ (m_classes_ok hM hP hj3 h6) ?_
      refine Ev.jge (tgt := 93) rfl (by decide) (fun c49 => absurd (nI_lt hk' (by omega)) c49) (fun c49 => ?_)
      refine Ev.aload_n rfl rfl ?_
      refine Ev.getf rfl rfl m0 rfl ?_
      refine Ev.iload rfl rfl ?_
      refine Ev.dup2 rfl rfl rfl ?_
      refine Ev.ialdN (k := k) rfl m_open rfl ⟨(by omega), by decide⟩ ?_
      refine Ev.aload_n rfl rfl ?_
      refine Ev.iload_n rfl rfl ?_
      refine Ev.aload_n rfl rfl ?_
      refine Ev.iload_n rfl rfl ?_
      refine Ev.iload rfl rfl ?_
      refine Ev.cV2 rfl rfl m0 rfl rfl (by decide) ⟨(Nat.le_refl _), (Nat.le_refl _)⟩ (m_classAt_ok hM k') ?_
      refine Ev.iload rfl rfl ?_
      refine Ev.cV3 rfl rfl m0 rfl rfl (by decide) ⟨(Nat.le_refl _), (Nat.le_refl _)⟩ (m_can_ok hM hS hs hwS (hP.2 k' (by omega)) (by omega) k (by omega)) ?_
      refine Ev.zeq (tgt := 84) rfl (by decide) (fun c74 => ?_) (fun c74 => ?_)
      · skip
        refine Ev.iconst (v := 0) rfl (by decide) ?_
        refine Ev.ior rfl ?_
        refine Ev.iastE (k := k) rfl m_open rfl ⟨(by omega), by decide⟩ (fun τ2 f1 m_open => ?_)
        have m1 := frm.cell f1 m1 (by omega)
        have m0 := frm.cell f1 m0 (by omega)
        have kp : (∀ q, q ≠ y + 10 → τ2.2 q = σ.2 q) := fun q n0 => (f1.2 q (by omega)).trans (kp q n0)
        have fr := fr.step f1 (by omega) (by omega)
        have hM : isM _ y g A := ⟨m0, m1⟩
        refine Ev.iinc (d := 1) rfl rfl rfl (by decide) rfl ?_
        refine Ev.goto (tgt := 42) rfl (by decide) ?_
        have hF : (F_m_fewest_42 T i j g v_open k z) k' z' = (upd z' k ((z' k) ||| (0 : Int32))) := by
          unfold F_m_fewest_42
          rw [if_pos c74]
        rw [hF] at hx'
        exact (hx' τ2 fr m1 m0 m_open kp).fg (gs rfl (gn (gs rfl (gs rfl (gs rfl (gs (congrArg Value.int (show nI (k' + 1) = (nI k') + (1 : Int32) from (nq_to (a := k' + 1) (nq_add (a := k') (b := 1) rfl (rfl : (1 : Int32) = nI 1)) (by omega)).symm)) gz))))))
      · skip
        refine Ev.iconst (v := 1) rfl (by decide) ?_
        refine Ev.iload rfl rfl ?_
        refine Ev.ishl rfl ?_
        refine Ev.goto (tgt := 85) rfl (by decide) ?_
        refine Ev.ior rfl ?_
        refine Ev.iastE (k := k) rfl m_open rfl ⟨(by omega), by decide⟩ (fun τ3 f1 m_open => ?_)
        have m1 := frm.cell f1 m1 (by omega)
        have m0 := frm.cell f1 m0 (by omega)
        have kp : (∀ q, q ≠ y + 10 → τ3.2 q = σ.2 q) := fun q n0 => (f1.2 q (by omega)).trans (kp q n0)
        have fr := fr.step f1 (by omega) (by omega)
        have hM : isM _ y g A := ⟨m0, m1⟩
        refine Ev.iinc (d := 1) rfl rfl rfl (by decide) rfl ?_
        refine Ev.goto (tgt := 42) rfl (by decide) ?_
        have hF : (F_m_fewest_42 T i j g v_open k z) k' z' = (upd z' k ((z' k) ||| ((1 : Int32) <<< ((nI k') &&& 31)))) := by
          unfold F_m_fewest_42
          rw [if_neg c74]
        rw [hF] at hx'
        exact (hx' τ3 fr m1 m0 m_open kp).fg (gs rfl (gn (gs rfl (gs rfl (gs rfl (gs (congrArg Value.int (show nI (k' + 1) = (nI k') + (1 : Int32) from (nq_to (a := k' + 1) (nq_add (a := k') (b := 1) rfl (rfl : (1 : Int32) = nI 1)) (by omega)).symm)) gz))))))
    · skip
      intro τ'' fr m1 m0 m_open kp
      have hM : isM _ y g A := ⟨m0, m1⟩
      refine Ev.iload rfl rfl ?_
      refine Ev.aload_n rfl rfl ?_
      refine Ev.iload_n rfl rfl ?_
      refine Ev.cV1 rfl rfl m0 rfl rfl (by decide) ⟨(Nat.le_refl _), (Nat.le_refl _)⟩ (m_classes_ok hM hP hj3 h6) ?_
      refine Ev.jge (tgt := 93) rfl (by decide) (fun c49 => ?_) (fun c49 => absurd c49 (nI_nlt (Nat.le_refl _) (by omega)))
      refine Ev.iinc (d := 1) rfl rfl rfl (by decide) rfl ?_
      refine Ev.goto (tgt := 20) rfl (by decide) ?_
      have hF : (F_m_fewest_20 T i j g v_open) k z = (fo (F_m_fewest_42 T i j g v_open k z) ((tP T j).1) 0 (upd z k (0 : Int32))) := by rfl
      rw [hF] at hx
      exact (hx τ'' fr m1 m0 m_open kp).fg (gs rfl (gn (gs rfl (gs rfl (gs (congrArg Value.int (show nI (k + 1) = (nI k) + (1 : Int32) from (nq_to (a := k + 1) (nq_add (a := k) (b := 1) rfl (rfl : (1 : Int32) = nI 1)) (by omega)).symm)) (gn gz))))))
  · skip
    intro τ' fr m1 m0 m_open kp
    have hM : isM _ y g A := ⟨m0, m1⟩
    refine Ev.iload rfl rfl ?_
    refine Ev.aload_n rfl rfl ?_
    refine Ev.getf rfl rfl m0 rfl ?_
    refine Ev.iload_n rfl rfl ?_
    refine Ev.ialdN (k := 610 + 120 * i) rfl m1 (nq_to (a := 610 + 120 * i) rfl (by omega)) ⟨(by omega), by decide⟩ ?_
    rw [hS.1]
    refine Ev.jge (tgt := 99) rfl (by decide) (fun c28 => ?_) (fun c28 => absurd c28 (nI_nlt (Nat.le_refl _) (by omega)))
    refine Ev.iconst (v := (-1)) rfl (by decide) ?_
    refine Ev.istore rfl rfl rfl ?_
    refine Ev.iconst (v := 0) rfl (by decide) ?_
    refine Ev.istore rfl rfl rfl ?_
    refine Ev.fg (L := [some (.ref y), none, some (.int (nI j)), some (.int (nI (610 + 120 * i))), some (.int (-1 : Int32)), some (.int (nI 0))]) ?_ (gs rfl (gn (gs rfl (gs rfl (gs rfl (gs (congrArg Value.int (rfl : (0 : Int32) = nI 0).symm) gz))))))
    refine lp (fun (k : Nat) (z : Int32) => Ev Γ 0 0 m_M_fewest 0 0 105 [some (.ref y), none, some (.int (nI j)), some (.int (nI (610 + 120 * i))), some (.int z), some (.int (nI k))] [] τ' Q) (F_m_fewest_105 T i j g v_open) (2 ^ ((tP T j).1)) (fun k z hk hx => ?_) (2 ^ ((tP T j).1)) 0 (-1 : Int32) (by omega) ?_
    · skip
      refine Ev.iload rfl rfl ?_
      refine Ev.iconst (v := 1) rfl (by decide) ?_
      refine Ev.aload_n rfl rfl ?_
      refine Ev.iload_n rfl rfl ?_
      refine Ev.cV1 rfl rfl m0 rfl rfl (by decide) ⟨(Nat.le_refl _), (Nat.le_refl _)⟩ (m_classes_ok hM hP hj3 h6) ?_
      refine Ev.ishl rfl ?_
      refine Ev.jge (tgt := 155) rfl (by decide) (fun c114 => absurd (ltN hk (nq_shl rfl (by omega)) (by omega)) c114) (fun c114 => ?_)
      refine Ev.iload rfl rfl ?_
      refine Ev.zlt (tgt := 135) rfl (by decide) (fun c119 => ?_) (fun c119 => ?_)
      · skip
        refine Ev.aload_n rfl rfl ?_
        refine Ev.iload_n rfl rfl ?_
        refine Ev.iload rfl rfl ?_
        refine Ev.cV2 rfl rfl m0 rfl rfl (by decide) ⟨(Nat.le_refl _), (Nat.le_refl _)⟩ (m_isEnough_ok hM hS hs hwS m_open (by have := Nat.pow_le_pow_right (show 0 < 2 by decide) h6; omega)) ?_
        refine Ev.zeq (tgt := 149) rfl (by decide) (fun c142 => ?_) (fun c142 => ?_)
        · skip
          refine Ev.iinc (d := 1) rfl rfl rfl (by decide) rfl ?_
          refine Ev.goto (tgt := 105) rfl (by decide) ?_
          have hF : (F_m_fewest_105 T i j g v_open) k z = z := by
            unfold F_m_fewest_105
            rw [if_pos c119]
            rw [if_pos c142]
          rw [hF] at hx
          exact hx.fg (gs rfl (gn (gs rfl (gs rfl (gs rfl (gs (congrArg Value.int (show nI (k + 1) = (nI k) + (1 : Int32) from (nq_to (a := k + 1) (nq_add (a := k) (b := 1) rfl (rfl : (1 : Int32) = nI 1)) (by omega)).symm)) gz))))))
        · skip
          refine Ev.iload rfl rfl ?_
          refine Ev.istore rfl rfl rfl ?_
          refine Ev.iinc (d := 1) rfl rfl rfl (by decide) rfl ?_
          refine Ev.goto (tgt := 105) rfl (by decide) ?_
          have hF : (F_m_fewest_105 T i j g v_open) k z = nI k := by
            unfold F_m_fewest_105
            rw [if_pos c119]
            rw [if_neg c142]
          rw [hF] at hx
          exact hx.fg (gs rfl (gn (gs rfl (gs rfl (gs rfl (gs (congrArg Value.int (show nI (k + 1) = (nI k) + (1 : Int32) from (nq_to (a := k + 1) (nq_add (a := k) (b := 1) rfl (rfl : (1 : Int32) = nI 1)) (by omega)).symm)) gz))))))
      · skip
        refine Ev.iload rfl rfl ?_
        refine Ev.cS1 rfl rfl rfl (by decide) ⟨(Nat.le_refl _), (Nat.le_refl _)⟩ (m_many_ok _) ?_
        refine Ev.iload rfl rfl ?_
        refine Ev.cS1 rfl rfl rfl (by decide) ⟨(Nat.le_refl _), (Nat.le_refl _)⟩ (m_many_ok _) ?_
        refine Ev.jge (tgt := 149) rfl (by decide) (fun c132 => ?_) (fun c132 => ?_)
        · skip
          refine Ev.iinc (d := 1) rfl rfl rfl (by decide) rfl ?_
          refine Ev.goto (tgt := 105) rfl (by decide) ?_
          have hF : (F_m_fewest_105 T i j g v_open) k z = z := by
            unfold F_m_fewest_105
            rw [if_neg c119]
            rw [if_neg c132]
          rw [hF] at hx
          exact hx.fg (gs rfl (gn (gs rfl (gs rfl (gs rfl (gs (congrArg Value.int (show nI (k + 1) = (nI k) + (1 : Int32) from (nq_to (a := k + 1) (nq_add (a := k) (b := 1) rfl (rfl : (1 : Int32) = nI 1)) (by omega)).symm)) gz))))))
        · skip
          refine Ev.aload_n rfl rfl ?_
          refine Ev.iload_n rfl rfl ?_
          refine Ev.iload rfl rfl ?_
          refine Ev.cV2 rfl rfl m0 rfl rfl (by decide) ⟨(Nat.le_refl _), (Nat.le_refl _)⟩ (m_isEnough_ok hM hS hs hwS m_open (by have := Nat.pow_le_pow_right (show 0 < 2 by decide) h6; omega)) ?_
          refine Ev.zeq (tgt := 149) rfl (by decide) (fun c142 => ?_) (fun c142 => ?_)
          · skip
            refine Ev.iinc (d := 1) rfl rfl rfl (by decide) rfl ?_
            refine Ev.goto (tgt := 105) rfl (by decide) ?_
            have hF : (F_m_fewest_105 T i j g v_open) k z = z := by
              unfold F_m_fewest_105
              rw [if_neg c119]
              rw [if_pos c132]
              rw [if_pos c142]
            rw [hF] at hx
            exact hx.fg (gs rfl (gn (gs rfl (gs rfl (gs rfl (gs (congrArg Value.int (show nI (k + 1) = (nI k) + (1 : Int32) from (nq_to (a := k + 1) (nq_add (a := k) (b := 1) rfl (rfl : (1 : Int32) = nI 1)) (by omega)).symm)) gz))))))
          · skip
            refine Ev.iload rfl rfl ?_
            refine Ev.istore rfl rfl rfl ?_
            refine Ev.iinc (d := 1) rfl rfl rfl (by decide) rfl ?_
            refine Ev.goto (tgt := 105) rfl (by decide) ?_
            have hF : (F_m_fewest_105 T i j g v_open) k z = nI k := by
              unfold F_m_fewest_105
              rw [if_neg c119]
              rw [if_pos c132]
              rw [if_neg c142]
            rw [hF] at hx
            exact hx.fg (gs rfl (gn (gs rfl (gs rfl (gs rfl (gs (congrArg Value.int (show nI (k + 1) = (nI k) + (1 : Int32) from (nq_to (a := k + 1) (nq_add (a := k) (b := 1) rfl (rfl : (1 : Int32) = nI 1)) (by omega)).symm)) gz))))))
    · skip
      refine Ev.iload rfl rfl ?_
      refine Ev.iconst (v := 1) rfl (by decide) ?_
      refine Ev.aload_n rfl rfl ?_
      refine Ev.iload_n rfl rfl ?_
      refine Ev.cV1 rfl rfl m0 rfl rfl (by decide) ⟨(Nat.le_refl _), (Nat.le_refl _)⟩ (m_classes_ok hM hP hj3 h6) ?_
      refine Ev.ishl rfl ?_
      refine Ev.jge (tgt := 155) rfl (by decide) (fun c114 => ?_) (fun c114 => absurd c114 (nltN (nq_shl rfl (by omega)) (by omega)))
      refine Ev.iload rfl rfl ?_
      refine Ev.iret (ty := .int) rfl rfl rfl (Nat.le_refl _) (Nat.le_refl _) ?_
      have hK : (K_m_fewest T i j g v_open) = ((fo (F_m_fewest_105 T i j g v_open) (2 ^ ((tP T j).1)) 0 (-1 : Int32)), (fo (F_m_fewest_20 T i j g v_open) ((tS T i).1) 0 v_open)) := by rfl
      rw [← hQ]
      dsimp only
      rw [hK]
      exact ⟨rfl, fr, m_open, kp⟩
end
end
