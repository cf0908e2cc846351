/-! The class: a school and a plan: what is learnt. -/
noncomputable section
/-- a plan: how many classes, the classes -/
abbrev Pln : Type := Nat × (Nat → Les)
def isP (σ : ex_S) (p : Nat) (P : Pln) : Prop :=
  σ.2 p = some (.inr (.inr (3, [.int (nI P.1), .ref (p + 1)]))) ∧ (∃ f, σ.2 (p + 1) = some (.inr (.inl (5, 6, f))) ∧ ∀ k, k < 6 → f k = some (p + 2 + k)) ∧ ∀ k, k < 6 → isL σ (p + 2 + k) (P.2 k)
def F_steps (S : Sch) (w : Int32) (i : Nat) (b : Int32) : Int32 := if K_bit w (nI i) = 0 then b else b ||| (1 : Int32) <<< (S.2.2 0 i &&& 31)
/-- the steps (bits) of those who sit -/
def K_steps (S : Sch) (w : Int32) : Int32 := fo (F_steps S w) 17 0 0
def K_byOne (S : Sch) (C : Les) (l : Nat) : Int32 := K_fitting S C (S.2.2 0 l) (K_steps S (C 5)) * K_part S (K_bc (C 5)) / 100
def F_tog (S : Sch) (C : Les) (w near : Int32) (i : Nat) (x : Int32) : Int32 := if K_bit w (nI i) = 0 then x else x + K_fitting S C (S.2.2 0 i) near * K_part S (K_bc w) / 100
/-- what is learnt in a class by these -/
def K_tog (S : Sch) (C : Les) (w : Int32) : Int32 := fo (F_tog S C w (if C 0 = 4 then K_steps S w else 0)) 17 0 0
def K_inAll (S : Sch) (P : Pln) : Int32 := fo (fun k x => x + K_tog S (P.2 k) (P.2 k 5)) P.1 0 0
def okL (S : Sch) (C : Les) : Prop := C 0 = 2 → K_hasT S (C 1) = 1
section
variable {Γ : ex_G} {σ : ex_S} {a c p : Nat} {S : Sch} {C : Les} {P : Pln}
theorem steps_ok (hS : isS σ a S) (w : Int32) : RetV Γ m_School_stepsOf [.ref a, .int w] σ (.int (K_steps S w)) := by
  obtain ⟨h0, h1, h2, h3, h4, h5, h6, h7, h8, h9, h10⟩ := id hS
  unfold RetV
  generalize hQ : (fun (r : Option Value) (σ' : ex_S) => r = some ((.int (K_steps S w)) : Value) ∧ σ' = σ) = Q
  refine Ret.start pm_87 rfl ?_
  refine Ev.iconst (v := 0) rfl (by decide) ?_
  refine Ev.istore_n rfl rfl rfl ?_
  refine Ev.iconst (v := 0) rfl (by decide) ?_
  refine Ev.istore_n rfl rfl rfl ?_
  skip
  have key : ∀ (k i : Nat) (x : Int32), i + k = 17 → fo (F_steps S w) k i x = fo (F_steps S w) 17 0 0 → Ev Γ 0 0 m_School_stepsOf 0 0 4 [some (.ref a), some (.int w), some (.int x), some (.int (nI i))] [] σ Q := by
    intro k
    induction k with
    | zero =>
      intro i x hi hx
      have hi2 : i = 17 := by omega
      subst hi2
      refine Ev.iload_n rfl rfl ?_
      refine Ev.bipush (v := 17) rfl (by decide) ?_
      refine Ev.icmp_ge (tgt := 41) rfl (by decide) (fun c7 => ?_) (fun c7 => absurd (by decide) c7)
      refine Ev.iload_n rfl rfl ?_
      refine Ev.iret (ty := .int) rfl rfl rfl (Nat.le_refl _) (Nat.le_refl _) ?_
      rw [← hQ]
      refine ⟨?_, rfl⟩
      rw [fo_zero] at hx
      rw [hx]
      rfl
    | succ k ih =>
      intro i x hi hx
      have hi2 : i < 17 := by omega
      refine Ev.iload_n rfl rfl ?_
      refine Ev.bipush (v := 17) rfl (by decide) ?_
      refine Ev.icmp_ge (tgt := 41) rfl (by decide) (fun c7 => absurd c7 (nI_ge hi2 (by decide))) (fun c7 => ?_)
      refine Ev.iload_n rfl rfl ?_
      refine Ev.iload_n rfl rfl ?_
      refine Ev.ishr rfl ?_
      refine Ev.if_eq (tgt := 41) rfl (by decide) (fun c13 => ?_) (fun c13 => ?_)
      · skip
        refine Ev.iload_n rfl rfl ?_
        refine Ev.iret (ty := .int) rfl rfl rfl (Nat.le_refl _) (Nat.le_refl _) ?_
        rw [← hQ]
        refine ⟨?_, rfl⟩
        rw [fo_id (k + 1) i x (fun j y h1 h2 => by unfold F_steps; rw [if_pos (bit_none (by omega) h1 c13)])] at hx
        rw [hx]
        rfl
      · skip
        refine Ev.iload_n rfl rfl ?_
        refine Ev.iload_n rfl rfl ?_
        refine Ev.ishr rfl ?_
        refine Ev.iconst (v := 1) rfl (by decide) ?_
        refine Ev.iand rfl ?_
        refine Ev.if_eq (tgt := 35) rfl (by decide) (fun c21 => ?_) (fun c21 => ?_)
        · skip
          refine Ev.iinc (d := 1) rfl rfl rfl (by decide) rfl ?_
          refine Ev.goto (tgt := 4) rfl (by decide) ?_
          refine (ih (i + 1) (F_steps S w i x) (by omega) (by rw [← hx, fo_succ])).cg (by first | (simp [nI_1, F_steps, K_bit, *]; done) | (simp [nI_1, F_steps, K_bit, *]; rfl))
        · skip
          refine Ev.iload_n rfl rfl ?_
          refine Ev.iconst (v := 1) rfl (by decide) ?_
          refine Ev.aload_n rfl rfl ?_
          refine Ev.getf rfl rfl (by assumption) rfl ?_
          refine Ev.iload_n rfl rfl ?_
          refine Ev.ialdN (k := i) rfl (by assumption) rfl ⟨(by omega), by decide⟩ ?_
          refine Ev.ishl rfl ?_
          refine Ev.ior rfl ?_
          refine Ev.istore_n rfl rfl rfl ?_
          refine Ev.iinc (d := 1) rfl rfl rfl (by decide) rfl ?_
          refine Ev.goto (tgt := 4) rfl (by decide) ?_
          refine (ih (i + 1) (F_steps S w i x) (by omega) (by rw [← hx, fo_succ])).cg (by first | (simp [nI_1, F_steps, K_bit, *]; done) | (simp [nI_1, F_steps, K_bit, *]; rfl))
  refine (key 17 0 0 (by omega) rfl).cg (by first | rfl | simp [nI_0])
theorem byOne_ok (hS : isS σ a S) (hC : isL σ c C) (l : Nat) (hl : l < 16) (ht : okL S C) (hn : S.2.1 ≤ 5) : RetV Γ m_School_byOne [.ref a, .ref c, .int (nI l)] σ (.int (K_byOne S C l)) := by
  obtain ⟨h0, h1, h2, h3, h4, h5, h6, h7, h8, h9, h10⟩ := id hS
  have g0 := hC
  unfold isL at g0
  unfold RetV
  generalize hQ : (fun (r : Option Value) (σ' : ex_S) => r = some ((.int (K_byOne S C l)) : Value) ∧ σ' = σ) = Q
  refine Ret.start pm_89 rfl ?_
  refine Ev.aload_n rfl rfl ?_
  refine Ev.aload_n rfl rfl ?_
  refine Ev.aload_n rfl rfl ?_
  refine Ev.getf rfl rfl (by assumption) rfl ?_
  refine Ev.iload_n rfl rfl ?_
  refine Ev.ialdN (k := l) rfl (by assumption) rfl ⟨(by omega), by decide⟩ ?_
  refine Ev.aload_n rfl rfl ?_
  refine Ev.aload_n rfl rfl ?_
  refine Ev.getf rfl rfl (by assumption) rfl ?_
  refine Ev.cV1 rfl rfl (by assumption) rfl rfl (by decide) ⟨(Nat.le_refl _), (Nat.le_refl _)⟩ (steps_ok hS _) ?_
  refine Ev.cV3 rfl rfl (by assumption) rfl rfl (by decide) ⟨(Nat.le_refl _), (Nat.le_refl _)⟩ (fitting_ok hS hC _ _ ht hn) ?_
  refine Ev.istore_n rfl rfl rfl ?_
  refine Ev.iload_n rfl rfl ?_
  refine Ev.aload_n rfl rfl ?_
  refine Ev.aload_n rfl rfl ?_
  refine Ev.getf rfl rfl (by assumption) rfl ?_
  refine Ev.cS1 rfl rfl rfl (by decide) ⟨(Nat.le_refl _), (Nat.le_refl _)⟩ (bc_ok _) ?_
  refine Ev.cV1 rfl rfl (by assumption) rfl rfl (by decide) ⟨(Nat.le_refl _), (Nat.le_refl _)⟩ (part_ok hS _) ?_
  refine Ev.imul rfl ?_
  refine Ev.bipush (v := 100) rfl (by decide) ?_
  refine Ev.idiv rfl (by decide) ?_
  refine Ev.iret (ty := .int) rfl rfl rfl (Nat.le_refl _) (Nat.le_refl _) ?_
  rw [← hQ]
  exact ⟨rfl, rfl⟩
theorem tog_ok (hS : isS σ a S) (hC : isL σ c C) (w : Int32) (ht : okL S C) (hn : S.2.1 ≤ 5) : RetV Γ m_School_together [.ref a, .ref c, .int w] σ (.int (K_tog S C w)) := by
  obtain ⟨h0, h1, h2, h3, h4, h5, h6, h7, h8, h9, h10⟩ := id hS
  have g0 := hC
  unfold isL at g0
  unfold RetV
  generalize hQ : (fun (r : Option Value) (σ' : ex_S) => r = some ((.int (K_tog S C w)) : Value) ∧ σ' = σ) = Q
  refine Ret.start pm_90 rfl ?_
  have J : ∀ near : Int32, near = (if C 0 = 4 then K_steps S w else 0) → Ev Γ 0 0 m_School_together 0 0 17 [some (.ref a), some (.ref c), some (.int w), none, none, none, none] [.int near] σ Q := by
    intro near hnear
    refine Ev.istore_n rfl rfl rfl ?_
    refine Ev.aload_n rfl rfl ?_
    refine Ev.iload_n rfl rfl ?_
    refine Ev.cS1 rfl rfl rfl (by decide) ⟨(Nat.le_refl _), (Nat.le_refl _)⟩ (bc_ok _) ?_
    refine Ev.cV1 rfl rfl (by assumption) rfl rfl (by decide) ⟨(Nat.le_refl _), (Nat.le_refl _)⟩ (part_ok hS _) ?_
    refine Ev.istore rfl rfl rfl ?_
    refine Ev.iconst (v := 0) rfl (by decide) ?_
    refine Ev.istore rfl rfl rfl ?_
    refine Ev.iconst (v := 0) rfl (by decide) ?_
    refine Ev.istore rfl rfl rfl ?_
    skip
    have key : ∀ (k i : Nat) (x : Int32), i + k = 17 → fo (F_tog S C w near) k i x = fo (F_tog S C w near) 17 0 0 → Ev Γ 0 0 m_School_together 0 0 34 [some (.ref a), some (.ref c), some (.int w), some (.int near), some (.int (K_part S (K_bc w))), some (.int x), some (.int (nI i))] [] σ Q := by
      intro k
      induction k with
      | zero =>
        intro i x hi hx
        have hi2 : i = 17 := by omega
        subst hi2
        refine Ev.iload rfl rfl ?_
        refine Ev.bipush (v := 17) rfl (by decide) ?_
        refine Ev.icmp_ge (tgt := 87) rfl (by decide) (fun c38 => ?_) (fun c38 => absurd (by decide) c38)
        refine Ev.iload rfl rfl ?_
        refine Ev.iret (ty := .int) rfl rfl rfl (Nat.le_refl _) (Nat.le_refl _) ?_
        rw [← hQ]
        refine ⟨?_, rfl⟩
        rw [fo_zero] at hx
        rw [hx, hnear]
        rfl
      | succ k ih =>
        intro i x hi hx
        have hi2 : i < 17 := by omega
        refine Ev.iload rfl rfl ?_
        refine Ev.bipush (v := 17) rfl (by decide) ?_
        refine Ev.icmp_ge (tgt := 87) rfl (by decide) (fun c38 => absurd c38 (nI_ge hi2 (by decide))) (fun c38 => ?_)
        refine Ev.iload_n rfl rfl ?_
        refine Ev.iload rfl rfl ?_
        refine Ev.ishr rfl ?_
        refine Ev.if_eq (tgt := 87) rfl (by decide) (fun c45 => ?_) (fun c45 => ?_)
        · skip
          refine Ev.iload rfl rfl ?_
          refine Ev.iret (ty := .int) rfl rfl rfl (Nat.le_refl _) (Nat.le_refl _) ?_
          rw [← hQ]
          refine ⟨?_, rfl⟩
          rw [fo_id (k + 1) i x (fun j y h1 h2 => by unfold F_tog; rw [if_pos (bit_none (by omega) h1 c45)])] at hx
          rw [hx, hnear]
          rfl
        · skip
          refine Ev.iload_n rfl rfl ?_
          refine Ev.iload rfl rfl ?_
          refine Ev.ishr rfl ?_
          refine Ev.iconst (v := 1) rfl (by decide) ?_
          refine Ev.iand rfl ?_
          refine Ev.if_eq (tgt := 81) rfl (by decide) (fun c54 => ?_) (fun c54 => ?_)
          · skip
            refine Ev.iinc (d := 1) rfl rfl rfl (by decide) rfl ?_
            refine Ev.goto (tgt := 34) rfl (by decide) ?_
            refine (ih (i + 1) (F_tog S C w near i x) (by omega) (by rw [← hx, fo_succ])).cg (by first | (simp [nI_1, F_tog, K_bit, *]; done) | (simp [nI_1, F_tog, K_bit, *]; rfl))
          · skip
            refine Ev.iload rfl rfl ?_
            refine Ev.aload_n rfl rfl ?_
            refine Ev.aload_n rfl rfl ?_
            refine Ev.aload_n rfl rfl ?_
            refine Ev.getf rfl rfl (by assumption) rfl ?_
            refine Ev.iload rfl rfl ?_
            refine Ev.ialdN (k := i) rfl (by assumption) rfl ⟨(by omega), by decide⟩ ?_
            refine Ev.iload_n rfl rfl ?_
            refine Ev.cV3 rfl rfl (by assumption) rfl rfl (by decide) ⟨(Nat.le_refl _), (Nat.le_refl _)⟩ (fitting_ok hS hC _ _ ht hn) ?_
            refine Ev.iload rfl rfl ?_
            refine Ev.imul rfl ?_
            refine Ev.bipush (v := 100) rfl (by decide) ?_
            refine Ev.idiv rfl (by decide) ?_
            refine Ev.iadd rfl ?_
            refine Ev.istore rfl rfl rfl ?_
            refine Ev.iinc (d := 1) rfl rfl rfl (by decide) rfl ?_
            refine Ev.goto (tgt := 34) rfl (by decide) ?_
            refine (ih (i + 1) (F_tog S C w near i x) (by omega) (by rw [← hx, fo_succ])).cg (by first | (simp [nI_1, F_tog, K_bit, *]; done) | (simp [nI_1, F_tog, K_bit, *]; rfl))
    refine (key 17 0 0 (by omega) rfl).cg (by first | rfl | simp [nI_0])
  refine Ev.aload_n rfl rfl ?_
  refine Ev.getf rfl rfl (by assumption) rfl ?_
  refine Ev.iconst (v := 4) rfl (by decide) ?_
  refine Ev.icmp_ne (tgt := 16) rfl (by decide) (fun c5 => ?_) (fun c5 => ?_)
  · skip
    refine Ev.iconst (v := 0) rfl (by decide) ?_
    exact J _ (by simp [*])
  · skip
    refine Ev.aload_n rfl rfl ?_
    refine Ev.iload_n rfl rfl ?_
    refine Ev.cV1 rfl rfl (by assumption) rfl rfl (by decide) ⟨(Nat.le_refl _), (Nat.le_refl _)⟩ (steps_ok hS _) ?_
    refine Ev.goto (tgt := 17) rfl (by decide) ?_
    exact J _ (by simp [*])
theorem inAll_ok (hS : isS σ a S) (hP : isP σ p P) (hs : P.1 ≤ 6) (ht : ∀ k, k < P.1 → okL S (P.2 k)) (hn : S.2.1 ≤ 5) : RetV Γ m_School_inAll [.ref a, .ref p] σ (.int (K_inAll S P)) := by
  obtain ⟨h0, h1, h2, h3, h4, h5, h6, h7, h8, h9, h10⟩ := id hS
  obtain ⟨p0, ⟨pf, p1, p2⟩, p3⟩ := id hP
  unfold RetV
  generalize hQ : (fun (r : Option Value) (σ' : ex_S) => r = some ((.int (K_inAll S P)) : Value) ∧ σ' = σ) = Q
  refine Ret.start pm_91 rfl ?_
  refine Ev.iconst (v := 0) rfl (by decide) ?_
  refine Ev.istore_n rfl rfl rfl ?_
  refine Ev.iconst (v := 0) rfl (by decide) ?_
  refine Ev.istore_n rfl rfl rfl ?_
  skip
  refine Ev.cg (L' := [some (.ref a), some (.ref p), some (.int 0), some (.int (nI 0))]) ?_ (by first | rfl | simp [nI_0])
  refine lp (fun i z => Ev Γ 0 0 m_School_inAll 0 0 4 [some (.ref a), some (.ref p), some (.int z), some (.int (nI i))] [] σ Q) (fun k x => x + K_tog S (P.2 k) (P.2 k 5)) (P.1) (fun i z hi hnx => ?_) (P.1) 0 (0) (by omega) ?_
  · skip
    refine Ev.iload_n rfl rfl ?_
    refine Ev.aload_n rfl rfl ?_
    refine Ev.getf rfl rfl (by assumption) rfl ?_
    refine Ev.icmp_ge (tgt := 40) rfl (by decide) (fun c9 => absurd c9 (nI_ge hi (by omega))) (fun c9 => ?_)
    refine Ev.iload_n rfl rfl ?_
    refine Ev.aload_n rfl rfl ?_
    refine Ev.aload_n rfl rfl ?_
    refine Ev.getf rfl rfl (by assumption) rfl ?_
    refine Ev.iload_n rfl rfl ?_
    refine Ev.aaldN (k := i) rfl (by assumption) rfl rfl ⟨(by omega), by decide⟩ (p2 i (by omega)) ?_
    refine Ev.aload_n rfl rfl ?_
    refine Ev.getf rfl rfl (by assumption) rfl ?_
    refine Ev.iload_n rfl rfl ?_
    refine Ev.aaldN (k := i) rfl (by assumption) rfl rfl ⟨(by omega), by decide⟩ (p2 i (by omega)) ?_
    refine Ev.getf rfl rfl (p3 i (by omega)) rfl ?_
    refine Ev.cV2 rfl rfl (by assumption) rfl rfl (by decide) ⟨(Nat.le_refl _), (Nat.le_refl _)⟩ (tog_ok hS (p3 i (by omega)) _ (ht i hi) hn) ?_
    refine Ev.iadd rfl ?_
    refine Ev.istore_n rfl rfl rfl ?_
    refine Ev.iinc (d := 1) rfl rfl rfl (by decide) rfl ?_
    refine Ev.goto (tgt := 4) rfl (by decide) ?_
    exact hnx.cg (by first | (simp [nI_1, *]; done) | (simp [nI_1, *]; rfl))
  · skip
    refine Ev.iload_n rfl rfl ?_
    refine Ev.aload_n rfl rfl ?_
    refine Ev.getf rfl rfl (by assumption) rfl ?_
    refine Ev.icmp_ge (tgt := 40) rfl (by decide) (fun c9 => ?_) (fun c9 => absurd (nI_le (Nat.le_refl _) (by omega)) c9)
    refine Ev.iload_n rfl rfl ?_
    refine Ev.iret (ty := .int) rfl rfl rfl (Nat.le_refl _) (Nat.le_refl _) ?_
    rw [← hQ]
    exact ⟨rfl, rfl⟩
def K_where (S : Sch) (P : Pln) (l : Nat) : Int32 := fo (fun k x => if K_can S (P.2 k) (nI l) = 0 then x else x ||| (1 : Int32) <<< (nI k &&& 31)) P.1 0 0
theorem where_ok (hS : isS σ a S) (hP : isP σ p P) (hs : P.1 ≤ 6) (l : Nat) (hl : l < 16) : RetV Γ m_School_whereCan [.ref a, .ref p, .int (nI l)] σ (.int (K_where S P l)) := by
  obtain ⟨h0, h1, h2, h3, h4, h5, h6, h7, h8, h9, h10⟩ := id hS
  obtain ⟨p0, ⟨pf, p1, p2⟩, p3⟩ := id hP
  unfold RetV
  generalize hQ : (fun (r : Option Value) (σ' : ex_S) => r = some ((.int (K_where S P l)) : Value) ∧ σ' = σ) = Q
  refine Ret.start pm_97 rfl ?_
  refine Ev.iconst (v := 0) rfl (by decide) ?_
  refine Ev.istore_n rfl rfl rfl ?_
  refine Ev.iconst (v := 0) rfl (by decide) ?_
  refine Ev.istore rfl rfl rfl ?_
  skip
  refine Ev.cg (L' := [some (.ref a), some (.ref p), some (.int (nI l)), some (.int 0), some (.int (nI 0))]) ?_ (by first | rfl | simp [nI_0])
  refine lp (fun i z => Ev Γ 0 0 m_School_whereCan 0 0 5 [some (.ref a), some (.ref p), some (.int (nI l)), some (.int z), some (.int (nI i))] [] σ Q) (fun k x => if K_can S (P.2 k) (nI l) = 0 then x else x ||| (1 : Int32) <<< (nI k &&& 31)) (P.1) (fun i z hi hnx => ?_) (P.1) 0 (0) (by omega) ?_
  · skip
    refine Ev.iload rfl rfl ?_
    refine Ev.aload_n rfl rfl ?_
    refine Ev.getf rfl rfl (by assumption) rfl ?_
    refine Ev.icmp_ge (tgt := 42) rfl (by decide) (fun c11 => absurd c11 (nI_ge hi (by omega))) (fun c11 => ?_)
    refine Ev.aload_n rfl rfl ?_
    refine Ev.aload_n rfl rfl ?_
    refine Ev.getf rfl rfl (by assumption) rfl ?_
    refine Ev.iload rfl rfl ?_
    refine Ev.aaldN (k := i) rfl (by assumption) rfl rfl ⟨(by omega), by decide⟩ (p2 i (by omega)) ?_
    refine Ev.iload_n rfl rfl ?_
    refine Ev.cV2 rfl rfl (by assumption) rfl rfl (by decide) ⟨(Nat.le_refl _), (Nat.le_refl _)⟩ (can_ok hS (p3 i (by omega)) _ (kd_in hl (by decide))) ?_
    refine Ev.if_eq (tgt := 36) rfl (by decide) (fun c26 => ?_) (fun c26 => ?_)
    · skip
      refine Ev.iinc (d := 1) rfl rfl rfl (by decide) rfl ?_
      refine Ev.goto (tgt := 5) rfl (by decide) ?_
      exact hnx.cg (by first | (simp [nI_1, *]; done) | (simp [nI_1, *]; rfl))
    · skip
      refine Ev.iload_n rfl rfl ?_
      refine Ev.iconst (v := 1) rfl (by decide) ?_
      refine Ev.iload rfl rfl ?_
      refine Ev.ishl rfl ?_
      refine Ev.ior rfl ?_
      refine Ev.istore_n rfl rfl rfl ?_
      refine Ev.iinc (d := 1) rfl rfl rfl (by decide) rfl ?_
      refine Ev.goto (tgt := 5) rfl (by decide) ?_
      exact hnx.cg (by first | (simp [nI_1, *]; done) | (simp [nI_1, *]; rfl))
  · skip
    refine Ev.iload rfl rfl ?_
    refine Ev.aload_n rfl rfl ?_
    refine Ev.getf rfl rfl (by assumption) rfl ?_
    refine Ev.icmp_ge (tgt := 42) rfl (by decide) (fun c11 => ?_) (fun c11 => absurd (nI_le (Nat.le_refl _) (by omega)) c11)
    refine Ev.iload_n rfl rfl ?_
    refine Ev.iret (ty := .int) rfl rfl rfl (Nat.le_refl _) (Nat.le_refl _) ?_
    rw [← hQ]
    exact ⟨rfl, rfl⟩
end
end
